/-! texts: the JDK's own methods over a text constant; isWord of both; a call with a text constant -/
theorem kini_J0 : Cond.initialized RJ0 ∈ kx_tbl := (kx_tb 11 (by decide +kernel) (by decide +kernel))
theorem kini_J1 : Cond.initialized RJ1 ∈ kx_tbl := (kx_tb 12 (by decide +kernel) (by decide +kernel))
theorem kini_J3 : Cond.initialized RJ3 ∈ kx_tbl := (kx_tb 13 (by decide +kernel) (by decide +kernel))
def T_J0_coder_7d493 : kx_T := (yJ0_coder_7d493, cJ0_coder_7d493, 1, (some .byte), RJ0, fun _ => (0, 0, 0, 0))
theorem kcd_J0_coder_7d493 : Cond.code T_J0_coder_7d493.1 T_J0_coder_7d493.2.1 T_J0_coder_7d493.2.2.1 T_J0_coder_7d493.2.2.2.1 ∈ kx_tbl := (kx_tb 403 (by decide +kernel) (by decide +kernel))
theorem kpd_J0_coder_7d493 : T_J0_coder_7d493.1.cls ≠ "java/lang/invoke/MethodHandle" ∧ T_J0_coder_7d493.1.cls ≠ "java/lang/invoke/VarHandle" ∧ (parseMethodDescriptor T_J0_coder_7d493.1.desc).map (fun d => d.parameters.length) = some 0 := ⟨by decide +kernel, by decide +kernel, by decide +kernel⟩
theorem kse_J0_coder_7d493 : Cond.instanceMethod T_J0_coder_7d493.1 ∈ kx_tbl ∧ Cond.selects T_J0_coder_7d493.1.cls T_J0_coder_7d493.1 T_J0_coder_7d493.1 ∈ kx_tbl := ⟨(kx_tb 401 (by decide +kernel) (by decide +kernel)), (kx_tb 402 (by decide +kernel) (by decide +kernel))⟩
def T_J0_length_8abf5 : kx_T := (yJ0_length_8abf5, cJ0_length_8abf5, 1, (some .int), RJ0, fun _ => (0, 0, 0, 0))
theorem kcd_J0_length_8abf5 : Cond.code T_J0_length_8abf5.1 T_J0_length_8abf5.2.1 T_J0_length_8abf5.2.2.1 T_J0_length_8abf5.2.2.2.1 ∈ kx_tbl := (kx_tb 399 (by decide +kernel) (by decide +kernel))
theorem kpd_J0_length_8abf5 : T_J0_length_8abf5.1.cls ≠ "java/lang/invoke/MethodHandle" ∧ T_J0_length_8abf5.1.cls ≠ "java/lang/invoke/VarHandle" ∧ (parseMethodDescriptor T_J0_length_8abf5.1.desc).map (fun d => d.parameters.length) = some 0 := ⟨by decide +kernel, by decide +kernel, by decide +kernel⟩
theorem kse_J0_length_8abf5 : Cond.instanceMethod T_J0_length_8abf5.1 ∈ kx_tbl ∧ Cond.selects T_J0_length_8abf5.1.cls T_J0_length_8abf5.1 T_J0_length_8abf5.1 ∈ kx_tbl := ⟨(kx_tb 397 (by decide +kernel) (by decide +kernel)), (kx_tb 398 (by decide +kernel) (by decide +kernel))⟩
def T_J0_isLatin1_aae02 : kx_T := (yJ0_isLatin1_aae02, cJ0_isLatin1_aae02, 1, (some .boolean), RJ0, fun _ => (0, 0, 0, 0))
theorem kcd_J0_isLatin1_aae02 : Cond.code T_J0_isLatin1_aae02.1 T_J0_isLatin1_aae02.2.1 T_J0_isLatin1_aae02.2.2.1 T_J0_isLatin1_aae02.2.2.2.1 ∈ kx_tbl := (kx_tb 413 (by decide +kernel) (by decide +kernel))
theorem kpd_J0_isLatin1_aae02 : T_J0_isLatin1_aae02.1.cls ≠ "java/lang/invoke/MethodHandle" ∧ T_J0_isLatin1_aae02.1.cls ≠ "java/lang/invoke/VarHandle" ∧ (parseMethodDescriptor T_J0_isLatin1_aae02.1.desc).map (fun d => d.parameters.length) = some 0 := ⟨by decide +kernel, by decide +kernel, by decide +kernel⟩
theorem kse_J0_isLatin1_aae02 : Cond.instanceMethod T_J0_isLatin1_aae02.1 ∈ kx_tbl ∧ Cond.selects T_J0_isLatin1_aae02.1.cls T_J0_isLatin1_aae02.1 T_J0_isLatin1_aae02.1 ∈ kx_tbl := ⟨(kx_tb 411 (by decide +kernel) (by decide +kernel)), (kx_tb 412 (by decide +kernel) (by decide +kernel))⟩
def T_J0_charAt_5068e : kx_T := (yJ0_charAt_5068e, cJ0_charAt_5068e, 2, (some .char), RJ0, fun _ => (0, 0, 0, 0))
theorem kcd_J0_charAt_5068e : Cond.code T_J0_charAt_5068e.1 T_J0_charAt_5068e.2.1 T_J0_charAt_5068e.2.2.1 T_J0_charAt_5068e.2.2.2.1 ∈ kx_tbl := (kx_tb 409 (by decide +kernel) (by decide +kernel))
theorem kpd_J0_charAt_5068e : T_J0_charAt_5068e.1.cls ≠ "java/lang/invoke/MethodHandle" ∧ T_J0_charAt_5068e.1.cls ≠ "java/lang/invoke/VarHandle" ∧ (parseMethodDescriptor T_J0_charAt_5068e.1.desc).map (fun d => d.parameters.length) = some 1 := ⟨by decide +kernel, by decide +kernel, by decide +kernel⟩
theorem kse_J0_charAt_5068e : Cond.instanceMethod T_J0_charAt_5068e.1 ∈ kx_tbl ∧ Cond.selects T_J0_charAt_5068e.1.cls T_J0_charAt_5068e.1 T_J0_charAt_5068e.1 ∈ kx_tbl := ⟨(kx_tb 407 (by decide +kernel) (by decide +kernel)), (kx_tb 408 (by decide +kernel) (by decide +kernel))⟩
def T_J0_checkIndex_df160 : kx_T := (yJ0_checkIndex_df160, cJ0_checkIndex_df160, 2, none, RJ0, fun _ => (0, 0, 0, 0))
theorem kcd_J0_checkIndex_df160 : Cond.code T_J0_checkIndex_df160.1 T_J0_checkIndex_df160.2.1 T_J0_checkIndex_df160.2.2.1 T_J0_checkIndex_df160.2.2.2.1 ∈ kx_tbl := (kx_tb 419 (by decide +kernel) (by decide +kernel))
theorem kpd_J0_checkIndex_df160 : T_J0_checkIndex_df160.1.cls ≠ "java/lang/invoke/MethodHandle" ∧ T_J0_checkIndex_df160.1.cls ≠ "java/lang/invoke/VarHandle" ∧ (parseMethodDescriptor T_J0_checkIndex_df160.1.desc).map (fun d => d.parameters.length) = some 2 := ⟨by decide +kernel, by decide +kernel, by decide +kernel⟩
theorem kst_J0_checkIndex_df160 : Cond.static T_J0_checkIndex_df160.1 ∈ kx_tbl := (kx_tb 418 (by decide +kernel) (by decide +kernel))
def T_J1_charAt_3b067 : kx_T := (yJ1_charAt_3b067, cJ1_charAt_3b067, 2, (some .char), RJ1, fun _ => (0, 0, 0, 0))
theorem kcd_J1_charAt_3b067 : Cond.code T_J1_charAt_3b067.1 T_J1_charAt_3b067.2.1 T_J1_charAt_3b067.2.2.1 T_J1_charAt_3b067.2.2.2.1 ∈ kx_tbl := (kx_tb 416 (by decide +kernel) (by decide +kernel))
theorem kpd_J1_charAt_3b067 : T_J1_charAt_3b067.1.cls ≠ "java/lang/invoke/MethodHandle" ∧ T_J1_charAt_3b067.1.cls ≠ "java/lang/invoke/VarHandle" ∧ (parseMethodDescriptor T_J1_charAt_3b067.1.desc).map (fun d => d.parameters.length) = some 2 := ⟨by decide +kernel, by decide +kernel, by decide +kernel⟩
theorem kst_J1_charAt_3b067 : Cond.static T_J1_charAt_3b067.1 ∈ kx_tbl := (kx_tb 415 (by decide +kernel) (by decide +kernel))
def T_J3_checkIndex_8e157 : kx_T := (yJ3_checkIndex_8e157, cJ3_checkIndex_8e157, 3, (some .int), RJ3, fun _ => (0, 0, 0, 0))
theorem kcd_J3_checkIndex_8e157 : Cond.code T_J3_checkIndex_8e157.1 T_J3_checkIndex_8e157.2.1 T_J3_checkIndex_8e157.2.2.1 T_J3_checkIndex_8e157.2.2.2.1 ∈ kx_tbl := (kx_tb 424 (by decide +kernel) (by decide +kernel))
theorem kpd_J3_checkIndex_8e157 : T_J3_checkIndex_8e157.1.cls ≠ "java/lang/invoke/MethodHandle" ∧ T_J3_checkIndex_8e157.1.cls ≠ "java/lang/invoke/VarHandle" ∧ (parseMethodDescriptor T_J3_checkIndex_8e157.1.desc).map (fun d => d.parameters.length) = some 3 := ⟨by decide +kernel, by decide +kernel, by decide +kernel⟩
theorem kst_J3_checkIndex_8e157 : Cond.static T_J3_checkIndex_8e157.1 ∈ kx_tbl := (kx_tb 423 (by decide +kernel) (by decide +kernel))
/-- a text constant and the statics, at a state -/
def kt_P (A : Nat → Prop) (q : kt_q) (a v : Nat) (U : State) : Prop := kt_S A q a v U U.heap ∧ va_Z "java/lang/String" "COMPACT_STRINGS" "Z" (.int 1) A U U.heap ∧ va_Zq "jdk/internal/util/Preconditions" "SIOOBE_FORMATTER" "Ljava/util/function/BiFunction;" A U U.heap
theorem kt_P.call {A : Nat → Prop} {q : kt_q} {a v : Nat} {U : State} (g : JFrame) (mk : MethodId) (x : Array Value) (h : kt_P A q a v U) : kt_P A q a v (U.calling g mk x) :=
  ⟨⟨h.1.1.same rfl, h.1.2.1.moved (Vm.Alike.refl U.vm), h.1.2.2.1.moved (Vm.Alike.refl U.vm), h.1.2.2.2.1.moved (Vm.Alike.refl U.vm), h.1.2.2.2.2.moved (Vm.Alike.refl U.vm)⟩, h.2.1.moved (Vm.Alike.refl U.vm), h.2.2.moved (Vm.Alike.refl U.vm)⟩
theorem kt_P.on {A B : Nat → Prop} {q : kt_q} {a v : Nat} {s U : State} (hW : s.WarmedH U.vm) (hq : ∀ a : Nat, a < s.heap.size → ¬ A a → U.heap[a]? = s.heap[a]?) (hAB : ∀ q, B q → A q) (h : kt_P A q a v s) : kt_P B q a v U :=
  ⟨h.1.on hW hq hAB, ((h.2.1.moved hW.alike).kept hq).narrow hAB, ((h.2.2.moved hW.alike).kept hq).narrow hAB⟩
theorem kt_bl (av : List Value) (P : State → Prop) (hP : ∀ (U : State) (g : JFrame) (mk : MethodId) (x : Array Value), P U → P (U.calling g mk x)) : FrameBlind (va_Pc av P) := fun a U g mk h => ⟨h.1, hP U g mk a h.2⟩
/-- what a method of the JDK answers that changes nothing -/
def kt_Q (r : Option Value) : Array Value → State → Outcome → State → Prop := fun _ st oc t => oc = .returned r ∧ t.heap = st.heap
def kt_Met (l : Launch) (U : kx_T) (d : Nat) (av : List Value) (P : State → Prop) (r : Option Value) : Prop := Met l U.1 (kx_ws U) (kx_rm d) (va_Pc av P) (kt_Q r) 0 0 (fun _ => False)
section KT
variable {p : Program} {l : Launch} {e : Env} {R : Room} {s : State} {m : MethodId} {args : Array Value} {below : List Frame} {meth : Method} {c : Code} {H : Heap} {locs : List Loc} {cells slots : Nat} {Q : State → Prop}
theorem kt_after {pc : Nat} {ls : Array Slot} {st0 rest : List Value} {r : Option Value} {a0 : Array Value} (hr : va_Run p l e R s m args below meth c H locs cells slots 0 0 (F0 m pc ls st0) rest (kt_Q r a0) (fun _ => False)) (k : W p l e R s m args below meth c H locs cells slots Q (F0 m (pc + 3) ls (r.toList ++ rest))) : W p l e R s m args below meth c H locs cells slots Q (F0 m pc ls st0) := by
  intro T hT X
  obtain ⟨v, st₀, t, T', L, h0, X', hL, e1, e2, ⟨hv, hh⟩, st⟩ := hr T hT X
  cases hv
  have hL0 : L = [] := List.eq_nil_iff_forall_not_mem.mpr hL
  subst hL0
  rw [List.append_nil] at X'
  obtain ⟨t2, a1, b1⟩ := k T' (by rw [e1, hh, h0]) X'
  exact ⟨t2, st t2 a1, b1⟩
end KT
set_option maxHeartbeats 4000000 in
set_option maxRecDepth 100000 in
theorem kt_coder (l : Launch) (A : Nat → Prop) (q : kt_q) (a v : Nat) : kt_Met l T_J0_coder_7d493 0 [.ref a] (fun U => kt_P A q a v U) (some (.int 0)) := by
  refine Met.ofW (cc := cJ0_coder_7d493) (maxL := 1) (ret := (some .byte)) (by decide) rfl ?_
  intro p e s m args below meth c s₁ B hml hv
  obtain ⟨rfl, hPP⟩ := hv
  have hx := B.exec
  have hb := B.bytes
  have hr := B.returns
  have hts := atoms_spec (ws := kx_ws T_J0_coder_7d493) B.pre
  have hown : s.vm.findClass RJ0 = some m.cls := findClass_of_methodNamed B.named
  have hlocks := B.notSynchronized
  have ht : ∀ w ∈ kx_tbl, w.before _ s = true := fun w h => hts w (List.mem_cons_of_mem _ h)
  have hl := lv_entry ([.ref a]) (n := 1) (Nat.le_of_ble_eq_true rfl)
  rw [lg_entry_eq]
  generalize (lg_sl ([.ref a]) ++ List.replicate (1 - (lg_sl ([.ref a])).length) Slot.unset).toArray = ls at hl ⊢
  have hl : lv_has ls 1 [(0, .ref a)] := hl
  refine va_gets (C := "java/lang/String") (n := "COMPACT_STRINGS") (d := "Z") (v := .int 1) hx hb hPP.2.1 (va_S.rf (A := A)) hown (ht _ (kx_tb 404 (by decide +kernel) (by decide +kernel))) (fun _ h9 => h9) (show decode cJ0_coder_7d493 0 = .ok (.getstatic 38, 3) from by decide +kernel) ?_
  refine lv_if_eq (tgt := 13) hx hb (show decode cJ0_coder_7d493 3 = .ok (.ifCond .eq 10, 3) from by decide +kernel) (by decide) (fun c1 => absurd c1 (by decide)) (fun _ => ?_)
  refine lv_aload_n hx hb (show decode cJ0_coder_7d493 6 = .ok (.aload_n 0, 1) from by decide +kernel) rfl (lv_at hl 0 rfl) ?_
  refine vk_getf (o := "java/lang/String") (n := "coder") (d := "B") (v := .int 0) hx hb hPP.1.2.2.1 (va_S.rf (A := A)) hown (ht _ (kx_tb 1369 (by decide +kernel) (by decide +kernel))) (fun _ h9 => h9) (show decode cJ0_coder_7d493 7 = .ok (.getfield 15, 3) from by decide +kernel) ?_
  refine lv_goto (tgt := 14) hx hb (show decode cJ0_coder_7d493 10 = .ok (.goto 4, 3) from by decide +kernel) (by decide) ?_
  exact W.zret hx hb hr (by decide +kernel) (fun t ht9 hW => ⟨rfl, ht9⟩) (fun _ h => by cases h) (show decode cJ0_coder_7d493 14 = .ok (.ireturn, 1) from by decide +kernel)
set_option maxHeartbeats 4000000 in
set_option maxRecDepth 100000 in
theorem kt_isLatin1 (l : Launch) (A : Nat → Prop) (q : kt_q) (a v : Nat) : kt_Met l T_J0_isLatin1_aae02 0 [.ref a] (fun U => kt_P A q a v U) (some (.int 1)) := by
  refine Met.ofW (cc := cJ0_isLatin1_aae02) (maxL := 1) (ret := (some .boolean)) (by decide) rfl ?_
  intro p e s m args below meth c s₁ B hml hv
  obtain ⟨rfl, hPP⟩ := hv
  have hx := B.exec
  have hb := B.bytes
  have hr := B.returns
  have hts := atoms_spec (ws := kx_ws T_J0_isLatin1_aae02) B.pre
  have hown : s.vm.findClass RJ0 = some m.cls := findClass_of_methodNamed B.named
  have hlocks := B.notSynchronized
  have ht : ∀ w ∈ kx_tbl, w.before _ s = true := fun w h => hts w (List.mem_cons_of_mem _ h)
  have hl := lv_entry ([.ref a]) (n := 1) (Nat.le_of_ble_eq_true rfl)
  rw [lg_entry_eq]
  generalize (lg_sl ([.ref a]) ++ List.replicate (1 - (lg_sl ([.ref a])).length) Slot.unset).toArray = ls at hl ⊢
  have hl : lv_has ls 1 [(0, .ref a)] := hl
  refine va_gets (C := "java/lang/String") (n := "COMPACT_STRINGS") (d := "Z") (v := .int 1) hx hb hPP.2.1 (va_S.rf (A := A)) hown (ht _ (kx_tb 404 (by decide +kernel) (by decide +kernel))) (fun _ h9 => h9) (show decode cJ0_isLatin1_aae02 0 = .ok (.getstatic 38, 3) from by decide +kernel) ?_
  refine lv_if_eq (tgt := 17) hx hb (show decode cJ0_isLatin1_aae02 3 = .ok (.ifCond .eq 14, 3) from by decide +kernel) (by decide) (fun c1 => absurd c1 (by decide)) (fun _ => ?_)
  refine lv_aload_n hx hb (show decode cJ0_isLatin1_aae02 6 = .ok (.aload_n 0, 1) from by decide +kernel) rfl (lv_at hl 0 rfl) ?_
  refine vk_getf (o := "java/lang/String") (n := "coder") (d := "B") (v := .int 0) hx hb hPP.1.2.2.1 (va_S.rf (A := A)) hown (ht _ (kx_tb 1369 (by decide +kernel) (by decide +kernel))) (fun _ h9 => h9) (show decode cJ0_isLatin1_aae02 7 = .ok (.getfield 15, 3) from by decide +kernel) ?_
  refine lv_if_ne (tgt := 17) hx hb (show decode cJ0_isLatin1_aae02 10 = .ok (.ifCond .ne 7, 3) from by decide +kernel) (by decide) (fun c1 => absurd rfl c1) (fun _ => ?_)
  refine lv_iconst (v := 1) hx hb (show decode cJ0_isLatin1_aae02 13 = .ok (.iconst 1, 1) from by decide +kernel) (by decide) ?_
  refine lv_goto (tgt := 18) hx hb (show decode cJ0_isLatin1_aae02 14 = .ok (.goto 4, 3) from by decide +kernel) (by decide) ?_
  exact W.zret hx hb hr (by decide +kernel) (fun t ht9 hW => ⟨rfl, ht9⟩) (fun _ h => by cases h) (show decode cJ0_isLatin1_aae02 18 = .ok (.ireturn, 1) from by decide +kernel)
set_option maxHeartbeats 4000000 in
set_option maxRecDepth 100000 in
theorem kt_length (l : Launch) (A : Nat → Prop) (q : kt_q) (a v : Nat) : kt_Met l T_J0_length_8abf5 1 [.ref a] (fun U => kt_P A q a v U) (some (.int (Int32.ofNat q.2.2.2.length))) := by
  refine Met.ofW (cc := cJ0_length_8abf5) (maxL := 1) (ret := (some .int)) (by decide) rfl ?_
  intro p e s m args below meth c s₁ B hml hv
  obtain ⟨rfl, hPP⟩ := hv
  have hx := B.exec
  have hb := B.bytes
  have hr := B.returns
  have hts := atoms_spec (ws := kx_ws T_J0_length_8abf5) B.pre
  have hown : s.vm.findClass RJ0 = some m.cls := findClass_of_methodNamed B.named
  have hlocks := B.notSynchronized
  have ht : ∀ w ∈ kx_tbl, w.before _ s = true := fun w h => hts w (List.mem_cons_of_mem _ h)
  have hl := lv_entry ([.ref a]) (n := 1) (Nat.le_of_ble_eq_true rfl)
  rw [lg_entry_eq]
  generalize (lg_sl ([.ref a]) ++ List.replicate (1 - (lg_sl ([.ref a])).length) Slot.unset).toArray = ls at hl ⊢
  have hl : lv_has ls 1 [(0, .ref a)] := hl
  refine lv_aload_n hx hb (show decode cJ0_length_8abf5 0 = .ok (.aload_n 0, 1) from by decide +kernel) rfl (lv_at hl 0 rfl) ?_
  refine vk_getf (o := "java/lang/String") (n := "value") (d := "[B") (v := .ref v) hx hb hPP.1.2.2.2.1 (va_S.rf (A := A)) hown (ht _ (kx_tb 1368 (by decide +kernel) (by decide +kernel))) (fun _ h9 => h9) (show decode cJ0_length_8abf5 1 = .ok (.getfield 9, 3) from by decide +kernel) ?_
  refine va_tlen hx hb hPP.1.2.2.2.2 (va_S.rf (A := A)) rfl (show decode cJ0_length_8abf5 4 = .ok (.arraylength, 1) from by decide +kernel) ?_
  refine lv_aload_n hx hb (show decode cJ0_length_8abf5 5 = .ok (.aload_n 0, 1) from by decide +kernel) rfl (lv_at hl 0 rfl) ?_
  refine kt_after (va_runV (b := a) (As := []) (rest := [.int (Int32.ofNat q.2.2.2.length)]) ⟨hx, hb, hml, hown, hts⟩ (kt_coder l A q a v) ⟨callB_of (own := RJ0) (index := 335) (y := T_J0_coder_7d493.1) (bytes := T_J0_coder_7d493.2.1) (maxL := T_J0_coder_7d493.2.2.1) (ret := T_J0_coder_7d493.2.2.2.1) (mc := 0) (ms := 0) 0 hts (kx_goodIn (T := T_J0_length_8abf5) kcd_J0_coder_7d493) rfl rfl rfl (ht _ kini_J0) (ht _ (kx_tb 400 (by decide +kernel) (by decide +kernel))) kpd_J0_coder_7d493 ⟨(Nat.le_of_ble_eq_true rfl), (Nat.le_of_ble_eq_true rfl)⟩, ht _ kse_J0_coder_7d493.1, ht _ kse_J0_coder_7d493.2⟩ ⟨kt_bl _ _ (fun U g mk x h => h.call g mk x), (show ∃ cell : Cell, s.heap[a]? = some cell ∧ cell.vm.isStatics = false ∧ s.vm.findClass "java/lang/String" = some cell.cls from by obtain ⟨cell, h1, h2, h3, h4⟩ := hPP.1.2.1; exact ⟨cell, h1, h2, h3⟩), fun U hU hW => ⟨rfl, hPP.on hW (fun a _ _ => by rw [hU]) (fun _ h => h)⟩⟩ rfl rfl hl.1 rfl (lv_room (Nat.le_of_ble_eq_true rfl)) (show decode cJ0_length_8abf5 6 = .ok (.invokevirtual 335, 3) from by decide +kernel) ⟨Nat.le_refl _, Nat.le_refl _⟩) ?_
  refine lv_ishr hx hb (show decode cJ0_length_8abf5 9 = .ok (.ishr, 1) from by decide +kernel) ?_
  rw [sb_shr0]
  exact W.iret hx hb hr (fun t ht9 hW => ⟨rfl, ht9⟩) (fun _ h => by cases h) (show decode cJ0_length_8abf5 10 = .ok (.ireturn, 1) from by decide +kernel)
set_option maxHeartbeats 4000000 in
set_option maxRecDepth 100000 in
theorem kt_pcheck_n (l : Launch) (i n : Int32) (h0 : ¬ i < 0) (hn : i < n) : kt_Met l T_J3_checkIndex_8e157 0 [.int i, .int n, .null] (fun _ => True) (some (.int i)) := by
  refine Met.ofW (cc := cJ3_checkIndex_8e157) (maxL := 3) (ret := (some .int)) (by decide) rfl ?_
  intro p e s m args below meth c s₁ B hml hv
  obtain ⟨rfl, hPP⟩ := hv
  have hx := B.exec
  have hb := B.bytes
  have hr := B.returns
  have hts := atoms_spec (ws := kx_ws T_J3_checkIndex_8e157) B.pre
  have hown : s.vm.findClass RJ3 = some m.cls := findClass_of_methodNamed B.named
  have hlocks := B.notSynchronized
  have ht : ∀ w ∈ kx_tbl, w.before _ s = true := fun w h => hts w (List.mem_cons_of_mem _ h)
  have hl := lv_entry ([.int i, .int n, .null]) (n := 3) (Nat.le_of_ble_eq_true rfl)
  rw [lg_entry_eq]
  generalize (lg_sl ([.int i, .int n, .null]) ++ List.replicate (3 - (lg_sl ([.int i, .int n, .null])).length) Slot.unset).toArray = ls at hl ⊢
  have hl : lv_has ls 3 [(0, .int i), (1, .int n), (2, .null)] := hl
  refine lv_iload_n hx hb (show decode cJ3_checkIndex_8e157 0 = .ok (.iload_n 0, 1) from by decide +kernel) rfl (lv_at hl 0 rfl) ?_
  refine lv_if_lt (tgt := 9) hx hb (show decode cJ3_checkIndex_8e157 1 = .ok (.ifCond .lt 8, 3) from by decide +kernel) (by decide) (fun c1 => absurd c1 h0) (fun _ => ?_)
  refine lv_iload_n hx hb (show decode cJ3_checkIndex_8e157 4 = .ok (.iload_n 0, 1) from by decide +kernel) rfl (lv_at hl 0 rfl) ?_
  refine lv_iload_n hx hb (show decode cJ3_checkIndex_8e157 5 = .ok (.iload_n 1, 1) from by decide +kernel) rfl (lv_at hl 1 rfl) ?_
  refine lv_icmp_lt (tgt := 16) hx hb (show decode cJ3_checkIndex_8e157 6 = .ok (.if_icmp .lt 10, 3) from by decide +kernel) (by decide) (fun _ => ?_) (fun c1 => absurd hn c1)
  refine lv_iload_n hx hb (show decode cJ3_checkIndex_8e157 16 = .ok (.iload_n 0, 1) from by decide +kernel) rfl (lv_at hl 0 rfl) ?_
  exact W.iret hx hb hr (fun t ht9 hW => ⟨rfl, ht9⟩) (fun _ h => by cases h) (show decode cJ3_checkIndex_8e157 17 = .ok (.ireturn, 1) from by decide +kernel)
set_option maxHeartbeats 4000000 in
set_option maxRecDepth 100000 in
theorem kt_pcheck_r (l : Launch) (i n : Int32) (z : Nat) (h0 : ¬ i < 0) (hn : i < n) : kt_Met l T_J3_checkIndex_8e157 0 [.int i, .int n, .ref z] (fun _ => True) (some (.int i)) := by
  refine Met.ofW (cc := cJ3_checkIndex_8e157) (maxL := 3) (ret := (some .int)) (by decide) rfl ?_
  intro p e s m args below meth c s₁ B hml hv
  obtain ⟨rfl, hPP⟩ := hv
  have hx := B.exec
  have hb := B.bytes
  have hr := B.returns
  have hts := atoms_spec (ws := kx_ws T_J3_checkIndex_8e157) B.pre
  have hown : s.vm.findClass RJ3 = some m.cls := findClass_of_methodNamed B.named
  have hlocks := B.notSynchronized
  have ht : ∀ w ∈ kx_tbl, w.before _ s = true := fun w h => hts w (List.mem_cons_of_mem _ h)
  have hl := lv_entry ([.int i, .int n, .ref z]) (n := 3) (Nat.le_of_ble_eq_true rfl)
  rw [lg_entry_eq]
  generalize (lg_sl ([.int i, .int n, .ref z]) ++ List.replicate (3 - (lg_sl ([.int i, .int n, .ref z])).length) Slot.unset).toArray = ls at hl ⊢
  have hl : lv_has ls 3 [(0, .int i), (1, .int n), (2, .ref z)] := hl
  refine lv_iload_n hx hb (show decode cJ3_checkIndex_8e157 0 = .ok (.iload_n 0, 1) from by decide +kernel) rfl (lv_at hl 0 rfl) ?_
  refine lv_if_lt (tgt := 9) hx hb (show decode cJ3_checkIndex_8e157 1 = .ok (.ifCond .lt 8, 3) from by decide +kernel) (by decide) (fun c1 => absurd c1 h0) (fun _ => ?_)
  refine lv_iload_n hx hb (show decode cJ3_checkIndex_8e157 4 = .ok (.iload_n 0, 1) from by decide +kernel) rfl (lv_at hl 0 rfl) ?_
  refine lv_iload_n hx hb (show decode cJ3_checkIndex_8e157 5 = .ok (.iload_n 1, 1) from by decide +kernel) rfl (lv_at hl 1 rfl) ?_
  refine lv_icmp_lt (tgt := 16) hx hb (show decode cJ3_checkIndex_8e157 6 = .ok (.if_icmp .lt 10, 3) from by decide +kernel) (by decide) (fun _ => ?_) (fun c1 => absurd hn c1)
  refine lv_iload_n hx hb (show decode cJ3_checkIndex_8e157 16 = .ok (.iload_n 0, 1) from by decide +kernel) rfl (lv_at hl 0 rfl) ?_
  exact W.iret hx hb hr (fun t ht9 hW => ⟨rfl, ht9⟩) (fun _ h => by cases h) (show decode cJ3_checkIndex_8e157 17 = .ok (.ireturn, 1) from by decide +kernel)
set_option maxHeartbeats 4000000 in
set_option maxRecDepth 100000 in
theorem kt_checkIndex (l : Launch) (A : Nat → Prop) (q : kt_q) (a v : Nat) (i n : Int32) (h0 : ¬ i < 0) (hn : i < n) : kt_Met l T_J0_checkIndex_df160 1 [.int i, .int n] (fun U => kt_P A q a v U) none := by
  refine Met.ofW (cc := cJ0_checkIndex_df160) (maxL := 2) (ret := none) (by decide) rfl ?_
  intro p e s m args below meth c s₁ B hml hv
  obtain ⟨rfl, hPP⟩ := hv
  have hx := B.exec
  have hb := B.bytes
  have hr := B.returns
  have hts := atoms_spec (ws := kx_ws T_J0_checkIndex_df160) B.pre
  have hown : s.vm.findClass RJ0 = some m.cls := findClass_of_methodNamed B.named
  have hlocks := B.notSynchronized
  have ht : ∀ w ∈ kx_tbl, w.before _ s = true := fun w h => hts w (List.mem_cons_of_mem _ h)
  have hl := lv_entry ([.int i, .int n]) (n := 2) (Nat.le_of_ble_eq_true rfl)
  rw [lg_entry_eq]
  generalize (lg_sl ([.int i, .int n]) ++ List.replicate (2 - (lg_sl ([.int i, .int n])).length) Slot.unset).toArray = ls at hl ⊢
  have hl : lv_has ls 2 [(0, .int i), (1, .int n)] := hl
  refine lv_iload_n hx hb (show decode cJ0_checkIndex_df160 0 = .ok (.iload_n 0, 1) from by decide +kernel) rfl (lv_at hl 0 rfl) ?_
  refine lv_iload_n hx hb (show decode cJ0_checkIndex_df160 1 = .ok (.iload_n 1, 1) from by decide +kernel) rfl (lv_at hl 1 rfl) ?_
  rcases hPP.2.2 with hZ | ⟨z, hZ⟩
  · refine va_gets (C := "jdk/internal/util/Preconditions") (n := "SIOOBE_FORMATTER") (d := "Ljava/util/function/BiFunction;") (v := .null) hx hb hZ (va_S.rf (A := A)) hown (ht _ (kx_tb 420 (by decide +kernel) (by decide +kernel))) (fun _ h9 => h9) (show decode cJ0_checkIndex_df160 2 = .ok (.getstatic 1053, 3) from by decide +kernel) ?_
    refine kt_after (va_runS (As := [.int i, .int n, .null]) (rest := []) ⟨hx, hb, hml, hown, hts⟩ (kt_pcheck_n l i n h0 hn) ⟨callB_of (own := RJ0) (index := 1059) (y := T_J3_checkIndex_8e157.1) (bytes := T_J3_checkIndex_8e157.2.1) (maxL := T_J3_checkIndex_8e157.2.2.1) (ret := T_J3_checkIndex_8e157.2.2.2.1) (mc := 0) (ms := 0) 3 hts (kx_goodIn (T := T_J0_checkIndex_df160) kcd_J3_checkIndex_8e157) rfl rfl rfl (ht _ kini_J3) (ht _ (kx_tb 422 (by decide +kernel) (by decide +kernel))) kpd_J3_checkIndex_8e157 ⟨(Nat.le_of_ble_eq_true rfl), (Nat.le_of_ble_eq_true rfl)⟩, ht _ kst_J3_checkIndex_8e157⟩ ⟨kt_bl _ _ (fun U g mk x h => trivial), fun U hU hW => ⟨rfl, trivial⟩⟩ rfl rfl hl.1 rfl (lv_room (Nat.le_of_ble_eq_true rfl)) (show decode cJ0_checkIndex_df160 5 = .ok (.invokestatic 1059, 3) from by decide +kernel) ⟨Nat.le_refl _, Nat.le_refl _⟩) ?_
    refine lv_pop hx hb (show decode cJ0_checkIndex_df160 8 = .ok (.pop, 1) from by decide +kernel) rfl ?_
    exact W.vret hx hb hr (fun t ht9 hW => ⟨rfl, ht9⟩) (fun _ h => by cases h) (show decode cJ0_checkIndex_df160 9 = .ok (.return_, 1) from by decide +kernel)
  · refine va_gets (C := "jdk/internal/util/Preconditions") (n := "SIOOBE_FORMATTER") (d := "Ljava/util/function/BiFunction;") (v := (.ref z)) hx hb hZ (va_S.rf (A := A)) hown (ht _ (kx_tb 420 (by decide +kernel) (by decide +kernel))) (fun _ h9 => h9) (show decode cJ0_checkIndex_df160 2 = .ok (.getstatic 1053, 3) from by decide +kernel) ?_
    refine kt_after (va_runS (As := [.int i, .int n, (.ref z)]) (rest := []) ⟨hx, hb, hml, hown, hts⟩ (kt_pcheck_r l i n z h0 hn) ⟨callB_of (own := RJ0) (index := 1059) (y := T_J3_checkIndex_8e157.1) (bytes := T_J3_checkIndex_8e157.2.1) (maxL := T_J3_checkIndex_8e157.2.2.1) (ret := T_J3_checkIndex_8e157.2.2.2.1) (mc := 0) (ms := 0) 3 hts (kx_goodIn (T := T_J0_checkIndex_df160) kcd_J3_checkIndex_8e157) rfl rfl rfl (ht _ kini_J3) (ht _ (kx_tb 422 (by decide +kernel) (by decide +kernel))) kpd_J3_checkIndex_8e157 ⟨(Nat.le_of_ble_eq_true rfl), (Nat.le_of_ble_eq_true rfl)⟩, ht _ kst_J3_checkIndex_8e157⟩ ⟨kt_bl _ _ (fun U g mk x h => trivial), fun U hU hW => ⟨rfl, trivial⟩⟩ rfl rfl hl.1 rfl (lv_room (Nat.le_of_ble_eq_true rfl)) (show decode cJ0_checkIndex_df160 5 = .ok (.invokestatic 1059, 3) from by decide +kernel) ⟨Nat.le_refl _, Nat.le_refl _⟩) ?_
    refine lv_pop hx hb (show decode cJ0_checkIndex_df160 8 = .ok (.pop, 1) from by decide +kernel) rfl ?_
    exact W.vret hx hb hr (fun t ht9 hW => ⟨rfl, ht9⟩) (fun _ h => by cases h) (show decode cJ0_checkIndex_df160 9 = .ok (.return_, 1) from by decide +kernel)
def kt_ch (b : Int32) : Int32 := ((b &&& 255).toUInt32 % 65536).toInt32
set_option maxHeartbeats 4000000 in
set_option maxRecDepth 100000 in
theorem kt_lcharAt (l : Launch) (A : Nat → Prop) (q : kt_q) (a v : Nat) (i : Int32) (h0 : ¬ i < 0) (hn : i < Int32.ofNat q.2.2.2.length) (hi : vp_in i q.2.2.2.length) (hc : narrow .char (.int (kt_ch (q.2.2.2.getD i.toNatClampNeg 0))) = .int (kt_ch (q.2.2.2.getD i.toNatClampNeg 0))) : kt_Met l T_J1_charAt_3b067 2 [.ref v, .int i] (fun U => kt_P A q a v U) (some (.int (kt_ch (q.2.2.2.getD i.toNatClampNeg 0)))) := by
  refine Met.ofW (cc := cJ1_charAt_3b067) (maxL := 2) (ret := (some .char)) (by decide) rfl ?_
  intro p e s m args below meth c s₁ B hml hv
  obtain ⟨rfl, hPP⟩ := hv
  have hx := B.exec
  have hb := B.bytes
  have hr := B.returns
  have hts := atoms_spec (ws := kx_ws T_J1_charAt_3b067) B.pre
  have hown : s.vm.findClass RJ1 = some m.cls := findClass_of_methodNamed B.named
  have hlocks := B.notSynchronized
  have ht : ∀ w ∈ kx_tbl, w.before _ s = true := fun w h => hts w (List.mem_cons_of_mem _ h)
  have hl := lv_entry ([.ref v, .int i]) (n := 2) (Nat.le_of_ble_eq_true rfl)
  rw [lg_entry_eq]
  generalize (lg_sl ([.ref v, .int i]) ++ List.replicate (2 - (lg_sl ([.ref v, .int i])).length) Slot.unset).toArray = ls at hl ⊢
  have hl : lv_has ls 2 [(0, .ref v), (1, .int i)] := hl
  refine lv_iload_n hx hb (show decode cJ1_charAt_3b067 0 = .ok (.iload_n 1, 1) from by decide +kernel) rfl (lv_at hl 1 rfl) ?_
  refine lv_aload_n hx hb (show decode cJ1_charAt_3b067 1 = .ok (.aload_n 0, 1) from by decide +kernel) rfl (lv_at hl 0 rfl) ?_
  refine va_tlen hx hb hPP.1.2.2.2.2 (va_S.rf (A := A)) rfl (show decode cJ1_charAt_3b067 2 = .ok (.arraylength, 1) from by decide +kernel) ?_
  refine kt_after (va_runS (As := [.int i, .int (Int32.ofNat q.2.2.2.length)]) (rest := []) ⟨hx, hb, hml, hown, hts⟩ (kt_checkIndex l A q a v i (Int32.ofNat q.2.2.2.length) h0 hn) ⟨callB_of (own := RJ1) (index := 9) (y := T_J0_checkIndex_df160.1) (bytes := T_J0_checkIndex_df160.2.1) (maxL := T_J0_checkIndex_df160.2.2.1) (ret := T_J0_checkIndex_df160.2.2.2.1) (mc := 0) (ms := 0) 2 hts (kx_goodIn (T := T_J1_charAt_3b067) kcd_J0_checkIndex_df160) rfl rfl rfl (ht _ kini_J0) (ht _ (kx_tb 417 (by decide +kernel) (by decide +kernel))) kpd_J0_checkIndex_df160 ⟨(Nat.le_of_ble_eq_true rfl), (Nat.le_of_ble_eq_true rfl)⟩, ht _ kst_J0_checkIndex_df160⟩ ⟨kt_bl _ _ (fun U g mk x h => h.call g mk x), fun U hU hW => ⟨rfl, hPP.on hW (fun a _ _ => by rw [hU]) (fun _ h => h)⟩⟩ rfl rfl hl.1 rfl (lv_room (Nat.le_of_ble_eq_true rfl)) (show decode cJ1_charAt_3b067 3 = .ok (.invokestatic 9, 3) from by decide +kernel) ⟨Nat.le_refl _, Nat.le_refl _⟩) ?_
  refine lv_aload_n hx hb (show decode cJ1_charAt_3b067 6 = .ok (.aload_n 0, 1) from by decide +kernel) rfl (lv_at hl 0 rfl) ?_
  refine lv_iload_n hx hb (show decode cJ1_charAt_3b067 7 = .ok (.iload_n 1, 1) from by decide +kernel) rfl (lv_at hl 1 rfl) ?_
  refine va_tb hx hb hPP.1.2.2.2.2 (va_S.rf (A := A)) hi rfl (show decode cJ1_charAt_3b067 8 = .ok (.baload, 1) from by decide +kernel) ?_
  refine lv_sipush (v := 255) hx hb (show decode cJ1_charAt_3b067 9 = .ok (.sipush 255, 3) from by decide +kernel) (by decide) ?_
  refine lv_iand hx hb (show decode cJ1_charAt_3b067 12 = .ok (.iand, 1) from by decide +kernel) ?_
  refine lv_i2c hx hb (show decode cJ1_charAt_3b067 13 = .ok (.i2c, 1) from by decide +kernel) rfl ?_
  exact W.zret hx hb hr hc (fun t ht9 hW => ⟨rfl, ht9⟩) (fun _ h => by cases h) (show decode cJ1_charAt_3b067 14 = .ok (.ireturn, 1) from by decide +kernel)
set_option maxHeartbeats 4000000 in
set_option maxRecDepth 100000 in
theorem kt_charAt (l : Launch) (A : Nat → Prop) (q : kt_q) (a v : Nat) (i : Int32) (h0 : ¬ i < 0) (hn : i < Int32.ofNat q.2.2.2.length) (hi : vp_in i q.2.2.2.length) (hc : narrow .char (.int (kt_ch (q.2.2.2.getD i.toNatClampNeg 0))) = .int (kt_ch (q.2.2.2.getD i.toNatClampNeg 0))) : kt_Met l T_J0_charAt_5068e 3 [.ref a, .int i] (fun U => kt_P A q a v U) (some (.int (kt_ch (q.2.2.2.getD i.toNatClampNeg 0)))) := by
  refine Met.ofW (cc := cJ0_charAt_5068e) (maxL := 2) (ret := (some .char)) (by decide) rfl ?_
  intro p e s m args below meth c s₁ B hml hv
  obtain ⟨rfl, hPP⟩ := hv
  have hx := B.exec
  have hb := B.bytes
  have hr := B.returns
  have hts := atoms_spec (ws := kx_ws T_J0_charAt_5068e) B.pre
  have hown : s.vm.findClass RJ0 = some m.cls := findClass_of_methodNamed B.named
  have hlocks := B.notSynchronized
  have ht : ∀ w ∈ kx_tbl, w.before _ s = true := fun w h => hts w (List.mem_cons_of_mem _ h)
  have hl := lv_entry ([.ref a, .int i]) (n := 2) (Nat.le_of_ble_eq_true rfl)
  rw [lg_entry_eq]
  generalize (lg_sl ([.ref a, .int i]) ++ List.replicate (2 - (lg_sl ([.ref a, .int i])).length) Slot.unset).toArray = ls at hl ⊢
  have hl : lv_has ls 2 [(0, .ref a), (1, .int i)] := hl
  refine lv_aload_n hx hb (show decode cJ0_charAt_5068e 0 = .ok (.aload_n 0, 1) from by decide +kernel) rfl (lv_at hl 0 rfl) ?_
  refine kt_after (va_runV (b := a) (As := []) (rest := []) ⟨hx, hb, hml, hown, hts⟩ (kt_isLatin1 l A q a v) ⟨callB_of (own := RJ0) (index := 492) (y := T_J0_isLatin1_aae02.1) (bytes := T_J0_isLatin1_aae02.2.1) (maxL := T_J0_isLatin1_aae02.2.2.1) (ret := T_J0_isLatin1_aae02.2.2.2.1) (mc := 0) (ms := 0) 0 hts (kx_goodIn (T := T_J0_charAt_5068e) kcd_J0_isLatin1_aae02) rfl rfl rfl (ht _ kini_J0) (ht _ (kx_tb 410 (by decide +kernel) (by decide +kernel))) kpd_J0_isLatin1_aae02 ⟨(Nat.le_of_ble_eq_true rfl), (Nat.le_of_ble_eq_true rfl)⟩, ht _ kse_J0_isLatin1_aae02.1, ht _ kse_J0_isLatin1_aae02.2⟩ ⟨kt_bl _ _ (fun U g mk x h => h.call g mk x), (show ∃ cell : Cell, s.heap[a]? = some cell ∧ cell.vm.isStatics = false ∧ s.vm.findClass "java/lang/String" = some cell.cls from by obtain ⟨cell, h1, h2, h3, h4⟩ := hPP.1.2.1; exact ⟨cell, h1, h2, h3⟩), fun U hU hW => ⟨rfl, hPP.on hW (fun a _ _ => by rw [hU]) (fun _ h => h)⟩⟩ rfl rfl hl.1 rfl (lv_room (Nat.le_of_ble_eq_true rfl)) (show decode cJ0_charAt_5068e 1 = .ok (.invokevirtual 492, 3) from by decide +kernel) ⟨Nat.le_refl _, Nat.le_refl _⟩) ?_
  refine lv_if_eq (tgt := 16) hx hb (show decode cJ0_charAt_5068e 4 = .ok (.ifCond .eq 12, 3) from by decide +kernel) (by decide) (fun c1 => absurd c1 (by decide)) (fun _ => ?_)
  refine lv_aload_n hx hb (show decode cJ0_charAt_5068e 7 = .ok (.aload_n 0, 1) from by decide +kernel) rfl (lv_at hl 0 rfl) ?_
  refine vk_getf (o := "java/lang/String") (n := "value") (d := "[B") (v := .ref v) hx hb hPP.1.2.2.2.1 (va_S.rf (A := A)) hown (ht _ (kx_tb 1368 (by decide +kernel) (by decide +kernel))) (fun _ h9 => h9) (show decode cJ0_charAt_5068e 8 = .ok (.getfield 9, 3) from by decide +kernel) ?_
  refine lv_iload_n hx hb (show decode cJ0_charAt_5068e 11 = .ok (.iload_n 1, 1) from by decide +kernel) rfl (lv_at hl 1 rfl) ?_
  refine kt_after (va_runS (As := [.ref v, .int i]) (rest := []) ⟨hx, hb, hml, hown, hts⟩ (kt_lcharAt l A q a v i h0 hn hi hc) ⟨callB_of (own := RJ0) (index := 495) (y := T_J1_charAt_3b067.1) (bytes := T_J1_charAt_3b067.2.1) (maxL := T_J1_charAt_3b067.2.2.1) (ret := T_J1_charAt_3b067.2.2.2.1) (mc := 0) (ms := 0) 2 hts (kx_goodIn (T := T_J0_charAt_5068e) kcd_J1_charAt_3b067) rfl rfl rfl (ht _ kini_J1) (ht _ (kx_tb 414 (by decide +kernel) (by decide +kernel))) kpd_J1_charAt_3b067 ⟨(Nat.le_of_ble_eq_true rfl), (Nat.le_of_ble_eq_true rfl)⟩, ht _ kst_J1_charAt_3b067⟩ ⟨kt_bl _ _ (fun U g mk x h => h.call g mk x), fun U hU hW => ⟨rfl, hPP.on hW (fun a _ _ => by rw [hU]) (fun _ h => h)⟩⟩ rfl rfl hl.1 rfl (lv_room (Nat.le_of_ble_eq_true rfl)) (show decode cJ0_charAt_5068e 12 = .ok (.invokestatic 495, 3) from by decide +kernel) ⟨Nat.le_refl _, Nat.le_refl _⟩) ?_
  exact W.zret hx hb hr hc (fun t ht9 hW => ⟨rfl, ht9⟩) (fun _ h => by cases h) (show decode cJ0_charAt_5068e 15 = .ok (.ireturn, 1) from by decide +kernel)
theorem kt_nar (b : Int32) : narrow .char (.int (kt_ch b)) = .int (kt_ch b) := by
  unfold kt_ch
  rw [sc_c2]
  exact sc_nar _
/-- isWord over a text constant: a contract over the class's world and the text -/
def kt_CallW (E : kx_E) (d : Nat) (U : kx_T) (o : Nat) (q : kt_q) (M : kx_M) (rv : Int32) : Prop :=
  ∀ (l : Launch) (D : va_G) (ac : Nat → ClassId) (ad : Nat → Nat) (sz a v : Nat), Met l U.1 (kx_ws U) (kx_rm d) (va_Pc [.ref (ad o), .ref a] (fun s => s.heap.size = sz ∧ va_P D vwCl (kx_wld E ac ad M) s.heap ∧ va_K D vwCl (kx_ty ac) s ∧ va_D (fun _ => True) (kx_wld E ac ad M) ∧ kx_X E ad sz s ∧ kt_S (kx_A E ad sz) q a v s s.heap)) (kx_Q E (some (.int rv)) M D ac ad (kx_A E ad sz)) 0 0 (kx_A E ad sz)
theorem kt_r_isWord {E : kx_E} {T U : kx_T} {d : Nat} {r : Option Value} {M' M : kx_M} {pc idx a0 o ci : Nat} {fs : List (Option Nat)} {cl : vw_C} {L : List (Option Value)} {st : List Value} {q : kt_q} {rv : Int32} (hd1 : decode T.2.1 pc = .ok (.ldc idx, 2)) (hd2 : decode T.2.1 (pc + 2) = .ok (.invokevirtual a0, 3)) (hq : q ∈ kt_tab) (hq1 : q.1 = T.2.2.2.2.1) (hq2 : q.2.1 = idx) (hN : ¬ E.2.2 = 8) (hO : kx_ob E o ci fs) (hL : kx_Lk T.2.2.2.2.1 a0 U 1) (hs : Cond.instanceMethod U.1 ∈ kx_tbl ∧ Cond.selects U.1.cls U.1 U.1 ∈ kx_tbl) (hci : vwCl[ci]? = some cl) (hcl : cl.1 = U.1.cls) (hcat : (st.map fun v => v.category).sum ≤ 8) (hm : U.2.2.1 ≤ 20) (hM : kt_CallW E d U o q M rv) (k : kx_Rn E T (d + 1) (pc + 2 + 3, L, .int rv :: st, M) r M') : kx_Rn E T (d + 1) (pc, L, .ref o :: st, M) r M' := by
  intro p l e s m args below meth c0 D ac ad H locs ls hC hXX hP hD hS hl
  obtain ⟨hx, hb, hml, hr, hown, hts, hK, hlocks, hT⟩ := id hC
  obtain ⟨hd, h1, h2, h3⟩ := hL
  have ht : ∀ w ∈ kx_tbl, w.before args s = true := fun w h => hts w (List.mem_cons_of_mem _ h)
  obtain ⟨a, v, hS1⟩ := (hXX.2.resolve_left hN).1 q hq
  refine va_ldcS hx hb hown (tx := q.2.2.1) (q := a) (by rw [← hq1, ← hq2]; exact hS1.1) hd1 ?_
  have cb := callB_of (R := kx_rm (d + 1)) (s := s) (args := args) (own := T.2.2.2.2.1) (index := a0) (y := U.1) (bytes := U.2.1) (maxL := U.2.2.1) (ret := U.2.2.2.1) (rm := kx_rm d) (mc := 0) (ms := 0) 1 hts (kx_goodIn (T := T) h3) rfl rfl rfl (ht _ h2) (ht _ h1) hd ⟨Nat.le_refl _, by show 8 + (U.2.2.1 + 11) + 40 * d ≤ 40 * (d + 1); omega⟩
  have hrecv := va_recv hK hP hci ((kx_wget hO.1).trans (by rw [kx_cellO hO.2]))
  rw [hcl] at hrecv
  have hbl : FrameBlind (va_Pc [.ref (ad o), .ref a] (fun s => s.heap.size = H.size ∧ va_P D vwCl (kx_wld E ac ad M) s.heap ∧ va_K D vwCl (kx_ty ac) s ∧ va_D (fun _ => True) (kx_wld E ac ad M) ∧ kx_X E ad H.size s ∧ kt_S (kx_A E ad H.size) q a v s s.heap)) := by
    intro x U1 g mk h
    obtain ⟨g0, g1, g2, g3, g4, g5, g6⟩ := h
    exact ⟨g0, g1, g2, va_K.moved (u := U1) (U := U1.calling g mk x) (Vm.Alike.refl U1.vm) g3, g4, g5.call g mk x, g6.1.same rfl, g6.2.1.moved (Vm.Alike.refl U1.vm), g6.2.2.1.moved (Vm.Alike.refl U1.vm), g6.2.2.2.1.moved (Vm.Alike.refl U1.vm), g6.2.2.2.2.moved (Vm.Alike.refl U1.vm)⟩
  refine kx_after (M1 := M) (rest := st) (rv := some (.int rv)) hC hXX hP hD hS hl (va_runV (b := ad o) (As := [.ref a]) (rest := st.map (kx_cv ad)) ⟨hx, hb, hml, hown, hts⟩ (hM l D ac ad H.size a v) ⟨cb, ht _ hs.1, ht _ hs.2⟩ ⟨hbl, hrecv, fun U' hU hW => ⟨rfl, by rw [hU], by rw [hU]; exact hP, va_K.moved hW.alike hK, kx_D_of hD (fun _ _ => trivial), hXX.warm hW hU hS, by
    rw [hU]
    refine hS1.on hW hS.2.1 (fun q hq => ?_)
    rcases hq with hq | hq
    · exact Or.inl hq
    · exact Or.inr (Nat.le_trans hS.1 hq)⟩⟩ rfl rfl hl.2.choose_spec.1.1 rfl (lv_room (by rw [kx_catsum]; exact hcat)) hd2 ⟨Nat.le_refl _, Nat.le_refl _⟩) k
def f_X3_isWord_l (w : List Int32) (M : kx_M) : Nat → Int32 → Option Bool
  | 0, _ => none
  | n + 1, i => if Int32.ofNat w.length ≤ i then some true else kx_ck 250 ((M.1 42 2) + i) (kx_ck w.length i (if M.1 43 ((M.1 42 2) + i).toNatClampNeg = kt_ch (w.getD i.toNatClampNeg 0) then f_X3_isWord_l w M n (i + 1) else some false))
def f_X3_isWord (w : List Int32) (M : kx_M) : Option Bool := if Int32.ofNat w.length = (M.1 42 3) - (M.1 42 2) then f_X3_isWord_l w M kx_fuel 0 else some false
set_option maxHeartbeats 4000000 in
set_option maxRecDepth 100000 in
theorem t_X3_isWord_l {p : Program} {l : Launch} {e : Env} {R : Room} {s : State} {m : MethodId} {args : Array Value} {below : List Frame} {meth : Method} {c : Code} {cells slots : Nat} {Q : State → Prop} {D : va_G} {ac : Nat → ClassId} {ad : Nat → Nat} {A : Nat → Prop} {q : kt_q} {a v : Nat} {M : kx_M} (hx : p.tables.exec = Jvm.exec) (hb : c.code = cX3_isWord) (hml : c.maxLocals = 3) (hown : s.vm.findClass RX3 = some m.cls) (hts : ∀ w ∈ kx_ws T_X3_isWord, w.before args s = true) (hK : va_K D vwCl (kx_ty ac) s) (hP : va_P D vwCl (kx_wld EX ac ad M) s.heap) (hPP : kt_P A q a v s) (hfr : 4 ≤ R.frames) (hlo : 141 ≤ R.locals) (hce : cells + 0 ≤ R.cells) (hsl : slots + 0 ≤ R.slots) {r : Bool} (k1 : r = true → ∀ ls : Array Slot, W p l e R s m args below meth c s.heap [] cells slots Q (F0 m 55 ls [])) (k0 : r = false → ∀ ls : Array Slot, W p l e R s m args below meth c s.heap [] cells slots Q (F0 m 47 ls [])) : ∀ (n : Nat) (i : Int32) (ls : Array Slot), lv_has ls 3 [(2, .int i), (1, .ref a), (0, .ref (ad 42))] → f_X3_isWord_l q.2.2.2 M n i = some r → W p l e R s m args below meth c s.heap [] cells slots Q (F0 m 20 ls []) := by
  have ht : ∀ w ∈ kx_tbl, w.before args s = true := fun w h => hts w (List.mem_cons_of_mem _ h)
  intro n
  induction n with
  | zero =>
    intro i ls hl h
    cases (show (none : Option Bool) = some r from h)
  | succ n ih =>
    intro i ls hl h
    rw [f_X3_isWord_l.eq_2] at h
    refine lv_iload_n hx hb (show decode cX3_isWord 20 = .ok (.iload_n 2, 1) from by decide +kernel) rfl (lv_at hl 0 rfl) ?_
    refine lv_aload_n hx hb (show decode cX3_isWord 21 = .ok (.aload_n 1, 1) from by decide +kernel) rfl (lv_at hl 1 rfl) ?_
    refine kt_after (va_runV (b := a) (As := []) (rest := [.int i]) ⟨hx, hb, hml, hown, hts⟩ (kt_length l A q a v) ⟨callB_of (own := RX3) (index := 118) (y := T_J0_length_8abf5.1) (bytes := T_J0_length_8abf5.2.1) (maxL := T_J0_length_8abf5.2.2.1) (ret := T_J0_length_8abf5.2.2.2.1) (mc := 0) (ms := 0) 0 hts (kx_goodIn (T := T_X3_isWord) kcd_J0_length_8abf5) rfl rfl rfl (ht _ kini_J0) (ht _ (kx_tb 396 (by decide +kernel) (by decide +kernel))) kpd_J0_length_8abf5 ⟨Nat.le_trans (Nat.le_of_ble_eq_true rfl) hfr, Nat.le_trans (Nat.le_of_ble_eq_true rfl) hlo⟩, ht _ kse_J0_length_8abf5.1, ht _ kse_J0_length_8abf5.2⟩ ⟨kt_bl _ _ (fun U g mk x h => h.call g mk x), (show ∃ cell : Cell, s.heap[a]? = some cell ∧ cell.vm.isStatics = false ∧ s.vm.findClass "java/lang/String" = some cell.cls from by obtain ⟨cell, h1, h2, h3, h4⟩ := hPP.1.2.1; exact ⟨cell, h1, h2, h3⟩), fun U hU hW => ⟨rfl, hPP.on hW (fun a _ _ => by rw [hU]) (fun _ h => h)⟩⟩ rfl rfl hl.1 rfl (lv_room (Nat.le_of_ble_eq_true rfl)) (show decode cX3_isWord 22 = .ok (.invokevirtual 118, 3) from by decide +kernel) ⟨hce, hsl⟩) ?_
    refine lv_icmp_ge (tgt := 55) hx hb (show decode cX3_isWord 25 = .ok (.if_icmp .ge 30, 3) from by decide +kernel) (by decide) (fun hc => ?_) (fun hc => ?_)
    · rw [if_pos hc] at h
      cases h
      exact k1 rfl ls
    rw [if_neg hc] at h
    obtain ⟨hi1, h⟩ := kx_ck_some h
    obtain ⟨hi2, h⟩ := kx_ck_some h
    refine lv_aload_n hx hb (show decode cX3_isWord 28 = .ok (.aload_n 0, 1) from by decide +kernel) rfl (lv_at hl 2 rfl) ?_
    refine va_get (D := D) (ci := 3) (v := .ref (ad 43)) (C := RX3) (T := TX3) (N := 6) hx hb ht kinX3 hown hK hP 42 ((kx_wget kxo_42.1).trans (by rw [kx_cellO kxo_42.2])) rfl 0 (by decide) (ht _ (kx_tb 135 (by decide +kernel) (by decide +kernel))) (fun _ h9 => h9) rfl (show decode cX3_isWord 29 = .ok (.getfield 9, 3) from by decide +kernel) ?_
    refine lv_aload_n hx hb (show decode cX3_isWord 32 = .ok (.aload_n 0, 1) from by decide +kernel) rfl (lv_at hl 2 rfl) ?_
    refine va_get (D := D) (ci := 3) (v := .int (M.1 42 2)) (C := RX3) (T := TX3) (N := 6) hx hb ht kinX3 hown hK hP 42 ((kx_wget kxo_42.1).trans (by rw [kx_cellO kxo_42.2])) rfl 2 (by decide) (ht _ (kx_tb 138 (by decide +kernel) (by decide +kernel))) (fun _ h9 => h9) rfl (show decode cX3_isWord 33 = .ok (.getfield 26, 3) from by decide +kernel) ?_
    refine lv_iload_n hx hb (show decode cX3_isWord 36 = .ok (.iload_n 2, 1) from by decide +kernel) rfl (lv_at hl 0 rfl) ?_
    refine lv_iadd hx hb (show decode cX3_isWord 37 = .ok (.iadd, 1) from by decide +kernel) ?_
    obtain ⟨g1, g2, rf, g3⟩ := kxa_43
    refine va_cald hx hb hK hP 43 1 ((kx_wget g1).trans (by rw [kx_cellA g2 g3]; rfl)) rfl hi1 (show decode cX3_isWord 38 = .ok (.caload, 1) from by decide +kernel) ?_
    refine lv_aload_n hx hb (show decode cX3_isWord 39 = .ok (.aload_n 1, 1) from by decide +kernel) rfl (lv_at hl 1 rfl) ?_
    refine lv_iload_n hx hb (show decode cX3_isWord 40 = .ok (.iload_n 2, 1) from by decide +kernel) rfl (lv_at hl 0 rfl) ?_
    refine kt_after (va_runV (b := a) (As := [.int i]) (rest := [.int (M.1 43 ((M.1 42 2) + i).toNatClampNeg)]) ⟨hx, hb, hml, hown, hts⟩ (kt_charAt l A q a v i (fun z => hi2 (Or.inl z)) (Int32.not_le.mp hc) hi2 (kt_nar _)) ⟨callB_of (own := RX3) (index := 124) (y := T_J0_charAt_5068e.1) (bytes := T_J0_charAt_5068e.2.1) (maxL := T_J0_charAt_5068e.2.2.1) (ret := T_J0_charAt_5068e.2.2.2.1) (mc := 0) (ms := 0) 1 hts (kx_goodIn (T := T_X3_isWord) kcd_J0_charAt_5068e) rfl rfl rfl (ht _ kini_J0) (ht _ (kx_tb 406 (by decide +kernel) (by decide +kernel))) kpd_J0_charAt_5068e ⟨Nat.le_trans (Nat.le_of_ble_eq_true rfl) hfr, Nat.le_trans (Nat.le_of_ble_eq_true rfl) hlo⟩, ht _ kse_J0_charAt_5068e.1, ht _ kse_J0_charAt_5068e.2⟩ ⟨kt_bl _ _ (fun U g mk x h => h.call g mk x), (show ∃ cell : Cell, s.heap[a]? = some cell ∧ cell.vm.isStatics = false ∧ s.vm.findClass "java/lang/String" = some cell.cls from by obtain ⟨cell, h1, h2, h3, h4⟩ := hPP.1.2.1; exact ⟨cell, h1, h2, h3⟩), fun U hU hW => ⟨rfl, hPP.on hW (fun a _ _ => by rw [hU]) (fun _ h => h)⟩⟩ rfl rfl hl.1 rfl (lv_room (Nat.le_of_ble_eq_true rfl)) (show decode cX3_isWord 41 = .ok (.invokevirtual 124, 3) from by decide +kernel) ⟨hce, hsl⟩) ?_
    refine lv_icmp_eq (tgt := 49) hx hb (show decode cX3_isWord 44 = .ok (.if_icmp .eq 5, 3) from by decide +kernel) (by decide) (fun hc2 => ?_) (fun hc2 => ?_)
    · rw [if_pos hc2] at h
      refine lv_iinc (v := i + 1) (lv' := [(2, .int (i + 1)), (1, .ref a), (0, .ref (ad 42))]) hx hb (show decode cX3_isWord 49 = .ok (.iinc 2 1, 3) from by decide +kernel) hl (k := 0) rfl rfl (by decide) rfl (fun ls hl => ?_)
      refine lv_goto (tgt := 20) hx hb (show decode cX3_isWord 52 = .ok (.goto (-32), 3) from by decide +kernel) (by decide) ?_
      exact ih (i + 1) ls hl h
    · rw [if_neg hc2] at h
      cases h
      exact k0 rfl ls
set_option maxHeartbeats 4000000 in
set_option maxRecDepth 100000 in
theorem c_X3_isWord {d : Nat} (q : kt_q) (M : kx_M) (r : Bool) (h : f_X3_isWord q.2.2.2 M = some r) : kt_CallW EX (d + 4) T_X3_isWord 42 q M (kx_bi r) := by
  intro l D ac ad sz a v
  refine Met.ofW (cc := cX3_isWord) (maxL := 3) (ret := some .boolean) kok_X3_isWord.1 rfl ?_
  intro p e s m args below meth c s₁ B hml hv
  obtain ⟨rfl, hsz, hP, hK, hD0, hXX, hS1⟩ := hv
  subst hsz
  have hx := B.exec
  have hb := B.bytes
  have hr := B.returns
  have hts := atoms_spec (ws := kx_ws T_X3_isWord) B.pre
  have hown : s.vm.findClass RX3 = some m.cls := findClass_of_methodNamed B.named
  have hlocks := B.notSynchronized
  have ht : ∀ w ∈ kx_tbl, w.before _ s = true := fun w h => hts w (List.mem_cons_of_mem _ h)
  have hTA := hXX.2.resolve_left (by decide)
  have hPP : kt_P (kx_A EX ad s.heap.size) q a v s := ⟨hS1, hTA.2.1, hTA.2.2⟩
  have hfr : 4 ≤ (kx_rm (d + 4)).frames := by show 4 ≤ d + 4; omega
  have hlo : 141 ≤ (kx_rm (d + 4)).locals := by show 141 ≤ 40 * (d + 4); omega
  have hce : 0 + 0 ≤ (kx_rm (d + 4)).cells := Nat.le_refl _
  have hsl : 0 + 0 ≤ (kx_rm (d + 4)).slots := Nat.le_refl _
  have hl := lv_entry ([.ref (ad 42), .ref a]) (n := 3) (Nat.le_of_ble_eq_true rfl)
  rw [lg_entry_eq]
  generalize (lg_sl ([.ref (ad 42), .ref a]) ++ List.replicate (3 - (lg_sl ([.ref (ad 42), .ref a])).length) Slot.unset).toArray = ls at hl ⊢
  have hl : lv_has ls 3 [(0, .ref (ad 42)), (1, .ref a)] := hl
  have hl2 : lv_has ls 3 [(1, .ref a), (0, .ref (ad 42))] := lv_sub hl [1, 0] rfl
  refine lv_aload_n hx hb (show decode cX3_isWord 0 = .ok (.aload_n 1, 1) from by decide +kernel) rfl (lv_at hl 1 rfl) ?_
  refine kt_after (va_runV (b := a) (As := []) (rest := []) ⟨hx, hb, hml, hown, hts⟩ (kt_length l _ q a v) ⟨callB_of (own := RX3) (index := 118) (y := T_J0_length_8abf5.1) (bytes := T_J0_length_8abf5.2.1) (maxL := T_J0_length_8abf5.2.2.1) (ret := T_J0_length_8abf5.2.2.2.1) (mc := 0) (ms := 0) 0 hts (kx_goodIn (T := T_X3_isWord) kcd_J0_length_8abf5) rfl rfl rfl (ht _ kini_J0) (ht _ (kx_tb 396 (by decide +kernel) (by decide +kernel))) kpd_J0_length_8abf5 ⟨Nat.le_trans (Nat.le_of_ble_eq_true rfl) hfr, Nat.le_trans (Nat.le_of_ble_eq_true rfl) hlo⟩, ht _ kse_J0_length_8abf5.1, ht _ kse_J0_length_8abf5.2⟩ ⟨kt_bl _ _ (fun U g mk x h => h.call g mk x), (show ∃ cell : Cell, s.heap[a]? = some cell ∧ cell.vm.isStatics = false ∧ s.vm.findClass "java/lang/String" = some cell.cls from by obtain ⟨cell, h1, h2, h3, h4⟩ := hPP.1.2.1; exact ⟨cell, h1, h2, h3⟩), fun U hU hW => ⟨rfl, hPP.on hW (fun a _ _ => by rw [hU]) (fun _ h => h)⟩⟩ rfl rfl hl.1 rfl (lv_room (Nat.le_of_ble_eq_true rfl)) (show decode cX3_isWord 1 = .ok (.invokevirtual 118, 3) from by decide +kernel) ⟨hce, hsl⟩) ?_
  refine lv_aload_n hx hb (show decode cX3_isWord 4 = .ok (.aload_n 0, 1) from by decide +kernel) rfl (lv_at hl 0 rfl) ?_
  refine va_get (D := D) (ci := 3) (v := .int (M.1 42 3)) (C := RX3) (T := TX3) (N := 6) hx hb ht kinX3 hown hK hP 42 ((kx_wget kxo_42.1).trans (by rw [kx_cellO kxo_42.2])) rfl 3 (by decide) (ht _ (kx_tb 139 (by decide +kernel) (by decide +kernel))) (fun _ h9 => h9) rfl (show decode cX3_isWord 5 = .ok (.getfield 19, 3) from by decide +kernel) ?_
  refine lv_aload_n hx hb (show decode cX3_isWord 8 = .ok (.aload_n 0, 1) from by decide +kernel) rfl (lv_at hl 0 rfl) ?_
  refine va_get (D := D) (ci := 3) (v := .int (M.1 42 2)) (C := RX3) (T := TX3) (N := 6) hx hb ht kinX3 hown hK hP 42 ((kx_wget kxo_42.1).trans (by rw [kx_cellO kxo_42.2])) rfl 2 (by decide) (ht _ (kx_tb 138 (by decide +kernel) (by decide +kernel))) (fun _ h9 => h9) rfl (show decode cX3_isWord 9 = .ok (.getfield 26, 3) from by decide +kernel) ?_
  refine lv_isub hx hb (show decode cX3_isWord 12 = .ok (.isub, 1) from by decide +kernel) ?_
  unfold f_X3_isWord at h
  refine lv_icmp_eq (tgt := 18) hx hb (show decode cX3_isWord 13 = .ok (.if_icmp .eq 5, 3) from by decide +kernel) (by decide) (fun hc => ?_) (fun hc => ?_)
  · rw [if_pos hc] at h
    refine lv_iconst (v := 0) hx hb (show decode cX3_isWord 18 = .ok (.iconst 0, 1) from by decide +kernel) (by decide) ?_
    refine lv_istore_n (lv' := [(2, .int 0), (1, .ref a), (0, .ref (ad 42))]) hx hb (show decode cX3_isWord 19 = .ok (.istore_n 2, 1) from by decide +kernel) rfl hl2 (by decide) rfl (fun ls hl => ?_)
    refine t_X3_isWord_l (A := kx_A EX ad s.heap.size) (q := q) (a := a) (v := v) hx hb hml hown hts hK hP hPP hfr hlo (Nat.le_refl _) (Nat.le_refl _) (fun h1 ls => ?_) (fun h1 ls => ?_) kx_fuel 0 ls hl h
    · subst h1
      refine lv_iconst (v := 1) hx hb (show decode cX3_isWord 55 = .ok (.iconst 1, 1) from by decide +kernel) (by decide) ?_
      exact W.zret hx hb hr (by decide +kernel) (fun t ht9 hW => ⟨⟨_, (), rfl, rfl, by rw [ht9]; exact hP, va_K.moved hW.alike hK⟩, (va_S.rf (A := kx_A EX ad s.heap.size)).F ht9⟩) (fun _ h => by cases h) (show decode cX3_isWord 56 = .ok (.ireturn, 1) from by decide +kernel)
    · subst h1
      refine lv_iconst (v := 0) hx hb (show decode cX3_isWord 47 = .ok (.iconst 0, 1) from by decide +kernel) (by decide) ?_
      exact W.zret hx hb hr (by decide +kernel) (fun t ht9 hW => ⟨⟨_, (), rfl, rfl, by rw [ht9]; exact hP, va_K.moved hW.alike hK⟩, (va_S.rf (A := kx_A EX ad s.heap.size)).F ht9⟩) (fun _ h => by cases h) (show decode cX3_isWord 48 = .ok (.ireturn, 1) from by decide +kernel)
  · rw [if_neg hc] at h
    cases h
    refine lv_iconst (v := 0) hx hb (show decode cX3_isWord 16 = .ok (.iconst 0, 1) from by decide +kernel) (by decide) ?_
    exact W.zret hx hb hr (by decide +kernel) (fun t ht9 hW => ⟨⟨_, (), rfl, rfl, by rw [ht9]; exact hP, va_K.moved hW.alike hK⟩, (va_S.rf (A := kx_A EX ad s.heap.size)).F ht9⟩) (fun _ h => by cases h) (show decode cX3_isWord 17 = .ok (.ireturn, 1) from by decide +kernel)
def f_X5_isWord_l (w : List Int32) (M : kx_M) : Nat → Int32 → Option Bool
  | 0, _ => none
  | n + 1, i => if Int32.ofNat w.length ≤ i then some true else kx_ck 250 ((M.1 0 12) + i) (kx_ck w.length i (if M.1 8 ((M.1 0 12) + i).toNatClampNeg = kt_ch (w.getD i.toNatClampNeg 0) then f_X5_isWord_l w M n (i + 1) else some false))
def f_X5_isWord (w : List Int32) (M : kx_M) : Option Bool := if M.1 0 14 = 119 then (if (M.1 0 13) - (M.1 0 12) = Int32.ofNat w.length then f_X5_isWord_l w M kx_fuel 0 else some false) else some false
set_option maxHeartbeats 4000000 in
set_option maxRecDepth 100000 in
theorem t_X5_isWord_l {p : Program} {l : Launch} {e : Env} {R : Room} {s : State} {m : MethodId} {args : Array Value} {below : List Frame} {meth : Method} {c : Code} {cells slots : Nat} {Q : State → Prop} {D : va_G} {ac : Nat → ClassId} {ad : Nat → Nat} {A : Nat → Prop} {q : kt_q} {a v : Nat} {M : kx_M} (hx : p.tables.exec = Jvm.exec) (hb : c.code = cX5_isWord) (hml : c.maxLocals = 3) (hown : s.vm.findClass RX5 = some m.cls) (hts : ∀ w ∈ kx_ws T_X5_isWord, w.before args s = true) (hK : va_K D vwCl (kx_ty ac) s) (hP : va_P D vwCl (kx_wld EM ac ad M) s.heap) (hPP : kt_P A q a v s) (hfr : 4 ≤ R.frames) (hlo : 141 ≤ R.locals) (hce : cells + 0 ≤ R.cells) (hsl : slots + 0 ≤ R.slots) {r : Bool} (k1 : r = true → ∀ ls : Array Slot, W p l e R s m args below meth c s.heap [] cells slots Q (F0 m 64 ls [])) (k0 : r = false → ∀ ls : Array Slot, W p l e R s m args below meth c s.heap [] cells slots Q (F0 m 56 ls [])) : ∀ (n : Nat) (i : Int32) (ls : Array Slot), lv_has ls 3 [(2, .int i), (1, .ref a), (0, .ref (ad 0))] → f_X5_isWord_l q.2.2.2 M n i = some r → W p l e R s m args below meth c s.heap [] cells slots Q (F0 m 29 ls []) := by
  have ht : ∀ w ∈ kx_tbl, w.before args s = true := fun w h => hts w (List.mem_cons_of_mem _ h)
  intro n
  induction n with
  | zero =>
    intro i ls hl h
    cases (show (none : Option Bool) = some r from h)
  | succ n ih =>
    intro i ls hl h
    rw [f_X5_isWord_l.eq_2] at h
    refine lv_iload_n hx hb (show decode cX5_isWord 29 = .ok (.iload_n 2, 1) from by decide +kernel) rfl (lv_at hl 0 rfl) ?_
    refine lv_aload_n hx hb (show decode cX5_isWord 30 = .ok (.aload_n 1, 1) from by decide +kernel) rfl (lv_at hl 1 rfl) ?_
    refine kt_after (va_runV (b := a) (As := []) (rest := [.int i]) ⟨hx, hb, hml, hown, hts⟩ (kt_length l A q a v) ⟨callB_of (own := RX5) (index := 144) (y := T_J0_length_8abf5.1) (bytes := T_J0_length_8abf5.2.1) (maxL := T_J0_length_8abf5.2.2.1) (ret := T_J0_length_8abf5.2.2.2.1) (mc := 0) (ms := 0) 0 hts (kx_goodIn (T := T_X5_isWord) kcd_J0_length_8abf5) rfl rfl rfl (ht _ kini_J0) (ht _ (kx_tb 1061 (by decide +kernel) (by decide +kernel))) kpd_J0_length_8abf5 ⟨Nat.le_trans (Nat.le_of_ble_eq_true rfl) hfr, Nat.le_trans (Nat.le_of_ble_eq_true rfl) hlo⟩, ht _ kse_J0_length_8abf5.1, ht _ kse_J0_length_8abf5.2⟩ ⟨kt_bl _ _ (fun U g mk x h => h.call g mk x), (show ∃ cell : Cell, s.heap[a]? = some cell ∧ cell.vm.isStatics = false ∧ s.vm.findClass "java/lang/String" = some cell.cls from by obtain ⟨cell, h1, h2, h3, h4⟩ := hPP.1.2.1; exact ⟨cell, h1, h2, h3⟩), fun U hU hW => ⟨rfl, hPP.on hW (fun a _ _ => by rw [hU]) (fun _ h => h)⟩⟩ rfl rfl hl.1 rfl (lv_room (Nat.le_of_ble_eq_true rfl)) (show decode cX5_isWord 31 = .ok (.invokevirtual 144, 3) from by decide +kernel) ⟨hce, hsl⟩) ?_
    refine lv_icmp_ge (tgt := 64) hx hb (show decode cX5_isWord 34 = .ok (.if_icmp .ge 30, 3) from by decide +kernel) (by decide) (fun hc => ?_) (fun hc => ?_)
    · rw [if_pos hc] at h
      cases h
      exact k1 rfl ls
    rw [if_neg hc] at h
    obtain ⟨hi1, h⟩ := kx_ck_some h
    obtain ⟨hi2, h⟩ := kx_ck_some h
    refine lv_aload_n hx hb (show decode cX5_isWord 37 = .ok (.aload_n 0, 1) from by decide +kernel) rfl (lv_at hl 2 rfl) ?_
    refine va_get (D := D) (ci := 5) (v := .ref (ad 8)) (C := RX5) (T := TX5) (N := 28) hx hb ht kinX5 hown hK hP 0 ((kx_wget kmo_0.1).trans (by rw [kx_cellO kmo_0.2])) rfl 11 (by decide) (ht _ (kx_tb 848 (by decide +kernel) (by decide +kernel))) (fun _ h9 => h9) rfl (show decode cX5_isWord 38 = .ok (.getfield 31, 3) from by decide +kernel) ?_
    refine lv_aload_n hx hb (show decode cX5_isWord 41 = .ok (.aload_n 0, 1) from by decide +kernel) rfl (lv_at hl 2 rfl) ?_
    refine va_get (D := D) (ci := 5) (v := .int (M.1 0 12)) (C := RX5) (T := TX5) (N := 28) hx hb ht kinX5 hown hK hP 0 ((kx_wget kmo_0.1).trans (by rw [kx_cellO kmo_0.2])) rfl 12 (by decide) (ht _ (kx_tb 849 (by decide +kernel) (by decide +kernel))) (fun _ h9 => h9) rfl (show decode cX5_isWord 42 = .ok (.getfield 129, 3) from by decide +kernel) ?_
    refine lv_iload_n hx hb (show decode cX5_isWord 45 = .ok (.iload_n 2, 1) from by decide +kernel) rfl (lv_at hl 0 rfl) ?_
    refine lv_iadd hx hb (show decode cX5_isWord 46 = .ok (.iadd, 1) from by decide +kernel) ?_
    obtain ⟨g1, g2, rf, g3⟩ := kma_8
    refine va_iald hx hb hK hP 8 0 ((kx_wget g1).trans (by rw [kx_cellA g2 g3]; rfl)) rfl hi1 (show decode cX5_isWord 47 = .ok (.iaload, 1) from by decide +kernel) ?_
    refine lv_aload_n hx hb (show decode cX5_isWord 48 = .ok (.aload_n 1, 1) from by decide +kernel) rfl (lv_at hl 1 rfl) ?_
    refine lv_iload_n hx hb (show decode cX5_isWord 49 = .ok (.iload_n 2, 1) from by decide +kernel) rfl (lv_at hl 0 rfl) ?_
    refine kt_after (va_runV (b := a) (As := [.int i]) (rest := [.int (M.1 8 ((M.1 0 12) + i).toNatClampNeg)]) ⟨hx, hb, hml, hown, hts⟩ (kt_charAt l A q a v i (fun z => hi2 (Or.inl z)) (Int32.not_le.mp hc) hi2 (kt_nar _)) ⟨callB_of (own := RX5) (index := 150) (y := T_J0_charAt_5068e.1) (bytes := T_J0_charAt_5068e.2.1) (maxL := T_J0_charAt_5068e.2.2.1) (ret := T_J0_charAt_5068e.2.2.2.1) (mc := 0) (ms := 0) 1 hts (kx_goodIn (T := T_X5_isWord) kcd_J0_charAt_5068e) rfl rfl rfl (ht _ kini_J0) (ht _ (kx_tb 1062 (by decide +kernel) (by decide +kernel))) kpd_J0_charAt_5068e ⟨Nat.le_trans (Nat.le_of_ble_eq_true rfl) hfr, Nat.le_trans (Nat.le_of_ble_eq_true rfl) hlo⟩, ht _ kse_J0_charAt_5068e.1, ht _ kse_J0_charAt_5068e.2⟩ ⟨kt_bl _ _ (fun U g mk x h => h.call g mk x), (show ∃ cell : Cell, s.heap[a]? = some cell ∧ cell.vm.isStatics = false ∧ s.vm.findClass "java/lang/String" = some cell.cls from by obtain ⟨cell, h1, h2, h3, h4⟩ := hPP.1.2.1; exact ⟨cell, h1, h2, h3⟩), fun U hU hW => ⟨rfl, hPP.on hW (fun a _ _ => by rw [hU]) (fun _ h => h)⟩⟩ rfl rfl hl.1 rfl (lv_room (Nat.le_of_ble_eq_true rfl)) (show decode cX5_isWord 50 = .ok (.invokevirtual 150, 3) from by decide +kernel) ⟨hce, hsl⟩) ?_
    refine lv_icmp_eq (tgt := 58) hx hb (show decode cX5_isWord 53 = .ok (.if_icmp .eq 5, 3) from by decide +kernel) (by decide) (fun hc2 => ?_) (fun hc2 => ?_)
    · rw [if_pos hc2] at h
      refine lv_iinc (v := i + 1) (lv' := [(2, .int (i + 1)), (1, .ref a), (0, .ref (ad 0))]) hx hb (show decode cX5_isWord 58 = .ok (.iinc 2 1, 3) from by decide +kernel) hl (k := 0) rfl rfl (by decide) rfl (fun ls hl => ?_)
      refine lv_goto (tgt := 29) hx hb (show decode cX5_isWord 61 = .ok (.goto (-32), 3) from by decide +kernel) (by decide) ?_
      exact ih (i + 1) ls hl h
    · rw [if_neg hc2] at h
      cases h
      exact k0 rfl ls
set_option maxHeartbeats 4000000 in
set_option maxRecDepth 100000 in
theorem c_X5_isWord {d : Nat} (q : kt_q) (M : kx_M) (r : Bool) (h : f_X5_isWord q.2.2.2 M = some r) : kt_CallW EM (d + 4) T_X5_isWord 0 q M (kx_bi r) := by
  intro l D ac ad sz a v
  refine Met.ofW (cc := cX5_isWord) (maxL := 3) (ret := some .boolean) kok_X5_isWord.1 rfl ?_
  intro p e s m args below meth c s₁ B hml hv
  obtain ⟨rfl, hsz, hP, hK, hD0, hXX, hS1⟩ := hv
  subst hsz
  have hx := B.exec
  have hb := B.bytes
  have hr := B.returns
  have hts := atoms_spec (ws := kx_ws T_X5_isWord) B.pre
  have hown : s.vm.findClass RX5 = some m.cls := findClass_of_methodNamed B.named
  have hlocks := B.notSynchronized
  have ht : ∀ w ∈ kx_tbl, w.before _ s = true := fun w h => hts w (List.mem_cons_of_mem _ h)
  have hTA := hXX.2.resolve_left (by decide)
  have hPP : kt_P (kx_A EM ad s.heap.size) q a v s := ⟨hS1, hTA.2.1, hTA.2.2⟩
  have hfr : 4 ≤ (kx_rm (d + 4)).frames := by show 4 ≤ d + 4; omega
  have hlo : 141 ≤ (kx_rm (d + 4)).locals := by show 141 ≤ 40 * (d + 4); omega
  have hce : 0 + 0 ≤ (kx_rm (d + 4)).cells := Nat.le_refl _
  have hsl : 0 + 0 ≤ (kx_rm (d + 4)).slots := Nat.le_refl _
  have hl := lv_entry ([.ref (ad 0), .ref a]) (n := 3) (Nat.le_of_ble_eq_true rfl)
  rw [lg_entry_eq]
  generalize (lg_sl ([.ref (ad 0), .ref a]) ++ List.replicate (3 - (lg_sl ([.ref (ad 0), .ref a])).length) Slot.unset).toArray = ls at hl ⊢
  have hl : lv_has ls 3 [(0, .ref (ad 0)), (1, .ref a)] := hl
  have hl2 : lv_has ls 3 [(1, .ref a), (0, .ref (ad 0))] := lv_sub hl [1, 0] rfl
  refine lv_aload_n hx hb (show decode cX5_isWord 0 = .ok (.aload_n 0, 1) from by decide +kernel) rfl (lv_at hl 0 rfl) ?_
  refine va_get (D := D) (ci := 5) (v := .int (M.1 0 14)) (C := RX5) (T := TX5) (N := 28) hx hb ht kinX5 hown hK hP 0 ((kx_wget kmo_0.1).trans (by rw [kx_cellO kmo_0.2])) rfl 14 (by decide) (ht _ (kx_tb 851 (by decide +kernel) (by decide +kernel))) (fun _ h9 => h9) rfl (show decode cX5_isWord 1 = .ok (.getfield 132, 3) from by decide +kernel) ?_
  refine lv_bipush (v := 119) hx hb (show decode cX5_isWord 4 = .ok (.bipush 119, 2) from by decide +kernel) (by decide) ?_
  unfold f_X5_isWord at h
  refine lv_icmp_ne (tgt := 25) hx hb (show decode cX5_isWord 6 = .ok (.if_icmp .ne 19, 3) from by decide +kernel) (by decide) (fun hc0 => ?_) (fun hc0 => ?_)
  · rw [if_neg hc0] at h
    cases h
    refine lv_iconst (v := 0) hx hb (show decode cX5_isWord 25 = .ok (.iconst 0, 1) from by decide +kernel) (by decide) ?_
    exact W.zret hx hb hr (by decide +kernel) (fun t ht9 hW => ⟨⟨_, (), rfl, rfl, by rw [ht9]; exact hP, va_K.moved hW.alike hK⟩, (va_S.rf (A := kx_A EM ad s.heap.size)).F ht9⟩) (fun _ h => by cases h) (show decode cX5_isWord 26 = .ok (.ireturn, 1) from by decide +kernel)
  rw [if_pos hc0] at h
  refine lv_aload_n hx hb (show decode cX5_isWord 9 = .ok (.aload_n 0, 1) from by decide +kernel) rfl (lv_at hl 0 rfl) ?_
  refine va_get (D := D) (ci := 5) (v := .int (M.1 0 13)) (C := RX5) (T := TX5) (N := 28) hx hb ht kinX5 hown hK hP 0 ((kx_wget kmo_0.1).trans (by rw [kx_cellO kmo_0.2])) rfl 13 (by decide) (ht _ (kx_tb 850 (by decide +kernel) (by decide +kernel))) (fun _ h9 => h9) rfl (show decode cX5_isWord 10 = .ok (.getfield 126, 3) from by decide +kernel) ?_
  refine lv_aload_n hx hb (show decode cX5_isWord 13 = .ok (.aload_n 0, 1) from by decide +kernel) rfl (lv_at hl 0 rfl) ?_
  refine va_get (D := D) (ci := 5) (v := .int (M.1 0 12)) (C := RX5) (T := TX5) (N := 28) hx hb ht kinX5 hown hK hP 0 ((kx_wget kmo_0.1).trans (by rw [kx_cellO kmo_0.2])) rfl 12 (by decide) (ht _ (kx_tb 849 (by decide +kernel) (by decide +kernel))) (fun _ h9 => h9) rfl (show decode cX5_isWord 14 = .ok (.getfield 129, 3) from by decide +kernel) ?_
  refine lv_isub hx hb (show decode cX5_isWord 17 = .ok (.isub, 1) from by decide +kernel) ?_
  refine lv_aload_n hx hb (show decode cX5_isWord 18 = .ok (.aload_n 1, 1) from by decide +kernel) rfl (lv_at hl 1 rfl) ?_
  refine kt_after (va_runV (b := a) (As := []) (rest := [.int ((M.1 0 13) - (M.1 0 12))]) ⟨hx, hb, hml, hown, hts⟩ (kt_length l _ q a v) ⟨callB_of (own := RX5) (index := 144) (y := T_J0_length_8abf5.1) (bytes := T_J0_length_8abf5.2.1) (maxL := T_J0_length_8abf5.2.2.1) (ret := T_J0_length_8abf5.2.2.2.1) (mc := 0) (ms := 0) 0 hts (kx_goodIn (T := T_X5_isWord) kcd_J0_length_8abf5) rfl rfl rfl (ht _ kini_J0) (ht _ (kx_tb 1061 (by decide +kernel) (by decide +kernel))) kpd_J0_length_8abf5 ⟨Nat.le_trans (Nat.le_of_ble_eq_true rfl) hfr, Nat.le_trans (Nat.le_of_ble_eq_true rfl) hlo⟩, ht _ kse_J0_length_8abf5.1, ht _ kse_J0_length_8abf5.2⟩ ⟨kt_bl _ _ (fun U g mk x h => h.call g mk x), (show ∃ cell : Cell, s.heap[a]? = some cell ∧ cell.vm.isStatics = false ∧ s.vm.findClass "java/lang/String" = some cell.cls from by obtain ⟨cell, h1, h2, h3, h4⟩ := hPP.1.2.1; exact ⟨cell, h1, h2, h3⟩), fun U hU hW => ⟨rfl, hPP.on hW (fun a _ _ => by rw [hU]) (fun _ h => h)⟩⟩ rfl rfl hl.1 rfl (lv_room (Nat.le_of_ble_eq_true rfl)) (show decode cX5_isWord 19 = .ok (.invokevirtual 144, 3) from by decide +kernel) ⟨hce, hsl⟩) ?_
  refine lv_icmp_eq (tgt := 27) hx hb (show decode cX5_isWord 22 = .ok (.if_icmp .eq 5, 3) from by decide +kernel) (by decide) (fun hc => ?_) (fun hc => ?_)
  · rw [if_pos hc] at h
    refine lv_iconst (v := 0) hx hb (show decode cX5_isWord 27 = .ok (.iconst 0, 1) from by decide +kernel) (by decide) ?_
    refine lv_istore_n (lv' := [(2, .int 0), (1, .ref a), (0, .ref (ad 0))]) hx hb (show decode cX5_isWord 28 = .ok (.istore_n 2, 1) from by decide +kernel) rfl hl2 (by decide) rfl (fun ls hl => ?_)
    refine t_X5_isWord_l (A := kx_A EM ad s.heap.size) (q := q) (a := a) (v := v) hx hb hml hown hts hK hP hPP hfr hlo (Nat.le_refl _) (Nat.le_refl _) (fun h1 ls => ?_) (fun h1 ls => ?_) kx_fuel 0 ls hl h
    · subst h1
      refine lv_iconst (v := 1) hx hb (show decode cX5_isWord 64 = .ok (.iconst 1, 1) from by decide +kernel) (by decide) ?_
      exact W.zret hx hb hr (by decide +kernel) (fun t ht9 hW => ⟨⟨_, (), rfl, rfl, by rw [ht9]; exact hP, va_K.moved hW.alike hK⟩, (va_S.rf (A := kx_A EM ad s.heap.size)).F ht9⟩) (fun _ h => by cases h) (show decode cX5_isWord 65 = .ok (.ireturn, 1) from by decide +kernel)
    · subst h1
      refine lv_iconst (v := 0) hx hb (show decode cX5_isWord 56 = .ok (.iconst 0, 1) from by decide +kernel) (by decide) ?_
      exact W.zret hx hb hr (by decide +kernel) (fun t ht9 hW => ⟨⟨_, (), rfl, rfl, by rw [ht9]; exact hP, va_K.moved hW.alike hK⟩, (va_S.rf (A := kx_A EM ad s.heap.size)).F ht9⟩) (fun _ h => by cases h) (show decode cX5_isWord 57 = .ok (.ireturn, 1) from by decide +kernel)
  · rw [if_neg hc] at h
    cases h
    refine lv_iconst (v := 0) hx hb (show decode cX5_isWord 25 = .ok (.iconst 0, 1) from by decide +kernel) (by decide) ?_
    exact W.zret hx hb hr (by decide +kernel) (fun t ht9 hW => ⟨⟨_, (), rfl, rfl, by rw [ht9]; exact hP, va_K.moved hW.alike hK⟩, (va_S.rf (A := kx_A EM ad s.heap.size)).F ht9⟩) (fun _ h => by cases h) (show decode cX5_isWord 26 = .ok (.ireturn, 1) from by decide +kernel)
