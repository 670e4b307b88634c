/-! constructors: what stands behind each -/
theorem kc_ac0 {D : va_G} {cl : List vw_C} {ac : Nat → ClassId} {s : State} {cA : ClassId} (h : va_K D cl (kx_ty ac) s) (h1 : va_K D cl (kx_ty ac ++ [(cA, .int)]) s) : cA = ac 0 := Option.some.inj ((show s.vm.findClass _ = some cA from (h1.2 4 _ rfl).2).symm.trans (show s.vm.findClass _ = some (ac 0) from (h.2 0 _ rfl).2))
theorem kc_ac1 {D : va_G} {cl : List vw_C} {ac : Nat → ClassId} {s : State} {cA : ClassId} (h : va_K D cl (kx_ty ac) s) (h1 : va_K D cl (kx_ty ac ++ [(cA, .char)]) s) : cA = ac 1 := Option.some.inj ((show s.vm.findClass _ = some cA from (h1.2 4 _ rfl).2).symm.trans (show s.vm.findClass _ = some (ac 1) from (h.2 1 _ rfl).2))
theorem kc_ac2 {D : va_G} {cl : List vw_C} {ac : Nat → ClassId} {s : State} {cA : ClassId} (h : va_K D cl (kx_ty ac) s) (h1 : va_K D cl (kx_ty ac ++ [(cA, .long)]) s) : cA = ac 2 := Option.some.inj ((show s.vm.findClass _ = some cA from (h1.2 4 _ rfl).2).symm.trans (show s.vm.findClass _ = some (ac 2) from (h.2 2 _ rfl).2))
def T_X0_init : kx_T := (yX0_init, cX0_init, 2, none, RX0, fun _ => (0, 0, 0, 0))
def T_X1_init : kx_T := (yX1_init, cX1_init, 1, none, RX1, fun _ => (0, 0, 0, 0))
def T_X2_init : kx_T := (yX2_init, cX2_init, 1, none, RX2, fun _ => (0, 0, 0, 0))
def T_X3_init : kx_T := (yX3_init, cX3_init, 1, none, RX3, fun _ => (0, 0, 0, 0))
def T_X4_init : kx_T := (yX4_init, cX4_init, 2, none, RX4, fun _ => (0, 0, 0, 0))
def T_X5_init : kx_T := (yX5_init, cX5_init, 2, none, RX5, fun _ => (0, 0, 0, 0))
set_option maxHeartbeats 4000000 in
set_option maxRecDepth 100000 in
theorem ci_X1 (l : Launch) (D : va_G) (ac : Nat → ClassId) (h0 sz : Nat) : Met l yX1_init (kx_ws T_X1_init) ({ frames := 1, cells := 2, slots := 12, locals := 12 }) (va_Pc [.ref h0] (fun U => U.heap.size = sz ∧ va_P D vwCl [(h0, .inr (1, [.null, .int 0, .null]))] U.heap ∧ va_K D vwCl (kx_ty ac) U ∧ va_D (fun _ => True) [(h0, .inr (1, [.null, .int 0, .null]))] ∧ kx_X EX id 0 U)) (va_Qv (fun _ : Unit => True) (fun _ t => ∃ q1 q2 : Nat, va_P D vwCl [(h0, .inr (1, [.ref q1, .int 0, .ref q2])), (q1, .inl (ac 0, 6, .inl (fun _ => 0))), (q2, .inl (ac 0, 6, .inl (fun _ => 0)))] t.heap ∧ va_D (va_A [(h0, .inr (1, [.null, .int 0, .null]))] sz) [(h0, .inr (1, [.ref q1, .int 0, .ref q2])), (q1, .inl (ac 0, 6, .inl (fun _ => 0))), (q2, .inl (ac 0, 6, .inl (fun _ => 0)))]) (va_A [(h0, .inr (1, [.null, .int 0, .null]))] sz)) 2 12 (va_A [(h0, .inr (1, [.null, .int 0, .null]))] sz) := by
  refine Met.ofW (cc := cX1_init) (maxL := 1) (ret := none) (by decide) rfl ?_
  intro p e s m args below meth c s₁ B hml hv
  obtain ⟨rfl, hsz, hP, hK, hD0, hXX⟩ := hv
  have hx := B.exec
  have hb := B.bytes
  have hr := B.returns
  have hts := atoms_spec (ws := kx_ws T_X1_init) B.pre
  have hown : s.vm.findClass RX1 = some m.cls := findClass_of_methodNamed B.named
  have hlocks := B.notSynchronized
  have hin : meth.name = "<init>" := (name_of_methodNamed B.named B.method).1
  subst hsz
  have ht : ∀ w ∈ kx_tbl, w.before #[Value.ref h0] s = true := fun w h => hts w (List.mem_cons_of_mem _ h)
  have hD := hD0.self (sz := s.heap.size)
  generalize hAe : va_A [(h0, .inr (1, [.null, .int 0, .null]))] s.heap.size = A at hD ⊢
  have hA : ∀ q : Nat, s.heap.size ≤ q → A q := fun q h => by rw [← hAe]; exact Or.inr h
  have hS : va_S A s.heap s.heap [] := va_S.rf
  have hl := lv_entry ([.ref h0]) (n := 1) (Nat.le_of_ble_eq_true rfl)
  rw [lg_entry_eq]
  generalize (lg_sl ([.ref h0]) ++ List.replicate (1 - (lg_sl ([.ref h0])).length) Slot.unset).toArray = ls at hl ⊢
  have hl : lv_has ls 1 [(0, .ref h0)] := hl
  have hP : va_P D vwCl [(h0, .inr (1, [.null, .int 0, .null]))] s.heap := hP
  refine lv_aload_n hx hb (show decode cX1_init 0 = .ok (.aload_n 0, 1) from by decide +kernel) rfl (lv_at hl 0 rfl) ?_
  refine W.objInit hx hb hown (ht _ (kx_tb 161 (by decide +kernel) (by decide +kernel))) (ht _ (kx_tb 21 (by decide +kernel) (by decide +kernel))) (ht _ (show Cond.code Lib.objectInit ⟨#[0xb1]⟩ 1 none ∈ kx_tbl from (kx_tb 22 (by decide +kernel) (by decide +kernel)))) rfl (by rw [hml]; exact hl.1) rfl (show decode cX1_init 1 = .ok (.invokespecial 3, 3) from by decide +kernel) (Nat.le_of_ble_eq_true rfl) (Nat.le_of_ble_eq_true rfl) ?_
  refine W.eq (g2 := F0 m 4 ls []) rfl ?_
  refine lv_aload_n hx hb (show decode cX1_init 4 = .ok (.aload_n 0, 1) from by decide +kernel) rfl (lv_at hl 0 rfl) ?_
  refine lv_bipush (v := 6) hx hb (show decode cX1_init 5 = .ok (.bipush 6, 2) from by decide +kernel) (by decide) ?_
  refine va_newa (atype := .int) (ty := .int) (N' := 6) (a0 := (6, .inl (fun _ => 0))) hx hb (ht _ (kx_tb 107 (by decide +kernel) (by decide +kernel))) rfl hK hP hD hS hA (fun _ => rfl) (by decide) rfl (by decide) (Nat.le_of_ble_eq_true rfl) (Nat.le_of_ble_eq_true rfl) (show decode cX1_init 7 = .ok (.newarray .int, 2) from by decide +kernel) (fun q1 cA H hK1 hP hD hS => ?_)
  have hcA : cA = ac 0 := kc_ac0 hK hK1
  clear hK1
  subst hcA
  have hP : va_P D vwCl [(h0, .inr (1, [.null, .int 0, .null])), (q1, .inl (ac 0, 6, .inl (fun _ => 0)))] H := hP
  have hD : va_D A [(h0, .inr (1, [.null, .int 0, .null])), (q1, .inl (ac 0, 6, .inl (fun _ => 0)))] := hD
  refine va_putF (D := D) (ci := 1) (v := .ref q1) (ty := .array .int) (C := RX1) (T := TX1) (N := 3) hx hb ht kinX1 tyX1 tyX1_ok nmX1 hown hK hP hD hS 0 rfl rfl 0 (by decide) (ht _ (kx_tb 162 (by decide +kernel) (by decide +kernel))) (fun _ h9 => h9) rfl hin rfl (by decide +kernel) rfl rfl (Nat.le_of_ble_eq_true rfl) (show decode cX1_init 9 = .ok (.putfield 9, 3) from by decide +kernel) (fun H locs hP hD hS => ?_)
  have hP : va_P D vwCl [(h0, .inr (1, [.ref q1, .int 0, .null])), (q1, .inl (ac 0, 6, .inl (fun _ => 0)))] H := hP
  have hD : va_D A [(h0, .inr (1, [.ref q1, .int 0, .null])), (q1, .inl (ac 0, 6, .inl (fun _ => 0)))] := hD
  refine lv_aload_n hx hb (show decode cX1_init 12 = .ok (.aload_n 0, 1) from by decide +kernel) rfl (lv_at hl 0 rfl) ?_
  refine lv_bipush (v := 6) hx hb (show decode cX1_init 13 = .ok (.bipush 6, 2) from by decide +kernel) (by decide) ?_
  refine va_newa (atype := .int) (ty := .int) (N' := 6) (a0 := (6, .inl (fun _ => 0))) hx hb (ht _ (kx_tb 107 (by decide +kernel) (by decide +kernel))) rfl hK hP hD hS hA (fun _ => rfl) (by decide) rfl (by decide) (Nat.le_of_ble_eq_true rfl) (Nat.le_of_ble_eq_true rfl) (show decode cX1_init 15 = .ok (.newarray .int, 2) from by decide +kernel) (fun q2 cA H hK1 hP hD hS => ?_)
  have hcA : cA = ac 0 := kc_ac0 hK hK1
  clear hK1
  subst hcA
  have hP : va_P D vwCl [(h0, .inr (1, [.ref q1, .int 0, .null])), (q1, .inl (ac 0, 6, .inl (fun _ => 0))), (q2, .inl (ac 0, 6, .inl (fun _ => 0)))] H := hP
  have hD : va_D A [(h0, .inr (1, [.ref q1, .int 0, .null])), (q1, .inl (ac 0, 6, .inl (fun _ => 0))), (q2, .inl (ac 0, 6, .inl (fun _ => 0)))] := hD
  refine va_putF (D := D) (ci := 1) (v := .ref q2) (ty := .array .int) (C := RX1) (T := TX1) (N := 3) hx hb ht kinX1 tyX1 tyX1_ok nmX1 hown hK hP hD hS 0 rfl rfl 2 (by decide) (ht _ (kx_tb 166 (by decide +kernel) (by decide +kernel))) (fun _ h9 => h9) rfl hin rfl (by decide +kernel) rfl rfl (Nat.le_of_ble_eq_true rfl) (show decode cX1_init 17 = .ok (.putfield 15, 3) from by decide +kernel) (fun H locs hP hD hS => ?_)
  have hP : va_P D vwCl [(h0, .inr (1, [.ref q1, .int 0, .ref q2])), (q1, .inl (ac 0, 6, .inl (fun _ => 0))), (q2, .inl (ac 0, 6, .inl (fun _ => 0)))] H := hP
  have hD : va_D A [(h0, .inr (1, [.ref q1, .int 0, .ref q2])), (q1, .inl (ac 0, 6, .inl (fun _ => 0))), (q2, .inl (ac 0, 6, .inl (fun _ => 0)))] := hD
  refine W.widen (k := 2) (n := 12) (Nat.le_of_ble_eq_true rfl) (Nat.le_of_ble_eq_true rfl) ?_
  exact W.vret hx hb hr (fun t ht9 hW => ⟨⟨(), rfl, trivial, q1, q2, by rw [ht9]; exact hP, hAe ▸ hD⟩, hS.F ht9⟩) hS.2.2 (show decode cX1_init 20 = .ok (.return_, 1) from by decide +kernel)
set_option maxHeartbeats 4000000 in
set_option maxRecDepth 100000 in
theorem ci_X2 (l : Launch) (D : va_G) (ac : Nat → ClassId) (h0 sz : Nat) : Met l yX2_init (kx_ws T_X2_init) ({ frames := 1, cells := 1, slots := 40, locals := 12 }) (va_Pc [.ref h0] (fun U => U.heap.size = sz ∧ va_P D vwCl [(h0, .inr (2, [.null, .int 0, .int 0]))] U.heap ∧ va_K D vwCl (kx_ty ac) U ∧ va_D (fun _ => True) [(h0, .inr (2, [.null, .int 0, .int 0]))] ∧ kx_X EX id 0 U)) (va_Qv (fun _ : Unit => True) (fun _ t => ∃ q1 : Nat, va_P D vwCl [(h0, .inr (2, [.ref q1, .int 0, .int (-1)])), (q1, .inl (ac 2, 40, .inr (.inl (fun _ => 0))))] t.heap ∧ va_D (va_A [(h0, .inr (2, [.null, .int 0, .int 0]))] sz) [(h0, .inr (2, [.ref q1, .int 0, .int (-1)])), (q1, .inl (ac 2, 40, .inr (.inl (fun _ => 0))))]) (va_A [(h0, .inr (2, [.null, .int 0, .int 0]))] sz)) 1 40 (va_A [(h0, .inr (2, [.null, .int 0, .int 0]))] sz) := by
  refine Met.ofW (cc := cX2_init) (maxL := 1) (ret := none) (by decide) rfl ?_
  intro p e s m args below meth c s₁ B hml hv
  obtain ⟨rfl, hsz, hP, hK, hD0, hXX⟩ := hv
  have hx := B.exec
  have hb := B.bytes
  have hr := B.returns
  have hts := atoms_spec (ws := kx_ws T_X2_init) B.pre
  have hown : s.vm.findClass RX2 = some m.cls := findClass_of_methodNamed B.named
  have hlocks := B.notSynchronized
  have hin : meth.name = "<init>" := (name_of_methodNamed B.named B.method).1
  subst hsz
  have ht : ∀ w ∈ kx_tbl, w.before #[Value.ref h0] s = true := fun w h => hts w (List.mem_cons_of_mem _ h)
  have hD := hD0.self (sz := s.heap.size)
  generalize hAe : va_A [(h0, .inr (2, [.null, .int 0, .int 0]))] s.heap.size = A at hD ⊢
  have hA : ∀ q : Nat, s.heap.size ≤ q → A q := fun q h => by rw [← hAe]; exact Or.inr h
  have hS : va_S A s.heap s.heap [] := va_S.rf
  have hl := lv_entry ([.ref h0]) (n := 1) (Nat.le_of_ble_eq_true rfl)
  rw [lg_entry_eq]
  generalize (lg_sl ([.ref h0]) ++ List.replicate (1 - (lg_sl ([.ref h0])).length) Slot.unset).toArray = ls at hl ⊢
  have hl : lv_has ls 1 [(0, .ref h0)] := hl
  have hP : va_P D vwCl [(h0, .inr (2, [.null, .int 0, .int 0]))] s.heap := hP
  refine lv_aload_n hx hb (show decode cX2_init 0 = .ok (.aload_n 0, 1) from by decide +kernel) rfl (lv_at hl 0 rfl) ?_
  refine W.objInit hx hb hown (ht _ (kx_tb 114 (by decide +kernel) (by decide +kernel))) (ht _ (kx_tb 21 (by decide +kernel) (by decide +kernel))) (ht _ (show Cond.code Lib.objectInit ⟨#[0xb1]⟩ 1 none ∈ kx_tbl from (kx_tb 22 (by decide +kernel) (by decide +kernel)))) rfl (by rw [hml]; exact hl.1) rfl (show decode cX2_init 1 = .ok (.invokespecial 3, 3) from by decide +kernel) (Nat.le_of_ble_eq_true rfl) (Nat.le_of_ble_eq_true rfl) ?_
  refine W.eq (g2 := F0 m 4 ls []) rfl ?_
  refine lv_aload_n hx hb (show decode cX2_init 4 = .ok (.aload_n 0, 1) from by decide +kernel) rfl (lv_at hl 0 rfl) ?_
  refine lv_bipush (v := 40) hx hb (show decode cX2_init 5 = .ok (.bipush 40, 2) from by decide +kernel) (by decide) ?_
  refine va_newa (atype := .long) (ty := .long) (N' := 40) (a0 := (40, .inr (.inl (fun _ => 0)))) hx hb (ht _ (kx_tb 128 (by decide +kernel) (by decide +kernel))) rfl hK hP hD hS hA (fun _ => rfl) (by decide) rfl (by decide) (Nat.le_of_ble_eq_true rfl) (Nat.le_of_ble_eq_true rfl) (show decode cX2_init 7 = .ok (.newarray .long, 2) from by decide +kernel) (fun q1 cA H hK1 hP hD hS => ?_)
  have hcA : cA = ac 2 := kc_ac2 hK hK1
  clear hK1
  subst hcA
  have hP : va_P D vwCl [(h0, .inr (2, [.null, .int 0, .int 0])), (q1, .inl (ac 2, 40, .inr (.inl (fun _ => 0))))] H := hP
  have hD : va_D A [(h0, .inr (2, [.null, .int 0, .int 0])), (q1, .inl (ac 2, 40, .inr (.inl (fun _ => 0))))] := hD
  refine va_putF (D := D) (ci := 2) (v := .ref q1) (ty := .array .long) (C := RX2) (T := TX2) (N := 3) hx hb ht kinX2 tyX2 tyX2_ok nmX2 hown hK hP hD hS 0 rfl rfl 0 (by decide) (ht _ (kx_tb 115 (by decide +kernel) (by decide +kernel))) (fun _ h9 => h9) rfl hin rfl (by decide +kernel) rfl rfl (Nat.le_of_ble_eq_true rfl) (show decode cX2_init 9 = .ok (.putfield 9, 3) from by decide +kernel) (fun H locs hP hD hS => ?_)
  have hP : va_P D vwCl [(h0, .inr (2, [.ref q1, .int 0, .int 0])), (q1, .inl (ac 2, 40, .inr (.inl (fun _ => 0))))] H := hP
  have hD : va_D A [(h0, .inr (2, [.ref q1, .int 0, .int 0])), (q1, .inl (ac 2, 40, .inr (.inl (fun _ => 0))))] := hD
  refine lv_aload_n hx hb (show decode cX2_init 12 = .ok (.aload_n 0, 1) from by decide +kernel) rfl (lv_at hl 0 rfl) ?_
  refine lv_iconst (v := -1) hx hb (show decode cX2_init 13 = .ok (.iconst (-1), 1) from by decide +kernel) (by decide) ?_
  refine va_put (D := D) (ci := 2) (v := .int (-1)) (ty := .int) (C := RX2) (T := TX2) (N := 3) hx hb ht kinX2 tyX2 tyX2_ok nmX2 hown hK hP hD hS 0 rfl rfl 2 (by decide) (ht _ (kx_tb 119 (by decide +kernel) (by decide +kernel))) (fun _ h9 => h9) rfl (by decide +kernel) rfl rfl (Nat.le_of_ble_eq_true rfl) (show decode cX2_init 14 = .ok (.putfield 15, 3) from by decide +kernel) (fun H locs hP hD hS => ?_)
  have hP : va_P D vwCl [(h0, .inr (2, [.ref q1, .int 0, .int (-1)])), (q1, .inl (ac 2, 40, .inr (.inl (fun _ => 0))))] H := hP
  have hD : va_D A [(h0, .inr (2, [.ref q1, .int 0, .int (-1)])), (q1, .inl (ac 2, 40, .inr (.inl (fun _ => 0))))] := hD
  refine W.widen (k := 1) (n := 40) (Nat.le_of_ble_eq_true rfl) (Nat.le_of_ble_eq_true rfl) ?_
  exact W.vret hx hb hr (fun t ht9 hW => ⟨⟨(), rfl, trivial, q1, by rw [ht9]; exact hP, hAe ▸ hD⟩, hS.F ht9⟩) hS.2.2 (show decode cX2_init 17 = .ok (.return_, 1) from by decide +kernel)
set_option maxHeartbeats 4000000 in
set_option maxRecDepth 100000 in
theorem ci_X3 (l : Launch) (D : va_G) (ac : Nat → ClassId) (h0 sz : Nat) : Met l yX3_init (kx_ws T_X3_init) ({ frames := 1, cells := 1, slots := 250, locals := 12 }) (va_Pc [.ref h0] (fun U => U.heap.size = sz ∧ va_P D vwCl [(h0, .inr (3, [.null, .int 0, .int 0, .int 0, .int 0, .int 0]))] U.heap ∧ va_K D vwCl (kx_ty ac) U ∧ va_D (fun _ => True) [(h0, .inr (3, [.null, .int 0, .int 0, .int 0, .int 0, .int 0]))] ∧ kx_X EX id 0 U)) (va_Qv (fun _ : Unit => True) (fun _ t => ∃ q1 : Nat, va_P D vwCl [(h0, .inr (3, [.ref q1, .int 0, .int 0, .int 0, .int 0, .int 0])), (q1, .inl (ac 1, 250, .inl (fun _ => 0)))] t.heap ∧ va_D (va_A [(h0, .inr (3, [.null, .int 0, .int 0, .int 0, .int 0, .int 0]))] sz) [(h0, .inr (3, [.ref q1, .int 0, .int 0, .int 0, .int 0, .int 0])), (q1, .inl (ac 1, 250, .inl (fun _ => 0)))]) (va_A [(h0, .inr (3, [.null, .int 0, .int 0, .int 0, .int 0, .int 0]))] sz)) 1 250 (va_A [(h0, .inr (3, [.null, .int 0, .int 0, .int 0, .int 0, .int 0]))] sz) := by
  refine Met.ofW (cc := cX3_init) (maxL := 1) (ret := none) (by decide) rfl ?_
  intro p e s m args below meth c s₁ B hml hv
  obtain ⟨rfl, hsz, hP, hK, hD0, hXX⟩ := hv
  have hx := B.exec
  have hb := B.bytes
  have hr := B.returns
  have hts := atoms_spec (ws := kx_ws T_X3_init) B.pre
  have hown : s.vm.findClass RX3 = some m.cls := findClass_of_methodNamed B.named
  have hlocks := B.notSynchronized
  have hin : meth.name = "<init>" := (name_of_methodNamed B.named B.method).1
  subst hsz
  have ht : ∀ w ∈ kx_tbl, w.before #[Value.ref h0] s = true := fun w h => hts w (List.mem_cons_of_mem _ h)
  have hD := hD0.self (sz := s.heap.size)
  generalize hAe : va_A [(h0, .inr (3, [.null, .int 0, .int 0, .int 0, .int 0, .int 0]))] s.heap.size = A at hD ⊢
  have hA : ∀ q : Nat, s.heap.size ≤ q → A q := fun q h => by rw [← hAe]; exact Or.inr h
  have hS : va_S A s.heap s.heap [] := va_S.rf
  have hl := lv_entry ([.ref h0]) (n := 1) (Nat.le_of_ble_eq_true rfl)
  rw [lg_entry_eq]
  generalize (lg_sl ([.ref h0]) ++ List.replicate (1 - (lg_sl ([.ref h0])).length) Slot.unset).toArray = ls at hl ⊢
  have hl : lv_has ls 1 [(0, .ref h0)] := hl
  have hP : va_P D vwCl [(h0, .inr (3, [.null, .int 0, .int 0, .int 0, .int 0, .int 0]))] s.heap := hP
  refine lv_aload_n hx hb (show decode cX3_init 0 = .ok (.aload_n 0, 1) from by decide +kernel) rfl (lv_at hl 0 rfl) ?_
  refine W.objInit hx hb hown (ht _ (kx_tb 134 (by decide +kernel) (by decide +kernel))) (ht _ (kx_tb 21 (by decide +kernel) (by decide +kernel))) (ht _ (show Cond.code Lib.objectInit ⟨#[0xb1]⟩ 1 none ∈ kx_tbl from (kx_tb 22 (by decide +kernel) (by decide +kernel)))) rfl (by rw [hml]; exact hl.1) rfl (show decode cX3_init 1 = .ok (.invokespecial 3, 3) from by decide +kernel) (Nat.le_of_ble_eq_true rfl) (Nat.le_of_ble_eq_true rfl) ?_
  refine W.eq (g2 := F0 m 4 ls []) rfl ?_
  refine lv_aload_n hx hb (show decode cX3_init 4 = .ok (.aload_n 0, 1) from by decide +kernel) rfl (lv_at hl 0 rfl) ?_
  refine lv_sipush (v := 250) hx hb (show decode cX3_init 5 = .ok (.sipush 250, 3) from by decide +kernel) (by decide) ?_
  refine va_newa (atype := .char) (ty := .char) (N' := 250) (a0 := (250, .inl (fun _ => 0))) hx hb (ht _ (kx_tb 155 (by decide +kernel) (by decide +kernel))) rfl hK hP hD hS hA (fun _ => rfl) (by decide) rfl (by decide) (Nat.le_of_ble_eq_true rfl) (Nat.le_of_ble_eq_true rfl) (show decode cX3_init 8 = .ok (.newarray .char, 2) from by decide +kernel) (fun q1 cA H hK1 hP hD hS => ?_)
  have hcA : cA = ac 1 := kc_ac1 hK hK1
  clear hK1
  subst hcA
  have hP : va_P D vwCl [(h0, .inr (3, [.null, .int 0, .int 0, .int 0, .int 0, .int 0])), (q1, .inl (ac 1, 250, .inl (fun _ => 0)))] H := hP
  have hD : va_D A [(h0, .inr (3, [.null, .int 0, .int 0, .int 0, .int 0, .int 0])), (q1, .inl (ac 1, 250, .inl (fun _ => 0)))] := hD
  refine va_putF (D := D) (ci := 3) (v := .ref q1) (ty := .array .char) (C := RX3) (T := TX3) (N := 6) hx hb ht kinX3 tyX3 tyX3_ok nmX3 hown hK hP hD hS 0 rfl rfl 0 (by decide) (ht _ (kx_tb 135 (by decide +kernel) (by decide +kernel))) (fun _ h9 => h9) rfl hin rfl (by decide +kernel) rfl rfl (Nat.le_of_ble_eq_true rfl) (show decode cX3_init 10 = .ok (.putfield 9, 3) from by decide +kernel) (fun H locs hP hD hS => ?_)
  have hP : va_P D vwCl [(h0, .inr (3, [.ref q1, .int 0, .int 0, .int 0, .int 0, .int 0])), (q1, .inl (ac 1, 250, .inl (fun _ => 0)))] H := hP
  have hD : va_D A [(h0, .inr (3, [.ref q1, .int 0, .int 0, .int 0, .int 0, .int 0])), (q1, .inl (ac 1, 250, .inl (fun _ => 0)))] := hD
  refine W.widen (k := 1) (n := 250) (Nat.le_of_ble_eq_true rfl) (Nat.le_of_ble_eq_true rfl) ?_
  exact W.vret hx hb hr (fun t ht9 hW => ⟨⟨(), rfl, trivial, q1, by rw [ht9]; exact hP, hAe ▸ hD⟩, hS.F ht9⟩) hS.2.2 (show decode cX3_init 13 = .ok (.return_, 1) from by decide +kernel)
