/-! a method's entry; calls; the run of simple instructions -/
/-- the locals with which a method begins: its arguments, a long with its second half, then nothing -/
def kx_loc : List Value → List (Option Value)
  | [] => []
  | v :: vs => bif Nat.beq v.category 2 then some v :: none :: kx_loc vs else some v :: kx_loc vs
def kx_ent (n : Nat) (vs : List Value) : List (Option Value) := kx_loc vs ++ List.replicate (n - (kx_loc vs).length) none
theorem kx_loc_len (ad : Nat → Nat) : ∀ vs : List Value, (lg_sl (vs.map (kx_cv ad))).length = (kx_loc vs).length
  | [] => rfl
  | v :: vs => by
    have ih := kx_loc_len ad vs
    simp only [List.map_cons, lg_sl, List.flatMap_cons, kx_cv_cat] at ih ⊢
    rcases lv_cat v with h | h
    · rw [if_neg (by omega)]
      simp only [kx_loc, h, List.length_append, List.length_cons, List.length_nil, ih]
      simp [Nat.beq]
      omega
    · rw [if_pos h]
      simp only [kx_loc, h, List.length_append, List.length_cons, List.length_nil, ih]
      simp [Nat.beq]
      omega
theorem kx_loc_get (ad : Nat → Nat) : ∀ (vs : List Value) (j i : Nat) (v : Value), (kx_loc vs)[i]? = some (some v) → (j + i, kx_cv ad v) ∈ lv_args j (vs.map (kx_cv ad))
  | [], j, i, v, h => by simp [kx_loc] at h
  | x :: vs, j, i, v, h => by
    rcases lv_cat x with hc | hc
    · simp only [kx_loc, hc] at h
      simp only [List.map_cons, lv_args, kx_cv_cat, hc]
      cases i with
      | zero =>
        simp [Nat.beq] at h
        subst h
        exact List.mem_cons_self
      | succ i =>
        simp [Nat.beq] at h
        have ih := kx_loc_get ad vs (j + 1) i v h
        rw [show j + 1 + i = j + (i + 1) by omega] at ih
        exact List.mem_cons_of_mem _ (by simpa using ih)
    · simp only [kx_loc, hc] at h
      simp only [List.map_cons, lv_args, kx_cv_cat, hc]
      match i, h with
      | 0, h =>
        simp [Nat.beq] at h
        subst h
        exact List.mem_cons_self
      | 1, h => simp [Nat.beq] at h
      | i + 2, h =>
        simp [Nat.beq] at h
        have ih := kx_loc_get ad vs (j + 2) i v h
        rw [show j + 2 + i = j + (i + 2) by omega] at ih
        exact List.mem_cons_of_mem _ (by simpa using ih)
theorem kx_ent_lr (ad : Nat → Nat) {n : Nat} {vs : List Value} {ls : Array Slot} (hn : (kx_loc vs).length ≤ n) (h : lv_has ls n (lv_args 0 (vs.map (kx_cv ad)))) : kx_lr ad ls n (kx_ent n vs) := by
  refine ⟨by unfold kx_ent; simp; omega, _, h, fun i v hi => ?_⟩
  unfold kx_ent at hi
  by_cases hl : i < (kx_loc vs).length
  · rw [List.getElem?_append_left hl] at hi
    have := kx_loc_get ad vs 0 i v hi
    simpa using this
  · rw [List.getElem?_append_right (by omega)] at hi
    have := List.mem_of_getElem? hi
    simp at this
/-- a method's contract, out of its walk from the entry -/
theorem kx_entry {E : kx_E} {T : kx_T} {d : Nat} {av : List Value} {M M' : kx_M} {r : Option Value} (hT : kx_MOk T) (hn : (kx_loc av).length ≤ T.2.2.1) (hc : T.1.cls = T.2.2.2.2.1) (k : kx_Rn E T d (0, kx_ent T.2.2.1 av, [], M) r M') : kx_Call E d T av M r M' := by
  intro l D ac ad sz
  refine Met.ofW (cc := T.2.1) (maxL := T.2.2.1) (ret := T.2.2.2.1) hT.1 rfl ?_
  intro p e s m args below meth c s₁ B hml hv
  obtain ⟨rfl, hsz, hP, hK, hD0, hXX⟩ := hv
  have hts := atoms_spec (ws := kx_ws T) B.pre
  have hown : s.vm.findClass T.2.2.2.2.1 = some m.cls := by rw [← hc]; exact findClass_of_methodNamed B.named
  have hl := lv_entry (av.map (kx_cv ad)) (n := T.2.2.1) (by rw [kx_loc_len]; exact hn)
  rw [lg_entry_eq]
  subst hsz
  exact k p l e s m _ below meth c D ac ad s.heap [] _ ⟨B.exec, B.bytes, hml, B.returns, hown, hts, hK, B.notSynchronized, hT⟩ hXX hP (kx_D_of hD0 (fun o ho => kx_Ain ho)) va_S.rf (kx_ent_lr ad hn hl)
/-- a callee as the tables have it -/
def kx_Lk (own : String) (a : Nat) (U : kx_T) (n : Nat) : Prop := (U.1.cls ≠ "java/lang/invoke/MethodHandle" ∧ U.1.cls ≠ "java/lang/invoke/VarHandle" ∧ (parseMethodDescriptor U.1.desc).map (fun d => d.parameters.length) = some n) ∧ Cond.methodLink own a U.1 ∈ kx_tbl ∧ Cond.initialized U.1.cls ∈ kx_tbl ∧ Cond.code U.1 U.2.1 U.2.2.1 U.2.2.2.1 ∈ kx_tbl
theorem kx_good {w : Cond} (h : w ∈ kx_tbl) : ((w.onTables && w.keeps) = true ∨ ∃ ty, w = .arrayClass ty) := good_of_word (List.mem_filter.mp h).2
theorem kx_goodIn {T U : kx_T} (h : Cond.code U.1 U.2.1 U.2.2.1 U.2.2.2.1 ∈ kx_tbl) : GoodIn (kx_ws T) (kx_ws U) := by
  intro w hw
  rcases List.mem_cons.mp hw with q | q
  · subst q
    exact ⟨List.mem_cons_of_mem _ h, kx_good h⟩
  · exact ⟨List.mem_cons_of_mem _ q, kx_good q⟩
section KXC
variable {E : kx_E} {T U : kx_T} {d : Nat} {r : Option Value} {M' M M1 : kx_M} {pc a b n : Nat} {c : Int32} {L : List (Option Value)} {st rest as : List Value}
theorem kx_blind (E : kx_E) (D : va_G) (ac : Nat → ClassId) (ad : Nat → Nat) (sz : Nat) (M : kx_M) (av : List Value) : FrameBlind (va_Pc (av.map (kx_cv ad)) (fun U => U.heap.size = sz ∧ va_P D vwCl (kx_wld E ac ad M) U.heap ∧ va_K D vwCl (kx_ty ac) U ∧ va_D (fun _ => True) (kx_wld E ac ad M) ∧ kx_X E ad sz U)) := by
  intro a U g mk h
  obtain ⟨h0, h1, h2, h3, h4, h5⟩ := h
  exact ⟨h0, h1, h2, va_K.moved (u := U) (U := U.calling g mk a) (Vm.Alike.refl U.vm) h3, h4, h5.call g mk a⟩
theorem kx_catsum (ad : Nat → Nat) : ∀ st : List Value, ((st.map (kx_cv ad)).map fun v => v.category).sum = (st.map fun v => v.category).sum
  | [] => rfl
  | v :: st => by simp only [List.map_cons, List.sum_cons, kx_cv_cat, kx_catsum ad st]
/-- behind a call whose run is there: whatever it answers, the walk goes on -/
theorem kx_after {p : Program} {l : Launch} {e : Env} {s : State} {m : MethodId} {args : Array Value} {below : List Frame} {meth : Method} {c0 : Code} {D : va_G} {ac : Nat → ClassId} {ad : Nat → Nat} {H : Heap} {locs : List Loc} {ls : Array Slot} {rv : Option Value} {st0 : List Value} {a0 : Array Value}
    (hC : kx_Cx p s m args meth c0 T D ac) (hXX : kx_X E ad s.heap.size s) (hP : va_P D vwCl (kx_wld E ac ad M) H) (hD : va_D (kx_A E ad s.heap.size) (kx_wld E ac ad M)) (hS : va_S (kx_A E ad s.heap.size) s.heap H locs) (hl : kx_lr ad ls T.2.2.1 L)
    (hr : va_Run p l e (kx_rm d) s m args below meth c0 H locs 0 0 0 0 (F0 m pc ls st0) (rest.map (kx_cv ad)) (kx_Q E rv M1 D ac ad (kx_A E ad H.size) a0) (kx_A E ad H.size))
    (k : kx_Rn E T d (pc + 3, L, rv.toList ++ rest, M1) r M') :
    W p l e (kx_rm d) s m args below meth c0 H locs 0 0 (MQ below (kx_Q E r M' D ac ad (kx_A E ad s.heap.size)) args s 0 0 (kx_A E ad s.heap.size)) (F0 m pc ls st0) := by
  have hA : ∀ q, q < H.size → kx_A E ad H.size q → kx_A E ad s.heap.size q := by
    intro q h1 h2
    rcases h2 with h2 | h2
    · exact Or.inl h2
    · omega
  have hf : ∀ q, kx_A E ad H.size q → kx_A E ad s.heap.size q := by
    intro q h2
    rcases h2 with h2 | h2
    · exact Or.inl h2
    · exact Or.inr (Nat.le_trans hS.1 h2)
  have go : ∀ (t : State) (H1 : Heap) (locs1 : List Loc), t.heap = H1 → s.vm.Alike t.vm → kx_B E M1 D ac ad t → va_S (kx_A E ad s.heap.size) s.heap H1 locs1 → W p l e (kx_rm d) s m args below meth c0 H1 locs1 (0 + 0) (0 + 0) (MQ below (kx_Q E r M' D ac ad (kx_A E ad s.heap.size)) args s 0 0 (kx_A E ad s.heap.size)) (F0 m (pc + 3) ls ((rv.toList ++ rest).map (kx_cv ad))) := by
    intro t H1 locs1 ht hvm hB hS1
    exact k p l e s m args below meth c0 D ac ad H1 locs1 ls hC hXX (by rw [← ht]; exact hB.1) (kx_D_of hD (fun o ho => kx_Ain ho)) hS1 hl
  match rv, hr, go with
  | some (.int x), hr, go =>
    refine va_calli (a := a0) hr hS hA hf (fun y u t H1 locs1 ht hvm hw hB _ _ hS1 => ?_)
    subst hw
    exact go t H1 locs1 ht hvm hB hS1
  | some (.long x), hr, go =>
    refine va_calll (a := a0) hr hS hA hf (fun y u t H1 locs1 ht hvm hw hB _ _ hS1 => ?_)
    subst hw
    exact go t H1 locs1 ht hvm hB hS1
  | none, hr, go => exact va_callv (a := a0) hr hS hA hf (fun u t H1 locs1 ht hvm hw hB _ _ hS1 => go t H1 locs1 ht hvm hB hS1)
  | some (.float x), hr, go =>
    intro T0 hT0 X
    obtain ⟨v, st₀, t, T', L', h0, X', hL, e1, e2, hq, st⟩ := hr T0 hT0 X
    exact hq.elim
  | some (.double x), hr, go =>
    intro T0 hT0 X
    obtain ⟨v, st₀, t, T', L', h0, X', hL, e1, e2, hq, st⟩ := hr T0 hT0 X
    exact hq.elim
  | some (.ref x), hr, go =>
    intro T0 hT0 X
    obtain ⟨v, st₀, t, T', L', h0, X', hL, e1, e2, hq, st⟩ := hr T0 hT0 X
    exact hq.elim
  | some (.retAddr x), hr, go =>
    intro T0 hT0 X
    obtain ⟨v, st₀, t, T', L', h0, X', hL, e1, e2, hq, st⟩ := hr T0 hT0 X
    exact hq.elim
  | some .null, hr, go =>
    intro T0 hT0 X
    obtain ⟨v, st₀, t, T', L', h0, X', hL, e1, e2, hq, st⟩ := hr T0 hT0 X
    exact hq.elim
theorem kx_r_callS {rv : Option Value} (hI : T.2.2.2.2.2 pc = (71, a, b, c)) (hL : kx_Lk T.2.2.2.2.1 a U n) (hs : Cond.static U.1 ∈ kx_tbl) (hst : st = as.reverse ++ rest) (hn : as.length = n) (hcat : (rest.map fun v => v.category).sum ≤ 8) (hm : U.2.2.1 ≤ 20) (hM : kx_Call E d U as M rv M1) (k : kx_Rn E T (d + 1) (pc + 3, L, rv.toList ++ rest, M1) r M') : kx_Rn E T (d + 1) (pc, L, st, M) r M' := by
  intro p l e s m args below meth c0 D ac ad H locs ls hC hXX hP hD hS hl
  obtain ⟨hx, hb, hml, hr, hown, hts, hK, hlocks, hT⟩ := id hC
  obtain ⟨hd, h1, h2, h3⟩ := hL
  have ht : ∀ w ∈ kx_tbl, w.before args s = true := fun w h => hts w (List.mem_cons_of_mem _ h)
  have cb := callB_of (R := kx_rm (d + 1)) (s := s) (args := args) (own := T.2.2.2.2.1) (index := a) (y := U.1) (bytes := U.2.1) (maxL := U.2.2.1) (ret := U.2.2.2.1) (rm := kx_rm d) (mc := 0) (ms := 0) n hts (kx_goodIn (T := T) h3) rfl rfl rfl (ht _ h2) (ht _ h1) hd ⟨Nat.le_refl _, by show 8 + (U.2.2.1 + 11) + 40 * d ≤ 40 * (d + 1); omega⟩
  refine kx_after (M1 := M1) (rest := rest) hC hXX hP hD hS hl (va_runS (As := as.map (kx_cv ad)) (rest := rest.map (kx_cv ad)) ⟨hx, hb, hml, hown, hts⟩ (hM l D ac ad H.size) ⟨cb, ht _ hs⟩ ⟨kx_blind E D ac ad H.size M as, fun U' hU hW => ⟨rfl, by rw [hU], by rw [hU]; exact hP, va_K.moved hW.alike hK, kx_D_of hD (fun _ _ => trivial), hXX.warm hW hU hS⟩⟩ rfl (by rw [List.length_map]; exact hn) hl.2.choose_spec.1.1 (by rw [hst]; simp) (lv_room (by rw [kx_catsum]; exact hcat)) (kx_dec hT hI rfl).1 ⟨Nat.le_refl _, Nat.le_refl _⟩) k
theorem kx_r_callV {rv : Option Value} {o ci : Nat} {fs : List (Option Nat)} {cl : vw_C} (hI : T.2.2.2.2.2 pc = (70, a, b, c)) (hL : kx_Lk T.2.2.2.2.1 a U n) (hs : Cond.instanceMethod U.1 ∈ kx_tbl ∧ Cond.selects U.1.cls U.1 U.1 ∈ kx_tbl) (hst : st = as.reverse ++ .ref o :: rest) (hn : as.length = n) (ho : o < E.2.2) (hE : E.1 o = some (ci, fs)) (hci : vwCl[ci]? = some cl) (hcl : cl.1 = U.1.cls) (hcat : (rest.map fun v => v.category).sum ≤ 8) (hm : U.2.2.1 ≤ 20) (hM : kx_Call E d U (.ref o :: as) M rv M1) (k : kx_Rn E T (d + 1) (pc + 3, L, rv.toList ++ rest, M1) r M') : kx_Rn E T (d + 1) (pc, L, st, M) r M' := by
  intro p l e s m args below meth c0 D ac ad H locs ls hC hXX hP hD hS hl
  obtain ⟨hx, hb, hml, hr, hown, hts, hK, hlocks, hT⟩ := id hC
  obtain ⟨hd, h1, h2, h3⟩ := hL
  have ht : ∀ w ∈ kx_tbl, w.before args s = true := fun w h => hts w (List.mem_cons_of_mem _ h)
  have cb := callB_of (R := kx_rm (d + 1)) (s := s) (args := args) (own := T.2.2.2.2.1) (index := a) (y := U.1) (bytes := U.2.1) (maxL := U.2.2.1) (ret := U.2.2.2.1) (rm := kx_rm d) (mc := 0) (ms := 0) n hts (kx_goodIn (T := T) h3) rfl rfl rfl (ht _ h2) (ht _ h1) hd ⟨Nat.le_refl _, by show 8 + (U.2.2.1 + 11) + 40 * d ≤ 40 * (d + 1); omega⟩
  have hrecv := va_recv hK hP hci ((kx_wget ho).trans (by rw [kx_cellO hE]))
  rw [hcl] at hrecv
  refine kx_after (M1 := M1) (rest := rest) hC hXX hP hD hS hl (va_runV (b := ad o) (As := as.map (kx_cv ad)) (rest := rest.map (kx_cv ad)) ⟨hx, hb, hml, hown, hts⟩ (hM l D ac ad H.size) ⟨cb, ht _ hs.1, ht _ hs.2⟩ ⟨kx_blind E D ac ad H.size M (.ref o :: as), hrecv, fun U' hU hW => ⟨rfl, by rw [hU], by rw [hU]; exact hP, va_K.moved hW.alike hK, kx_D_of hD (fun _ _ => trivial), hXX.warm hW hU hS⟩⟩ rfl (by rw [List.length_map]; exact hn) hl.2.choose_spec.1.1 (by rw [hst]; simp [kx_cv]) (lv_room (by rw [kx_catsum]; exact hcat)) (kx_dec hT hI rfl).1 ⟨Nat.le_refl _, Nat.le_refl _⟩) k
/-- a call of a nest mate's private static method -/
theorem kx_r_callN {rv : Option Value} (hI : T.2.2.2.2.2 pc = (71, a, b, c)) (hw : Cond.methodLinkNest T.2.2.2.2.1 a U.1 "VeilsOfTheView" ∈ kx_nests) (hd : U.1.cls ≠ "java/lang/invoke/MethodHandle" ∧ U.1.cls ≠ "java/lang/invoke/VarHandle" ∧ (parseMethodDescriptor U.1.desc).map (fun d => d.parameters.length) = some n) (hi : Cond.initialized U.1.cls ∈ kx_tbl) (hc : Cond.code U.1 U.2.1 U.2.2.1 U.2.2.2.1 ∈ kx_tbl) (hs : Cond.static U.1 ∈ kx_tbl) (hst : st = as.reverse ++ rest) (hn : as.length = n) (hcat : (rest.map fun v => v.category).sum ≤ 8) (hm : U.2.2.1 ≤ 20) (hM : kx_Call E d U as M rv M1) (k : kx_Rn E T (d + 1) (pc + 3, L, rv.toList ++ rest, M1) r M') : kx_Rn E T (d + 1) (pc, L, st, M) r M' := by
  intro p l e s m args below meth c0 D ac ad H locs ls hC hXX hP hD hS hl
  obtain ⟨hx, hb, hml, hr, hown, hts, hK, hlocks, hT⟩ := id hC
  have ht : ∀ w ∈ kx_tbl, w.before args s = true := fun w h => hts w (List.mem_cons_of_mem _ h)
  have cb := va_cnB (R := kx_rm (d + 1)) (s := s) (args := args) (own := T.2.2.2.2.1) (host := "VeilsOfTheView") (index := a) (y := U.1) (bytes := U.2.1) (maxL := U.2.2.1) (ret := U.2.2.2.1) (rm := kx_rm d) (mc := 0) (ms := 0) n hts (kx_goodIn (T := T) hc) rfl rfl rfl (hXX.1 _ hw) (ht _ hi) hd ⟨Nat.le_refl _, by show 8 + (U.2.2.1 + 11) + 40 * d ≤ 40 * (d + 1); omega⟩
  refine kx_after (M1 := M1) (rest := rest) hC hXX hP hD hS hl (va_runSN (As := as.map (kx_cv ad)) (rest := rest.map (kx_cv ad)) ⟨hx, hb, hml, hown, hts⟩ (hM l D ac ad H.size) ⟨cb, ht _ hs, trivial⟩ ⟨kx_blind E D ac ad H.size M as, fun U' hU hW => ⟨rfl, by rw [hU], by rw [hU]; exact hP, va_K.moved hW.alike hK, kx_D_of hD (fun _ _ => trivial), hXX.warm hW hU hS⟩⟩ rfl (by rw [List.length_map]; exact hn) hl.2.choose_spec.1.1 (by rw [hst]; simp) (lv_room (by rw [kx_catsum]; exact hcat)) (kx_dec hT hI rfl).1 ⟨Nat.le_refl _, Nat.le_refl _⟩) k
end KXC
