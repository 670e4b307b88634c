/-! fields, arrays, calls, ends; the run of simple instructions -/
section KXH
variable {E : kx_E} {T : kx_T} {d : Nat} {r : Option Value} {M' M : kx_M} {pc a b : Nat} {c : Int32} {L : List (Option Value)} {st : List Value}
/-- a field of a class, as a method of 'own' names it by index a: kind ci, slot k -/
def kx_Fl (own : String) (a ci k : Nat) : Prop := ∃ (C : String) (TT : u_T) (N : Nat), vwCl[ci]? = some (C, TT, N) ∧ k < N ∧ (∀ w ∈ u_ws C TT N, w ∈ kx_tbl) ∧ Cond.fieldLink own a (TT k).1 (TT k).2.1 (TT k).2.2.1 ∈ kx_tbl
/-- the same, of a field that isn't final and of sort int -/
def kx_Fw (own : String) (a ci k : Nat) : Prop := ∃ (C : String) (TT : u_T) (N : Nat) (ty0 : Nat → FieldType), vwCl[ci]? = some (C, TT, N) ∧ k < N ∧ (∀ w ∈ u_ws C TT N, w ∈ kx_tbl) ∧ Cond.fieldLink own a (TT k).1 (TT k).2.1 (TT k).2.2.1 ∈ kx_tbl ∧ (∀ k, k < N → parseFieldDescriptor (TT k).2.2.1 = some (ty0 k)) ∧ (∀ a, a < N → ∀ b, b < N → a ≠ b → (TT a).2.1 ≠ (TT b).2.1) ∧ (TT k).2.2.2 = false ∧ ty0 k = .int
/-- the same, of sort boolean -/
def kx_Fz (own : String) (a ci k : Nat) : Prop := ∃ (C : String) (TT : u_T) (N : Nat) (ty0 : Nat → FieldType), vwCl[ci]? = some (C, TT, N) ∧ k < N ∧ (∀ w ∈ u_ws C TT N, w ∈ kx_tbl) ∧ Cond.fieldLink own a (TT k).1 (TT k).2.1 (TT k).2.2.1 ∈ kx_tbl ∧ (∀ k, k < N → parseFieldDescriptor (TT k).2.2.1 = some (ty0 k)) ∧ (∀ a, a < N → ∀ b, b < N → a ≠ b → (TT a).2.1 ≠ (TT b).2.1) ∧ (TT k).2.2.2 = false ∧ ty0 k = .boolean
theorem kx_cellO {ac : Nat → ClassId} {ad : Nat → Nat} {o ci : Nat} {fs : List (Option Nat)} (h : E.1 o = some (ci, fs)) : kx_cell E ac ad M o = .inr (ci, kx_fv ad (M.1 o) 0 fs) := by unfold kx_cell; rw [h]
theorem kx_cellA {ac : Nat → ClassId} {ad : Nat → Nat} {o t n : Nat} {rf : Nat → Nat} (h : E.1 o = none) (h2 : E.2.1 o = some (t, n, rf)) : kx_cell E ac ad M o = .inl (ac t, n, if t = 2 then .inr (.inl (M.2 o)) else if t = 3 then .inr (.inr (.inr (.inr (fun k => some (ad (rf k)))))) else .inl (M.1 o)) := by unfold kx_cell; rw [h, h2]
theorem kx_r_getI {ci k o : Nat} {fs : List (Option Nat)} (hI : T.2.2.2.2.2 pc = (50, a, b, c)) (hF : kx_Fl T.2.2.2.2.1 a ci k) (ho : o < E.2.2) (hE : E.1 o = some (ci, fs)) (hf : fs[k]? = some none) (k : kx_Rn E T d (pc + 3, L, .int (M.1 o k) :: st, M) r M') : kx_Rn E T d (pc, L, .ref o :: st, M) r M' := by
  intro p l e s m args below meth c0 D ac ad H locs ls hC hXX hP hD hS hl
  obtain ⟨hx, hb, hml, hr, hown, hts, hK, hlocks, hT⟩ := id hC
  obtain ⟨C, TT, N, hc, hk, hin, hw⟩ := hF
  have hg := kx_fv_get (ad := ad) (g := M.1 o) fs 0 _ none hf
  simp only [Nat.zero_add] at hg
  exact va_get hx hb (Ts := kx_tbl) (fun w h => hts w (List.mem_cons_of_mem _ h)) hin hown hK hP o ((kx_wget ho).trans (by rw [kx_cellO hE])) hc _ hk (hts _ (List.mem_cons_of_mem _ hw)) (fun _ h9 => h9) hg (kx_dec hT hI rfl).1 (k p l e s m args below meth c0 D ac ad H locs ls hC hXX hP hD hS hl)
theorem kx_r_getR {ci k o j : Nat} {fs : List (Option Nat)} (hI : T.2.2.2.2.2 pc = (50, a, b, c)) (hF : kx_Fl T.2.2.2.2.1 a ci k) (ho : o < E.2.2) (hE : E.1 o = some (ci, fs)) (hf : fs[k]? = some (some j)) (k : kx_Rn E T d (pc + 3, L, .ref j :: st, M) r M') : kx_Rn E T d (pc, L, .ref o :: st, M) r M' := by
  intro p l e s m args below meth c0 D ac ad H locs ls hC hXX hP hD hS hl
  obtain ⟨hx, hb, hml, hr, hown, hts, hK, hlocks, hT⟩ := id hC
  obtain ⟨C, TT, N, hc, hk, hin, hw⟩ := hF
  have hg := kx_fv_get (ad := ad) (g := M.1 o) fs 0 _ (some j) hf
  simp only [Nat.zero_add] at hg
  exact va_get hx hb (Ts := kx_tbl) (fun w h => hts w (List.mem_cons_of_mem _ h)) hin hown hK hP o ((kx_wget ho).trans (by rw [kx_cellO hE])) hc _ hk (hts _ (List.mem_cons_of_mem _ hw)) (fun _ h9 => h9) hg (kx_dec hT hI rfl).1 (k p l e s m args below meth c0 D ac ad H locs ls hC hXX hP hD hS hl)
theorem kx_r_putI {ci k o : Nat} {fs : List (Option Nat)} {v : Int32} (hI : T.2.2.2.2.2 pc = (51, a, b, c)) (hF : kx_Fw T.2.2.2.2.1 a ci k) (ho : o < E.2.2) (hE : E.1 o = some (ci, fs)) (hf : fs[k]? = some none) (kk : kx_Rn E T d (pc + 3, L, st, kx_u1 M o k v) r M') : kx_Rn E T d (pc, L, .int v :: .ref o :: st, M) r M' := by
  intro p l e s m args below meth c0 D ac ad H locs ls hC hXX hP hD hS hl
  obtain ⟨hx, hb, hml, hr, hown, hts, hK, hlocks, hT⟩ := id hC
  obtain ⟨C, TT, N, ty0, hc, hk, hin, hw, h1, h2, h3, h4⟩ := hF
  have hset : (kx_wld E ac ad M).set o (ad o, .inr (ci, (kx_fv ad (M.1 o) 0 fs).set k (.int v))) = kx_wld E ac ad (kx_u1 M o k v) := by
    refine kx_wset ho ?_ (fun o' ho' => kx_cell_ne (kx_u1_ne ho') rfl)
    rw [kx_cellO hE, kx_fv_set fs 0 k hf (fun j => ?_)]
    rw [kx_u1_eq]
    unfold upd
    simp only [Nat.zero_add]
  refine va_put (D := D) (ci := ci) (v := .int v) (ty := .int) hx hb (Ts := kx_tbl) (fun w h => hts w (List.mem_cons_of_mem _ h)) hin ty0 h1 h2 hown hK hP hD hS o ((kx_wget ho).trans (by rw [kx_cellO hE])) hc k hk (hts _ (List.mem_cons_of_mem _ hw)) (fun _ h9 => h9) h3 (by rw [h1 k hk, h4]) rfl rfl (by rw [kx_fv_len]; exact (List.getElem?_eq_some_iff.mp hf).1) (kx_dec hT hI rfl).1 (fun H1 locs1 hP1 hD1 hS1 => ?_)
  rw [hset] at hP1 hD1
  exact kk p l e s m args below meth c0 D ac ad H1 locs1 ls hC hXX hP1 hD1 hS1 hl
theorem kx_r_putZ {ci k o : Nat} {fs : List (Option Nat)} {v : Int32} (hI : T.2.2.2.2.2 pc = (51, a, b, c)) (hF : kx_Fz T.2.2.2.2.1 a ci k) (hv : v = 0 ∨ v = 1) (ho : o < E.2.2) (hE : E.1 o = some (ci, fs)) (hf : fs[k]? = some none) (kk : kx_Rn E T d (pc + 3, L, st, kx_u1 M o k v) r M') : kx_Rn E T d (pc, L, .int v :: .ref o :: st, M) r M' := by
  intro p l e s m args below meth c0 D ac ad H locs ls hC hXX hP hD hS hl
  obtain ⟨hx, hb, hml, hr, hown, hts, hK, hlocks, hT⟩ := id hC
  obtain ⟨C, TT, N, ty0, hc, hk, hin, hw, h1, h2, h3, h4⟩ := hF
  have hset : (kx_wld E ac ad M).set o (ad o, .inr (ci, (kx_fv ad (M.1 o) 0 fs).set k (.int v))) = kx_wld E ac ad (kx_u1 M o k v) := by
    refine kx_wset ho ?_ (fun o' ho' => kx_cell_ne (kx_u1_ne ho') rfl)
    rw [kx_cellO hE, kx_fv_set fs 0 k hf (fun j => ?_)]
    rw [kx_u1_eq]
    unfold upd
    simp only [Nat.zero_add]
  have hv1 : narrow .boolean (.int v) = .int v := by rcases hv with q | q <;> rw [q] <;> decide +kernel
  have hv2 : fits .boolean (.int v) = true := by rcases hv with q | q <;> rw [q] <;> decide +kernel
  refine va_put (D := D) (ci := ci) (v := .int v) (ty := .boolean) hx hb (Ts := kx_tbl) (fun w h => hts w (List.mem_cons_of_mem _ h)) hin ty0 h1 h2 hown hK hP hD hS o ((kx_wget ho).trans (by rw [kx_cellO hE])) hc k hk (hts _ (List.mem_cons_of_mem _ hw)) (fun _ h9 => h9) h3 (by rw [h1 k hk, h4]) hv1 hv2 (by rw [kx_fv_len]; exact (List.getElem?_eq_some_iff.mp hf).1) (kx_dec hT hI rfl).1 (fun H1 locs1 hP1 hD1 hS1 => ?_)
  rw [hset] at hP1 hD1
  exact kk p l e s m args below meth c0 D ac ad H1 locs1 ls hC hXX hP1 hD1 hS1 hl
theorem kx_r_iald {o n : Nat} {rf : Nat → Nat} {i : Int32} (hI : T.2.2.2.2.2 pc = (52, a, b, c)) (ho : o < E.2.2) (hE : E.1 o = none) (hA : E.2.1 o = some (0, n, rf)) (hi : vp_in i n) (k : kx_Rn E T d (pc + 1, L, .int (M.1 o i.toNatClampNeg) :: st, M) r M') : kx_Rn E T d (pc, L, .int i :: .ref o :: st, M) r M' := by
  intro p l e s m args below meth c0 D ac ad H locs ls hC hXX hP hD hS hl
  obtain ⟨hx, hb, hml, hr, hown, hts, hK, hlocks, hT⟩ := id hC
  exact va_iald hx hb hK hP o 0 ((kx_wget ho).trans (by rw [kx_cellA hE hA]; rfl)) rfl hi (kx_dec hT hI rfl).1 (k p l e s m args below meth c0 D ac ad H locs ls hC hXX hP hD hS hl)
theorem kx_r_cald {o n : Nat} {rf : Nat → Nat} {i : Int32} (hI : T.2.2.2.2.2 pc = (53, a, b, c)) (ho : o < E.2.2) (hE : E.1 o = none) (hA : E.2.1 o = some (1, n, rf)) (hi : vp_in i n) (k : kx_Rn E T d (pc + 1, L, .int (M.1 o i.toNatClampNeg) :: st, M) r M') : kx_Rn E T d (pc, L, .int i :: .ref o :: st, M) r M' := by
  intro p l e s m args below meth c0 D ac ad H locs ls hC hXX hP hD hS hl
  obtain ⟨hx, hb, hml, hr, hown, hts, hK, hlocks, hT⟩ := id hC
  exact va_cald hx hb hK hP o 1 ((kx_wget ho).trans (by rw [kx_cellA hE hA]; rfl)) rfl hi (kx_dec hT hI rfl).1 (k p l e s m args below meth c0 D ac ad H locs ls hC hXX hP hD hS hl)
theorem kx_r_lald {o n : Nat} {rf : Nat → Nat} {i : Int32} (hI : T.2.2.2.2.2 pc = (54, a, b, c)) (ho : o < E.2.2) (hE : E.1 o = none) (hA : E.2.1 o = some (2, n, rf)) (hi : vp_in i n) (k : kx_Rn E T d (pc + 1, L, .long (M.2 o i.toNatClampNeg) :: st, M) r M') : kx_Rn E T d (pc, L, .int i :: .ref o :: st, M) r M' := by
  intro p l e s m args below meth c0 D ac ad H locs ls hC hXX hP hD hS hl
  obtain ⟨hx, hb, hml, hr, hown, hts, hK, hlocks, hT⟩ := id hC
  exact va_lald hx hb hK hP o 2 ((kx_wget ho).trans (by rw [kx_cellA hE hA]; rfl)) rfl hi (kx_dec hT hI rfl).1 (k p l e s m args below meth c0 D ac ad H locs ls hC hXX hP hD hS hl)
theorem kx_r_aald {o n : Nat} {rf : Nat → Nat} {i : Int32} (hI : T.2.2.2.2.2 pc = (55, a, b, c)) (ho : o < E.2.2) (hE : E.1 o = none) (hA : E.2.1 o = some (3, n, rf)) (hi : vp_in i n) (k : kx_Rn E T d (pc + 1, L, .ref (rf i.toNatClampNeg) :: st, M) r M') : kx_Rn E T d (pc, L, .int i :: .ref o :: st, M) r M' := by
  intro p l e s m args below meth c0 D ac ad H locs ls hC hXX hP hD hS hl
  obtain ⟨hx, hb, hml, hr, hown, hts, hK, hlocks, hT⟩ := id hC
  exact va_aldq (f := fun k => some (ad (rf k))) hx hb hK hP o 3 ((kx_wget ho).trans (by rw [kx_cellA hE hA]; rfl)) rfl hi (kx_dec hT hI rfl).1 (k p l e s m args below meth c0 D ac ad H locs ls hC hXX hP hD hS hl)
theorem kx_r_iast {o n : Nat} {rf : Nat → Nat} {i v : Int32} (hI : T.2.2.2.2.2 pc = (56, a, b, c)) (ho : o < E.2.2) (hE : E.1 o = none) (hA : E.2.1 o = some (0, n, rf)) (hi : vp_in i n) (kk : kx_Rn E T d (pc + 1, L, st, kx_u1 M o i.toNatClampNeg v) r M') : kx_Rn E T d (pc, L, .int v :: .int i :: .ref o :: st, M) r M' := by
  intro p l e s m args below meth c0 D ac ad H locs ls hC hXX hP hD hS hl
  obtain ⟨hx, hb, hml, hr, hown, hts, hK, hlocks, hT⟩ := id hC
  have hset : (kx_wld E ac ad M).set o (ad o, .inl (ac 0, n, .inl (upd (M.1 o) i.toNatClampNeg v))) = kx_wld E ac ad (kx_u1 M o i.toNatClampNeg v) := by
    refine kx_wset ho ?_ (fun o' ho' => kx_cell_ne (kx_u1_ne ho') rfl)
    rw [kx_cellA hE hA, kx_u1_eq]
    rfl
  refine va_iast hx hb hK hP hD hS o 0 ((kx_wget ho).trans (by rw [kx_cellA hE hA]; rfl)) rfl hi (kx_dec hT hI rfl).1 (fun H1 locs1 hP1 hD1 hS1 => ?_)
  rw [hset] at hP1 hD1
  exact kk p l e s m args below meth c0 D ac ad H1 locs1 ls hC hXX hP1 hD1 hS1 hl
theorem kx_r_cast {o n : Nat} {rf : Nat → Nat} {i v : Int32} (hI : T.2.2.2.2.2 pc = (57, a, b, c)) (ho : o < E.2.2) (hE : E.1 o = none) (hA : E.2.1 o = some (1, n, rf)) (hi : vp_in i n) (kk : kx_Rn E T d (pc + 1, L, st, kx_u1 M o i.toNatClampNeg (vp_nar .char v)) r M') : kx_Rn E T d (pc, L, .int v :: .int i :: .ref o :: st, M) r M' := by
  intro p l e s m args below meth c0 D ac ad H locs ls hC hXX hP hD hS hl
  obtain ⟨hx, hb, hml, hr, hown, hts, hK, hlocks, hT⟩ := id hC
  have hset : (kx_wld E ac ad M).set o (ad o, .inl (ac 1, n, .inl (upd (M.1 o) i.toNatClampNeg (vp_nar .char v)))) = kx_wld E ac ad (kx_u1 M o i.toNatClampNeg (vp_nar .char v)) := by
    refine kx_wset ho ?_ (fun o' ho' => kx_cell_ne (kx_u1_ne ho') rfl)
    rw [kx_cellA hE hA, kx_u1_eq]
    rfl
  refine va_cast hx hb hK hP hD hS o 1 ((kx_wget ho).trans (by rw [kx_cellA hE hA]; rfl)) rfl hi (kx_dec hT hI rfl).1 (fun H1 locs1 hP1 hD1 hS1 => ?_)
  rw [hset] at hP1 hD1
  exact kk p l e s m args below meth c0 D ac ad H1 locs1 ls hC hXX hP1 hD1 hS1 hl
theorem kx_r_last {o n : Nat} {rf : Nat → Nat} {i : Int32} {v : Int64} (hI : T.2.2.2.2.2 pc = (58, a, b, c)) (ho : o < E.2.2) (hE : E.1 o = none) (hA : E.2.1 o = some (2, n, rf)) (hi : vp_in i n) (kk : kx_Rn E T d (pc + 1, L, st, kx_u2 M o i.toNatClampNeg v) r M') : kx_Rn E T d (pc, L, .long v :: .int i :: .ref o :: st, M) r M' := by
  intro p l e s m args below meth c0 D ac ad H locs ls hC hXX hP hD hS hl
  obtain ⟨hx, hb, hml, hr, hown, hts, hK, hlocks, hT⟩ := id hC
  have hset : (kx_wld E ac ad M).set o (ad o, .inl (ac 2, n, .inr (.inl (vp_updL (M.2 o) i.toNatClampNeg v)))) = kx_wld E ac ad (kx_u2 M o i.toNatClampNeg v) := by
    refine kx_wset ho ?_ (fun o' ho' => kx_cell_ne rfl (kx_u2_ne ho'))
    rw [kx_cellA hE hA, kx_u2_eq]
    rfl
  refine va_last hx hb hK hP hD hS o 2 ((kx_wget ho).trans (by rw [kx_cellA hE hA]; rfl)) rfl hi (kx_dec hT hI rfl).1 (fun H1 locs1 hP1 hD1 hS1 => ?_)
  rw [hset] at hP1 hD1
  exact kk p l e s m args below meth c0 D ac ad H1 locs1 ls hC hXX hP1 hD1 hS1 hl
theorem kx_r_alen {o t n : Nat} {rf : Nat → Nat} (hI : T.2.2.2.2.2 pc = (59, a, b, c)) (ho : o < E.2.2) (hE : E.1 o = none) (hA : E.2.1 o = some (t, n, rf)) (ht : t < 4) (k : kx_Rn E T d (pc + 1, L, .int (Int32.ofNat n) :: st, M) r M') : kx_Rn E T d (pc, L, .ref o :: st, M) r M' := by
  intro p l e s m args below meth c0 D ac ad H locs ls hC hXX hP hD hS hl
  obtain ⟨hx, hb, hml, hr, hown, hts, hK, hlocks, hT⟩ := id hC
  have hty : ∃ ty, (kx_ty ac)[t]? = some (ac t, ty) := by
    rcases (show t = 0 ∨ t = 1 ∨ t = 2 ∨ t = 3 by omega) with rfl | rfl | rfl | rfl <;> exact ⟨_, rfl⟩
  obtain ⟨ty, hty⟩ := hty
  exact va_alen (x := (n, if t = 2 then .inr (.inl (M.2 o)) else if t = 3 then .inr (.inr (.inr (.inr (fun k => some (ad (rf k)))))) else .inl (M.1 o))) hx hb hK hP o t ((kx_wget ho).trans (by rw [kx_cellA hE hA])) hty rfl (kx_dec hT hI rfl).1 (k p l e s m args below meth c0 D ac ad H locs ls hC hXX hP hD hS hl)
-- ends
theorem kx_r_iret {v : Int32} (hI : T.2.2.2.2.2 pc = (72, a, b, c)) (hr0 : T.2.2.2.1 = some .int) : kx_Rn E T d (pc, L, [.int v], M) (some (.int v)) M := by
  intro p l e s m args below meth c0 D ac ad H locs ls hC hXX hP hD hS hl
  obtain ⟨hx, hb, hml, hr, hown, hts, hK, hlocks, hT⟩ := id hC
  exact W.iret hx hb (hr.trans hr0) (fun t ht hW => ⟨⟨v, (), rfl, rfl, by rw [ht]; exact hP, va_K.moved hW.alike hK⟩, hS.F ht⟩) hS.2.2 (kx_dec hT hI rfl).1
theorem kx_r_zret {v : Int32} (hI : T.2.2.2.2.2 pc = (72, a, b, c)) (hr0 : T.2.2.2.1 = some .boolean) (hv : v = 0 ∨ v = 1) : kx_Rn E T d (pc, L, [.int v], M) (some (.int v)) M := by
  intro p l e s m args below meth c0 D ac ad H locs ls hC hXX hP hD hS hl
  obtain ⟨hx, hb, hml, hr, hown, hts, hK, hlocks, hT⟩ := id hC
  exact W.zret hx hb (hr.trans hr0) (by rcases hv with rfl | rfl <;> decide +kernel) (fun t ht hW => ⟨⟨v, (), rfl, rfl, by rw [ht]; exact hP, va_K.moved hW.alike hK⟩, hS.F ht⟩) hS.2.2 (kx_dec hT hI rfl).1
theorem kx_r_lret {v : Int64} (hI : T.2.2.2.2.2 pc = (73, a, b, c)) (hr0 : T.2.2.2.1 = some .long) : kx_Rn E T d (pc, L, [.long v], M) (some (.long v)) M := by
  intro p l e s m args below meth c0 D ac ad H locs ls hC hXX hP hD hS hl
  obtain ⟨hx, hb, hml, hr, hown, hts, hK, hlocks, hT⟩ := id hC
  exact W.lret hx hb (hr.trans hr0) (fun t ht hW => ⟨⟨v, (), rfl, rfl, by rw [ht]; exact hP, va_K.moved hW.alike hK⟩, hS.F ht⟩) hS.2.2 (kx_dec hT hI rfl).1
theorem kx_r_vret (hI : T.2.2.2.2.2 pc = (74, a, b, c)) (hr0 : T.2.2.2.1 = none) : kx_Rn E T d (pc, L, [], M) none M := by
  intro p l e s m args below meth c0 D ac ad H locs ls hC hXX hP hD hS hl
  obtain ⟨hx, hb, hml, hr, hown, hts, hK, hlocks, hT⟩ := id hC
  exact W.vret hx hb (hr.trans hr0) (fun t ht hW => ⟨⟨(), rfl, trivial, by rw [ht]; exact hP, va_K.moved hW.alike hK⟩, hS.F ht⟩) hS.2.2 (kx_dec hT hI rfl).1
end KXH
