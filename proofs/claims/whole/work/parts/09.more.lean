/-! what a class's cells are; rows in these words; the JDK's small ones -/
def kx_ob (E : kx_E) (o ci : Nat) (fs : List (Option Nat)) : Prop := o < E.2.2 ∧ E.1 o = some (ci, fs)
def kx_ar (E : kx_E) (o t n : Nat) : Prop := o < E.2.2 ∧ E.1 o = none ∧ ∃ rf, E.2.1 o = some (t, n, rf)
def kx_lf (o : Nat) : List (Option Nat) := [some (o + 1), some (o + 2), some (o + 3), some (o + 4), some (o + 5), some (o + 6), some (o + 7), none, none, none, none, none, none, none]
/-- a Land at cell o, its seven rows behind it -/
def kx_land (E : kx_E) (o : Nat) : Prop := kx_ob E o 0 (kx_lf o) ∧ kx_ar E (o + 1) 0 24 ∧ kx_ar E (o + 2) 0 24 ∧ kx_ar E (o + 3) 0 21 ∧ kx_ar E (o + 4) 0 8 ∧ kx_ar E (o + 5) 0 8 ∧ kx_ar E (o + 6) 0 8 ∧ kx_ar E (o + 7) 0 8
def kx_shelf (E : kx_E) (q : Nat) : Prop := kx_ob E q 2 [some (q + 1), none, none] ∧ kx_ar E (q + 1) 2 40
/-- the cells of a VeilsOfTheView: 0 itself, 1 now, 9 kept, 17 trial, 25 the shelves' row, 26 on the shelves, 42 the tape, 44 orders, 47 the refusals -/
def kx_XO : List (Option (Nat × List (Option Nat))) := [some (4, [some 1, some 9, some 17, some 25, some 42, some 44, some 47, none]),
  some (0, kx_lf 1), none, none, none, none, none, none, none, some (0, kx_lf 9), none, none, none, none, none, none, none, some (0, kx_lf 17), none, none, none, none, none, none, none,
  none, some (2, [some 27, none, none]), none, some (2, [some 29, none, none]), none, some (2, [some 31, none, none]), none, some (2, [some 33, none, none]), none, some (2, [some 35, none, none]), none, some (2, [some 37, none, none]), none, some (2, [some 39, none, none]), none, some (2, [some 41, none, none]), none,
  some (3, [some 43, none, none, none, none, none]), none, some (1, [some 45, none, some 46]), none, none, none]
def kx_XA : List (Option (Nat × Nat)) := [none, none, some (0, 24), some (0, 24), some (0, 21), some (0, 8), some (0, 8), some (0, 8), some (0, 8), none, some (0, 24), some (0, 24), some (0, 21), some (0, 8), some (0, 8), some (0, 8), some (0, 8), none, some (0, 24), some (0, 24), some (0, 21), some (0, 8), some (0, 8), some (0, 8), some (0, 8),
  some (3, 8), none, some (2, 40), none, some (2, 40), none, some (2, 40), none, some (2, 40), none, some (2, 40), none, some (2, 40), none, some (2, 40), none, some (2, 40), none, some (1, 250), none, some (0, 6), some (0, 6), some (0, 5)]
def kx_at {α : Type} (l : List (Option α)) (o : Nat) : Option α := match l[o]? with
  | some x => x
  | none => none
def EX : kx_E := (kx_at kx_XO, fun o => (kx_at kx_XA o).map (fun q => (q.1, q.2, fun k => 26 + 2 * k)), 48)
/-- the cells of the reference: 0 itself, then its rows -/
def kx_MO : List (Option (Nat × List (Option Nat))) := [some (5, [none, some 1, some 2, some 3, none, some 4, some 5, some 6, some 7, none, none, some 8, none, none, none, none, some 9, some 10, some 11, some 12, none, some 13, some 14, some 15, some 16, some 17, some 18, none])]
def kx_MA : List (Option (Nat × Nat)) := [none, some (0, 24), some (0, 24), some (0, 2), some (0, 8), some (0, 8), some (0, 8), some (0, 8), some (0, 250), some (0, 8), some (0, 8), some (2, 320), some (0, 7), some (0, 85), some (0, 85), some (0, 85), some (0, 8), some (0, 6), some (0, 6)]
def EM : kx_E := (kx_at kx_MO, fun o => (kx_at kx_MA o).map (fun q => (q.1, q.2, fun k => k)), 19)
theorem kxo_0 : kx_ob EX 0 4 [some 1, some 9, some 17, some 25, some 42, some 44, some 47, none] := ⟨by decide, rfl⟩
theorem kxo_42 : kx_ob EX 42 3 [some 43, none, none, none, none, none] := ⟨by decide, rfl⟩
theorem kxo_44 : kx_ob EX 44 1 [some 45, none, some 46] := ⟨by decide, rfl⟩
theorem kxl_1 : kx_land EX 1 := ⟨⟨by decide, rfl⟩, ⟨by decide, rfl, _, rfl⟩, ⟨by decide, rfl, _, rfl⟩, ⟨by decide, rfl, _, rfl⟩, ⟨by decide, rfl, _, rfl⟩, ⟨by decide, rfl, _, rfl⟩, ⟨by decide, rfl, _, rfl⟩, ⟨by decide, rfl, _, rfl⟩⟩
theorem kxl_9 : kx_land EX 9 := ⟨⟨by decide, rfl⟩, ⟨by decide, rfl, _, rfl⟩, ⟨by decide, rfl, _, rfl⟩, ⟨by decide, rfl, _, rfl⟩, ⟨by decide, rfl, _, rfl⟩, ⟨by decide, rfl, _, rfl⟩, ⟨by decide, rfl, _, rfl⟩, ⟨by decide, rfl, _, rfl⟩⟩
theorem kxl_17 : kx_land EX 17 := ⟨⟨by decide, rfl⟩, ⟨by decide, rfl, _, rfl⟩, ⟨by decide, rfl, _, rfl⟩, ⟨by decide, rfl, _, rfl⟩, ⟨by decide, rfl, _, rfl⟩, ⟨by decide, rfl, _, rfl⟩, ⟨by decide, rfl, _, rfl⟩, ⟨by decide, rfl, _, rfl⟩⟩
theorem kxa_43 : kx_ar EX 43 1 250 := ⟨by decide, rfl, _, rfl⟩
theorem kxa_45 : kx_ar EX 45 0 6 := ⟨by decide, rfl, _, rfl⟩
theorem kxa_46 : kx_ar EX 46 0 6 := ⟨by decide, rfl, _, rfl⟩
theorem kxa_47 : kx_ar EX 47 0 5 := ⟨by decide, rfl, _, rfl⟩
theorem kxa_25 : kx_ar EX 25 3 8 := ⟨by decide, rfl, _, rfl⟩
theorem kxs_at : ∀ k, k < 8 → kx_shelf EX (26 + 2 * k) := by
  intro k hk
  rcases (show k = 0 ∨ k = 1 ∨ k = 2 ∨ k = 3 ∨ k = 4 ∨ k = 5 ∨ k = 6 ∨ k = 7 by omega) with rfl | rfl | rfl | rfl | rfl | rfl | rfl | rfl <;> exact ⟨⟨by decide, rfl⟩, ⟨by decide, rfl, _, rfl⟩⟩
theorem kxs_in {i : Int32} (h : vp_in i 8) : kx_shelf EX (26 + 2 * i.toNatClampNeg) := kxs_at _ (Nat.not_le.mp fun q => h (Or.inr q))
theorem kmo_0 : kx_ob EM 0 5 [none, some 1, some 2, some 3, none, some 4, some 5, some 6, some 7, none, none, some 8, none, none, none, none, some 9, some 10, some 11, some 12, none, some 13, some 14, some 15, some 16, some 17, some 18, none] := ⟨by decide, rfl⟩
theorem kma_1 : kx_ar EM 1 0 24 := ⟨by decide, rfl, _, rfl⟩
theorem kma_2 : kx_ar EM 2 0 24 := ⟨by decide, rfl, _, rfl⟩
theorem kma_3 : kx_ar EM 3 0 2 := ⟨by decide, rfl, _, rfl⟩
theorem kma_4 : kx_ar EM 4 0 8 := ⟨by decide, rfl, _, rfl⟩
theorem kma_5 : kx_ar EM 5 0 8 := ⟨by decide, rfl, _, rfl⟩
theorem kma_6 : kx_ar EM 6 0 8 := ⟨by decide, rfl, _, rfl⟩
theorem kma_7 : kx_ar EM 7 0 8 := ⟨by decide, rfl, _, rfl⟩
theorem kma_8 : kx_ar EM 8 0 250 := ⟨by decide, rfl, _, rfl⟩
theorem kma_9 : kx_ar EM 9 0 8 := ⟨by decide, rfl, _, rfl⟩
theorem kma_10 : kx_ar EM 10 0 8 := ⟨by decide, rfl, _, rfl⟩
theorem kma_11 : kx_ar EM 11 2 320 := ⟨by decide, rfl, _, rfl⟩
theorem kma_12 : kx_ar EM 12 0 7 := ⟨by decide, rfl, _, rfl⟩
theorem kma_13 : kx_ar EM 13 0 85 := ⟨by decide, rfl, _, rfl⟩
theorem kma_14 : kx_ar EM 14 0 85 := ⟨by decide, rfl, _, rfl⟩
theorem kma_15 : kx_ar EM 15 0 85 := ⟨by decide, rfl, _, rfl⟩
theorem kma_16 : kx_ar EM 16 0 8 := ⟨by decide, rfl, _, rfl⟩
theorem kma_17 : kx_ar EM 17 0 6 := ⟨by decide, rfl, _, rfl⟩
theorem kma_18 : kx_ar EM 18 0 6 := ⟨by decide, rfl, _, rfl⟩
def kx_bi (b : Bool) : Int32 := bif b then 1 else 0
theorem kx_bi_or (b : Bool) : kx_bi b = 0 ∨ kx_bi b = 1 := by cases b <;> simp [kx_bi]
/-- an index must be in its row, a divisor not 0, a copied part in both rows; else there is no answer -/
def kx_ck {α : Type} (n : Nat) (i : Int32) (k : Option α) : Option α := bif (decide (i < 0) || Nat.ble n i.toNatClampNeg) then none else k
def kx_nz {α : Type} (y : Int32) (k : Option α) : Option α := bif decide (y = 0) then none else k
def kx_cg {α : Type} (n0 n1 : Nat) (sp dp n : Int32) (k : Option α) : Option α := if ¬ sp < 0 ∧ ¬ dp < 0 ∧ ¬ n < 0 ∧ sp.toNatClampNeg + n.toNatClampNeg ≤ n0 ∧ dp.toNatClampNeg + n.toNatClampNeg ≤ n1 then k else none
def kx_bd {α β : Type} (x : Option (α × kx_M)) (f : α → kx_M → Option β) : Option β := match x with
  | none => none
  | some q => f q.1 q.2
def kx_c1 (M : kx_M) (a b sp dp n : Nat) : kx_M := (fun o k => if o = b then va_cpy (M.1 a) (M.1 b) sp dp n k else M.1 o k, M.2)
def kx_c2 (M : kx_M) (a b sp dp n : Nat) : kx_M := (M.1, fun o k => if o = b then va_cpy (M.2 a) (M.2 b) sp dp n k else M.2 o k)
theorem kx_ck_some {α : Type} {n : Nat} {i : Int32} {k : Option α} {x : α} (h : kx_ck n i k = some x) : vp_in i n ∧ k = some x := by
  unfold kx_ck at h
  cases hb : (decide (i < 0) || Nat.ble n i.toNatClampNeg) with
  | true => rw [hb] at h; cases h
  | false =>
    rw [hb] at h
    simp only [Bool.or_eq_false_iff, decide_eq_false_iff_not] at hb
    refine ⟨fun q => ?_, h⟩
    rcases q with q | q
    · exact hb.1 q
    · rw [Nat.ble_eq_true_of_le q] at hb
      cases hb.2
theorem kx_nz_some {α : Type} {y : Int32} {k : Option α} {x : α} (h : kx_nz y k = some x) : ¬ y = 0 ∧ k = some x := by
  unfold kx_nz at h
  cases hb : decide (y = 0) with
  | true => rw [hb] at h; cases h
  | false =>
    rw [hb] at h
    exact ⟨of_decide_eq_false hb, h⟩
theorem kx_cg_some {α : Type} {n0 n1 : Nat} {sp dp n : Int32} {k : Option α} {x : α} (h : kx_cg n0 n1 sp dp n k = some x) : (¬ sp < 0 ∧ ¬ dp < 0 ∧ ¬ n < 0 ∧ sp.toNatClampNeg + n.toNatClampNeg ≤ n0 ∧ dp.toNatClampNeg + n.toNatClampNeg ≤ n1) ∧ k = some x := by
  unfold kx_cg at h
  split at h
  · rename_i q
    exact ⟨q, h⟩
  · cases h
theorem kx_bd_some {α β : Type} {x : Option (α × kx_M)} {f : α → kx_M → Option β} {y : β} (h : kx_bd x f = some y) : ∃ v M1, x = some (v, M1) ∧ f v M1 = some y := by
  cases x with
  | none => cases h
  | some q => exact ⟨q.1, q.2, rfl, h⟩
theorem kx_bn_some {α β : Type} {x : Option α} {f : α → Option β} {y : β} (h : x.bind f = some y) : ∃ v, x = some v ∧ f v = some y := by
  cases x with
  | none => cases h
  | some q => exact ⟨q, rfl, h⟩
/-- how often a loop may go round, at the most -/
def kx_fuel : Nat := 4096
section KXM
variable {E : kx_E} {T U : kx_T} {d : Nat} {r : Option Value} {M' M M1 : kx_M} {pc a b n : Nat} {c : Int32} {L : List (Option Value)} {st rest as : List Value}
theorem kx_q_getI {ci k o : Nat} {fs : List (Option Nat)} (hO : kx_ob E o ci fs) (hI : T.2.2.2.2.2 pc = (50, a, b, c)) (hF : kx_Fl T.2.2.2.2.1 a ci k) (hf : fs[k]? = some none) (kk : kx_Rn E T d (pc + 3, L, .int (M.1 o k) :: st, M) r M') : kx_Rn E T d (pc, L, .ref o :: st, M) r M' := kx_r_getI hI hF hO.1 hO.2 hf kk
theorem kx_q_getR {ci k o j : Nat} {fs : List (Option Nat)} (hO : kx_ob E o ci fs) (hI : T.2.2.2.2.2 pc = (50, a, b, c)) (hF : kx_Fl T.2.2.2.2.1 a ci k) (hf : fs[k]? = some (some j)) (kk : kx_Rn E T d (pc + 3, L, .ref j :: st, M) r M') : kx_Rn E T d (pc, L, .ref o :: st, M) r M' := kx_r_getR hI hF hO.1 hO.2 hf kk
theorem kx_q_putI {ci k o : Nat} {fs : List (Option Nat)} {v : Int32} (hO : kx_ob E o ci fs) (hI : T.2.2.2.2.2 pc = (51, a, b, c)) (hF : kx_Fw T.2.2.2.2.1 a ci k) (hf : fs[k]? = some none) (kk : kx_Rn E T d (pc + 3, L, st, kx_u1 M o k v) r M') : kx_Rn E T d (pc, L, .int v :: .ref o :: st, M) r M' := kx_r_putI hI hF hO.1 hO.2 hf kk
theorem kx_q_putZ {ci k o : Nat} {fs : List (Option Nat)} {v : Int32} (hO : kx_ob E o ci fs) (hI : T.2.2.2.2.2 pc = (51, a, b, c)) (hF : kx_Fz T.2.2.2.2.1 a ci k) (hv : v = 0 ∨ v = 1) (hf : fs[k]? = some none) (kk : kx_Rn E T d (pc + 3, L, st, kx_u1 M o k v) r M') : kx_Rn E T d (pc, L, .int v :: .ref o :: st, M) r M' := kx_r_putZ hI hF hv hO.1 hO.2 hf kk
theorem kx_q_iald {o n : Nat} {i : Int32} (hA : kx_ar E o 0 n) (hI : T.2.2.2.2.2 pc = (52, a, b, c)) (hi : vp_in i n) (k : kx_Rn E T d (pc + 1, L, .int (M.1 o i.toNatClampNeg) :: st, M) r M') : kx_Rn E T d (pc, L, .int i :: .ref o :: st, M) r M' := by
  obtain ⟨h1, h2, rf, h3⟩ := hA
  exact kx_r_iald hI h1 h2 h3 hi k
theorem kx_q_cald {o n : Nat} {i : Int32} (hA : kx_ar E o 1 n) (hI : T.2.2.2.2.2 pc = (53, a, b, c)) (hi : vp_in i n) (k : kx_Rn E T d (pc + 1, L, .int (M.1 o i.toNatClampNeg) :: st, M) r M') : kx_Rn E T d (pc, L, .int i :: .ref o :: st, M) r M' := by
  obtain ⟨h1, h2, rf, h3⟩ := hA
  exact kx_r_cald hI h1 h2 h3 hi k
theorem kx_q_lald {o n : Nat} {i : Int32} (hA : kx_ar E o 2 n) (hI : T.2.2.2.2.2 pc = (54, a, b, c)) (hi : vp_in i n) (k : kx_Rn E T d (pc + 1, L, .long (M.2 o i.toNatClampNeg) :: st, M) r M') : kx_Rn E T d (pc, L, .int i :: .ref o :: st, M) r M' := by
  obtain ⟨h1, h2, rf, h3⟩ := hA
  exact kx_r_lald hI h1 h2 h3 hi k
theorem kx_q_aald {i : Int32} (hI : T.2.2.2.2.2 pc = (55, a, b, c)) (hi : vp_in i 8) (k : kx_Rn EX T d (pc + 1, L, .ref (26 + 2 * i.toNatClampNeg) :: st, M) r M') : kx_Rn EX T d (pc, L, .int i :: .ref 25 :: st, M) r M' := kx_r_aald (n := 8) (rf := fun k => 26 + 2 * k) hI (by decide) rfl rfl hi k
theorem kx_q_iast {o n : Nat} {i v : Int32} (hA : kx_ar E o 0 n) (hI : T.2.2.2.2.2 pc = (56, a, b, c)) (hi : vp_in i n) (k : kx_Rn E T d (pc + 1, L, st, kx_u1 M o i.toNatClampNeg v) r M') : kx_Rn E T d (pc, L, .int v :: .int i :: .ref o :: st, M) r M' := by
  obtain ⟨h1, h2, rf, h3⟩ := hA
  exact kx_r_iast hI h1 h2 h3 hi k
theorem kx_q_cast {o n : Nat} {i v : Int32} (hA : kx_ar E o 1 n) (hI : T.2.2.2.2.2 pc = (57, a, b, c)) (hi : vp_in i n) (k : kx_Rn E T d (pc + 1, L, st, kx_u1 M o i.toNatClampNeg (vp_nar .char v)) r M') : kx_Rn E T d (pc, L, .int v :: .int i :: .ref o :: st, M) r M' := by
  obtain ⟨h1, h2, rf, h3⟩ := hA
  exact kx_r_cast hI h1 h2 h3 hi k
theorem kx_q_last {o n : Nat} {i : Int32} {v : Int64} (hA : kx_ar E o 2 n) (hI : T.2.2.2.2.2 pc = (58, a, b, c)) (hi : vp_in i n) (k : kx_Rn E T d (pc + 1, L, st, kx_u2 M o i.toNatClampNeg v) r M') : kx_Rn E T d (pc, L, .long v :: .int i :: .ref o :: st, M) r M' := by
  obtain ⟨h1, h2, rf, h3⟩ := hA
  exact kx_r_last hI h1 h2 h3 hi k
theorem kx_q_alen {o t n : Nat} (hA : kx_ar E o t n) (hI : T.2.2.2.2.2 pc = (59, a, b, c)) (ht : t < 4) (k : kx_Rn E T d (pc + 1, L, .int (Int32.ofNat n) :: st, M) r M') : kx_Rn E T d (pc, L, .ref o :: st, M) r M' := by
  obtain ⟨h1, h2, rf, h3⟩ := hA
  exact kx_r_alen hI h1 h2 h3 ht k
theorem kx_q_zeq {t : Bool} (hI : T.2.2.2.2.2 pc = (60, 0, b, c)) (kt : ¬ t = true → kx_Rn E T d (b, L, st, M) r M') (kf : t = true → kx_Rn E T d (pc + 3, L, st, M) r M') : kx_Rn E T d (pc, L, .int (kx_bi t) :: st, M) r M' := kx_r_if_eq hI (fun h => kt (fun q => by rw [q] at h; exact absurd h (by decide))) (fun h => kf (by cases t with | true => rfl | false => exact absurd rfl h))
theorem kx_q_zne {t : Bool} (hI : T.2.2.2.2.2 pc = (60, 1, b, c)) (kt : t = true → kx_Rn E T d (b, L, st, M) r M') (kf : ¬ t = true → kx_Rn E T d (pc + 3, L, st, M) r M') : kx_Rn E T d (pc, L, .int (kx_bi t) :: st, M) r M' := kx_r_if_ne hI (fun h => kt (by cases t with | true => rfl | false => exact absurd rfl h)) (fun h => kf (fun q => by rw [q] at h; exact absurd h (by decide)))
/-- locals that nobody reads any more may be forgotten -/
def kx_mask : List Bool → List (Option Value) → List (Option Value)
  | true :: q, x :: s => x :: kx_mask q s
  | false :: q, _ :: s => none :: kx_mask q s
  | _, s => s
theorem kx_mask_len : ∀ (q : List Bool) (s : List (Option Value)), (kx_mask q s).length = s.length
  | [], _ => by simp [kx_mask]
  | true :: q, [] => rfl
  | false :: q, [] => rfl
  | true :: q, x :: s => by simp [kx_mask, kx_mask_len q s]
  | false :: q, x :: s => by simp [kx_mask, kx_mask_len q s]
theorem kx_mask_get : ∀ (q : List Bool) (s : List (Option Value)) (i : Nat) (v : Value), (kx_mask q s)[i]? = some (some v) → s[i]? = some (some v)
  | [], s, i, v, h => by simpa [kx_mask] using h
  | true :: q, [], i, v, h => h
  | false :: q, [], i, v, h => h
  | true :: q, x :: s, 0, v, h => h
  | true :: q, x :: s, i + 1, v, h => by
    simp only [kx_mask, List.getElem?_cons_succ] at h ⊢
    exact kx_mask_get q s i v h
  | false :: q, x :: s, 0, v, h => by simp [kx_mask] at h
  | false :: q, x :: s, i + 1, v, h => by
    simp only [kx_mask, List.getElem?_cons_succ] at h ⊢
    exact kx_mask_get q s i v h
theorem kx_wk (q : List Bool) (k : kx_Rn E T d (pc, kx_mask q L, st, M) r M') : kx_Rn E T d (pc, L, st, M) r M' := by
  intro p l e s m args below meth c0 D ac ad H locs ls hC hXX hP hD hS hl
  refine k p l e s m args below meth c0 D ac ad H locs ls hC hXX hP hD hS ?_
  obtain ⟨h1, l0, h2, h3⟩ := hl
  exact ⟨by rw [← h1]; exact kx_mask_len q L, l0, h2, fun i v hi => h3 i v (kx_mask_get q L i v hi)⟩
theorem kx_q_callV {rv : Option Value} {o ci : Nat} {fs : List (Option Nat)} {cl : vw_C} (hO : kx_ob E o ci fs) (hI : T.2.2.2.2.2 pc = (70, a, b, c)) (hL : kx_Lk T.2.2.2.2.1 a U n) (hs : Cond.instanceMethod U.1 ∈ kx_tbl ∧ Cond.selects U.1.cls U.1 U.1 ∈ kx_tbl) (hst : st = as.reverse ++ .ref o :: rest) (hn : as.length = n) (hci : vwCl[ci]? = some cl) (hcl : cl.1 = U.1.cls) (hcat : (rest.map fun v => v.category).sum ≤ 8) (hm : U.2.2.1 ≤ 20) (hM : kx_Call E d U (.ref o :: as) M rv M1) (k : kx_Rn E T (d + 1) (pc + 3, L, rv.toList ++ rest, M1) r M') : kx_Rn E T (d + 1) (pc, L, st, M) r M' := kx_r_callV hI hL hs hst hn hO.1 hO.2 hci hcl hcat hm hM k
-- Math.max, Math.min
theorem kx_q_max {x y : Int32} (hI : T.2.2.2.2.2 pc = (71, a, b, c)) (hw : Cond.methodLink T.2.2.2.2.1 a Lib.Math.max.name ∈ kx_tbl) (h1 : Cond.static Lib.Math.max.name ∈ kx_tbl) (h2 : Cond.initialized "java/lang/Math" ∈ kx_tbl) (h3 : Cond.code Lib.Math.max.name Lib.Math.max.code 2 (some .int) ∈ kx_tbl) (hcat : (st.map fun v => v.category).sum ≤ 8) (k : kx_Rn E T (d + 1) (pc + 3, L, .int (if x < y then y else x) :: st, M) r M') : kx_Rn E T (d + 1) (pc, L, .int y :: .int x :: st, M) r M' := by
  intro p l e s m args below meth c0 D ac ad H locs ls hC hXX hP hD hS hl
  obtain ⟨hx, hb, hml, hr, hown, hts, hK, hlocks, hT⟩ := id hC
  have ht : ∀ w ∈ kx_tbl, w.before args s = true := fun w h => hts w (List.mem_cons_of_mem _ h)
  exact va_mmax hx hb (hml.trans hl.2.choose_spec.1.1.symm) hown (ht _ hw) (ht _ h1) (ht _ h2) (ht _ h3) (Nat.le_add_left _ _) (by rw [kx_catsum]; show _ ≤ 40 * (d + 1); omega) (Nat.le_refl _) (Nat.le_refl _) (kx_dec hT hI rfl).1 (k p l e s m args below meth c0 D ac ad H locs ls hC hXX hP hD hS hl)
theorem kx_q_min {x y : Int32} (hI : T.2.2.2.2.2 pc = (71, a, b, c)) (hw : Cond.methodLink T.2.2.2.2.1 a Lib.Math.min.name ∈ kx_tbl) (h1 : Cond.static Lib.Math.min.name ∈ kx_tbl) (h2 : Cond.initialized "java/lang/Math" ∈ kx_tbl) (h3 : Cond.code Lib.Math.min.name Lib.Math.min.code 2 (some .int) ∈ kx_tbl) (hcat : (st.map fun v => v.category).sum ≤ 8) (k : kx_Rn E T (d + 1) (pc + 3, L, .int (if y < x then y else x) :: st, M) r M') : kx_Rn E T (d + 1) (pc, L, .int y :: .int x :: st, M) r M' := by
  intro p l e s m args below meth c0 D ac ad H locs ls hC hXX hP hD hS hl
  obtain ⟨hx, hb, hml, hr, hown, hts, hK, hlocks, hT⟩ := id hC
  have ht : ∀ w ∈ kx_tbl, w.before args s = true := fun w h => hts w (List.mem_cons_of_mem _ h)
  exact va_mmin hx hb (hml.trans hl.2.choose_spec.1.1.symm) hown (ht _ hw) (ht _ h1) (ht _ h2) (ht _ h3) (Nat.le_add_left _ _) (by rw [kx_catsum]; show _ ≤ 40 * (d + 1); omega) (Nat.le_refl _) (Nat.le_refl _) (kx_dec hT hI rfl).1 (k p l e s m args below meth c0 D ac ad H locs ls hC hXX hP hD hS hl)
-- System.arraycopy
theorem kx_c1_o {o k sp dp n b : Nat} : (kx_c1 M o b sp dp n).1 b k = va_cpy (M.1 o) (M.1 b) sp dp n k := if_pos rfl
theorem kx_q_cpyI {o0 o1 n0 n1 : Nat} {sp dp q : Int32} (hA0 : kx_ar E o0 0 n0) (hA1 : kx_ar E o1 0 n1) (hI : T.2.2.2.2.2 pc = (71, a, b, c)) (hw : Cond.methodLink T.2.2.2.2.1 a arraycopyName ∈ kx_tbl) (h1 : Cond.native arraycopyName ∈ kx_tbl) (h2 : Cond.static arraycopyName ∈ kx_tbl) (h3 : Cond.initialized "java/lang/System" ∈ kx_tbl) (hg : ¬ sp < 0 ∧ ¬ dp < 0 ∧ ¬ q < 0 ∧ sp.toNatClampNeg + q.toNatClampNeg ≤ n0 ∧ dp.toNatClampNeg + q.toNatClampNeg ≤ n1) (hcat : (st.map fun v => v.category).sum ≤ 8) (k : kx_Rn E T (d + 1) (pc + 3, L, st, kx_c1 M o0 o1 sp.toNatClampNeg dp.toNatClampNeg q.toNatClampNeg) r M') : kx_Rn E T (d + 1) (pc, L, .int q :: .int dp :: .ref o1 :: .int sp :: .ref o0 :: st, M) r M' := by
  intro p l e s m args below meth c0 D ac ad H locs ls hC hXX hP hD hS hl
  obtain ⟨hx, hb, hml, hr, hown, hts, hK, hlocks, hT⟩ := id hC
  obtain ⟨ho0, hE0, rf0, hF0⟩ := hA0
  obtain ⟨ho1, hE1, rf1, hF1⟩ := hA1
  have ht : ∀ w ∈ kx_tbl, w.before args s = true := fun w h => hts w (List.mem_cons_of_mem _ h)
  obtain ⟨g1, g2, g3, g4, g5⟩ := hg
  have hset : (kx_wld E ac ad M).set o1 (ad o1, .inl (ac 0, n1, .inl (va_cpy (M.1 o0) (M.1 o1) sp.toNatClampNeg dp.toNatClampNeg q.toNatClampNeg))) = kx_wld E ac ad (kx_c1 M o0 o1 sp.toNatClampNeg dp.toNatClampNeg q.toNatClampNeg) := by
    refine kx_wset ho1 ?_ (fun o' ho' => kx_cell_ne (by funext k; exact if_neg ho') rfl)
    rw [kx_cellA hE1 hF1]
    have : (kx_c1 M o0 o1 sp.toNatClampNeg dp.toNatClampNeg q.toNatClampNeg).1 o1 = va_cpy (M.1 o0) (M.1 o1) sp.toNatClampNeg dp.toNatClampNeg q.toNatClampNeg := by funext k; exact if_pos rfl
    rw [this]
    rfl
  refine va_copyi hx hb (hml.trans hl.2.choose_spec.1.1.symm) hown (ht _ hw) (ht _ h1) (ht _ h2) (ht _ h3) hK hP hD hS o0 o1 0 0 (f := M.1 o0) (g := M.1 o1) (ty := .int) ((kx_wget ho0).trans (by rw [kx_cellA hE0 hF0]; rfl)) ((kx_wget ho1).trans (by rw [kx_cellA hE1 hF1]; rfl)) rfl rfl rfl g1 g2 g3 g4 g5 (fun _ _ => rfl) (Nat.le_add_left _ _) (by rw [kx_catsum, show nativeFrameWords "java/lang/System" "arraycopy" 5 = 7 by decide +kernel]; show _ ≤ 40 * (d + 1); omega) (kx_dec hT hI rfl).1 (fun H1 locs1 hP1 hD1 hS1 => ?_)
  rw [hset] at hP1 hD1
  exact k p l e s m args below meth c0 D ac ad H1 locs1 ls hC hXX hP1 hD1 hS1 hl
theorem kx_q_cpyL {o0 o1 n0 n1 : Nat} {sp dp q : Int32} (hA0 : kx_ar E o0 2 n0) (hA1 : kx_ar E o1 2 n1) (hI : T.2.2.2.2.2 pc = (71, a, b, c)) (hw : Cond.methodLink T.2.2.2.2.1 a arraycopyName ∈ kx_tbl) (h1 : Cond.native arraycopyName ∈ kx_tbl) (h2 : Cond.static arraycopyName ∈ kx_tbl) (h3 : Cond.initialized "java/lang/System" ∈ kx_tbl) (hg : ¬ sp < 0 ∧ ¬ dp < 0 ∧ ¬ q < 0 ∧ sp.toNatClampNeg + q.toNatClampNeg ≤ n0 ∧ dp.toNatClampNeg + q.toNatClampNeg ≤ n1) (hcat : (st.map fun v => v.category).sum ≤ 8) (k : kx_Rn E T (d + 1) (pc + 3, L, st, kx_c2 M o0 o1 sp.toNatClampNeg dp.toNatClampNeg q.toNatClampNeg) r M') : kx_Rn E T (d + 1) (pc, L, .int q :: .int dp :: .ref o1 :: .int sp :: .ref o0 :: st, M) r M' := by
  intro p l e s m args below meth c0 D ac ad H locs ls hC hXX hP hD hS hl
  obtain ⟨hx, hb, hml, hr, hown, hts, hK, hlocks, hT⟩ := id hC
  obtain ⟨ho0, hE0, rf0, hF0⟩ := hA0
  obtain ⟨ho1, hE1, rf1, hF1⟩ := hA1
  have ht : ∀ w ∈ kx_tbl, w.before args s = true := fun w h => hts w (List.mem_cons_of_mem _ h)
  obtain ⟨g1, g2, g3, g4, g5⟩ := hg
  have hset : (kx_wld E ac ad M).set o1 (ad o1, .inl (ac 2, n1, .inr (.inl (va_cpy (M.2 o0) (M.2 o1) sp.toNatClampNeg dp.toNatClampNeg q.toNatClampNeg)))) = kx_wld E ac ad (kx_c2 M o0 o1 sp.toNatClampNeg dp.toNatClampNeg q.toNatClampNeg) := by
    refine kx_wset ho1 ?_ (fun o' ho' => kx_cell_ne rfl (by funext k; exact if_neg ho'))
    rw [kx_cellA hE1 hF1]
    have : (kx_c2 M o0 o1 sp.toNatClampNeg dp.toNatClampNeg q.toNatClampNeg).2 o1 = va_cpy (M.2 o0) (M.2 o1) sp.toNatClampNeg dp.toNatClampNeg q.toNatClampNeg := by funext k; exact if_pos rfl
    rw [this]
    rfl
  refine va_copyl hx hb (hml.trans hl.2.choose_spec.1.1.symm) hown (ht _ hw) (ht _ h1) (ht _ h2) (ht _ h3) hK hP hD hS o0 o1 2 2 (f := M.2 o0) (g := M.2 o1) (ty := .long) ((kx_wget ho0).trans (by rw [kx_cellA hE0 hF0]; rfl)) ((kx_wget ho1).trans (by rw [kx_cellA hE1 hF1]; rfl)) rfl rfl rfl g1 g2 g3 g4 g5 (fun _ _ => rfl) (Nat.le_add_left _ _) (by rw [kx_catsum, show nativeFrameWords "java/lang/System" "arraycopy" 5 = 7 by decide +kernel]; show _ ≤ 40 * (d + 1); omega) (kx_dec hT hI rfl).1 (fun H1 locs1 hP1 hD1 hS1 => ?_)
  rw [hset] at hP1 hD1
  exact k p l e s m args below meth c0 D ac ad H1 locs1 ls hC hXX hP1 hD1 hS1 hl
-- tableswitch
theorem kx_q_tsI {x : Int32} (y : Int32) {dflt lo hi : Int} {offs : Array Int} {len tgt : Nat} {off : Int} (hdg : decode T.2.1 pc = .ok (.tableswitch dflt lo hi offs, len)) (hxy : x = y) (h1 : ¬ y.toInt < lo) (h2 : ¬ hi < y.toInt) (ho : offs[(y.toInt - lo).toNat]? = some off) (ht : (pc : Int) + off = (tgt : Int)) (k : kx_Rn E T d (tgt, L, st, M) r M') : kx_Rn E T d (pc, L, .int x :: st, M) r M' := by
  intro p l e s m args below meth c0 D ac ad H locs ls hC hXX hP hD hS hl
  obtain ⟨hx, hb, hml, hr, hown, hts, hK, hlocks, hT⟩ := id hC
  subst hxy
  exact lv_tableIn hx hb hdg h1 h2 ho ht (k p l e s m args below meth c0 D ac ad H locs ls hC hXX hP hD hS hl)
theorem kx_q_tsO {x : Int32} {dflt lo hi : Int} {offs : Array Int} {len tgt : Nat} (hdg : decode T.2.1 pc = .ok (.tableswitch dflt lo hi offs, len)) (h : x.toInt < lo ∨ hi < x.toInt) (ht : (pc : Int) + dflt = (tgt : Int)) (k : kx_Rn E T d (tgt, L, st, M) r M') : kx_Rn E T d (pc, L, .int x :: st, M) r M' := by
  intro p l e s m args below meth c0 D ac ad H locs ls hC hXX hP hD hS hl
  obtain ⟨hx, hb, hml, hr, hown, hts, hK, hlocks, hT⟩ := id hC
  exact lv_tableOut hx hb hdg h ht (k p l e s m args below meth c0 D ac ad H locs ls hC hXX hP hD hS hl)
theorem kx_ne_toInt {x y : Int32} (h : ¬ x = y) : ¬ x.toInt = y.toInt := fun q => h (Int32.toInt_inj.mp q)
end KXM
theorem kst_max : Cond.static Lib.Math.max.name ∈ kx_tbl := (kx_tb 295 (by decide +kernel) (by decide +kernel))
theorem kst_min : Cond.static Lib.Math.min.name ∈ kx_tbl := (kx_tb 30 (by decide +kernel) (by decide +kernel))
theorem kini_math : Cond.initialized "java/lang/Math" ∈ kx_tbl := (kx_tb 3 (by decide +kernel) (by decide +kernel))
theorem kcd_max : Cond.code Lib.Math.max.name Lib.Math.max.code 2 (some .int) ∈ kx_tbl := (kx_tb 296 (by decide +kernel) (by decide +kernel))
theorem kcd_min : Cond.code Lib.Math.min.name Lib.Math.min.code 2 (some .int) ∈ kx_tbl := (kx_tb 31 (by decide +kernel) (by decide +kernel))
theorem kna_copy : Cond.native arraycopyName ∈ kx_tbl := (kx_tb 258 (by decide +kernel) (by decide +kernel))
theorem kst_copy : Cond.static arraycopyName ∈ kx_tbl := (kx_tb 257 (by decide +kernel) (by decide +kernel))
theorem kini_sys : Cond.initialized "java/lang/System" ∈ kx_tbl := (kx_tb 9 (by decide +kernel) (by decide +kernel))
theorem kml_X0_18 : Cond.methodLink RX0 18 Lib.Math.min.name ∈ kx_tbl := (kx_tb 29 (by decide +kernel) (by decide +kernel))
theorem kml_X4_91 : Cond.methodLink RX4 91 arraycopyName ∈ kx_tbl := (kx_tb 256 (by decide +kernel) (by decide +kernel))
theorem kml_X0_102 : Cond.methodLink RX0 102 Lib.Math.max.name ∈ kx_tbl := (kx_tb 294 (by decide +kernel) (by decide +kernel))
theorem kml_X4_249 : Cond.methodLink RX4 249 Lib.Math.min.name ∈ kx_tbl := (kx_tb 306 (by decide +kernel) (by decide +kernel))
theorem kml_X4_254 : Cond.methodLink RX4 254 Lib.Math.max.name ∈ kx_tbl := (kx_tb 307 (by decide +kernel) (by decide +kernel))
theorem kml_X0_50 : Cond.methodLink RX0 50 arraycopyName ∈ kx_tbl := (kx_tb 375 (by decide +kernel) (by decide +kernel))
theorem kml_X1_62 : Cond.methodLink RX1 62 arraycopyName ∈ kx_tbl := (kx_tb 601 (by decide +kernel) (by decide +kernel))
theorem kml_X5_69 : Cond.methodLink RX5 69 Lib.Math.min.name ∈ kx_tbl := (kx_tb 836 (by decide +kernel) (by decide +kernel))
theorem kml_X5_113 : Cond.methodLink RX5 113 Lib.Math.max.name ∈ kx_tbl := (kx_tb 986 (by decide +kernel) (by decide +kernel))
