/-! a view with one number changed; the memories that show it -/
def kv_put (V : kv_V) (r i w : Nat) : kv_V := (fun a b => if a = r then (if b = i then w else V.1 a b) else V.1 a b, V.2)
def kv_see (V : kv_V) (f : Nat → Int32) : kv_V := (V.1, f, V.2.2)
def kv_sd (V : kv_V) (s : Int32) : kv_V := (V.1, V.2.1, s)
theorem kv_put_same (V : kv_V) (r i : Nat) : kv_put V r i (V.1 r i) = V := by
  unfold kv_put
  refine Prod.ext ?_ rfl
  funext a b
  dsimp only
  by_cases h : a = r
  · rw [if_pos h]
    by_cases h2 : b = i
    · rw [if_pos h2, h, h2]
    · rw [if_neg h2]
  · rw [if_neg h]
theorem kv_put_at {V : kv_V} {r i w : Nat} : (kv_put V r i w).1 r i = w := by
  unfold kv_put
  dsimp only
  rw [if_pos rfl, if_pos rfl]
theorem kv_put_nr {V : kv_V} {r i w a b : Nat} (h : ¬ a = r) : (kv_put V r i w).1 a b = V.1 a b := if_neg h
theorem kv_put_ni {V : kv_V} {r i w a b : Nat} (h : ¬ b = i) : (kv_put V r i w).1 a b = V.1 a b := by
  unfold kv_put
  dsimp only
  by_cases q : a = r
  · rw [if_pos q, if_neg h]
  · rw [if_neg q]
theorem kv_ok_put {V : kv_V} {r i w : Nat} (hok : kv_ok V) (h5 : r = 5 → (i = 0 → 4 ≤ w ∧ w ≤ 24) ∧ (i = 1 → w ≤ 20) ∧ (i = 2 → w ≤ 999) ∧ (i = 3 → w ≤ 8)) (h0 : r = 0 → w ≤ 20) (h1 : r = 1 → w ≤ 9) (h2 : r = 2 → w ≤ 5) (h3 : r = 3 → w ≤ 9) (h4 : r = 4 → w ≤ 20) : kv_ok (kv_put V r i w) := by
  obtain ⟨⟨a1, a2⟩, a3, a4, a5, a6, a7⟩ := hok
  have five : ∀ b, (kv_put V r i w).1 5 b = if r = 5 ∧ i = b then w else V.1 5 b := by
    intro b
    by_cases q : r = 5
    · by_cases q2 : i = b
      · rw [if_pos ⟨q, q2⟩, ← q, ← q2, kv_put_at]
      · rw [if_neg (fun z => q2 z.2), kv_put_ni (fun z => q2 z.symm)]
    · rw [if_neg (fun z => q z.1), kv_put_nr (fun z => q z.symm)]
  have low : ∀ a b m, V.1 a b ≤ m → (r = a → w ≤ m) → (kv_put V r i w).1 a b ≤ m := by
    intro a b m h1 h2
    by_cases q : r = a
    · by_cases q2 : i = b
      · rw [← q, ← q2, kv_put_at]
        exact h2 q
      · rw [kv_put_ni (fun z => q2 z.symm)]
        exact h1
    · rw [kv_put_nr (fun z => q z.symm)]
      exact h1
  refine ⟨⟨?_, ?_⟩, ?_, ?_, ?_, fun k hk => ⟨low 0 k 20 (a6 k hk).1 h0, low 1 k 9 (a6 k hk).2 h1⟩, fun k hk => ⟨low 2 k 5 (a7 k hk).1 h2, low 3 k 9 (a7 k hk).2.1 h3, low 4 k 20 (a7 k hk).2.2 h4⟩⟩
  · rw [five]
    split
    · next q => exact ((h5 q.1).1 q.2).1
    · exact a1
  · rw [five]
    split
    · next q => exact ((h5 q.1).1 q.2).2
    · exact a2
  · rw [five]
    split
    · next q => exact (h5 q.1).2.1 q.2
    · exact a3
  · rw [five]
    split
    · next q => exact (h5 q.1).2.2.1 q.2
    · exact a4
  · rw [five]
    split
    · next q => exact (h5 q.1).2.2.2 q.2
    · exact a5
theorem kv_ok_want {V : kv_V} (hok : kv_ok V) {x w : Nat} (hw : w ≤ 20) : kv_ok (kv_put V 4 x w) := kv_ok_put hok (fun q => absurd q (by decide)) (fun q => absurd q (by decide)) (fun q => absurd q (by decide)) (fun q => absurd q (by decide)) (fun q => absurd q (by decide)) (fun _ => hw)
theorem kv_ok_kind {V : kv_V} (hok : kv_ok V) {x w : Nat} (hw : w ≤ 5) : kv_ok (kv_put V 2 x w) := kv_ok_put hok (fun q => absurd q (by decide)) (fun q => absurd q (by decide)) (fun q => absurd q (by decide)) (fun _ => hw) (fun q => absurd q (by decide)) (fun q => absurd q (by decide))
theorem kv_ok_thing {V : kv_V} (hok : kv_ok V) {x w : Nat} (hw : w ≤ 9) : kv_ok (kv_put V 1 x w) := kv_ok_put hok (fun q => absurd q (by decide)) (fun q => absurd q (by decide)) (fun _ => hw) (fun q => absurd q (by decide)) (fun q => absurd q (by decide)) (fun q => absurd q (by decide))
theorem kv_ok_shy {V : kv_V} (hok : kv_ok V) {x w : Nat} (hw : w ≤ 20) : kv_ok (kv_put V 0 x w) := kv_ok_put hok (fun q => absurd q (by decide)) (fun _ => hw) (fun q => absurd q (by decide)) (fun q => absurd q (by decide)) (fun q => absurd q (by decide)) (fun q => absurd q (by decide))
theorem kv_ok_veil {V : kv_V} (hok : kv_ok V) {w : Nat} (hw : w ≤ 20) : kv_ok (kv_put V 5 1 w) := kv_ok_put hok (fun _ => ⟨fun q => absurd q (by decide), fun _ => hw, fun q => absurd q (by decide), fun q => absurd q (by decide)⟩) (fun q => absurd q (by decide)) (fun q => absurd q (by decide)) (fun q => absurd q (by decide)) (fun q => absurd q (by decide)) (fun q => absurd q (by decide))
theorem kv_ok_day {V : kv_V} (hok : kv_ok V) {w : Nat} (hw : w ≤ 999) : kv_ok (kv_put V 5 2 w) := kv_ok_put hok (fun _ => ⟨fun q => absurd q (by decide), fun q => absurd q (by decide), fun _ => hw, fun q => absurd q (by decide)⟩) (fun q => absurd q (by decide)) (fun q => absurd q (by decide)) (fun q => absurd q (by decide)) (fun q => absurd q (by decide)) (fun q => absurd q (by decide))
theorem kv_ok_n {V : kv_V} (hok : kv_ok V) {w : Nat} (h4 : 4 ≤ w) (hw : w ≤ 24) : kv_ok (kv_put V 5 0 w) := kv_ok_put hok (fun _ => ⟨fun _ => ⟨h4, hw⟩, fun q => absurd q (by decide), fun q => absurd q (by decide), fun q => absurd q (by decide)⟩) (fun q => absurd q (by decide)) (fun q => absurd q (by decide)) (fun q => absurd q (by decide)) (fun q => absurd q (by decide)) (fun q => absurd q (by decide))
theorem kv_ok_see {V : kv_V} (hok : kv_ok V) (f : Nat → Int32) : kv_ok (kv_see V f) := hok
theorem kv_ok_sd {V : kv_V} (hok : kv_ok V) (s : Int32) : kv_ok (kv_sd V s) := hok
theorem kv_X_own {M : kx_M} {o : Nat} {V : kv_V} {x : Nat} {w : Nat} (hX : kv_X M o V) : kv_X (kx_u1 M (o + 5) x (nI w)) o (kv_put V 3 x w) := by
  obtain ⟨⟨x1, x2, x3, x4, x5⟩, x6, x7, x8, x9, x10⟩ := hX
  have r : ∀ j, ¬ j = 5 → (kx_u1 M (o + 5) x (nI w)).1 (o + j) = M.1 (o + j) := fun j hj => kx_u1_ne (by omega)
  have r0 : (kx_u1 M (o + 5) x (nI w)).1 o = M.1 o := kx_u1_ne (by omega)
  refine ⟨⟨?_, ?_, ?_, ?_, ?_⟩, ?_, ?_, ?_, ?_, ?_⟩
  · rw [r0]; exact x1
  · rw [r0]; exact x2
  · rw [r0]; exact x3
  · rw [r0]; exact x4
  · rw [r0]; exact x5
  · intro k hk
    rw [r 1 (by decide), r 2 (by decide)]; exact x6 k hk
  · intro k hk
    obtain ⟨y0, y1, y2, y3⟩ := x7 k hk
    refine ⟨?_, ?_, ?_, ?_⟩
    · rw [r 4 (by decide)]; exact y0
    · skip
      show (if o + 5 = o + 5 ∧ k = x then nI w else M.1 (o + 5) k) = nI (if k = x then w else V.1 3 k)
      by_cases q : k = x
      · rw [if_pos ⟨rfl, q⟩, if_pos q]
      · rw [if_neg (fun z => q z.2), if_neg q]; exact y1
    · rw [r 6 (by decide)]; exact y2
    · rw [r 7 (by decide)]; exact y3
  · rw [r0]; exact x8
  · rw [r0]; exact x9
  · rw [r 3 (by decide)]; exact x10
theorem kv_X_want {M : kx_M} {o : Nat} {V : kv_V} {x : Nat} {w : Nat} (hX : kv_X M o V) : kv_X (kx_u1 M (o + 6) x (nI w)) o (kv_put V 4 x w) := by
  obtain ⟨⟨x1, x2, x3, x4, x5⟩, x6, x7, x8, x9, x10⟩ := hX
  have r : ∀ j, ¬ j = 6 → (kx_u1 M (o + 6) x (nI w)).1 (o + j) = M.1 (o + j) := fun j hj => kx_u1_ne (by omega)
  have r0 : (kx_u1 M (o + 6) x (nI w)).1 o = M.1 o := kx_u1_ne (by omega)
  refine ⟨⟨?_, ?_, ?_, ?_, ?_⟩, ?_, ?_, ?_, ?_, ?_⟩
  · rw [r0]; exact x1
  · rw [r0]; exact x2
  · rw [r0]; exact x3
  · rw [r0]; exact x4
  · rw [r0]; exact x5
  · intro k hk
    rw [r 1 (by decide), r 2 (by decide)]; exact x6 k hk
  · intro k hk
    obtain ⟨y0, y1, y2, y3⟩ := x7 k hk
    refine ⟨?_, ?_, ?_, ?_⟩
    · rw [r 4 (by decide)]; exact y0
    · rw [r 5 (by decide)]; exact y1
    · skip
      show (if o + 6 = o + 6 ∧ k = x then nI w else M.1 (o + 6) k) = nI (if k = x then w else V.1 4 k)
      by_cases q : k = x
      · rw [if_pos ⟨rfl, q⟩, if_pos q]
      · rw [if_neg (fun z => q z.2), if_neg q]; exact y2
    · rw [r 7 (by decide)]; exact y3
  · rw [r0]; exact x8
  · rw [r0]; exact x9
  · rw [r 3 (by decide)]; exact x10
theorem kv_X_thing {M : kx_M} {o : Nat} {V : kv_V} {x : Nat} {w : Nat} (hX : kv_X M o V) : kv_X (kx_u1 M (o + 2) x (nI w)) o (kv_put V 1 x w) := by
  obtain ⟨⟨x1, x2, x3, x4, x5⟩, x6, x7, x8, x9, x10⟩ := hX
  have r : ∀ j, ¬ j = 2 → (kx_u1 M (o + 2) x (nI w)).1 (o + j) = M.1 (o + j) := fun j hj => kx_u1_ne (by omega)
  have r0 : (kx_u1 M (o + 2) x (nI w)).1 o = M.1 o := kx_u1_ne (by omega)
  refine ⟨⟨?_, ?_, ?_, ?_, ?_⟩, ?_, ?_, ?_, ?_, ?_⟩
  · rw [r0]; exact x1
  · rw [r0]; exact x2
  · rw [r0]; exact x3
  · rw [r0]; exact x4
  · rw [r0]; exact x5
  · intro k hk
    obtain ⟨y0, y1⟩ := x6 k hk
    refine ⟨?_, ?_⟩
    · rw [r 1 (by decide)]; exact y0
    · skip
      show (if o + 2 = o + 2 ∧ k = x then nI w else M.1 (o + 2) k) = nI (if k = x then w else V.1 1 k)
      by_cases q : k = x
      · rw [if_pos ⟨rfl, q⟩, if_pos q]
      · rw [if_neg (fun z => q z.2), if_neg q]; exact y1
  · intro k hk
    rw [r 4 (by decide), r 5 (by decide), r 6 (by decide), r 7 (by decide)]; exact x7 k hk
  · rw [r0]; exact x8
  · rw [r0]; exact x9
  · rw [r 3 (by decide)]; exact x10
theorem kv_X_seen {M : kx_M} {o : Nat} {V : kv_V} {x : Nat} {v : Int32} (hX : kv_X M o V) : kv_X (kx_u1 M (o + 7) x (v)) o (kv_see V (upd V.2.1 x v)) := by
  obtain ⟨⟨x1, x2, x3, x4, x5⟩, x6, x7, x8, x9, x10⟩ := hX
  have r : ∀ j, ¬ j = 7 → (kx_u1 M (o + 7) x (v)).1 (o + j) = M.1 (o + j) := fun j hj => kx_u1_ne (by omega)
  have r0 : (kx_u1 M (o + 7) x (v)).1 o = M.1 o := kx_u1_ne (by omega)
  refine ⟨⟨?_, ?_, ?_, ?_, ?_⟩, ?_, ?_, ?_, ?_, ?_⟩
  · rw [r0]; exact x1
  · rw [r0]; exact x2
  · rw [r0]; exact x3
  · rw [r0]; exact x4
  · rw [r0]; exact x5
  · intro k hk
    rw [r 1 (by decide), r 2 (by decide)]; exact x6 k hk
  · intro k hk
    obtain ⟨y0, y1, y2, y3⟩ := x7 k hk
    refine ⟨?_, ?_, ?_, ?_⟩
    · rw [r 4 (by decide)]; exact y0
    · rw [r 5 (by decide)]; exact y1
    · rw [r 6 (by decide)]; exact y2
    · skip
      show (if o + 7 = o + 7 ∧ k = x then v else M.1 (o + 7) k) = upd V.2.1 x v k
      by_cases q : k = x
      · rw [if_pos ⟨rfl, q⟩, kz_upd_eq q]
      · rw [if_neg (fun z => q z.2), kz_upd_ne q]; exact y3
  · rw [r0]; exact x8
  · rw [r0]; exact x9
  · rw [r 3 (by decide)]; exact x10
theorem kv_X_veil {M : kx_M} {o : Nat} {V : kv_V} {w : Nat} (hX : kv_X M o V) : kv_X (kx_u1 M o 8 (nI w)) o (kv_put V 5 1 w) := by
  obtain ⟨⟨x1, x2, x3, x4, x5⟩, x6, x7, x8, x9, x10⟩ := hX
  have r : ∀ j, ¬ j = 0 → (kx_u1 M o 8 (nI w)).1 (o + j) = M.1 (o + j) := fun j hj => kx_u1_ne (by omega)
  have s : ∀ k, ¬ k = 8 → (kx_u1 M o 8 (nI w)).1 o k = M.1 o k := fun k hk => kv_u1_no (fun z => hk z.2)
  refine ⟨⟨?_, ?_, ?_, ?_, ?_⟩, ?_, ?_, ?_, ?_, ?_⟩
  · rw [s 7 (by decide)]; exact x1
  · exact kv_u1_at
  · rw [s 9 (by decide)]; exact x3
  · rw [s 10 (by decide)]; exact x4
  · rw [s 11 (by decide)]; exact x5
  · intro k hk; rw [r 1 (by decide), r 2 (by decide)]; exact x6 k hk
  · intro k hk; rw [r 4 (by decide), r 5 (by decide), r 6 (by decide), r 7 (by decide)]; exact x7 k hk
  · rw [s 12 (by decide)]; exact x8
  · rw [s 13 (by decide)]; exact x9
  · rw [r 3 (by decide)]; exact x10
theorem kv_X_day {M : kx_M} {o : Nat} {V : kv_V} {w : Nat} (hX : kv_X M o V) : kv_X (kx_u1 M o 9 (nI w)) o (kv_put V 5 2 w) := by
  obtain ⟨⟨x1, x2, x3, x4, x5⟩, x6, x7, x8, x9, x10⟩ := hX
  have r : ∀ j, ¬ j = 0 → (kx_u1 M o 9 (nI w)).1 (o + j) = M.1 (o + j) := fun j hj => kx_u1_ne (by omega)
  have s : ∀ k, ¬ k = 9 → (kx_u1 M o 9 (nI w)).1 o k = M.1 o k := fun k hk => kv_u1_no (fun z => hk z.2)
  refine ⟨⟨?_, ?_, ?_, ?_, ?_⟩, ?_, ?_, ?_, ?_, ?_⟩
  · rw [s 7 (by decide)]; exact x1
  · rw [s 8 (by decide)]; exact x2
  · exact kv_u1_at
  · rw [s 10 (by decide)]; exact x4
  · rw [s 11 (by decide)]; exact x5
  · intro k hk; rw [r 1 (by decide), r 2 (by decide)]; exact x6 k hk
  · intro k hk; rw [r 4 (by decide), r 5 (by decide), r 6 (by decide), r 7 (by decide)]; exact x7 k hk
  · rw [s 12 (by decide)]; exact x8
  · rw [s 13 (by decide)]; exact x9
  · rw [r 3 (by decide)]; exact x10
theorem kv_X_seed {M : kx_M} {o : Nat} {V : kv_V} {v : Int32} (hX : kv_X M o V) : kv_X (kx_u1 M o 10 (v)) o (kv_sd V v) := by
  obtain ⟨⟨x1, x2, x3, x4, x5⟩, x6, x7, x8, x9, x10⟩ := hX
  have r : ∀ j, ¬ j = 0 → (kx_u1 M o 10 (v)).1 (o + j) = M.1 (o + j) := fun j hj => kx_u1_ne (by omega)
  have s : ∀ k, ¬ k = 10 → (kx_u1 M o 10 (v)).1 o k = M.1 o k := fun k hk => kv_u1_no (fun z => hk z.2)
  refine ⟨⟨?_, ?_, ?_, ?_, ?_⟩, ?_, ?_, ?_, ?_, ?_⟩
  · rw [s 7 (by decide)]; exact x1
  · rw [s 8 (by decide)]; exact x2
  · rw [s 9 (by decide)]; exact x3
  · exact kv_u1_at
  · rw [s 11 (by decide)]; exact x5
  · intro k hk; rw [r 1 (by decide), r 2 (by decide)]; exact x6 k hk
  · intro k hk; rw [r 4 (by decide), r 5 (by decide), r 6 (by decide), r 7 (by decide)]; exact x7 k hk
  · rw [s 12 (by decide)]; exact x8
  · rw [s 13 (by decide)]; exact x9
  · rw [r 3 (by decide)]; exact x10
theorem kv_M_shy {M : kx_M} {V : kv_V} {x : Nat} {w : Nat} (hM : kv_M M V) : kv_M (kx_u1 M 1 x (nI w)) (kv_put V 0 x w) := by
  obtain ⟨⟨x1, x2, x3, x4, x5⟩, x6, x7⟩ := hM
  have r : ∀ j, ¬ j = 1 → (kx_u1 M 1 x (nI w)).1 j = M.1 j := fun j hj => kx_u1_ne hj
  refine ⟨⟨?_, ?_, ?_, ?_, ?_⟩, ?_, ?_⟩
  · rw [r 0 (by decide)]; exact x1
  · rw [r 3 (by decide)]; exact x2
  · rw [r 3 (by decide)]; exact x3
  · rw [r 0 (by decide)]; exact x4
  · rw [r 0 (by decide)]; exact x5
  · intro k hk
    obtain ⟨y0, y1⟩ := x6 k hk
    refine ⟨?_, ?_⟩
    · skip
      show (if 1 = 1 ∧ k = x then nI w else M.1 1 k) = nI (if k = x then w else V.1 0 k)
      by_cases q : k = x
      · rw [if_pos ⟨rfl, q⟩, if_pos q]
      · rw [if_neg (fun z => q z.2), if_neg q]; exact y0
    · rw [r 2 (by decide)]; exact y1
  · intro k hk; rw [r 4 (by decide), r 5 (by decide), r 6 (by decide), r 7 (by decide)]; exact x7 k hk
theorem kv_M_thing {M : kx_M} {V : kv_V} {x : Nat} {w : Nat} (hM : kv_M M V) : kv_M (kx_u1 M 2 x (nI w)) (kv_put V 1 x w) := by
  obtain ⟨⟨x1, x2, x3, x4, x5⟩, x6, x7⟩ := hM
  have r : ∀ j, ¬ j = 2 → (kx_u1 M 2 x (nI w)).1 j = M.1 j := fun j hj => kx_u1_ne hj
  refine ⟨⟨?_, ?_, ?_, ?_, ?_⟩, ?_, ?_⟩
  · rw [r 0 (by decide)]; exact x1
  · rw [r 3 (by decide)]; exact x2
  · rw [r 3 (by decide)]; exact x3
  · rw [r 0 (by decide)]; exact x4
  · rw [r 0 (by decide)]; exact x5
  · intro k hk
    obtain ⟨y0, y1⟩ := x6 k hk
    refine ⟨?_, ?_⟩
    · rw [r 1 (by decide)]; exact y0
    · skip
      show (if 2 = 2 ∧ k = x then nI w else M.1 2 k) = nI (if k = x then w else V.1 1 k)
      by_cases q : k = x
      · rw [if_pos ⟨rfl, q⟩, if_pos q]
      · rw [if_neg (fun z => q z.2), if_neg q]; exact y1
  · intro k hk; rw [r 4 (by decide), r 5 (by decide), r 6 (by decide), r 7 (by decide)]; exact x7 k hk
theorem kv_M_kind {M : kx_M} {V : kv_V} {x : Nat} {w : Nat} (hM : kv_M M V) : kv_M (kx_u1 M 4 x (nI w)) (kv_put V 2 x w) := by
  obtain ⟨⟨x1, x2, x3, x4, x5⟩, x6, x7⟩ := hM
  have r : ∀ j, ¬ j = 4 → (kx_u1 M 4 x (nI w)).1 j = M.1 j := fun j hj => kx_u1_ne hj
  refine ⟨⟨?_, ?_, ?_, ?_, ?_⟩, ?_, ?_⟩
  · rw [r 0 (by decide)]; exact x1
  · rw [r 3 (by decide)]; exact x2
  · rw [r 3 (by decide)]; exact x3
  · rw [r 0 (by decide)]; exact x4
  · rw [r 0 (by decide)]; exact x5
  · intro k hk; rw [r 1 (by decide), r 2 (by decide)]; exact x6 k hk
  · intro k hk
    obtain ⟨y0, y1, y2, y3⟩ := x7 k hk
    refine ⟨?_, ?_, ?_, ?_⟩
    · skip
      show (if 4 = 4 ∧ k = x then nI w else M.1 4 k) = nI (if k = x then w else V.1 2 k)
      by_cases q : k = x
      · rw [if_pos ⟨rfl, q⟩, if_pos q]
      · rw [if_neg (fun z => q z.2), if_neg q]; exact y0
    · rw [r 5 (by decide)]; exact y1
    · rw [r 6 (by decide)]; exact y2
    · rw [r 7 (by decide)]; exact y3
theorem kv_M_own {M : kx_M} {V : kv_V} {x : Nat} {w : Nat} (hM : kv_M M V) : kv_M (kx_u1 M 5 x (nI w)) (kv_put V 3 x w) := by
  obtain ⟨⟨x1, x2, x3, x4, x5⟩, x6, x7⟩ := hM
  have r : ∀ j, ¬ j = 5 → (kx_u1 M 5 x (nI w)).1 j = M.1 j := fun j hj => kx_u1_ne hj
  refine ⟨⟨?_, ?_, ?_, ?_, ?_⟩, ?_, ?_⟩
  · rw [r 0 (by decide)]; exact x1
  · rw [r 3 (by decide)]; exact x2
  · rw [r 3 (by decide)]; exact x3
  · rw [r 0 (by decide)]; exact x4
  · rw [r 0 (by decide)]; exact x5
  · intro k hk; rw [r 1 (by decide), r 2 (by decide)]; exact x6 k hk
  · intro k hk
    obtain ⟨y0, y1, y2, y3⟩ := x7 k hk
    refine ⟨?_, ?_, ?_, ?_⟩
    · rw [r 4 (by decide)]; exact y0
    · skip
      show (if 5 = 5 ∧ k = x then nI w else M.1 5 k) = nI (if k = x then w else V.1 3 k)
      by_cases q : k = x
      · rw [if_pos ⟨rfl, q⟩, if_pos q]
      · rw [if_neg (fun z => q z.2), if_neg q]; exact y1
    · rw [r 6 (by decide)]; exact y2
    · rw [r 7 (by decide)]; exact y3
theorem kv_M_want {M : kx_M} {V : kv_V} {x : Nat} {w : Nat} (hM : kv_M M V) : kv_M (kx_u1 M 6 x (nI w)) (kv_put V 4 x w) := by
  obtain ⟨⟨x1, x2, x3, x4, x5⟩, x6, x7⟩ := hM
  have r : ∀ j, ¬ j = 6 → (kx_u1 M 6 x (nI w)).1 j = M.1 j := fun j hj => kx_u1_ne hj
  refine ⟨⟨?_, ?_, ?_, ?_, ?_⟩, ?_, ?_⟩
  · rw [r 0 (by decide)]; exact x1
  · rw [r 3 (by decide)]; exact x2
  · rw [r 3 (by decide)]; exact x3
  · rw [r 0 (by decide)]; exact x4
  · rw [r 0 (by decide)]; exact x5
  · intro k hk; rw [r 1 (by decide), r 2 (by decide)]; exact x6 k hk
  · intro k hk
    obtain ⟨y0, y1, y2, y3⟩ := x7 k hk
    refine ⟨?_, ?_, ?_, ?_⟩
    · rw [r 4 (by decide)]; exact y0
    · rw [r 5 (by decide)]; exact y1
    · skip
      show (if 6 = 6 ∧ k = x then nI w else M.1 6 k) = nI (if k = x then w else V.1 4 k)
      by_cases q : k = x
      · rw [if_pos ⟨rfl, q⟩, if_pos q]
      · rw [if_neg (fun z => q z.2), if_neg q]; exact y2
    · rw [r 7 (by decide)]; exact y3
theorem kv_M_seen {M : kx_M} {V : kv_V} {x : Nat} {v : Int32} (hM : kv_M M V) : kv_M (kx_u1 M 7 x (v)) (kv_see V (upd V.2.1 x v)) := by
  obtain ⟨⟨x1, x2, x3, x4, x5⟩, x6, x7⟩ := hM
  have r : ∀ j, ¬ j = 7 → (kx_u1 M 7 x (v)).1 j = M.1 j := fun j hj => kx_u1_ne hj
  refine ⟨⟨?_, ?_, ?_, ?_, ?_⟩, ?_, ?_⟩
  · rw [r 0 (by decide)]; exact x1
  · rw [r 3 (by decide)]; exact x2
  · rw [r 3 (by decide)]; exact x3
  · rw [r 0 (by decide)]; exact x4
  · rw [r 0 (by decide)]; exact x5
  · intro k hk; rw [r 1 (by decide), r 2 (by decide)]; exact x6 k hk
  · intro k hk
    obtain ⟨y0, y1, y2, y3⟩ := x7 k hk
    refine ⟨?_, ?_, ?_, ?_⟩
    · rw [r 4 (by decide)]; exact y0
    · rw [r 5 (by decide)]; exact y1
    · rw [r 6 (by decide)]; exact y2
    · skip
      show (if 7 = 7 ∧ k = x then v else M.1 7 k) = upd V.2.1 x v k
      by_cases q : k = x
      · rw [if_pos ⟨rfl, q⟩, kz_upd_eq q]
      · rw [if_neg (fun z => q z.2), kz_upd_ne q]; exact y3
theorem kv_M_n {M : kx_M} {V : kv_V} {w : Nat} (hM : kv_M M V) : kv_M (kx_u1 M 0 0 (nI w)) (kv_put V 5 0 w) := by
  obtain ⟨⟨x1, x2, x3, x4, x5⟩, x6, x7⟩ := hM
  have r : ∀ j, ¬ j = 0 → (kx_u1 M 0 0 (nI w)).1 j = M.1 j := fun j hj => kx_u1_ne hj
  have s : ∀ k, ¬ k = 0 → (kx_u1 M 0 0 (nI w)).1 0 k = M.1 0 k := fun k hk => kv_u1_no (fun z => hk z.2)
  refine ⟨⟨?_, ?_, ?_, ?_, ?_⟩, ?_, ?_⟩
  · exact kv_u1_at
  · rw [r 3 (by decide)]; exact x2
  · rw [r 3 (by decide)]; exact x3
  · rw [s 9 (by decide)]; exact x4
  · rw [s 4 (by decide)]; exact x5
  · intro k hk; rw [r 1 (by decide), r 2 (by decide)]; exact x6 k hk
  · intro k hk; rw [r 4 (by decide), r 5 (by decide), r 6 (by decide), r 7 (by decide)]; exact x7 k hk
theorem kv_M_v {M : kx_M} {V : kv_V} {w : Nat} (hM : kv_M M V) : kv_M (kx_u1 M 0 4 (nI w)) (kv_put V 5 3 w) := by
  obtain ⟨⟨x1, x2, x3, x4, x5⟩, x6, x7⟩ := hM
  have r : ∀ j, ¬ j = 0 → (kx_u1 M 0 4 (nI w)).1 j = M.1 j := fun j hj => kx_u1_ne hj
  have s : ∀ k, ¬ k = 4 → (kx_u1 M 0 4 (nI w)).1 0 k = M.1 0 k := fun k hk => kv_u1_no (fun z => hk z.2)
  refine ⟨⟨?_, ?_, ?_, ?_, ?_⟩, ?_, ?_⟩
  · rw [s 0 (by decide)]; exact x1
  · rw [r 3 (by decide)]; exact x2
  · rw [r 3 (by decide)]; exact x3
  · rw [s 9 (by decide)]; exact x4
  · exact kv_u1_at
  · intro k hk; rw [r 1 (by decide), r 2 (by decide)]; exact x6 k hk
  · intro k hk; rw [r 4 (by decide), r 5 (by decide), r 6 (by decide), r 7 (by decide)]; exact x7 k hk
theorem kv_M_veil {M : kx_M} {V : kv_V} {w : Nat} (hM : kv_M M V) : kv_M (kx_u1 M 3 0 (nI w)) (kv_put V 5 1 w) := by
  obtain ⟨⟨x1, x2, x3, x4, x5⟩, x6, x7⟩ := hM
  have r : ∀ j, ¬ j = 3 → (kx_u1 M 3 0 (nI w)).1 j = M.1 j := fun j hj => kx_u1_ne hj
  have s : ∀ k, ¬ k = 0 → (kx_u1 M 3 0 (nI w)).1 3 k = M.1 3 k := fun k hk => kv_u1_no (fun z => hk z.2)
  refine ⟨⟨?_, ?_, ?_, ?_, ?_⟩, ?_, ?_⟩
  · rw [r 0 (by decide)]; exact x1
  · exact kv_u1_at
  · rw [s 1 (by decide)]; exact x3
  · rw [r 0 (by decide)]; exact x4
  · rw [r 0 (by decide)]; exact x5
  · intro k hk; rw [r 1 (by decide), r 2 (by decide)]; exact x6 k hk
  · intro k hk; rw [r 4 (by decide), r 5 (by decide), r 6 (by decide), r 7 (by decide)]; exact x7 k hk
theorem kv_M_day {M : kx_M} {V : kv_V} {w : Nat} (hM : kv_M M V) : kv_M (kx_u1 M 3 1 (nI w)) (kv_put V 5 2 w) := by
  obtain ⟨⟨x1, x2, x3, x4, x5⟩, x6, x7⟩ := hM
  have r : ∀ j, ¬ j = 3 → (kx_u1 M 3 1 (nI w)).1 j = M.1 j := fun j hj => kx_u1_ne hj
  have s : ∀ k, ¬ k = 1 → (kx_u1 M 3 1 (nI w)).1 3 k = M.1 3 k := fun k hk => kv_u1_no (fun z => hk z.2)
  refine ⟨⟨?_, ?_, ?_, ?_, ?_⟩, ?_, ?_⟩
  · rw [r 0 (by decide)]; exact x1
  · rw [s 0 (by decide)]; exact x2
  · exact kv_u1_at
  · rw [r 0 (by decide)]; exact x4
  · rw [r 0 (by decide)]; exact x5
  · intro k hk; rw [r 1 (by decide), r 2 (by decide)]; exact x6 k hk
  · intro k hk; rw [r 4 (by decide), r 5 (by decide), r 6 (by decide), r 7 (by decide)]; exact x7 k hk
theorem kv_M_seed {M : kx_M} {V : kv_V} {v : Int32} (hM : kv_M M V) : kv_M (kx_u1 M 0 9 (v)) (kv_sd V v) := by
  obtain ⟨⟨x1, x2, x3, x4, x5⟩, x6, x7⟩ := hM
  have r : ∀ j, ¬ j = 0 → (kx_u1 M 0 9 (v)).1 j = M.1 j := fun j hj => kx_u1_ne hj
  have s : ∀ k, ¬ k = 9 → (kx_u1 M 0 9 (v)).1 0 k = M.1 0 k := fun k hk => kv_u1_no (fun z => hk z.2)
  refine ⟨⟨?_, ?_, ?_, ?_, ?_⟩, ?_, ?_⟩
  · rw [s 0 (by decide)]; exact x1
  · rw [r 3 (by decide)]; exact x2
  · rw [r 3 (by decide)]; exact x3
  · exact kv_u1_at
  · rw [s 4 (by decide)]; exact x5
  · intro k hk; rw [r 1 (by decide), r 2 (by decide)]; exact x6 k hk
  · intro k hk; rw [r 4 (by decide), r 5 (by decide), r 6 (by decide), r 7 (by decide)]; exact x7 k hk
