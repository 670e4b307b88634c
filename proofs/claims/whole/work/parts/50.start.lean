theorem kcd_X4_init : Cond.code T_X4_init.1 T_X4_init.2.1 T_X4_init.2.2.1 T_X4_init.2.2.2.1 ∈ kx_tbl := (kx_tb 19 (by decide +kernel) (by decide +kernel))
theorem kim_X4_init : Cond.instanceMethod T_X4_init.1 ∈ kx_tbl := (kx_tb 18 (by decide +kernel) (by decide +kernel))
theorem kcd_X5_init : Cond.code T_X5_init.1 T_X5_init.2.1 T_X5_init.2.2.1 T_X5_init.2.2.2.1 ∈ kx_tbl := (kx_tb 834 (by decide +kernel) (by decide +kernel))
theorem kim_X5_init : Cond.instanceMethod T_X5_init.1 ∈ kx_tbl := (kx_tb 833 (by decide +kernel) (by decide +kernel))
theorem kw_Dmap {A : Nat → Prop} {w1 w2 : va_W} (h : w1.map (fun q => q.1) = w2.map (fun q => q.1)) (hD : va_D A w1) : va_D A w2 := by
  have key : ∀ (k : Nat) (q : Nat × va_E), w2[k]? = some q → ∃ q0, w1[k]? = some q0 ∧ q0.1 = q.1 := by
    intro k q hk
    have h1 : (w1.map (fun q => q.1))[k]? = some q.1 := by rw [h, List.getElem?_map, hk]; rfl
    rw [List.getElem?_map] at h1
    cases h2 : w1[k]? with
    | none => rw [h2] at h1; cases h1
    | some q0 => rw [h2] at h1; exact ⟨q0, rfl, Option.some.inj h1⟩
  refine ⟨fun i j x y hi hj hxy => ?_, fun k q hk => ?_⟩
  · obtain ⟨x0, h1, h2⟩ := key i x hi
    obtain ⟨y0, h3, h4⟩ := key j y hj
    exact hD.1 i j x0 y0 h1 h3 (h2.trans (hxy.trans h4.symm))
  · obtain ⟨q0, h1, h2⟩ := key k q hk
    rw [← h2]
    exact hD.2 k q0 h1
theorem kw_addr {E : kx_E} {ac : Nat → ClassId} {ad : Nat → Nat} {M : kx_M} : (kx_wld E ac ad M).map (fun q => q.1) = (List.range E.2.2).map ad := by
  unfold kx_wld
  rw [List.map_map]
  rfl
theorem kw_join {A0 : Nat → Prop} {D : va_G} {cl : List vw_C} {w1 w2 w3 : va_W} {H H1 : Heap} (hP : va_P D cl (w1 ++ w2) H) (hD : va_D A0 (w1 ++ w2)) (hk : ∀ q : Nat, q < H.size → ¬ va_A w2 H.size q → H1[q]? = H[q]?) (hF : ∀ q, va_A w2 H.size q → A0 q) (hP1 : va_P D cl w3 H1) (hD1 : va_D (va_A w2 H.size) w3) : va_P D cl (w1 ++ w3) H1 ∧ va_D A0 (w1 ++ w3) := by
  have inL : ∀ (k : Nat) (q : Nat × va_E), w1[k]? = some q → (w1 ++ w2)[k]? = some q := fun k q h => by rw [List.getElem?_append_left (List.getElem?_eq_some_iff.mp h).1]; exact h
  have inR : ∀ (k : Nat) (q : Nat × va_E), w2[k]? = some q → (w1 ++ w2)[w1.length + k]? = some q := fun k q h => by rw [List.getElem?_append_right (by omega), Nat.add_sub_cancel_left]; exact h
  have apart : ∀ (k : Nat) (q : Nat × va_E), w1[k]? = some q → q.1 < H.size ∧ ¬ va_A w2 H.size q.1 := by
    intro k q hq
    have hl := (hP k q (inL k q hq)).lt
    refine ⟨hl, fun h => ?_⟩
    rcases h with ⟨k2, e, h⟩ | h
    · have := hD.1 k (w1.length + k2) q (q.1, e) (inL k q hq) (inR k2 _ h) rfl
      have := (List.getElem?_eq_some_iff.mp hq).1
      omega
    · omega
  have hDl : va_D A0 w1 := ⟨fun i j x y hi hj h => hD.1 i j x y (inL i x hi) (inL j y hj) h, fun k q h => hD.2 k q (inL k q h)⟩
  exact ⟨va_P.app (fun k q hq => (hP k q (inL k q hq)).kept (hk q.1 (apart k q hq).1 (apart k q hq).2)) hP1, va_D.app hDl (hD1.weaken (fun k q _ h => hF q.1 h)) (fun i j x y hx hy hxy => (apart i x hx).2 (by rw [hxy]; exact hD1.2 j y hy))⟩
theorem kw_arr {A : Array Value} {s : State} {ty : FieldType} (h : (Cond.arrayClass ty).before A s = true) : ∃ cA : ClassId, ArrOfT s cA ty ∧ s.vm.findClass ("[" ++ ty.toString) = some cA := by
  obtain ⟨cA, kA, comp, hfind, hk, hkind⟩ := Cond.arrayClass_spec h
  exact ⟨cA, fun n z => ⟨fun k h => (by cases h), kA, hk, comp, hkind⟩, hfind⟩
theorem kw_ac {A : Array Value} {s : State} (h0 : (Cond.arrayClass .int).before A s = true) (h1 : (Cond.arrayClass .char).before A s = true) (h2 : (Cond.arrayClass .long).before A s = true) (h3 : va_AO "VeilsOfTheView$Shelf" s) : ∃ ac : Nat → ClassId, ∀ (k : Nat) (q : ClassId × FieldType), (kx_ty ac)[k]? = some q → ArrOfT s q.1 q.2 ∧ va_RA s q.1 q.2 := by
  obtain ⟨a0, e0, f0⟩ := kw_arr h0
  obtain ⟨a1, e1, f1⟩ := kw_arr h1
  obtain ⟨a2, e2, f2⟩ := kw_arr h2
  obtain ⟨comp, a3, k3, g1, g2, g3, g4, g5⟩ := Cond.arrayOver_spec h3
  refine ⟨fun k => if k = 0 then a0 else if k = 1 then a1 else if k = 2 then a2 else a3, fun k q hq => ?_⟩
  match k, hq with
  | 0, hq => cases hq; exact ⟨e0, f0⟩
  | 1, hq => cases hq; exact ⟨e1, f1⟩
  | 2, hq => cases hq; exact ⟨e2, f2⟩
  | 3, hq => cases hq; exact ⟨fun n z => ⟨fun k h => (by cases h), k3, g3, comp, g4⟩, k3, comp, g3, g4, g1, g5⟩
  | k + 4, hq => simp [kx_ty] at hq
theorem kw_text0 {s : State} {b : Nat} (hts : ∀ w ∈ lw_tbl, w.before #[Value.ref b] s = true) (hgv : (Jvm.Cond.and given_1 narrow_1).before #[Value.ref b] s = true) : ∃ a v : Nat, kt_S (fun q => s.heap.size ≤ q) ("VeilsOfTheView$Tape", 35, "cells", [99, 101, 108, 108, 115]) a v s s.heap := by
  have hs := flat_of_before _ hgv
  obtain ⟨adK, adV, hS, hev⟩ := vk_Sof (args := #[Value.ref b]) (s := s) (N := 1) (tm := fun _ => Term.string "VeilsOfTheView$Tape" 35) (len := [5]) (byt := [[99, 101, 108, 108, 115]]) (A := fun q => s.heap.size ≤ q) (fun i hi => by
    have h0 : i = 0 := by omega
    subst h0
    decide) (fun i hi => by
    have h0 : i = 0 := by omega
    subst h0
    exact hs _ (by decide +kernel)) (fun i hi => by
    have h0 : i = 0 := by omega
    subst h0
    exact hs _ (by decide +kernel)) (fun i hi => by
    have h0 : i = 0 := by omega
    subst h0
    exact hs _ (by decide +kernel)) (fun i hi => by
    have h0 : i = 0 := by omega
    subst h0
    exact hs _ (by decide +kernel)) (fun i hi j hj => by
    have h0 : i = 0 := by omega
    subst h0
    have hj : j < 5 := hj
    rcases (show j = 0 ∨ j = 1 ∨ j = 2 ∨ j = 3 ∨ j = 4 by omega) with rfl | rfl | rfl | rfl | rfl <;> exact hs _ (by decide +kernel)) (fun i j hi hj h => absurd (show i = j by omega) h) (fun a ha => Nat.not_le.mpr ha)
  obtain ⟨h1, h2, h3, h4⟩ := hS.1 0 (by decide)
  exact ⟨adK 0, adV 0, vk_R.of (hts _ (List.mem_append_right _ (List.mem_of_getElem? (i := 391) (by decide +kernel)))) (hev 0 (by decide)), h1, h2, h3, h4⟩
theorem kw_text1 {s : State} {b : Nat} (hts : ∀ w ∈ lw_tbl, w.before #[Value.ref b] s = true) (hgv : (Jvm.Cond.and given_1 narrow_1).before #[Value.ref b] s = true) : ∃ a v : Nat, kt_S (fun q => s.heap.size ≤ q) ("VeilsOfTheView$Tape", 44, "visitor", [118, 105, 115, 105, 116, 111, 114]) a v s s.heap := by
  have hs := flat_of_before _ hgv
  obtain ⟨adK, adV, hS, hev⟩ := vk_Sof (args := #[Value.ref b]) (s := s) (N := 1) (tm := fun _ => Term.string "VeilsOfTheView$Tape" 44) (len := [7]) (byt := [[118, 105, 115, 105, 116, 111, 114]]) (A := fun q => s.heap.size ≤ q) (fun i hi => by
    have h0 : i = 0 := by omega
    subst h0
    decide) (fun i hi => by
    have h0 : i = 0 := by omega
    subst h0
    exact hs _ (by decide +kernel)) (fun i hi => by
    have h0 : i = 0 := by omega
    subst h0
    exact hs _ (by decide +kernel)) (fun i hi => by
    have h0 : i = 0 := by omega
    subst h0
    exact hs _ (by decide +kernel)) (fun i hi => by
    have h0 : i = 0 := by omega
    subst h0
    exact hs _ (by decide +kernel)) (fun i hi j hj => by
    have h0 : i = 0 := by omega
    subst h0
    have hj : j < 7 := hj
    rcases (show j = 0 ∨ j = 1 ∨ j = 2 ∨ j = 3 ∨ j = 4 ∨ j = 5 ∨ j = 6 by omega) with rfl | rfl | rfl | rfl | rfl | rfl | rfl <;> exact hs _ (by decide +kernel)) (fun i j hi hj h => absurd (show i = j by omega) h) (fun a ha => Nat.not_le.mpr ha)
  obtain ⟨h1, h2, h3, h4⟩ := hS.1 0 (by decide)
  exact ⟨adK 0, adV 0, vk_R.of (hts _ (List.mem_append_right _ (List.mem_of_getElem? (i := 454) (by decide +kernel)))) (hev 0 (by decide)), h1, h2, h3, h4⟩
theorem kw_text2 {s : State} {b : Nat} (hts : ∀ w ∈ lw_tbl, w.before #[Value.ref b] s = true) (hgv : (Jvm.Cond.and given_1 narrow_1).before #[Value.ref b] s = true) : ∃ a v : Nat, kt_S (fun q => s.heap.size ≤ q) ("VeilsOfTheView$Tape", 49, "shy", [115, 104, 121]) a v s s.heap := by
  have hs := flat_of_before _ hgv
  obtain ⟨adK, adV, hS, hev⟩ := vk_Sof (args := #[Value.ref b]) (s := s) (N := 1) (tm := fun _ => Term.string "VeilsOfTheView$Tape" 49) (len := [3]) (byt := [[115, 104, 121]]) (A := fun q => s.heap.size ≤ q) (fun i hi => by
    have h0 : i = 0 := by omega
    subst h0
    decide) (fun i hi => by
    have h0 : i = 0 := by omega
    subst h0
    exact hs _ (by decide +kernel)) (fun i hi => by
    have h0 : i = 0 := by omega
    subst h0
    exact hs _ (by decide +kernel)) (fun i hi => by
    have h0 : i = 0 := by omega
    subst h0
    exact hs _ (by decide +kernel)) (fun i hi => by
    have h0 : i = 0 := by omega
    subst h0
    exact hs _ (by decide +kernel)) (fun i hi j hj => by
    have h0 : i = 0 := by omega
    subst h0
    have hj : j < 3 := hj
    rcases (show j = 0 ∨ j = 1 ∨ j = 2 by omega) with rfl | rfl | rfl <;> exact hs _ (by decide +kernel)) (fun i j hi hj h => absurd (show i = j by omega) h) (fun a ha => Nat.not_le.mpr ha)
  obtain ⟨h1, h2, h3, h4⟩ := hS.1 0 (by decide)
  exact ⟨adK 0, adV 0, vk_R.of (hts _ (List.mem_append_right _ (List.mem_of_getElem? (i := 461) (by decide +kernel)))) (hev 0 (by decide)), h1, h2, h3, h4⟩
theorem kw_text3 {s : State} {b : Nat} (hts : ∀ w ∈ lw_tbl, w.before #[Value.ref b] s = true) (hgv : (Jvm.Cond.and given_1 narrow_1).before #[Value.ref b] s = true) : ∃ a v : Nat, kt_S (fun q => s.heap.size ≤ q) ("VeilsOfTheView$Tape", 54, "thing", [116, 104, 105, 110, 103]) a v s s.heap := by
  have hs := flat_of_before _ hgv
  obtain ⟨adK, adV, hS, hev⟩ := vk_Sof (args := #[Value.ref b]) (s := s) (N := 1) (tm := fun _ => Term.string "VeilsOfTheView$Tape" 54) (len := [5]) (byt := [[116, 104, 105, 110, 103]]) (A := fun q => s.heap.size ≤ q) (fun i hi => by
    have h0 : i = 0 := by omega
    subst h0
    decide) (fun i hi => by
    have h0 : i = 0 := by omega
    subst h0
    exact hs _ (by decide +kernel)) (fun i hi => by
    have h0 : i = 0 := by omega
    subst h0
    exact hs _ (by decide +kernel)) (fun i hi => by
    have h0 : i = 0 := by omega
    subst h0
    exact hs _ (by decide +kernel)) (fun i hi => by
    have h0 : i = 0 := by omega
    subst h0
    exact hs _ (by decide +kernel)) (fun i hi j hj => by
    have h0 : i = 0 := by omega
    subst h0
    have hj : j < 5 := hj
    rcases (show j = 0 ∨ j = 1 ∨ j = 2 ∨ j = 3 ∨ j = 4 by omega) with rfl | rfl | rfl | rfl | rfl <;> exact hs _ (by decide +kernel)) (fun i j hi hj h => absurd (show i = j by omega) h) (fun a ha => Nat.not_le.mpr ha)
  obtain ⟨h1, h2, h3, h4⟩ := hS.1 0 (by decide)
  exact ⟨adK 0, adV 0, vk_R.of (hts _ (List.mem_append_right _ (List.mem_of_getElem? (i := 467) (by decide +kernel)))) (hev 0 (by decide)), h1, h2, h3, h4⟩
theorem kw_text4 {s : State} {b : Nat} (hts : ∀ w ∈ lw_tbl, w.before #[Value.ref b] s = true) (hgv : (Jvm.Cond.and given_1 narrow_1).before #[Value.ref b] s = true) : ∃ a v : Nat, kt_S (fun q => s.heap.size ≤ q) ("VeilsOfTheView$Tape", 59, "saw", [115, 97, 119]) a v s s.heap := by
  have hs := flat_of_before _ hgv
  obtain ⟨adK, adV, hS, hev⟩ := vk_Sof (args := #[Value.ref b]) (s := s) (N := 1) (tm := fun _ => Term.string "VeilsOfTheView$Tape" 59) (len := [3]) (byt := [[115, 97, 119]]) (A := fun q => s.heap.size ≤ q) (fun i hi => by
    have h0 : i = 0 := by omega
    subst h0
    decide) (fun i hi => by
    have h0 : i = 0 := by omega
    subst h0
    exact hs _ (by decide +kernel)) (fun i hi => by
    have h0 : i = 0 := by omega
    subst h0
    exact hs _ (by decide +kernel)) (fun i hi => by
    have h0 : i = 0 := by omega
    subst h0
    exact hs _ (by decide +kernel)) (fun i hi => by
    have h0 : i = 0 := by omega
    subst h0
    exact hs _ (by decide +kernel)) (fun i hi j hj => by
    have h0 : i = 0 := by omega
    subst h0
    have hj : j < 3 := hj
    rcases (show j = 0 ∨ j = 1 ∨ j = 2 by omega) with rfl | rfl | rfl <;> exact hs _ (by decide +kernel)) (fun i j hi hj h => absurd (show i = j by omega) h) (fun a ha => Nat.not_le.mpr ha)
  obtain ⟨h1, h2, h3, h4⟩ := hS.1 0 (by decide)
  exact ⟨adK 0, adV 0, vk_R.of (hts _ (List.mem_append_right _ (List.mem_of_getElem? (i := 472) (by decide +kernel)))) (hev 0 (by decide)), h1, h2, h3, h4⟩
theorem kw_text5 {s : State} {b : Nat} (hts : ∀ w ∈ lw_tbl, w.before #[Value.ref b] s = true) (hgv : (Jvm.Cond.and given_1 narrow_1).before #[Value.ref b] s = true) : ∃ a v : Nat, kt_S (fun q => s.heap.size ≤ q) ("VeilsOfTheView$Tape", 64, "veil", [118, 101, 105, 108]) a v s s.heap := by
  have hs := flat_of_before _ hgv
  obtain ⟨adK, adV, hS, hev⟩ := vk_Sof (args := #[Value.ref b]) (s := s) (N := 1) (tm := fun _ => Term.string "VeilsOfTheView$Tape" 64) (len := [4]) (byt := [[118, 101, 105, 108]]) (A := fun q => s.heap.size ≤ q) (fun i hi => by
    have h0 : i = 0 := by omega
    subst h0
    decide) (fun i hi => by
    have h0 : i = 0 := by omega
    subst h0
    exact hs _ (by decide +kernel)) (fun i hi => by
    have h0 : i = 0 := by omega
    subst h0
    exact hs _ (by decide +kernel)) (fun i hi => by
    have h0 : i = 0 := by omega
    subst h0
    exact hs _ (by decide +kernel)) (fun i hi => by
    have h0 : i = 0 := by omega
    subst h0
    exact hs _ (by decide +kernel)) (fun i hi j hj => by
    have h0 : i = 0 := by omega
    subst h0
    have hj : j < 4 := hj
    rcases (show j = 0 ∨ j = 1 ∨ j = 2 ∨ j = 3 by omega) with rfl | rfl | rfl | rfl <;> exact hs _ (by decide +kernel)) (fun i j hi hj h => absurd (show i = j by omega) h) (fun a ha => Nat.not_le.mpr ha)
  obtain ⟨h1, h2, h3, h4⟩ := hS.1 0 (by decide)
  exact ⟨adK 0, adV 0, vk_R.of (hts _ (List.mem_append_right _ (List.mem_of_getElem? (i := 477) (by decide +kernel)))) (hev 0 (by decide)), h1, h2, h3, h4⟩
theorem kw_text6 {s : State} {b : Nat} (hts : ∀ w ∈ lw_tbl, w.before #[Value.ref b] s = true) (hgv : (Jvm.Cond.and given_1 narrow_1).before #[Value.ref b] s = true) : ∃ a v : Nat, kt_S (fun q => s.heap.size ≤ q) ("VeilsOfTheView$Tape", 69, "day", [100, 97, 121]) a v s s.heap := by
  have hs := flat_of_before _ hgv
  obtain ⟨adK, adV, hS, hev⟩ := vk_Sof (args := #[Value.ref b]) (s := s) (N := 1) (tm := fun _ => Term.string "VeilsOfTheView$Tape" 69) (len := [3]) (byt := [[100, 97, 121]]) (A := fun q => s.heap.size ≤ q) (fun i hi => by
    have h0 : i = 0 := by omega
    subst h0
    decide) (fun i hi => by
    have h0 : i = 0 := by omega
    subst h0
    exact hs _ (by decide +kernel)) (fun i hi => by
    have h0 : i = 0 := by omega
    subst h0
    exact hs _ (by decide +kernel)) (fun i hi => by
    have h0 : i = 0 := by omega
    subst h0
    exact hs _ (by decide +kernel)) (fun i hi => by
    have h0 : i = 0 := by omega
    subst h0
    exact hs _ (by decide +kernel)) (fun i hi j hj => by
    have h0 : i = 0 := by omega
    subst h0
    have hj : j < 3 := hj
    rcases (show j = 0 ∨ j = 1 ∨ j = 2 by omega) with rfl | rfl | rfl <;> exact hs _ (by decide +kernel)) (fun i j hi hj h => absurd (show i = j by omega) h) (fun a ha => Nat.not_le.mpr ha)
  obtain ⟨h1, h2, h3, h4⟩ := hS.1 0 (by decide)
  exact ⟨adK 0, adV 0, vk_R.of (hts _ (List.mem_append_right _ (List.mem_of_getElem? (i := 482) (by decide +kernel)))) (hev 0 (by decide)), h1, h2, h3, h4⟩
theorem kw_text7 {s : State} {b : Nat} (hts : ∀ w ∈ lw_tbl, w.before #[Value.ref b] s = true) (hgv : (Jvm.Cond.and given_1 narrow_1).before #[Value.ref b] s = true) : ∃ a v : Nat, kt_S (fun q => s.heap.size ≤ q) ("VeilsOfTheViewModel", 160, "visitor", [118, 105, 115, 105, 116, 111, 114]) a v s s.heap := by
  have hs := flat_of_before _ hgv
  obtain ⟨adK, adV, hS, hev⟩ := vk_Sof (args := #[Value.ref b]) (s := s) (N := 1) (tm := fun _ => Term.string "VeilsOfTheViewModel" 160) (len := [7]) (byt := [[118, 105, 115, 105, 116, 111, 114]]) (A := fun q => s.heap.size ≤ q) (fun i hi => by
    have h0 : i = 0 := by omega
    subst h0
    decide) (fun i hi => by
    have h0 : i = 0 := by omega
    subst h0
    exact hs _ (by decide +kernel)) (fun i hi => by
    have h0 : i = 0 := by omega
    subst h0
    exact hs _ (by decide +kernel)) (fun i hi => by
    have h0 : i = 0 := by omega
    subst h0
    exact hs _ (by decide +kernel)) (fun i hi => by
    have h0 : i = 0 := by omega
    subst h0
    exact hs _ (by decide +kernel)) (fun i hi j hj => by
    have h0 : i = 0 := by omega
    subst h0
    have hj : j < 7 := hj
    rcases (show j = 0 ∨ j = 1 ∨ j = 2 ∨ j = 3 ∨ j = 4 ∨ j = 5 ∨ j = 6 by omega) with rfl | rfl | rfl | rfl | rfl | rfl | rfl <;> exact hs _ (by decide +kernel)) (fun i j hi hj h => absurd (show i = j by omega) h) (fun a ha => Nat.not_le.mpr ha)
  obtain ⟨h1, h2, h3, h4⟩ := hS.1 0 (by decide)
  exact ⟨adK 0, adV 0, vk_R.of (hts _ (List.mem_append_right _ (List.mem_of_getElem? (i := 1056) (by decide +kernel)))) (hev 0 (by decide)), h1, h2, h3, h4⟩
theorem kw_text8 {s : State} {b : Nat} (hts : ∀ w ∈ lw_tbl, w.before #[Value.ref b] s = true) (hgv : (Jvm.Cond.and given_1 narrow_1).before #[Value.ref b] s = true) : ∃ a v : Nat, kt_S (fun q => s.heap.size ≤ q) ("VeilsOfTheViewModel", 170, "shy", [115, 104, 121]) a v s s.heap := by
  have hs := flat_of_before _ hgv
  obtain ⟨adK, adV, hS, hev⟩ := vk_Sof (args := #[Value.ref b]) (s := s) (N := 1) (tm := fun _ => Term.string "VeilsOfTheViewModel" 170) (len := [3]) (byt := [[115, 104, 121]]) (A := fun q => s.heap.size ≤ q) (fun i hi => by
    have h0 : i = 0 := by omega
    subst h0
    decide) (fun i hi => by
    have h0 : i = 0 := by omega
    subst h0
    exact hs _ (by decide +kernel)) (fun i hi => by
    have h0 : i = 0 := by omega
    subst h0
    exact hs _ (by decide +kernel)) (fun i hi => by
    have h0 : i = 0 := by omega
    subst h0
    exact hs _ (by decide +kernel)) (fun i hi => by
    have h0 : i = 0 := by omega
    subst h0
    exact hs _ (by decide +kernel)) (fun i hi j hj => by
    have h0 : i = 0 := by omega
    subst h0
    have hj : j < 3 := hj
    rcases (show j = 0 ∨ j = 1 ∨ j = 2 by omega) with rfl | rfl | rfl <;> exact hs _ (by decide +kernel)) (fun i j hi hj h => absurd (show i = j by omega) h) (fun a ha => Nat.not_le.mpr ha)
  obtain ⟨h1, h2, h3, h4⟩ := hS.1 0 (by decide)
  exact ⟨adK 0, adV 0, vk_R.of (hts _ (List.mem_append_right _ (List.mem_of_getElem? (i := 1071) (by decide +kernel)))) (hev 0 (by decide)), h1, h2, h3, h4⟩
theorem kw_text9 {s : State} {b : Nat} (hts : ∀ w ∈ lw_tbl, w.before #[Value.ref b] s = true) (hgv : (Jvm.Cond.and given_1 narrow_1).before #[Value.ref b] s = true) : ∃ a v : Nat, kt_S (fun q => s.heap.size ≤ q) ("VeilsOfTheViewModel", 175, "thing", [116, 104, 105, 110, 103]) a v s s.heap := by
  have hs := flat_of_before _ hgv
  obtain ⟨adK, adV, hS, hev⟩ := vk_Sof (args := #[Value.ref b]) (s := s) (N := 1) (tm := fun _ => Term.string "VeilsOfTheViewModel" 175) (len := [5]) (byt := [[116, 104, 105, 110, 103]]) (A := fun q => s.heap.size ≤ q) (fun i hi => by
    have h0 : i = 0 := by omega
    subst h0
    decide) (fun i hi => by
    have h0 : i = 0 := by omega
    subst h0
    exact hs _ (by decide +kernel)) (fun i hi => by
    have h0 : i = 0 := by omega
    subst h0
    exact hs _ (by decide +kernel)) (fun i hi => by
    have h0 : i = 0 := by omega
    subst h0
    exact hs _ (by decide +kernel)) (fun i hi => by
    have h0 : i = 0 := by omega
    subst h0
    exact hs _ (by decide +kernel)) (fun i hi j hj => by
    have h0 : i = 0 := by omega
    subst h0
    have hj : j < 5 := hj
    rcases (show j = 0 ∨ j = 1 ∨ j = 2 ∨ j = 3 ∨ j = 4 by omega) with rfl | rfl | rfl | rfl | rfl <;> exact hs _ (by decide +kernel)) (fun i j hi hj h => absurd (show i = j by omega) h) (fun a ha => Nat.not_le.mpr ha)
  obtain ⟨h1, h2, h3, h4⟩ := hS.1 0 (by decide)
  exact ⟨adK 0, adV 0, vk_R.of (hts _ (List.mem_append_right _ (List.mem_of_getElem? (i := 1076) (by decide +kernel)))) (hev 0 (by decide)), h1, h2, h3, h4⟩
theorem kw_text10 {s : State} {b : Nat} (hts : ∀ w ∈ lw_tbl, w.before #[Value.ref b] s = true) (hgv : (Jvm.Cond.and given_1 narrow_1).before #[Value.ref b] s = true) : ∃ a v : Nat, kt_S (fun q => s.heap.size ≤ q) ("VeilsOfTheViewModel", 176, "cells", [99, 101, 108, 108, 115]) a v s s.heap := by
  have hs := flat_of_before _ hgv
  obtain ⟨adK, adV, hS, hev⟩ := vk_Sof (args := #[Value.ref b]) (s := s) (N := 1) (tm := fun _ => Term.string "VeilsOfTheViewModel" 176) (len := [5]) (byt := [[99, 101, 108, 108, 115]]) (A := fun q => s.heap.size ≤ q) (fun i hi => by
    have h0 : i = 0 := by omega
    subst h0
    decide) (fun i hi => by
    have h0 : i = 0 := by omega
    subst h0
    exact hs _ (by decide +kernel)) (fun i hi => by
    have h0 : i = 0 := by omega
    subst h0
    exact hs _ (by decide +kernel)) (fun i hi => by
    have h0 : i = 0 := by omega
    subst h0
    exact hs _ (by decide +kernel)) (fun i hi => by
    have h0 : i = 0 := by omega
    subst h0
    exact hs _ (by decide +kernel)) (fun i hi j hj => by
    have h0 : i = 0 := by omega
    subst h0
    have hj : j < 5 := hj
    rcases (show j = 0 ∨ j = 1 ∨ j = 2 ∨ j = 3 ∨ j = 4 by omega) with rfl | rfl | rfl | rfl | rfl <;> exact hs _ (by decide +kernel)) (fun i j hi hj h => absurd (show i = j by omega) h) (fun a ha => Nat.not_le.mpr ha)
  obtain ⟨h1, h2, h3, h4⟩ := hS.1 0 (by decide)
  exact ⟨adK 0, adV 0, vk_R.of (hts _ (List.mem_append_right _ (List.mem_of_getElem? (i := 1077) (by decide +kernel)))) (hev 0 (by decide)), h1, h2, h3, h4⟩
theorem kw_text11 {s : State} {b : Nat} (hts : ∀ w ∈ lw_tbl, w.before #[Value.ref b] s = true) (hgv : (Jvm.Cond.and given_1 narrow_1).before #[Value.ref b] s = true) : ∃ a v : Nat, kt_S (fun q => s.heap.size ≤ q) ("VeilsOfTheViewModel", 178, "saw", [115, 97, 119]) a v s s.heap := by
  have hs := flat_of_before _ hgv
  obtain ⟨adK, adV, hS, hev⟩ := vk_Sof (args := #[Value.ref b]) (s := s) (N := 1) (tm := fun _ => Term.string "VeilsOfTheViewModel" 178) (len := [3]) (byt := [[115, 97, 119]]) (A := fun q => s.heap.size ≤ q) (fun i hi => by
    have h0 : i = 0 := by omega
    subst h0
    decide) (fun i hi => by
    have h0 : i = 0 := by omega
    subst h0
    exact hs _ (by decide +kernel)) (fun i hi => by
    have h0 : i = 0 := by omega
    subst h0
    exact hs _ (by decide +kernel)) (fun i hi => by
    have h0 : i = 0 := by omega
    subst h0
    exact hs _ (by decide +kernel)) (fun i hi => by
    have h0 : i = 0 := by omega
    subst h0
    exact hs _ (by decide +kernel)) (fun i hi j hj => by
    have h0 : i = 0 := by omega
    subst h0
    have hj : j < 3 := hj
    rcases (show j = 0 ∨ j = 1 ∨ j = 2 by omega) with rfl | rfl | rfl <;> exact hs _ (by decide +kernel)) (fun i j hi hj h => absurd (show i = j by omega) h) (fun a ha => Nat.not_le.mpr ha)
  obtain ⟨h1, h2, h3, h4⟩ := hS.1 0 (by decide)
  exact ⟨adK 0, adV 0, vk_R.of (hts _ (List.mem_append_right _ (List.mem_of_getElem? (i := 1078) (by decide +kernel)))) (hev 0 (by decide)), h1, h2, h3, h4⟩
theorem kw_text12 {s : State} {b : Nat} (hts : ∀ w ∈ lw_tbl, w.before #[Value.ref b] s = true) (hgv : (Jvm.Cond.and given_1 narrow_1).before #[Value.ref b] s = true) : ∃ a v : Nat, kt_S (fun q => s.heap.size ≤ q) ("VeilsOfTheViewModel", 180, "veil", [118, 101, 105, 108]) a v s s.heap := by
  have hs := flat_of_before _ hgv
  obtain ⟨adK, adV, hS, hev⟩ := vk_Sof (args := #[Value.ref b]) (s := s) (N := 1) (tm := fun _ => Term.string "VeilsOfTheViewModel" 180) (len := [4]) (byt := [[118, 101, 105, 108]]) (A := fun q => s.heap.size ≤ q) (fun i hi => by
    have h0 : i = 0 := by omega
    subst h0
    decide) (fun i hi => by
    have h0 : i = 0 := by omega
    subst h0
    exact hs _ (by decide +kernel)) (fun i hi => by
    have h0 : i = 0 := by omega
    subst h0
    exact hs _ (by decide +kernel)) (fun i hi => by
    have h0 : i = 0 := by omega
    subst h0
    exact hs _ (by decide +kernel)) (fun i hi => by
    have h0 : i = 0 := by omega
    subst h0
    exact hs _ (by decide +kernel)) (fun i hi j hj => by
    have h0 : i = 0 := by omega
    subst h0
    have hj : j < 4 := hj
    rcases (show j = 0 ∨ j = 1 ∨ j = 2 ∨ j = 3 by omega) with rfl | rfl | rfl | rfl <;> exact hs _ (by decide +kernel)) (fun i j hi hj h => absurd (show i = j by omega) h) (fun a ha => Nat.not_le.mpr ha)
  obtain ⟨h1, h2, h3, h4⟩ := hS.1 0 (by decide)
  exact ⟨adK 0, adV 0, vk_R.of (hts _ (List.mem_append_right _ (List.mem_of_getElem? (i := 1079) (by decide +kernel)))) (hev 0 (by decide)), h1, h2, h3, h4⟩
theorem kw_text13 {s : State} {b : Nat} (hts : ∀ w ∈ lw_tbl, w.before #[Value.ref b] s = true) (hgv : (Jvm.Cond.and given_1 narrow_1).before #[Value.ref b] s = true) : ∃ a v : Nat, kt_S (fun q => s.heap.size ≤ q) ("VeilsOfTheViewModel", 182, "day", [100, 97, 121]) a v s s.heap := by
  have hs := flat_of_before _ hgv
  obtain ⟨adK, adV, hS, hev⟩ := vk_Sof (args := #[Value.ref b]) (s := s) (N := 1) (tm := fun _ => Term.string "VeilsOfTheViewModel" 182) (len := [3]) (byt := [[100, 97, 121]]) (A := fun q => s.heap.size ≤ q) (fun i hi => by
    have h0 : i = 0 := by omega
    subst h0
    decide) (fun i hi => by
    have h0 : i = 0 := by omega
    subst h0
    exact hs _ (by decide +kernel)) (fun i hi => by
    have h0 : i = 0 := by omega
    subst h0
    exact hs _ (by decide +kernel)) (fun i hi => by
    have h0 : i = 0 := by omega
    subst h0
    exact hs _ (by decide +kernel)) (fun i hi => by
    have h0 : i = 0 := by omega
    subst h0
    exact hs _ (by decide +kernel)) (fun i hi j hj => by
    have h0 : i = 0 := by omega
    subst h0
    have hj : j < 3 := hj
    rcases (show j = 0 ∨ j = 1 ∨ j = 2 by omega) with rfl | rfl | rfl <;> exact hs _ (by decide +kernel)) (fun i j hi hj h => absurd (show i = j by omega) h) (fun a ha => Nat.not_le.mpr ha)
  obtain ⟨h1, h2, h3, h4⟩ := hS.1 0 (by decide)
  exact ⟨adK 0, adV 0, vk_R.of (hts _ (List.mem_append_right _ (List.mem_of_getElem? (i := 1080) (by decide +kernel)))) (hev 0 (by decide)), h1, h2, h3, h4⟩
theorem kw_texts {s : State} {b : Nat} (hts : ∀ w ∈ lw_tbl, w.before #[Value.ref b] s = true) (hgv : (Jvm.Cond.and given_1 narrow_1).before #[Value.ref b] s = true) : kt_all (fun q => s.heap.size ≤ q) s s.heap := by
  have hs := flat_of_before _ hgv
  refine ⟨?_, va_Zof (hts _ (List.mem_append_right _ (List.mem_of_getElem? (i := 405) (by decide +kernel)))) (hts _ (List.mem_append_right _ (List.mem_of_getElem? (i := 11) (by decide +kernel)))) (va_eqt (hs _ (by decide +kernel))) (fun a ha => Nat.not_le.mpr ha), va_Zqof (hts _ (List.mem_append_right _ (List.mem_of_getElem? (i := 421) (by decide +kernel)))) (hts _ (List.mem_append_right _ (List.mem_of_getElem? (i := 13) (by decide +kernel)))) (hs _ (by decide +kernel)) (fun a ha => Nat.not_le.mpr ha)⟩
  unfold kt_tab
  exact List.forall_mem_cons.mpr ⟨kw_text0 hts hgv, List.forall_mem_cons.mpr ⟨kw_text1 hts hgv, List.forall_mem_cons.mpr ⟨kw_text2 hts hgv, List.forall_mem_cons.mpr ⟨kw_text3 hts hgv, List.forall_mem_cons.mpr ⟨kw_text4 hts hgv, List.forall_mem_cons.mpr ⟨kw_text5 hts hgv, List.forall_mem_cons.mpr ⟨kw_text6 hts hgv, List.forall_mem_cons.mpr ⟨kw_text7 hts hgv, List.forall_mem_cons.mpr ⟨kw_text8 hts hgv, List.forall_mem_cons.mpr ⟨kw_text9 hts hgv, List.forall_mem_cons.mpr ⟨kw_text10 hts hgv, List.forall_mem_cons.mpr ⟨kw_text11 hts hgv, List.forall_mem_cons.mpr ⟨kw_text12 hts hgv, List.forall_mem_cons.mpr ⟨kw_text13 hts hgv, fun _ h => absurd h List.not_mem_nil⟩⟩⟩⟩⟩⟩⟩⟩⟩⟩⟩⟩⟩⟩
set_option maxHeartbeats 8000000 in
set_option maxRecDepth 100000 in
/-- from the law's entry: both objects are made; then its loop -/
theorem kw_start (Inv : kx_M → kx_M → Prop) (hAll : kl_All Inv) (hI0 : ∀ Mx Mm, kx_XInit Mx → kx_MInit Mm → Inv Mx Mm) {p : Program} {e : Env} {s : State} {m : MethodId} {below : List Frame} {meth : Method} {c : Code} (l : Launch) {b L : Nat} {xs : Nat → Int32} (hL : L ≤ 3072) (C0 : lw_At p s m meth c b L xs) : W p l e room_1 s m #[Value.ref b] below meth c s.heap [] 0 0 (lw_Z below #[Value.ref b] s) (entryFrame m ([Value.ref b] : List Value).toArray 4) := by
  obtain ⟨hx, hb, hr, hml, hown, hts, hX, hbl, hlocks, hgv⟩ := id C0
  have ht : ∀ w ∈ kx_tbl, w.before #[Value.ref b] s = true := fun w h => hts w (List.mem_filter.mp h).1
  have hA : ∀ q : Nat, s.heap.size ≤ q → (fun q : Nat => s.heap.size ≤ q) q := fun _ h => h
  obtain ⟨c0, iS0, hKn0⟩ := u_known (C := RX0) (T := TX0) (N := 14) (n := 14) hts inX0 (hts (.instantiable RX0 14) (List.mem_append_right _ (List.mem_of_getElem? (i := 24) (by decide +kernel))))
  obtain ⟨c1, iS1, hKn1⟩ := u_known (C := RX1) (T := TX1) (N := 3) (n := 3) hts inX1 (hts (.instantiable RX1 3) (List.mem_append_right _ (List.mem_of_getElem? (i := 157) (by decide +kernel))))
  obtain ⟨c2, iS2, hKn2⟩ := u_known (C := RX2) (T := TX2) (N := 3) (n := 3) hts inX2 (hts (.instantiable RX2 3) (List.mem_append_right _ (List.mem_of_getElem? (i := 110) (by decide +kernel))))
  obtain ⟨c3, iS3, hKn3⟩ := u_known (C := RX3) (T := TX3) (N := 6) (n := 6) hts inX3 (hts (.instantiable RX3 6) (List.mem_append_right _ (List.mem_of_getElem? (i := 130) (by decide +kernel))))
  obtain ⟨c4, iS4, hKn4⟩ := u_known (C := RX4) (T := TX4) (N := 8) (n := 8) hts inX4 (hts (.instantiable RX4 8) (List.mem_append_right _ (List.mem_of_getElem? (i := 16) (by decide +kernel))))
  obtain ⟨c5, iS5, hKn5⟩ := u_known (C := RX5) (T := TX5) (N := 28) (n := 28) hts inX5 (hts (.instantiable RX5 28) (List.mem_append_right _ (List.mem_of_getElem? (i := 831) (by decide +kernel))))
  have hAO : va_AO "VeilsOfTheView$Shelf" s := va_AO.of (hts (.arrayOver (.object "VeilsOfTheView$Shelf")) (List.mem_append_right _ (List.mem_of_getElem? (i := 109) (by decide +kernel))))
  obtain ⟨ac, hac⟩ := kw_ac (hts (.arrayClass .int) (List.mem_append_right _ (List.mem_of_getElem? (i := 107) (by decide +kernel)))) (hts (.arrayClass .char) (List.mem_append_right _ (List.mem_of_getElem? (i := 155) (by decide +kernel)))) (hts (.arrayClass .long) (List.mem_append_right _ (List.mem_of_getElem? (i := 128) (by decide +kernel)))) hAO
  obtain ⟨D, hKc⟩ : ∃ D : va_G, ∀ (k : Nat) (q : vw_C), vwCl[k]? = some q → u_Kn s q.1 q.2.1 q.2.2 (D.1 k) (D.2 k) := by
    refine ⟨(fun k => if k = 0 then c0 else if k = 1 then c1 else if k = 2 then c2 else if k = 3 then c3 else if k = 4 then c4 else c5, fun k => if k = 0 then iS0 else if k = 1 then iS1 else if k = 2 then iS2 else if k = 3 then iS3 else if k = 4 then iS4 else iS5), ?_⟩
    intro k q hq
    match k, hq with
    | 0, hq => cases hq; exact hKn0
    | 1, hq => cases hq; exact hKn1
    | 2, hq => cases hq; exact hKn2
    | 3, hq => cases hq; exact hKn3
    | 4, hq => cases hq; exact hKn4
    | 5, hq => cases hq; exact hKn5
    | k + 6, hq => simp [vwCl] at hq
  have hK : va_K D vwCl (kx_ty ac) s := ⟨hKc, hac⟩
  have hXX : kx_nestP s := by
    intro w hw
    have h1 := List.all_eq_true.mp kx_nestsN w hw
    have h2 := hts w (List.mem_append_right _ (kx_nests_in w hw))
    cases w <;> first | exact va_Nw.of rfl h2 | cases h1
  have hS : va_S (fun q : Nat => s.heap.size ≤ q) s.heap s.heap [] := va_S.rf
  have hP : va_P D vwCl [] s.heap := fun k q h => by simp at h
  have hD : va_D (fun q : Nat => s.heap.size ≤ q) [] := ⟨fun i j p q h => by simp at h, fun k q h => by simp at h⟩
  have hl := lv_entry ([.ref b]) (n := 4) (Nat.le_of_ble_eq_true rfl)
  rw [lg_entry_eq]
  generalize (lg_sl ([.ref b]) ++ List.replicate (4 - (lg_sl ([.ref b])).length) Slot.unset).toArray = ls at hl ⊢
  have hl : lv_has ls 4 [(0, .ref b)] := hl
  refine va_new (ci := 4) (fs := [.null, .null, .null, .null, .null, .null, .null, .int 0]) (C := RX4) (T := TX4) (N := 8) hx hb hts inX4 tyX4 tyX4_ok hown (hts (.classLink R_law 7 RX4) (List.mem_append_right _ (List.mem_of_getElem? (i := 15) (by decide +kernel)))) (hts (.instantiable RX4 8) (List.mem_append_right _ (List.mem_of_getElem? (i := 16) (by decide +kernel)))) (ht _ kini_X4) hK hP hD hS hA rfl (fun j hj => by rcases (show j = 0 ∨ j = 1 ∨ j = 2 ∨ j = 3 ∨ j = 4 ∨ j = 5 ∨ j = 6 ∨ j = 7 by omega) with rfl | rfl | rfl | rfl | rfl | rfl | rfl | rfl <;> rfl) (Nat.le_of_ble_eq_true rfl) (Nat.le_of_ble_eq_true rfl) (show decode code 0 = .ok (.new 7, 3) from by decide +kernel) (fun qx H hP hD hS => ?_)
  have hP : va_P D vwCl ([(qx, .inr (4, [.null, .null, .null, .null, .null, .null, .null, .int 0]))] : va_W) H := hP
  have hD : va_D (fun q : Nat => s.heap.size ≤ q) ([(qx, .inr (4, [.null, .null, .null, .null, .null, .null, .null, .int 0]))] : va_W) := hD
  refine lv_dup hx hb (show decode code 3 = .ok (.dup, 1) from by decide +kernel) rfl ?_
  have hFc : ∀ q, va_A [(qx, .inr (4, [.null, .null, .null, .null, .null, .null, .null, .int 0]))] H.size q → (fun q : Nat => s.heap.size ≤ q) q := va_free (wc := [(qx, .inr (4, [.null, .null, .null, .null, .null, .null, .null, .int 0]))]) hD hS hA [0] rfl
  refine va_callv (va_runI (As := []) (rest := [.ref qx]) ⟨hx, hb, hml, hown, hts⟩ (ci_X4 l D ac qx H.size) (cwI 0 hts (kl_goodIn kcd_X4_init) rfl rfl rfl (ht _ kini_X4) (hts (.methodLink R_law 9 yX4_init) (List.mem_append_right _ (List.mem_of_getElem? (i := 17) (by decide +kernel)))) (ht _ kim_X4_init) rfl (by decide +kernel) ⟨(Nat.le_of_ble_eq_true rfl), (Nat.le_of_ble_eq_true rfl)⟩) ⟨by intro a U g mk q; obtain ⟨q0, q1, q2, q3, q4, q5, q6⟩ := q; exact ⟨q0, q1, q2, va_K.moved (u := U) (U := U.calling g mk a) (Vm.Alike.refl U.vm) q3, q4, q5.call g mk a, va_AO.moved (Vm.Alike.refl U.vm) q6⟩, fun U hU hW => ⟨rfl, by rw [hU], by rw [hU]; exact hP, va_K.moved hW.alike hK, hD.weaken (fun _ _ _ _ => trivial), hXX.warm hW, va_AO.moved hW.alike hAO⟩⟩ rfl rfl hl.1 rfl (lv_room (Nat.le_of_ble_eq_true rfl)) (show decode code 4 = .ok (.invokespecial 9, 3) from by decide +kernel) ⟨(Nat.le_of_ble_eq_true rfl), (Nat.le_of_ble_eq_true rfl)⟩) hS (fun q _ h => hFc q h) hFc (fun u t H1 locs ht9 hvm hw hB hz1 hk1 hS => ?_)
  obtain ⟨adx, Mx, hix, ex, hP1, hD1⟩ := hB
  rw [ht9] at hP1
  subst ex
  have hD1 : va_D (fun q : Nat => s.heap.size ≤ q) (kx_wld EX ac adx Mx) := hD1.weaken (fun k q _ h => hFc q.1 h)
  clear hP hD hFc hk1
  generalize H1 = H at hP1 hS ⊢
  refine lv_astore_n (lv' := [(1, .ref (adx 0)), (0, .ref b)]) hx hb (show decode code 7 = .ok (.astore_n 1, 1) from by decide +kernel) rfl hl (by decide) rfl (fun ls hl => ?_)
  refine va_new (ci := 5) (fs := [.int 0, .null, .null, .null, .int 0, .null, .null, .null, .null, .int 0, .int 0, .null, .int 0, .int 0, .int 0, .int 0, .null, .null, .null, .null, .int 0, .null, .null, .null, .null, .null, .null, .int 0]) (C := RX5) (T := TX5) (N := 28) hx hb hts inX5 tyX5 tyX5_ok hown (hts (.classLink R_law 10 RX5) (List.mem_append_right _ (List.mem_of_getElem? (i := 830) (by decide +kernel)))) (hts (.instantiable RX5 28) (List.mem_append_right _ (List.mem_of_getElem? (i := 831) (by decide +kernel)))) (ht _ kini_X5) hK hP1 hD1 hS hA rfl (fun j hj => by rcases (show j = 0 ∨ j = 1 ∨ j = 2 ∨ j = 3 ∨ j = 4 ∨ j = 5 ∨ j = 6 ∨ j = 7 ∨ j = 8 ∨ j = 9 ∨ j = 10 ∨ j = 11 ∨ j = 12 ∨ j = 13 ∨ j = 14 ∨ j = 15 ∨ j = 16 ∨ j = 17 ∨ j = 18 ∨ j = 19 ∨ j = 20 ∨ j = 21 ∨ j = 22 ∨ j = 23 ∨ j = 24 ∨ j = 25 ∨ j = 26 ∨ j = 27 by omega) with rfl | rfl | rfl | rfl | rfl | rfl | rfl | rfl | rfl | rfl | rfl | rfl | rfl | rfl | rfl | rfl | rfl | rfl | rfl | rfl | rfl | rfl | rfl | rfl | rfl | rfl | rfl | rfl <;> rfl) (Nat.le_of_ble_eq_true rfl) (Nat.le_of_ble_eq_true rfl) (show decode code 8 = .ok (.new 10, 3) from by decide +kernel) (fun qm H hP hD hS => ?_)
  clear hP1 hD1
  refine lv_dup hx hb (show decode code 11 = .ok (.dup, 1) from by decide +kernel) rfl ?_
  have hPc : va_P D vwCl ([(qm, .inr (5, [.int 0, .null, .null, .null, .int 0, .null, .null, .null, .null, .int 0, .int 0, .null, .int 0, .int 0, .int 0, .int 0, .null, .null, .null, .null, .int 0, .null, .null, .null, .null, .null, .null, .int 0]))] : va_W) H := fun k q hk => hP ((kx_wld EX ac adx Mx).length + k) q (by rw [List.getElem?_append_right (by omega), Nat.add_sub_cancel_left]; exact hk)
  have hDc : va_D (fun q : Nat => s.heap.size ≤ q) ([(qm, .inr (5, [.int 0, .null, .null, .null, .int 0, .null, .null, .null, .null, .int 0, .int 0, .null, .int 0, .int 0, .int 0, .int 0, .null, .null, .null, .null, .int 0, .null, .null, .null, .null, .null, .null, .int 0]))] : va_W) := ⟨fun i j x y hi hj h => by
    have := hD.1 ((kx_wld EX ac adx Mx).length + i) ((kx_wld EX ac adx Mx).length + j) x y (by rw [List.getElem?_append_right (by omega), Nat.add_sub_cancel_left]; exact hi) (by rw [List.getElem?_append_right (by omega), Nat.add_sub_cancel_left]; exact hj) h
    omega, fun k q hk => hD.2 ((kx_wld EX ac adx Mx).length + k) q (by rw [List.getElem?_append_right (by omega), Nat.add_sub_cancel_left]; exact hk)⟩
  have hFc : ∀ q, va_A [(qm, .inr (5, [.int 0, .null, .null, .null, .int 0, .null, .null, .null, .null, .int 0, .int 0, .null, .int 0, .int 0, .int 0, .int 0, .null, .null, .null, .null, .int 0, .null, .null, .null, .null, .null, .null, .int 0]))] H.size q → (fun q : Nat => s.heap.size ≤ q) q := va_free (wc := [(qm, .inr (5, [.int 0, .null, .null, .null, .int 0, .null, .null, .null, .null, .int 0, .int 0, .null, .int 0, .int 0, .int 0, .int 0, .null, .null, .null, .null, .int 0, .null, .null, .null, .null, .null, .null, .int 0]))]) hDc hS hA [0] rfl
  refine va_callv (va_runI (As := []) (rest := [.ref qm]) ⟨hx, hb, hml, hown, hts⟩ (ci_X5 l D ac qm H.size) (cwI 0 hts (kl_goodIn kcd_X5_init) rfl rfl rfl (ht _ kini_X5) (hts (.methodLink R_law 12 yX5_init) (List.mem_append_right _ (List.mem_of_getElem? (i := 832) (by decide +kernel)))) (ht _ kim_X5_init) rfl (by decide +kernel) ⟨(Nat.le_of_ble_eq_true rfl), (Nat.le_of_ble_eq_true rfl)⟩) ⟨by intro a U g mk q; obtain ⟨q0, q1, q2, q3, q4, q5⟩ := q; exact ⟨q0, q1, q2, va_K.moved (u := U) (U := U.calling g mk a) (Vm.Alike.refl U.vm) q3, q4, q5.call g mk a⟩, fun U hU hW => ⟨rfl, by rw [hU], by rw [hU]; exact hPc, va_K.moved hW.alike hK, hDc.weaken (fun _ _ _ _ => trivial), hXX.warm hW⟩⟩ rfl rfl hl.1 rfl (lv_room (Nat.le_of_ble_eq_true rfl)) (show decode code 12 = .ok (.invokespecial 12, 3) from by decide +kernel) ⟨(Nat.le_of_ble_eq_true rfl), (Nat.le_of_ble_eq_true rfl)⟩) hS (fun q _ h => hFc q h) hFc (fun u t H1 locs ht9 hvm hw hB hz1 hk1 hS => ?_)
  obtain ⟨adm, Mm, him, em, hP1, hD1⟩ := hB
  rw [ht9] at hP1
  subst em
  obtain ⟨hPn, hDn⟩ := kw_join hP hD hk1 hFc hP1 hD1
  clear hP hD hPc hDc hFc hk1 hP1 hD1
  generalize H1 = H at hPn hS ⊢
  refine lv_astore_n (lv' := [(2, .ref (adm 0)), (1, .ref (adx 0)), (0, .ref b)]) hx hb (show decode code 15 = .ok (.astore_n 2, 1) from by decide +kernel) rfl hl (by decide) rfl (fun ls hl => ?_)
  refine lv_iconst (v := 0) hx hb (show decode code 16 = .ok (.iconst 0, 1) from by decide +kernel) (by decide) ?_
  refine lv_istore_n (lv' := [(3, .int 0), (2, .ref (adm 0)), (1, .ref (adx 0)), (0, .ref b)]) hx hb (show decode code 17 = .ok (.istore_n 3, 1) from by decide +kernel) rfl hl (by decide) rfl (fun ls hl => ?_)
  have hC : kl_C p s m meth c D ac adx adm b L xs := ⟨hx, hb, hr, hml, hown, hts, hX, hbl, hlocks, hK, fun Mx' Mm' => kw_Dmap (by unfold kl_ws; rw [List.map_append, List.map_append, kw_addr, kw_addr, kw_addr, kw_addr]) hDn, hXX, kw_texts hts hgv⟩
  refine W.widen (k := 600000) (n := 7302250) (Nat.le_of_ble_eq_true rfl) (Nat.le_of_ble_eq_true rfl) ?_
  exact kl_loop hC hL hAll (L + 1) 0 (by omega) (by omega) Mx Mm (hI0 Mx Mm hix him) H _ hPn hS ls ⟨rfl, _, hl, by
    intro i v hi
    match i, hi with
    | 0, hi => cases hi; simp [kx_cv, kl_ad]
    | 1, hi => cases hi; simp [kx_cv, kl_ad]
    | 2, hi => cases hi; simp [kx_cv, kl_ad]
    | 3, hi => cases hi; simp [kx_cv, nI_0]
    | i + 4, hi => simp at hi⟩
