/-! both as they are made -/
def kv_V0 : kv_V := (fun a b => if a = 0 then min b 20 else if a = 1 then b % 10 else if a = 5 then (if b = 0 then 12 else if b = 1 then 4 else 0) else 0, fun _ => 0, 1)
theorem k0_digit {k : Nat} (h : k < 24) : nI k - nI k / 10 * 10 = nI (k % 10) := by
  have : ∀ k : Fin 24, nI k.val - nI k.val / 10 * 10 = nI (k.val % 10) := by decide +kernel
  exact this ⟨k, h⟩
theorem k0_up {k : Nat} (h : k < 24) : (if (20 : Int32) < nI k then 20 else nI k) = nI (min k 20) := by
  have : ∀ k : Fin 24, (if (20 : Int32) < nI k.val then 20 else nI k.val) = nI (min k.val 20) := by decide +kernel
  exact this ⟨k, h⟩
theorem k0_down {k : Nat} (h : k < 24) : (if nI k < (20 : Int32) then nI k else 20) = nI (min k 20) := by
  have : ∀ k : Fin 24, (if nI k.val < (20 : Int32) then nI k.val else 20) = nI (min k.val 20) := by decide +kernel
  exact this ⟨k, h⟩
theorem k0_land {M : kx_M} (h : kx_LInit M) : ∃ f g f2, kc_Pi 24 f g ∧ M = kz_set (kx_u1 (kc_M0 f g) 0 7 12) 3 f2 ∧ ∀ k, k ≤ 20 → f2 k = z_mask (fun c => decide (min c 20 ≤ k)) 12 := by
  obtain ⟨f, g, hP, hM⟩ := h
  obtain ⟨f2, h2, hm⟩ := z_sumUp (o := 0) (n := 12) (M := kx_u1 (kc_M0 f g) 0 7 12) (S := fun c => min c 20) (by omega) rfl (fun c hc => ⟨(show f c = nI (min c 20) from by rw [(hP c (by omega)).1, k0_up (by omega)]), by omega⟩)
  refine ⟨f, g, f2, hP, ?_, hm⟩
  have h3 : f_X0_paveTo 0 12 (kc_M0 f g) = some (kz_set (kx_u1 (kc_M0 f g) 0 7 12) (0 + 3) f2) := by
    unfold f_X0_paveTo
    rw [h2]
    rfl
  exact Option.some.inj (hM.symm.trans h3)
theorem k0_ok : kv_ok kv_V0 := by
  refine ⟨⟨show 4 ≤ 12 by omega, show 12 ≤ 24 by omega⟩, show 4 ≤ 20 by omega, show 0 ≤ 999 by omega, show 0 ≤ 8 by omega, fun k _ => ⟨show min k 20 ≤ 20 by omega, show k % 10 ≤ 9 by omega⟩, fun k _ => ⟨show 0 ≤ 5 by omega, show 0 ≤ 9 by omega, show 0 ≤ 20 by omega⟩⟩
theorem k0_X {M1 M2 M3 : kx_M} (h : kx_LInit M1) : kv_X (kc_MX M1 M2 M3) 1 kv_V0 := by
  obtain ⟨f, g, f2, hP, rfl, hm⟩ := k0_land h
  refine ⟨⟨rfl, rfl, rfl, rfl, rfl⟩, fun k hk => ⟨?_, ?_⟩, fun k hk => ⟨rfl, rfl, rfl, rfl⟩, rfl, rfl, fun k hk => hm k hk⟩
  · show f k = nI (min k 20)
    rw [(hP k hk).1, k0_up hk]
  · show g k = nI (k % 10)
    rw [(hP k hk).2, k0_digit hk]
theorem k0_I {Mx Mm : kx_M} (hx : kx_XInit Mx) (hm : kx_MInit Mm) : kv_Inv Mx Mm := by
  obtain ⟨M1, M2, M3, h1, -, -, rfl⟩ := hx
  obtain ⟨f, g, h, hf, hh, rfl⟩ := hm
  refine ⟨kv_V0, k0_ok, k0_X h1, ⟨⟨rfl, rfl, rfl, rfl, rfl⟩, fun k hk => ⟨?_, ?_⟩, fun k hk => ⟨rfl, rfl, rfl, rfl⟩⟩, Or.inl ⟨rfl, rfl⟩, fun s hs => ⟨?_, Or.inl (hh s hs)⟩, ⟨0, by omega, rfl, rfl, fun k hk => absurd hk (by omega)⟩, fun k hk => rfl⟩
  · show f k = nI (min k 20)
    rw [(hf k hk).1, k0_down hk]
  · show g k = nI (k % 10)
    rw [(hf k hk).2, k0_digit hk]
  · rw [show (kc_MM f g h).1 9 s = -1 from hh s hs]
    rcases (show s = 0 ∨ s = 1 ∨ s = 2 ∨ s = 3 ∨ s = 4 ∨ s = 5 ∨ s = 6 ∨ s = 7 by omega) with rfl | rfl | rfl | rfl | rfl | rfl | rfl | rfl <;> rfl
