/-! the view, and what holds between the two memories -/
/-- rows 0 shy, 1 thing, 2 kind, 3 own, 4 want; row 5: 0 n, 1 veil, 2 day, 3 visitors; what each has seen, as bits; the seed -/
abbrev kv_V : Type := (Nat → Nat → Nat) × (Nat → Int32) × Int32
def kv_ok (V : kv_V) : Prop := (4 ≤ V.1 5 0 ∧ V.1 5 0 ≤ 24) ∧ V.1 5 1 ≤ 20 ∧ V.1 5 2 ≤ 999 ∧ V.1 5 3 ≤ 8 ∧ (∀ k, k < 24 → V.1 0 k ≤ 20 ∧ V.1 1 k ≤ 9) ∧ (∀ k, k < 8 → V.1 2 k ≤ 5 ∧ V.1 3 k ≤ 9 ∧ V.1 4 k ≤ 20)
def kv_asks (V : kv_V) (x : Nat) : Bool := V.1 2 x == 1 || V.1 2 x == 3
def kv_kid (V : kv_V) (x : Nat) : Bool := V.1 2 x == 5
/-- a Land at cell o shows V -/
def kv_X (M : kx_M) (o : Nat) (V : kv_V) : Prop := (M.1 o 7 = nI (V.1 5 0) ∧ M.1 o 8 = nI (V.1 5 1) ∧ M.1 o 9 = nI (V.1 5 2) ∧ M.1 o 10 = V.2.2 ∧ M.1 o 11 = nI (V.1 5 3)) ∧ (∀ k, k < 24 → M.1 (o + 1) k = nI (V.1 0 k) ∧ M.1 (o + 2) k = nI (V.1 1 k)) ∧ (∀ k, k < 8 → M.1 (o + 4) k = nI (V.1 2 k) ∧ M.1 (o + 5) k = nI (V.1 3 k) ∧ M.1 (o + 6) k = nI (V.1 4 k) ∧ M.1 (o + 7) k = V.2.1 k) ∧ M.1 o 12 = z_mask (kv_asks V) (V.1 5 3) ∧ M.1 o 13 = z_mask (kv_kid V) (V.1 5 3) ∧ (∀ k, k ≤ 20 → M.1 (o + 3) k = z_mask (fun c => decide (V.1 0 c ≤ k)) (V.1 5 0))
/-- the reference shows V -/
def kv_M (M : kx_M) (V : kv_V) : Prop := (M.1 0 0 = nI (V.1 5 0) ∧ M.1 3 0 = nI (V.1 5 1) ∧ M.1 3 1 = nI (V.1 5 2) ∧ M.1 0 9 = V.2.2 ∧ M.1 0 4 = nI (V.1 5 3)) ∧ (∀ k, k < 24 → M.1 1 k = nI (V.1 0 k) ∧ M.1 2 k = nI (V.1 1 k)) ∧ (∀ k, k < 8 → M.1 4 k = nI (V.1 2 k) ∧ M.1 5 k = nI (V.1 3 k) ∧ M.1 6 k = nI (V.1 4 k) ∧ M.1 7 k = V.2.1 k)
/-- a row of 85 numbers shows V -/
def kv_Of (f : Nat → Int32) (V : kv_V) : Prop := (∀ k, k < 24 → f k = nI (V.1 0 k) ∧ f (24 + k) = nI (V.1 1 k)) ∧ (∀ k, k < 8 → f (48 + k) = nI (V.1 2 k) ∧ f (56 + k) = nI (V.1 3 k) ∧ f (64 + k) = nI (V.1 4 k) ∧ f (72 + k) = V.2.1 k) ∧ f 80 = nI (V.1 5 0) ∧ f 81 = nI (V.1 5 1) ∧ f 82 = nI (V.1 5 2) ∧ f 83 = nI (V.1 5 3) ∧ f 84 = V.2.2
/-- the reference's image shows V -/
def kv_O (M : kx_M) (V : kv_V) : Prop := kv_Of (M.1 13) V
def kv_shelf (Mx Mm : kx_M) (s v : Nat) : Prop := Mx.1 (26 + 2 * s) 2 = Mm.1 9 s ∧ ((Mm.1 9 s = -1) ∨ (∃ x, x < v ∧ Mm.1 9 s = nI (10 + x)) ∨ (∃ t z, t < 5 ∧ z ≤ 40 ∧ Mm.1 9 s = nI t ∧ Mm.1 10 s = nI z ∧ Mx.1 (26 + 2 * s) 1 = nI z ∧ ∀ k, k < 40 → Mx.2 (27 + 2 * s) k = Mm.2 11 (40 * s + k)))
def kv_tape (Mx Mm : kx_M) : Prop := ∃ z, z ≤ 250 ∧ Mx.1 42 1 = nI z ∧ Mm.1 0 10 = nI z ∧ ∀ k, k < z → Mx.1 43 k = Mm.1 8 k
def kv_Inv (Mx Mm : kx_M) : Prop := ∃ V, kv_ok V ∧ kv_X Mx 1 V ∧ kv_M Mm V ∧ ((Mx.1 0 7 = 0 ∧ Mm.1 0 20 = 0) ∨ (Mx.1 0 7 = 1 ∧ Mm.1 0 20 = 1 ∧ ∃ V', kv_ok V' ∧ kv_X Mx 9 V' ∧ kv_O Mm V')) ∧ (∀ s, s < 8 → kv_shelf Mx Mm s (V.1 5 3)) ∧ kv_tape Mx Mm ∧ (∀ k, k < 5 → Mx.1 47 k = Mm.1 12 (k + 2))
