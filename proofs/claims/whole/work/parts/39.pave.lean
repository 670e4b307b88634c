/-! the rows of what is shown: by each OPEN the cells that are shy so far at most -/
def kz_set (M : kx_M) (w : Nat) (f : Nat → Int32) : kx_M := (fun o k => if o = w then f k else M.1 o k, M.2)
theorem kz_set_same {M : kx_M} {w : Nat} {f : Nat → Int32} : (kz_set M w f).1 w = f := by funext k; exact if_pos rfl
theorem kz_set_at {M : kx_M} {w k : Nat} {f : Nat → Int32} : (kz_set M w f).1 w k = f k := if_pos rfl
theorem kz_set_ne {M : kx_M} {w o : Nat} {f : Nat → Int32} (h : ¬ o = w) : (kz_set M w f).1 o = M.1 o := by funext k; exact if_neg h
theorem kz_set_self {M : kx_M} {w : Nat} : kz_set M w (M.1 w) = M := by
  unfold kz_set
  refine Prod.ext ?_ rfl
  funext o k
  dsimp only
  by_cases h : o = w
  · rw [if_pos h, h]
  · rw [if_neg h]
theorem kz_set_u1 {M : kx_M} {w k : Nat} {f : Nat → Int32} {v : Int32} : kx_u1 (kz_set M w f) w k v = kz_set M w (upd f k v) := by
  unfold kx_u1 kz_set upd
  refine Prod.ext ?_ rfl
  funext o j
  dsimp only
  by_cases h : o = w
  · rw [if_pos h, if_pos h]
    by_cases hj : j = k
    · rw [if_pos ⟨h, hj⟩, if_pos hj]
    · rw [if_neg (fun q => hj q.2), if_neg hj]
  · rw [if_neg h, if_neg h, if_neg (fun q => h q.1)]
theorem z_fill_up (v : Int32) (f0 : Nat → Int32) : ∀ (m : Nat), kz_up (fun i f => upd f i v) m 0 f0 = fun k => if k < m then v else f0 k
  | 0 => by funext k; simp [kz_up]
  | m + 1 => by
    rw [kz_up_end, z_fill_up v f0 m, Nat.zero_add]
    funext k
    unfold upd
    by_cases h : k = m
    · rw [if_pos h, if_pos (by omega)]
    · rw [if_neg h]
      by_cases h2 : k < m
      · show (if k < m then v else f0 k) = _
        rw [if_pos h2, if_pos (by omega)]
      · show (if k < m then v else f0 k) = _
        rw [if_neg h2, if_neg (by omega)]
theorem kz_upd_eq {f : Nat → Int32} {k j : Nat} {v : Int32} (h : j = k) : upd f k v j = v := if_pos h
theorem kz_upd_ne {f : Nat → Int32} {k j : Nat} {v : Int32} (h : ¬ j = k) : upd f k v j = f j := if_neg h
theorem z_fill {wn w : Nat} {v : Int32} {M : kx_M} (h : wn ≤ 4000) : f_J7_fill_53178 wn w v M = some (kz_set M w (fun k => if k < wn then v else M.1 w k)) := by
  have := kz_loop (F := fun n i f => f_J7_fill_53178_5 wn w n v i (Int32.ofNat wn) (kz_set M w f)) (N := wn) (st := fun i f => upd f i v) (k := fun f => some (kz_set M w f)) (fun _ _ => True)
    (fun n f _ => by
      rw [f_J7_fill_53178_5.eq_2]
      exact if_pos (Int32.le_refl _))
    (fun n i f hi _ => by
      rw [f_J7_fill_53178_5.eq_2]
      rw [if_neg (show ¬ Int32.ofNat wn ≤ nI i from fun q => absurd ((nI_leI (a := wn) (b := i) (by omega) (by omega)).mp q) (by omega))]
      rw [z_ck hi (by omega), nI_clamp (by omega), kz_set_u1, nI_1])
    (fun _ _ _ _ => trivial) wn 0 (M.1 w) kx_fuel (by omega) (kz_f _ (by omega)) trivial
  unfold f_J7_fill_53178
  have h1 := this.1
  rw [kz_set_self] at h1
  rw [show (0 : Int32) = nI 0 from rfl, h1, z_fill_up]
theorem z_sum1 (S : Nat → Nat) (f0 : Nat → Int32) (hf : ∀ k, k ≤ 20 → f0 k = 0) (k : Nat) (hk : k ≤ 20) : ∀ m, kz_up (fun c f => upd f (S c) (f (S c) ||| ((1 : Int32) <<< (nI c &&& 31)))) m 0 f0 k = z_mask (fun c => decide (S c = k)) m
  | 0 => hf k hk
  | m + 1 => by
    unfold z_mask
    rw [kz_up_end, kz_up_end, Nat.zero_add]
    have ih := z_sum1 S f0 hf k hk m
    unfold z_mask at ih
    show upd _ (S m) _ k = _
    by_cases h : k = S m
    · rw [kz_upd_eq h, if_pos (decide_eq_true h.symm), ← h, ih]
    · rw [kz_upd_ne h, if_neg (by simp; exact fun q => h q.symm), ih]
theorem z_or_mask (p q r : Nat → Bool) (n : Nat) (hn : n ≤ 32) (h : ∀ i, i < n → (p i || q i) = r i) : z_mask p n ||| z_mask q n = z_mask r n := by
  apply b_ext
  intro i hi
  rw [b_or, z_mask_bt p n hn i hi, z_mask_bt q n hn i hi, z_mask_bt r n hn i hi]
  by_cases hin : i < n
  · rw [decide_eq_true hin, Bool.true_and, Bool.true_and, Bool.true_and, h i hin]
  · rw [decide_eq_false hin]
    rfl
theorem z_mask_congr {p q : Nat → Bool} {n : Nat} (h : ∀ i, i < n → p i = q i) : z_mask p n = z_mask q n := kz_up_congr n 0 0 (fun j _ hj a => by rw [h j (by omega)])
theorem z_sum2 (S : Nat → Nat) (n : Nat) (hn : n ≤ 32) (f0 : Nat → Int32) (hf : ∀ k, k ≤ 20 → f0 k = z_mask (fun c => decide (S c = k)) n) : ∀ m, m ≤ 20 → ∀ k, k ≤ 20 → kz_up (fun i f => upd f i (f i ||| f (i - 1))) m 1 f0 k = if k < m + 1 then z_mask (fun c => decide (S c ≤ k)) n else z_mask (fun c => decide (S c = k)) n
  | 0, _, k, hk => by
    show f0 k = _
    rw [hf k hk]
    by_cases h : k < 1
    · rw [if_pos h]
      exact z_mask_congr (fun i _ => by
        have : k = 0 := by omega
        subst this
        exact decide_eq_decide.mpr (by omega))
    · rw [if_neg h]
  | m + 1, hm, k, hk => by
    rw [kz_up_end]
    have ih := z_sum2 S n hn f0 hf m (by omega)
    by_cases h : k = 1 + m
    · rw [kz_upd_eq h, if_pos (by omega), ih (1 + m) (by omega), if_neg (by omega), ih (1 + m - 1) (by omega), if_pos (by omega), h]
      refine z_or_mask _ _ _ n hn (fun i _ => ?_)
      rw [Bool.eq_iff_iff]
      simp only [Bool.or_eq_true, decide_eq_true_eq]
      omega
    · rw [kz_upd_ne h, ih k hk]
      by_cases h2 : k < m + 1
      · rw [if_pos h2, if_pos (by omega)]
      · rw [if_neg h2, if_neg (by omega)]
set_option maxRecDepth 100000 in
/-- what a Land's row of masks is behind sumUpShown -/
theorem z_sumUp {o n : Nat} {M : kx_M} {S : Nat → Nat} (hn : n ≤ 24) (hN : M.1 o 7 = nI n) (hS : ∀ c, c < n → M.1 (o + 1) c = nI (S c) ∧ S c ≤ 20) : ∃ f, f_X0_sumUpShown o M = some (kz_set M (o + 3) f) ∧ ∀ k, k ≤ 20 → f k = z_mask (fun c => decide (S c ≤ k)) n := by
  unfold f_X0_sumUpShown
  rw [z_fill (by omega)]
  show ∃ f, f_X0_sumUpShown_10 o kx_fuel (nI 0) (kz_set M (o + 3) _) = _ ∧ _
  have l2 : ∀ f, (∃ f2, f_X0_sumUpShown_43 o kx_fuel (nI 1) (kz_set M (o + 3) f) = some (kz_set M (o + 3) f2) ∧ f2 = kz_up (fun i f => upd f i (f i ||| f (i - 1))) 20 1 f) := by
    intro f
    have := kz_loop (F := fun n i f => f_X0_sumUpShown_43 o n i (kz_set M (o + 3) f)) (N := 21) (st := fun i f => upd f i (f i ||| f (i - 1))) (k := fun f => some (kz_set M (o + 3) f)) (fun i _ => 1 ≤ i)
      (fun n f _ => by
        rw [f_X0_sumUpShown_43.eq_2]
        exact if_pos (by decide))
      (fun n i f hi h1 => by
        rw [f_X0_sumUpShown_43.eq_2]
        rw [if_neg (show ¬ (20 : Int32) < nI i from fun q => absurd ((nI_ltI (a := 20) (b := i) (by omega) (by omega)).mp q) (by omega))]
        have e1 : nI i - (1 : Int32) = nI (i - 1) := by
          have := nI_pred (i - 1)
          rw [show i - 1 + 1 = i by omega] at this
          exact this
        rw [e1, z_ck hi (by omega), z_ck (by omega) (by omega), z_ck hi (by omega), nI_clamp (by omega), nI_clamp (by omega), kz_set_u1, kz_set_at, kz_set_at, nI_1]
        rfl)
      (fun i _ _ h => Nat.le_succ_of_le h) 20 1 f kx_fuel (by omega) (kz_f _ (by omega)) (Nat.le_refl 1)
    exact ⟨_, this.1, rfl⟩
  have l1 := fun f0 => kz_loop (F := fun n i f => f_X0_sumUpShown_10 o n i (kz_set M (o + 3) f)) (N := n) (st := fun c f => upd f (S c) (f (S c) ||| ((1 : Int32) <<< (nI c &&& 31)))) (k := fun f => f_X0_sumUpShown_43 o kx_fuel (nI 1) (kz_set M (o + 3) f)) (fun _ _ => True)
      (fun n' f _ => by
        rw [f_X0_sumUpShown_10.eq_2]
        rw [kz_set_ne (by omega), hN]
        exact if_pos (Int32.le_refl _))
      (fun n' i f hi _ => by
        rw [f_X0_sumUpShown_10.eq_2]
        rw [kz_set_ne (show ¬ o = o + 3 by omega), hN, kz_set_ne (show ¬ o + 1 = o + 3 by omega)]
        rw [if_neg (show ¬ nI n ≤ nI i from fun q => absurd ((nI_leI (a := n) (b := i) (by omega) (by omega)).mp q) (by omega))]
        rw [nI_clamp (by omega), (hS i hi).1]
        have hs := (hS i hi).2
        rw [z_ck (by omega) (by omega), z_ck (by omega) (by omega), z_ck (by omega) (by omega), nI_clamp (by omega), kz_set_u1, kz_set_at, nI_1]
        rfl)
      (fun _ _ _ _ => trivial) n 0 f0 kx_fuel (by omega) (kz_f _ (by omega)) trivial
  have h1 := (l1 (fun k => if k < 21 then (0 : Int32) else M.1 (o + 3) k)).1
  obtain ⟨f2, h2, h3⟩ := l2 (kz_up (fun c f => upd f (S c) (f (S c) ||| ((1 : Int32) <<< (nI c &&& 31)))) n 0 (fun k => if k < 21 then (0 : Int32) else M.1 (o + 3) k))
  refine ⟨f2, h1.trans h2, fun k hk => ?_⟩
  rw [h3, z_sum2 S n (by omega) _ (fun k hk => z_sum1 S _ (fun k hk => if_pos (by omega)) k hk n) 20 (by omega) k hk, if_pos (by omega)]
