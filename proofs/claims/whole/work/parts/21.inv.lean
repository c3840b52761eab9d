/-! THE INVARIANT: what class cells (below 159) and model cells hold together, between two calls. -/
/-- players: np of them; kinds, bases, places, and who sits where -/
def J_pl (g : G) : Prop := ∃ np : Nat, np ≤ 24 ∧ g 3 4 = nI np ∧ g 159 3 = nI np ∧
  (∀ p, p < np → g 4 p = g 161 p ∧ g 5 p = g 162 p ∧ g 6 p = g 163 p ∧ (∃ k, k ≤ 4 ∧ g 161 p = nI k) ∧ (∃ b, b ≤ 3000 ∧ g 162 p = nI b) ∧
    (g 163 p = -1 ∨ ∃ m, m ≤ 4 ∧ g 163 p = nI m ∧ ∀ k, k < m → g 7 (4 * p + k) = g 164 (4 * p + k) ∧ (g 164 (4 * p + k) = -1 ∨ ∃ w, w < np ∧ g 164 (4 * p + k) = nI w ∧ g 161 w ≠ nI 3)))
/-- the log, and the trace -/
def J_log (g : G) : Prop := ∃ n : Nat, n ≤ 200 ∧ g 1 1 = nI n ∧ g 159 2 = nI n ∧ g 1 2 = g 159 0 ∧ ∀ i, i < n → g 2 i = g 160 i
/-- plans and tries -/
def J_plan (g : G) : Prop := ∀ p, p < 4 → g 43 p = g 173 p ∧ ∃ n : Nat, n ≤ 10 ∧ g 42 p = nI n ∧ g 172 p = nI n ∧ ∀ i, i < n → (∃ a, a ≤ 11 ∧ g 171 (50 * p + 5 * i) = nI a) ∧ ∀ j, j < 5 → g 44 (50 * p + 5 * i + j) = g 171 (50 * p + 5 * i + j)
/-- the latest run -/
def J_rep (g : G) : Prop := g 45 0 = g 159 21 ∧ g 45 1 = g 159 22 ∧ g 45 2 = g 159 23 ∧ g 45 3 = g 159 24
/-- what could() found -/
def J_fnd (g : G) : Prop := ∃ n : Nat, n ≤ 4 ∧ g 0 11 = nI n ∧ g 159 42 = nI n ∧ ∀ i, i < n → g 46 i = g 184 i
/-- a tournament's row of the model, its block of the class -/
def rowT (g : G) (t : Nat) : Nat → Int32 := fun k => if k < 412 then g 165 (412 * t + k) else 0
def blkT (g : G) (t : Nat) : Nat → Nat → Int32 := fun j => if j < 14 then g (47 + 28 * t + j) else fun _ => 0
/-- who is in: R's places 1 .. n hold n different players, each rated; F's row and status tell the same -/
def T_in (np : Nat) (mk : Nat → Int32) (F : Nat → Nat → Int32) (R : Nat → Int32) (n : Nat) : Prop :=
  n ≤ 10 ∧ F 0 1 = nI n ∧ R 0 = nI n ∧ (∀ k, k < n → F 1 k = R (1 + k) ∧ ∃ p, p < np ∧ R (1 + k) = nI p ∧ mk p ≠ nI 4) ∧ (∀ i j, i < n → j < n → R (1 + i) = R (1 + j) → i = j) ∧
  (∀ k, k < n → (R (11 + k) = 0 ∨ R (11 + k) = 1)) ∧ (∀ k, n ≤ k → k < 10 → R (1 + k) = 0 ∧ R (11 + k) = 0) ∧
  (∀ p, p < 24 → (F 2 p = 0 ∧ ∀ k, k < n → R (1 + k) ≠ nI p) ∨ ∃ k, k < n ∧ R (1 + k) = nI p ∧ F 2 p = R (11 + k) + 1)
/-- the sums that are told -/
def T_sum (F : Nat → Nat → Int32) (R : Nat → Int32) : Prop := F 3 0 = 0 ∧ ∀ i, i < 4 → F 3 (i + 1) = R (21 + i) ∧ ∃ w, w ≤ 5 ∧ R (21 + i) = nI w
/-- round r: m pairs, all of different players who are in -/
def T_round (F : Nat → Nat → Int32) (R : Nat → Int32) (n r m : Nat) : Prop :=
  1 ≤ m ∧ m ≤ 5 ∧ F 4 r = R (26 + r) ∧ 0 ≤ R (26 + r) ∧ F 5 r = nI m ∧ R (32 + r) = nI m ∧ F 6 r = R (38 + r) ∧ R (44 + r) = R (38 + r) / 1000000 ∧
  (∀ k, k < m → F 7 (5 * r + k) = R (50 + (5 * r + k)) ∧ F 8 (5 * r + k) = R (80 + (5 * r + k)) ∧ (∃ i, i < n ∧ R (50 + (5 * r + k)) = R (1 + i)) ∧ (R (80 + (5 * r + k)) = 99 ∨ ∃ i, i < n ∧ R (80 + (5 * r + k)) = R (1 + i))) ∧
  (∀ k k', k < m → k' < m → R (50 + (5 * r + k)) = R (50 + (5 * r + k')) → k = k') ∧ (∀ k k', k < m → k' < m → R (50 + (5 * r + k)) ≠ R (80 + (5 * r + k'))) ∧
  (∀ k k', k < m → k' < m → R (80 + (5 * r + k)) = R (80 + (5 * r + k')) → R (80 + (5 * r + k)) ≠ 99 → k = k') ∧
  (∀ k, m ≤ k → k < 5 → R (50 + (5 * r + k)) = 0 ∧ R (80 + (5 * r + k)) = 0)
def T_rounds (F : Nat → Nat → Int32) (R : Nat → Int32) (n dr : Nat) : Prop :=
  dr ≤ 6 ∧ F 0 2 = nI dr ∧ R 25 = nI dr ∧ (∀ r, r < dr → ∃ m, T_round F R n r m) ∧
  (∀ r, dr ≤ r → r < 6 → R (26 + r) = 0 ∧ R (32 + r) = 0 ∧ R (38 + r) = 0 ∧ R (44 + r) = 0 ∧ ∀ k, k < 5 → R (50 + (5 * r + k)) = 0 ∧ R (80 + (5 * r + k)) = 0)
/-- entry x: of a pair with somebody -/
def T_entry (F : Nat → Nat → Int32) (R : Nat → Int32) (dr x : Nat) : Prop :=
  (∃ r k m, r < dr ∧ k < m ∧ m ≤ 5 ∧ R (32 + r) = nI m ∧ R (111 + x) = nI (5 * r + k) ∧ R (80 + (5 * r + k)) ≠ 99) ∧ F 9 x = R (111 + x) ∧ F 10 x = R (171 + x) ∧ (∃ w, w ≤ 6 ∧ R (171 + x) = nI w) ∧
  F 11 x = R (231 + x) ∧ 0 ≤ R (231 + x) ∧ F 12 x = R (291 + x) ∧ 0 ≤ R (291 + x) ∧ ((R (351 + x) = 0 ∧ F 13 x = -1) ∨ (0 ≤ F 13 x ∧ R (351 + x) = F 13 x + 1))
def T_entries (F : Nat → Nat → Int32) (R : Nat → Int32) (dr e : Nat) : Prop :=
  e ≤ 60 ∧ F 0 3 = nI e ∧ R 110 = nI e ∧ (∀ x, x < e → T_entry F R dr x) ∧ (∀ x, e ≤ x → x < 60 → R (111 + x) = 0 ∧ R (171 + x) = 0 ∧ R (231 + x) = 0 ∧ R (291 + x) = 0 ∧ R (351 + x) = 0)
def T_t (np : Nat) (mk : Nat → Int32) (F : Nat → Nat → Int32) (R : Nat → Int32) : Prop := ∃ n dr e : Nat, F 0 0 = R 411 ∧ T_in np mk F R n ∧ T_sum F R ∧ T_rounds F R n dr ∧ T_entries F R dr e
/-- tournaments: nt of them -/
def J_tr (g : G) : Prop := ∃ np nt : Nat, g 159 3 = nI np ∧ np ≤ 24 ∧ nt ≤ 4 ∧ g 0 12 = nI nt ∧ g 159 8 = nI nt ∧ g 0 14 = g 159 10 ∧ ∀ t, t < nt → T_t np (g 161) (blkT g t) (rowT g t)
def Inv (g : G) : Prop := J_pl g ∧ J_log g ∧ J_plan g ∧ J_rep g ∧ J_fnd g ∧ J_tr g ∧ g 159 25 = 0
theorem inv_0 : Inv g0 := by
  refine ⟨⟨0, by decide, rfl, rfl, fun p h => absurd h (Nat.not_lt_zero p)⟩, ⟨0, by decide, rfl, rfl, rfl, fun p h => absurd h (Nat.not_lt_zero p)⟩, fun p hp => ⟨rfl, 0, by decide, rfl, rfl, fun p h => absurd h (Nat.not_lt_zero p)⟩, ⟨rfl, rfl, rfl, rfl⟩, ⟨0, by decide, rfl, rfl, fun p h => absurd h (Nat.not_lt_zero p)⟩, ⟨0, 0, rfl, by decide, by decide, rfl, rfl, rfl, fun p h => absurd h (Nat.not_lt_zero p)⟩, rfl⟩
-- rows and blocks behind a write
theorem rowT_get {g : G} {t k : Nat} (h : k < 412) : rowT g t k = g 165 (412 * t + k) := if_pos h
theorem blkT_get {g : G} {t j : Nat} (h : j < 14) : blkT g t j = g (47 + 28 * t + j) := if_pos h
theorem rowT_ne {g g' : G} {t : Nat} (h : g' 165 = g 165) : rowT g' t = rowT g t := by
  funext k
  unfold rowT
  rw [h]
theorem blkT_ne {g g' : G} {t : Nat} (h : ∀ j, j < 14 → g' (47 + 28 * t + j) = g (47 + 28 * t + j)) : blkT g' t = blkT g t := by
  funext j
  unfold blkT
  by_cases hj : j < 14
  · rw [if_pos hj, if_pos hj, h j hj]
  · rw [if_neg hj, if_neg hj]
theorem rowT_set {g : G} {t k : Nat} {v : Int32} (h : k < 412) : rowT (up2 g 165 (412 * t + k) v) t = upd (rowT g t) k v := by
  funext q
  unfold rowT
  rw [up2_eq]
  unfold upd
  by_cases hq : q < 412
  · rw [if_pos hq]
    by_cases e : q = k
    · subst e
      rw [if_pos rfl, if_pos rfl]
    · rw [if_neg (by omega), if_neg e]
      exact (if_pos hq).symm
  · rw [if_neg hq, if_neg (by omega)]
    exact (if_neg hq).symm
theorem rowT_off {g : G} {t a : Nat} {v : Int32} (h : a < 412 * t ∨ 412 * t + 412 ≤ a) : rowT (up2 g 165 a v) t = rowT g t := by
  funext q
  unfold rowT
  by_cases hq : q < 412
  · rw [if_pos hq, if_pos hq, up2_eq, upd_ne (by omega)]
  · rw [if_neg hq, if_neg hq]
theorem blkT_set {g : G} {t j k : Nat} {v : Int32} (h : j < 14) : blkT (up2 g (47 + 28 * t + j) k v) t = up2 (blkT g t) j k v := by
  funext q
  unfold blkT
  by_cases hq : q < 14
  · rw [if_pos hq]
    by_cases e : q = j
    · subst e
      rw [up2_eq, up2_eq, if_pos hq]
    · rw [up2_ne (by omega), up2_ne e, if_pos hq]
  · rw [if_neg hq, up2_ne (by omega), if_neg hq]
theorem blkT_off {g : G} {t a k : Nat} {v : Int32} (h : a < 47 + 28 * t ∨ 47 + 28 * t + 14 ≤ a) : blkT (up2 g a k v) t = blkT g t := blkT_ne (fun j hj => up2_ne (by omega))
theorem rowT_up {g : G} {t a k : Nat} {v : Int32} (h : a ≠ 165) : rowT (up2 g a k v) t = rowT g t := rowT_ne (up2_ne (Ne.symm h))
