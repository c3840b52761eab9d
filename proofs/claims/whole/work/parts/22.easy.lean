/-! The easy calls: trace, found, ran, finding, empty, step. -/
theorem if_out {α : Type} {x m : Int32} {n : Nat} {X Y : α} (e : m = nI n) (h : x < 0 ∨ nI n ≤ x) : (if x < 0 then X else if m ≤ x then X else Y) = X := by
  subst e
  by_cases h0 : x < 0
  · rw [if_pos h0]
  · rw [if_neg h0, if_pos (h.resolve_left h0)]
theorem if_inn {α : Type} {m : Int32} {j n : Nat} {X Y : α} (e : m = nI n) (hj : j < n) (hn : n < 2 ^ 31) : (if nI j < 0 then X else if m ≤ nI j then X else Y) = Y := by
  subst e
  rw [if_neg (nI_pos (by omega)), if_neg (nI_ge hj hn)]
theorem in_O {x m : Int32} {n : Nat} {g : G} (e : m = nI n - 1) (hn : n < 2 ^ 30) (h : x < 0 ∨ nI n ≤ x) : f_X9_in x 0 m g = some (0, g) := by
  subst e
  unfold f_X9_in
  by_cases h0 : x < 0
  · rw [if_pos h0]
  · rw [if_neg h0, if_pos]
    have h1 : (nI n - nI 1).toInt = (n : Int) - (1 : Nat) := pk_sub_toInt hn (by decide)
    have h2 : (nI n).toInt ≤ x.toInt := Int32.le_iff_toInt_le.mp (h.resolve_left h0)
    rw [nI_toInt (by omega)] at h2
    exact Int32.lt_iff_toInt_lt.mpr (show (nI n - nI 1).toInt < x.toInt by omega)
theorem in_I {m : Int32} {j n : Nat} {g : G} (e : m = nI n - 1) (hn : n < 2 ^ 30) (hj : j < n) : f_X9_in (nI j) 0 m g = some (1, g) := by
  subst e
  unfold f_X9_in
  rw [if_neg (nI_pos (by omega)), if_neg]
  have h1 : (nI n - nI 1).toInt = (n : Int) - (1 : Nat) := pk_sub_toInt hn (by decide)
  have h2 : (nI j).toInt = (j : Int) := nI_toInt (by omega)
  exact fun q => by
    have q := Int32.lt_iff_toInt_lt.mp q
    have q : (nI n - nI 1).toInt < (nI j).toInt := q
    omega
theorem isPlan_0 {x : Int32} {g : G} (h : x < 0 ∨ nI 4 ≤ x) : f_X8_isPlan x g = some (0, g) := by
  unfold f_X8_isPlan
  exact if_out (n := 4) rfl h
theorem isPlan_1 {j : Nat} {g : G} (h : j < 4) : f_X8_isPlan (nI j) g = some (1, g) := by
  unfold f_X8_isPlan
  exact if_inn (n := 4) rfl h (by decide)
/-- what touches no cell of the tournaments leaves them -/
theorem J_tr.off {g g' : G} (h : J_tr g) (e1 : g' 159 3 = g 159 3) (e2 : g' 0 12 = g 0 12) (e3 : g' 159 8 = g 159 8) (e4 : g' 0 14 = g 0 14) (e5 : g' 159 10 = g 159 10) (e6 : g' 161 = g 161) (e7 : g' 165 = g 165) (hb : ∀ a, 47 ≤ a → a < 159 → g' a = g a) : J_tr g' := by
  obtain ⟨np, nt, h1, h2, h3, h4, h5, h6, h7⟩ := h
  refine ⟨np, nt, e1.trans h1, h2, h3, e2.trans h4, e3.trans h5, by rw [e4, e5]; exact h6, fun t ht => ?_⟩
  rw [e6, rowT_ne e7, blkT_ne (fun j hj => hb _ (by omega) (by omega))]
  exact h7 t ht
theorem sp_finding : Sp0 Inv f_X8_finding f_X9_finding := by
  intro g hI
  obtain ⟨n, h1, h2, h3, h4, h5⟩ := hI.2.1
  exact ⟨g 1 2, g, g, rfl, by unfold f_X9_finding; rw [h4], hI⟩
theorem sp_trace : Sp1 Inv f_X8_trace f_X9_trace := by
  intro a g hI
  obtain ⟨n, h1, h2, h3, h4, h5⟩ := hI.2.1
  rcases i32_cases a n (by omega) with h | ⟨j, hj, rfl⟩
  · refine ⟨-1, g, g, ?_, ?_, hI⟩
    · unfold f_X8_trace
      exact if_out h2 h
    · unfold f_X9_trace
      rw [in_O (by rw [h3]) (by omega) h]
      rfl
  · refine ⟨g 2 j, g, g, ?_, ?_, hI⟩
    · unfold f_X8_trace
      rw [if_inn h2 hj (by omega), ck_nI j rfl (by omega) (by decide)]
    · unfold f_X9_trace
      rw [in_I (by rw [h3]) (by omega) hj]
      show ck (nI j) 200 (fun j4 => some (g 160 j4, g)) = _
      rw [ck_nI j rfl (by omega) (by decide), h5 j hj]
theorem sp_found : Sp1 Inv f_X8_found f_X9_found := by
  intro a g hI
  obtain ⟨n, h1, h2, h3, h5⟩ := hI.2.2.2.2.1
  rcases i32_cases a n (by omega) with h | ⟨j, hj, rfl⟩
  · refine ⟨-1, g, g, ?_, ?_, hI⟩
    · unfold f_X8_found
      exact if_out h2 h
    · unfold f_X9_found
      rw [in_O (by rw [h3]) (by omega) h]
      rfl
  · refine ⟨g 46 j, g, g, ?_, ?_, hI⟩
    · unfold f_X8_found
      rw [if_inn h2 hj (by omega), ck_nI j rfl (by omega) (by decide)]
    · unfold f_X9_found
      rw [in_I (by rw [h3]) (by omega) hj]
      show ck (nI j) 4 (fun j4 => some (g 184 j4, g)) = _
      rw [ck_nI j rfl (by omega) (by decide), h5 j hj]
theorem sp_ran : Sp1 Inv f_X8_ran f_X9_ran := by
  intro a g hI
  obtain ⟨h1, h2, h3, h4⟩ := hI.2.2.2.1
  refine ⟨if a = 0 then g 45 0 else if a = 1 then g 45 1 else if a = 2 then g 45 2 else if a = 3 then g 45 3 else -2, g, g, ?_, ?_, hI⟩
  · unfold f_X8_ran
    repeat' split
    all_goals rfl
  · unfold f_X9_ran
    rw [h1, h2, h3, h4]
    repeat' split
    all_goals rfl
theorem sp_empty : Sp1 Inv f_X8_empty f_X9_empty := by
  intro a g hI
  obtain ⟨i1, i2, i3, i4, i5, i6, i7⟩ := hI
  rcases i32_cases a 4 (by decide) with h | ⟨j, hj, rfl⟩
  · refine ⟨-2, g, g, ?_, ?_, ⟨i1, i2, i3, i4, i5, i6, i7⟩⟩
    · unfold f_X8_empty
      rw [isPlan_0 h]
      rfl
    · unfold f_X9_empty
      rw [in_O (m := 3) (n := 4) rfl (by decide) h]
      rfl
  · obtain ⟨h1, n, h2, h3, h4, h5⟩ := i3 j hj
    refine ⟨g 42 j, up2 g 42 j 0, up2 (up2 g 42 j 0) 172 j 0, ?_, ?_, ?_⟩
    · unfold f_X8_empty
      rw [isPlan_1 hj]
      show ck (nI j) 4 (fun j4 => ck (nI j) 4 fun j5 => wr (up2 g 42 j5 0) fun g6 => some (g 42 j4, g6)) = _
      rw [ck_nI j rfl hj (by decide), ck_nI j rfl hj (by decide)]
      rfl
    · unfold f_X9_empty
      rw [in_I (m := 3) (n := 4) rfl (by decide) hj]
      show ck (nI j) 4 (fun j4 => ck (nI j) 4 fun j5 => wr (up2 (up2 g 42 j 0) 172 j5 0) fun g6 => some ((up2 g 42 j 0) 172 j4, g6)) = _
      rw [ck_nI j rfl hj (by decide), ck_nI j rfl hj (by decide), up2_ne (by decide), h4, h3]
      rfl
    · refine ⟨i1, i2, fun p hp => ?_, i4, i5, i6.off (g' := up2 (up2 g 42 j 0) 172 j 0) rfl rfl rfl rfl rfl rfl rfl (fun a h1 h2 => (up2_ne (by omega)).trans (up2_ne (by omega))), i7⟩
      obtain ⟨q1, m, q2, q3, q4, q5⟩ := i3 p hp
      refine ⟨q1, ?_⟩
      by_cases e : p = j
      · subst e
        refine ⟨0, by decide, ?_, ?_, fun i h => absurd h (Nat.not_lt_zero i)⟩
        · exact up2_at g 42 p 0
        · exact up2_at _ 172 p 0
      · refine ⟨m, q2, ?_, ?_, q5⟩
        · show upd (g 42) j 0 p = nI m
          rw [upd_ne e, q3]
        · show upd (g 172) j 0 p = nI m
          rw [upd_ne e, q4]
