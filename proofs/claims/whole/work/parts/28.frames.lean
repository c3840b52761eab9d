/-! Parts of the invariant behind changes elsewhere; the calls player, places. -/
theorem J_log.cg {g g' : G} (h : J_log g) (e1 : g' 1 = g 1) (e2 : g' 2 = g 2) (e3 : g' 159 2 = g 159 2) (e4 : g' 159 0 = g 159 0) (e5 : g' 160 = g 160) : J_log g' := by
  unfold J_log
  rw [e1, e2, e3, e4, e5]
  exact h
theorem J_plan.cg {g g' : G} (h : J_plan g) (e1 : g' 42 = g 42) (e2 : g' 43 = g 43) (e3 : g' 44 = g 44) (e4 : g' 171 = g 171) (e5 : g' 172 = g 172) (e6 : g' 173 = g 173) : J_plan g' := by
  unfold J_plan
  rw [e1, e2, e3, e4, e5, e6]
  exact h
theorem J_rep.cg {g g' : G} (h : J_rep g) (e1 : g' 45 = g 45) (e2 : ∀ k, 21 ≤ k → k ≤ 24 → g' 159 k = g 159 k) : J_rep g' := by
  unfold J_rep
  rw [e1, e2 21 (by decide) (by decide), e2 22 (by decide) (by decide), e2 23 (by decide) (by decide), e2 24 (by decide) (by decide)]
  exact h
theorem J_fnd.cg {g g' : G} (h : J_fnd g) (e1 : g' 0 11 = g 0 11) (e2 : g' 46 = g 46) (e3 : g' 159 42 = g 159 42) (e4 : g' 184 = g 184) : J_fnd g' := by
  unfold J_fnd
  rw [e1, e2, e3, e4]
  exact h
theorem J_pl.cg {g g' : G} (h : J_pl g) (e0 : g' 3 4 = g 3 4) (e1 : g' 4 = g 4) (e2 : g' 5 = g 5) (e3 : g' 6 = g 6) (e4 : g' 7 = g 7) (e5 : g' 159 3 = g 159 3) (e6 : g' 161 = g 161) (e7 : g' 162 = g 162) (e8 : g' 163 = g 163) (e9 : g' 164 = g 164) : J_pl g' := by
  unfold J_pl
  rw [e0, e1, e2, e3, e4, e5, e6, e7, e8, e9]
  exact h
theorem T_in.mono {np np' n : Nat} {mk mk' : Nat → Int32} {F : Nat → Nat → Int32} {R : Nat → Int32} (h : T_in np mk F R n) (hn : np ≤ np') (hm : ∀ p, p < np → mk' p = mk p) : T_in np' mk' F R n := by
  obtain ⟨h1, h2, h3, h4, h5⟩ := h
  refine ⟨h1, h2, h3, fun k hk => ?_, h5⟩
  obtain ⟨q1, p, q2, q3, q4⟩ := h4 k hk
  exact ⟨q1, p, by omega, q3, by rw [hm p q2]; exact q4⟩
/-- tournaments, where players came and nothing else -/
theorem J_tr.grow {g g' : G} {np np' : Nat} (h : J_tr g) (e0 : g 159 3 = nI np) (hn : np ≤ np') (h24 : np' ≤ 24) (e1 : g' 159 3 = nI np') (e2 : g' 0 12 = g 0 12) (e3 : g' 159 8 = g 159 8) (e4 : g' 0 14 = g 0 14) (e5 : g' 159 10 = g 159 10) (e6 : ∀ p, p < np → g' 161 p = g 161 p) (e7 : g' 165 = g 165) (hb : ∀ a, 47 ≤ a → a < 159 → g' a = g a) : J_tr g' := by
  obtain ⟨np0, nt, h1, h2, h3, h4, h5, h6, h7⟩ := h
  have hnp : np0 = np := nI_inj (by omega) (by omega) (h1.symm.trans e0)
  subst hnp
  refine ⟨np', nt, e1, h24, h3, e2.trans h4, e3.trans h5, by rw [e4, e5]; exact h6, fun t ht => ?_⟩
  rw [rowT_ne e7, blkT_ne (fun j hj => hb _ (by omega) (by omega))]
  obtain ⟨n, dr, e, q1, q2, q3⟩ := h7 t ht
  exact ⟨n, dr, e, q1, q2.mono hn e6, q3⟩
theorem c_player_bad {a1 a2 : Int32} {g : G} (h : (a1 < 0 ∨ nI 5 ≤ a1) ∨ (a2 < 0 ∨ nI 3001 ≤ a2)) : f_X8_player a1 a2 g = some (-2, g) := by
  unfold f_X8_player
  by_cases h1 : a1 < 0
  · exact q_if_t h1 rfl
  · refine q_if_f h1 ?_
    by_cases h2 : (4 : Int32) < a1
    · exact q_if_t h2 rfl
    · refine q_if_f h2 ?_
      have h3 : a2 < 0 ∨ nI 3001 ≤ a2 := by
        rcases h with (h | h) | h
        · exact absurd h h1
        · exfalso
          have q1 := Int32.le_iff_toInt_le.mp h
          have q2 := Int32.le_iff_toInt_le.mp (Int32.not_lt.mp h2)
          have q3 : (nI 5).toInt = 5 := by decide
          have q4 : (4 : Int32).toInt = 4 := by decide
          omega
        · exact h
      exact if_rng (n := 3000) rfl (by decide) h3
theorem c_player_ok {k b : Nat} {g : G} (hk : k < 5) (hb : b < 3001) : f_X8_player (nI k) (nI b) g = f_X5_add (nI k) (nI b) g := by
  unfold f_X8_player
  rw [if_neg (nI_pos (by omega)), if_neg (by rw [l_4]; exact nI_nlt (by omega) (by omega)), if_neg (nI_pos (by omega)), if_pos (by rw [l_3000]; exact nI_le (by omega) (by omega))]
  generalize f_X5_add (nI k) (nI b) g = x
  cases x <;> rfl
theorem c_add_full {k b : Int32} {g : G} (h : g 3 4 = nI 24) : f_X5_add k b g = some (-4, g) := by
  unfold f_X5_add
  exact q_if_f (by rw [h]; decide) rfl
theorem c_add_ok {k b : Int32} {np : Nat} {g : G} (h : g 3 4 = nI np) (hn : np < 24) : f_X5_add k b g = some (nI np, up2 (up2 (up2 (up2 g 4 np k) 5 np b) 6 np (-1)) 3 4 (nI (np + 1))) := by
  unfold f_X5_add
  refine q_if_t (by rw [h]; exact nI_lt hn (by decide)) ?_
  refine q_ck np h hn (by decide) (q_wr ?_)
  refine q_ck np h hn (by decide) (q_wr ?_)
  refine q_ck np h hn (by decide) (q_wr ?_)
  refine q_wre (w := up2 (up2 (up2 (up2 g 4 np k) 5 np b) 6 np (-1)) 3 4 (nI (np + 1))) (by show up2 _ 3 4 (g 3 4 + 1) = _; rw [h, l_1, nI_add]) ?_
  refine q_some ?_ rfl
  rw [up2_at, l_1, pk_sub (by omega)]
  rfl
theorem m_player_bad {a1 a2 : Int32} {g : G} (h : (a1 < 0 ∨ nI 5 ≤ a1) ∨ (a2 < 0 ∨ nI 3001 ≤ a2)) : f_X9_player a1 a2 g = some (-2, g) := by
  unfold f_X9_player
  rcases i32_cases a1 5 (by decide) with h1 | ⟨k, hk, rfl⟩
  · exact q_call (in_O (m := 4) (n := 5) rfl (by decide) h1) (q_if_t rfl rfl)
  · refine q_call (in_I (m := 4) (n := 5) rfl (by decide) hk) ?_
    refine q_if_f (by decide) ?_
    have h2 : a2 < 0 ∨ nI 3001 ≤ a2 := by
      rcases h with (h | h) | h
      · exact absurd h (nI_pos (by omega))
      · exact absurd h (nI_ge hk (by decide))
      · exact h
    exact q_call (in_O (m := 3000) (n := 3001) rfl (by decide) h2) (q_if_t rfl rfl)
theorem m_player_full {k b : Nat} {g : G} (hk : k < 5) (hb : b < 3001) (h : g 159 3 = nI 24) : f_X9_player (nI k) (nI b) g = some (-4, g) := by
  unfold f_X9_player
  refine q_call (in_I (m := 4) (n := 5) rfl (by decide) hk) ?_
  refine q_if_f (by decide) ?_
  refine q_call (in_I (m := 3000) (n := 3001) rfl (by decide) hb) ?_
  refine q_if_f (by decide) ?_
  exact q_if_t h rfl
theorem m_player_ok {k b np : Nat} {g : G} (hk : k < 5) (hb : b < 3001) (h : g 159 3 = nI np) (hn : np < 24) : f_X9_player (nI k) (nI b) g = some (nI np, up2 (up2 (up2 (up2 g 161 np (nI k)) 162 np (nI b)) 163 np (-1)) 159 3 (nI (np + 1))) := by
  unfold f_X9_player
  refine q_call (in_I (m := 4) (n := 5) rfl (by decide) hk) ?_
  refine q_if_f (by decide) ?_
  refine q_call (in_I (m := 3000) (n := 3001) rfl (by decide) hb) ?_
  refine q_if_f (by decide) ?_
  refine q_if_f (by rw [h]; exact nI_ne (b := 24) (by omega) (by decide) (by omega)) ?_
  refine q_ck np h hn (by decide) (q_wr ?_)
  refine q_ck np h hn (by decide) (q_wr ?_)
  refine q_ck np h hn (by decide) (q_wr ?_)
  refine q_wre (w := up2 (up2 (up2 (up2 g 161 np (nI k)) 162 np (nI b)) 163 np (-1)) 159 3 (nI (np + 1))) (by show up2 _ 159 3 (g 159 3 + 1) = _; rw [h, l_1, nI_add]) ?_
  refine q_some ?_ rfl
  rw [up2_at, l_1, pk_sub (by omega)]
  rfl
theorem inv_player {k b np : Nat} {g : G} (hI : Inv g) (hk : k < 5) (hb : b < 3001) (e1 : g 3 4 = nI np) (e2 : g 159 3 = nI np) (hn : np < 24) :
    Inv (up2 (up2 (up2 (up2 (up2 (up2 (up2 (up2 g 4 np (nI k)) 5 np (nI b)) 6 np (-1)) 3 4 (nI (np + 1))) 161 np (nI k)) 162 np (nI b)) 163 np (-1)) 159 3 (nI (np + 1))) := by
  obtain ⟨⟨np0, h1, h2, h3, h4⟩, i2, i3, i4, i5, i6, i7⟩ := hI
  have hnp : np0 = np := nI_inj (by omega) (by omega) (h3.symm.trans e2)
  subst hnp
  refine ⟨⟨np0 + 1, by omega, rfl, rfl, fun p hp => ?_⟩, i2, i3, i4, i5, i6.grow (np := np0) (np' := np0 + 1) e2 (by omega) (by omega) rfl rfl rfl rfl rfl (fun p hp => upd_ne (by omega)) rfl (fun a q1 q2 => ?_), i7⟩
  · show upd (g 4) np0 (nI k) p = upd (g 161) np0 (nI k) p ∧ upd (g 5) np0 (nI b) p = upd (g 162) np0 (nI b) p ∧ upd (g 6) np0 (-1) p = upd (g 163) np0 (-1) p ∧ (∃ c, c ≤ 4 ∧ upd (g 161) np0 (nI k) p = nI c) ∧ (∃ c, c ≤ 3000 ∧ upd (g 162) np0 (nI b) p = nI c) ∧ (upd (g 163) np0 (-1) p = -1 ∨ ∃ m, m ≤ 4 ∧ upd (g 163) np0 (-1) p = nI m ∧ ∀ j, j < m → g 7 (4 * p + j) = g 164 (4 * p + j) ∧ (g 164 (4 * p + j) = -1 ∨ ∃ w, w < np0 + 1 ∧ g 164 (4 * p + j) = nI w ∧ upd (g 161) np0 (nI k) w ≠ nI 3))
    by_cases e : p = np0
    · subst e
      simp only [upd_eq]
      exact ⟨trivial, trivial, trivial, ⟨k, by omega, rfl⟩, ⟨b, by omega, rfl⟩, Or.inl trivial⟩
    · obtain ⟨q1, q2, q3, q4, q5, q6⟩ := h4 p (by omega)
      rw [upd_ne e, upd_ne e, upd_ne e, upd_ne e, upd_ne e, upd_ne e]
      refine ⟨q1, q2, q3, q4, q5, ?_⟩
      rcases q6 with q6 | ⟨m, r1, r2, r3⟩
      · exact Or.inl q6
      · refine Or.inr ⟨m, r1, r2, fun j hj => ⟨(r3 j hj).1, ?_⟩⟩
        rcases (r3 j hj).2 with s | ⟨w, s1, s2, s3⟩
        · exact Or.inl s
        · exact Or.inr ⟨w, by omega, s2, by rw [upd_ne (by omega)]; exact s3⟩
  · rw [up2_ne (by omega), up2_ne (by omega), up2_ne (by omega), up2_ne (by omega), up2_ne (by omega), up2_ne (by omega), up2_ne (by omega), up2_ne (by omega)]
theorem sp_player : Sp2 Inv f_X8_player f_X9_player := by
  intro a1 a2 g hI
  rcases i32_cases a1 5 (by decide) with h | ⟨k, hk, rfl⟩
  · exact ⟨-2, g, g, c_player_bad (Or.inl h), m_player_bad (Or.inl h), hI⟩
  · rcases i32_cases a2 3001 (by decide) with h | ⟨b, hb, rfl⟩
    · exact ⟨-2, g, g, c_player_bad (Or.inr h), m_player_bad (Or.inr h), hI⟩
    · obtain ⟨np, h1, h2, h3, h4⟩ := hI.1
      by_cases hn : np = 24
      · subst hn
        exact ⟨-4, g, g, by rw [c_player_ok hk hb]; exact c_add_full h2, m_player_full hk hb h3, hI⟩
      · have hn : np < 24 := by omega
        refine ⟨nI np, up2 (up2 (up2 (up2 g 4 np (nI k)) 5 np (nI b)) 6 np (-1)) 3 4 (nI (np + 1)), _, (c_player_ok hk hb).trans (c_add_ok h2 hn), m_player_ok hk hb h3 hn, inv_player hI hk hb h2 h3 hn⟩
