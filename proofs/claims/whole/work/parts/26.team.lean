/-! Worth of a team, and of anybody. -/
def RW (np : Nat) (kd bs pl hd : Nat → Int32) : Prop := np ≤ 24 ∧ ∀ p, p < np → (∃ k, k ≤ 4 ∧ kd p = nI k) ∧ (∃ b, b ≤ 3000 ∧ bs p = nI b) ∧ (pl p = -1 ∨ ∃ m, m ≤ 4 ∧ pl p = nI m ∧ ∀ k, k < m → (hd (4 * p + k) = -1 ∨ ∃ w, w < np ∧ hd (4 * p + k) = nI w ∧ kd w ≠ nI 3))
theorem so_val {np w : Nat} {kd bs pl hd : Nat → Int32} (h : RW np kd bs pl hd) (hw : w < np) : ((soE kd bs w).2.2 = 0 ∧ (kd w = 0 ∨ kd w = 1 ∨ kd w = 2) ∧ ∃ v, v ≤ 3025 ∧ (soE kd bs w).2.1 = nI v) ∨ (soE kd bs w = ([], -5, 3) ∧ ¬ kd w = 0 ∧ ¬ kd w = 1 ∧ ¬ kd w = 2) := by
  obtain ⟨⟨k, hk, ek⟩, ⟨b, hb, eb⟩, -⟩ := h.2 w hw
  by_cases h0 : kd w = 0
  · rw [so_0 h0]
    exact Or.inl ⟨rfl, Or.inl h0, b, by omega, eb⟩
  · by_cases h1 : kd w = 1
    · rw [so_1 h1]
      refine Or.inl ⟨rfl, Or.inr (Or.inl h1), ?_⟩
      by_cases q : bs w ≤ 1500
      · exact ⟨b, by omega, by show (if bs w ≤ 1500 then bs w else 1500) = nI b; rw [if_pos q, eb]⟩
      · exact ⟨1500, by omega, by show (if bs w ≤ 1500 then bs w else 1500) = nI 1500; rw [if_neg q]; rfl⟩
    · by_cases h2 : kd w = 2
      · rw [so_2 h2]
        refine Or.inl ⟨rfl, Or.inr (Or.inr h2), b + 25, by omega, ?_⟩
        show bs w + 25 = nI (b + 25)
        rw [eb, l_25, nI_add]
      · exact Or.inr ⟨so_x h0 h1 h2, h0, h1, h2⟩
/-- the rest of a team's row, from place k on: what it tells, behind T -/
def tePre (kd bs hd : Nat → Int32) (p m k : Nat) (T : List Int32) (acc : Int32) : Prop := T ++ (teL kd bs hd p (m - k) k acc).1 = (teL kd bs hd p m 0 0).1 ∧ (teL kd bs hd p (m - k) k acc).2 = (teL kd bs hd p m 0 0).2
theorem te_none {kd bs hd : Nat → Int32} {p m k : Nat} {T : List Int32} {acc : Int32} (h : tePre kd bs hd p m k T acc) (hk : k < m) (e : hd (4 * p + k) = -1) : (teL kd bs hd p m 0 0).1 = T ∧ (teL kd bs hd p m 0 0).2 = (-5, 1) := by
  obtain ⟨h1, h2⟩ := h
  rw [show m - k = (m - k - 1) + 1 by omega] at h1 h2
  rw [teL, if_pos e] at h1 h2
  exact ⟨by rw [← h1, List.append_nil], h2.symm⟩
theorem te_bad {kd bs hd : Nat → Int32} {p m k w : Nat} {T : List Int32} {acc : Int32} (h : tePre kd bs hd p m k T acc) (hk : k < m) (hw : w < 24) (e : hd (4 * p + k) = nI w) (hs : soE kd bs w = ([], -5, 3)) : (teL kd bs hd p m 0 0).1 = T ∧ (teL kd bs hd p m 0 0).2 = (-5, 3) := by
  obtain ⟨h1, h2⟩ := h
  rw [show m - k = (m - k - 1) + 1 by omega] at h1 h2
  have en : ¬ hd (4 * p + k) = -1 := by rw [e]; exact nI_nneg (by omega) (by decide)
  rw [teL, if_neg en, e, nI_clamp (by omega), hs, if_neg (by decide)] at h1 h2
  exact ⟨by rw [← h1, List.append_nil], h2.symm⟩
theorem te_next {kd bs hd : Nat → Int32} {p m k w : Nat} {T : List Int32} {acc : Int32} (h : tePre kd bs hd p m k T acc) (hk : k < m) (hw : w < 24) (e : hd (4 * p + k) = nI w) (hs : (soE kd bs w).2.2 = 0) : tePre kd bs hd p m (k + 1) (T ++ (soE kd bs w).1) (acc + (soE kd bs w).2.1) := by
  obtain ⟨h1, h2⟩ := h
  rw [show m - k = (m - (k + 1)) + 1 by omega] at h1 h2
  have en : ¬ hd (4 * p + k) = -1 := by rw [e]; exact nI_nneg (by omega) (by decide)
  rw [teL, if_neg en, e, nI_clamp (by omega), if_pos hs] at h1 h2
  exact ⟨by rw [← h1, List.append_assoc], h2⟩
theorem te_end {kd bs hd : Nat → Int32} {p m : Nat} {T : List Int32} {acc : Int32} (h : tePre kd bs hd p m m T acc) : (teL kd bs hd p m 0 0).1 = T ∧ (teL kd bs hd p m 0 0).2 = (acc, 0) := by
  obtain ⟨h1, h2⟩ := h
  rw [Nat.sub_self] at h1 h2
  exact ⟨by rw [← h1]; exact List.append_nil T, h2.symm⟩
theorem fifteen {p k : Nat} {x : Int32} (e : x = nI k) : nI p * 4 + x = nI (4 * p + k) := by
  rw [e, l_4, pk_mul, nI_add, Nat.mul_comm]
theorem fifteen' {p k : Nat} {x : Int32} (e : x = nI k) : 4 * nI p + x = nI (4 * p + k) := by
  rw [e, l_4, pk_mul, nI_add]
theorem c_worthFor {p np : Nat} {g : G} (hR : RW np (g 4) (g 5) (g 6) (g 7)) (hp : p < np) (hL : Lc g) : f_X5_worthFor (nI p) g = some ((woE (g 4) (g 5) (g 6) (g 7) p).2.1, cE (woE (g 4) (g 5) (g 6) (g 7) p).1 (woE (g 4) (g 5) (g 6) (g 7) p).2.2 g) := by
  have h24 := hR.1
  unfold f_X5_worthFor
  refine q_call (c_isTeam (by omega)) ?_
  by_cases h3 : g 4 p = 3
  · rw [if_pos h3]
    refine q_if_f (by decide) ?_
    refine q_call (c_write hL) ?_
    refine q_ck p rfl (by omega) (by decide) ?_
    obtain ⟨-, -, hm | ⟨m, hm4, em, hh⟩⟩ := hR.2 p hp
    · refine q_if_t hm ?_
      refine q_call (c_met (by decide)) ?_
      rw [cE_cE]
      unfold woE
      rw [if_pos h3, if_pos hm]
      rfl
    · have hne : ¬ g 6 p = -1 := by rw [em]; exact nI_nneg (by omega) (by decide)
      refine q_if_f hne ?_
      refine q_of ?_
      refine ev_bd ?_
      refine Ev.imp (P := Sum.elim (fun s => (teL (g 4) (g 5) (g 7) p m 0 0).2.2 = 0 ∧ s = ((teL (g 4) (g 5) (g 7) p m 0 0).2.1, cE (13 :: (teL (g 4) (g 5) (g 7) p m 0 0).1) 0 g)) (fun y => ¬ (teL (g 4) (g 5) (g 7) p m 0 0).2.2 = 0 ∧ y = (-5, cE (13 :: (teL (g 4) (g 5) (g 7) p m 0 0).1) (teL (g 4) (g 5) (g 7) p m 0 0).2.2 g))) ?_ ?_
      · refine ev_lp (I := fun k s => k ≤ m ∧ ∃ T acc, s = (acc, nI k, cE (13 :: T) 0 g) ∧ tePre (g 4) (g 5) (g 7) p m k T acc) m ?_ ?_ 2000 0 _ (Nat.zero_le _) (by omega) ⟨Nat.zero_le _, [], 0, rfl, ⟨rfl, rfl⟩⟩
        · rintro k s hk ⟨-, T, acc, rfl, hT⟩
          refine ev_f (by show ¬ g 6 p ≤ nI k; rw [em]; exact nI_ge hk (by omega)) ?_
          refine ev_ck (4 * p + k) (fifteen rfl) (by omega) (by decide) ?_
          rcases hh k hk with e | ⟨w, hw, e, hk3⟩
          · obtain ⟨t1, t2⟩ := te_none hT hk e
            refine ev_bd (ev_t e ?_)
            refine ev_call (c_met (by decide)) (ev_some ?_)
            refine ev_f (show ¬ (0 : Int32) ≤ -5 by decide) (ev_some ?_)
            show ¬ (teL (g 4) (g 5) (g 7) p m 0 0).2.2 = 0 ∧ _
            rw [t1, t2, cE_cE]
            exact ⟨by decide, by rw [List.append_nil]; rfl⟩
          · refine ev_bd (ev_f (by show ¬ g 7 (4 * p + k) = -1; rw [e]; exact nI_nneg (by omega) (by decide)) ?_)
            have ec : f_X5_soloWorth (cE (13 :: T) 0 g 7 (4 * p + k)) (cE (13 :: T) 0 g) = some ((soE (g 4) (g 5) w).2.1, cE (soE (g 4) (g 5) w).1 (soE (g 4) (g 5) w).2.2 (cE (13 :: T) 0 g)) := by
              show f_X5_soloWorth (g 7 (4 * p + k)) _ = _
              rw [e]
              exact c_solo (by omega) hL.cE
            refine ev_call ec (ev_some ?_)
            rcases so_val hR hw with ⟨s1, s2, v, s3, s4⟩ | ⟨s1, -⟩
            · have hn := te_next hT hk (by omega) e s1
              refine ev_t (by show (0 : Int32) ≤ (soE (g 4) (g 5) w).2.1; rw [s4]; exact nI_pos' (by omega)) (ev_some ?_)
              refine ⟨hk, T ++ (soE (g 4) (g 5) w).1, acc + (soE (g 4) (g 5) w).2.1, ?_, hn⟩
              rw [cE_cE, s1]
              show (acc + _, nI k + 1, _) = _
              rw [l_1, nI_add]
              rfl
            · obtain ⟨t1, t2⟩ := te_bad hT hk (by omega) e s1
              rw [s1]
              refine ev_f (show ¬ (0 : Int32) ≤ -5 by decide) (ev_some ?_)
              show ¬ (teL (g 4) (g 5) (g 7) p m 0 0).2.2 = 0 ∧ _
              rw [t1, t2, cE_cE]
              exact ⟨by decide, by rw [List.append_nil]; rfl⟩
        · rintro s ⟨-, T, acc, rfl, hT⟩
          obtain ⟨t1, t2⟩ := te_end hT
          refine ev_t (by show g 6 p ≤ nI m; rw [em]; exact nI_le (Nat.le_refl m) (by omega)) (ev_some ?_)
          show (teL (g 4) (g 5) (g 7) p m 0 0).2.2 = 0 ∧ _
          rw [t1, t2]
          exact ⟨rfl, rfl⟩
      · have em2 : (g 6 p).toNatClampNeg = m := by rw [em, nI_clamp (by omega)]
        rintro (s | y) hq
        · obtain ⟨t1, rfl⟩ := hq
          show Ev (if g 6 p = 0 then _ else _) _
          by_cases hz : g 6 p = 0
          · refine ev_t hz ?_
            refine ev_call (c_met (by decide)) (ev_some ?_)
            unfold woE
            rw [if_pos h3, if_neg hne, em2, if_pos t1, if_pos hz, cE_cE, List.append_nil]
            rfl
          · refine ev_f hz (ev_dz hz (ev_some ?_))
            unfold woE
            rw [if_pos h3, if_neg hne, em2, if_pos t1, if_neg hz]
            rfl
        · obtain ⟨t1, rfl⟩ := hq
          refine ev_some ?_
          unfold woE
          rw [if_pos h3, if_neg hne, em2, if_neg t1]
  · rw [if_neg h3]
    refine q_if_t rfl ?_
    refine q_call (c_solo (by omega) hL) ?_
    unfold woE
    rw [if_neg h3]

theorem m_worthOf {p np : Nat} {g : G} (hR : RW np (g 161) (g 162) (g 163) (g 164)) (hp : p < np) (hL : Lm g) : f_X9_worthOf (nI p) g = some ((woE (g 161) (g 162) (g 163) (g 164) p).2.1, mE (woE (g 161) (g 162) (g 163) (g 164) p).1 (woE (g 161) (g 162) (g 163) (g 164) p).2.2 g) := by
  have h24 := hR.1
  unfold f_X9_worthOf
  refine q_ck p rfl (by omega) (by decide) ?_
  by_cases h4 : g 161 p = 4
  · refine q_if_t h4 ?_
    refine q_call (m_meets (by decide)) ?_
    unfold woE
    rw [if_neg (by rw [h4]; decide), so_x (by rw [h4]; decide) (by rw [h4]; decide) (by rw [h4]; decide)]
  · refine q_if_f h4 ?_
    refine q_ck p rfl (by omega) (by decide) ?_
    by_cases h3 : g 161 p = 3
    · refine q_if_t h3 ?_
      refine q_call (m_began hL) ?_
      refine q_ck p rfl (by omega) (by decide) ?_
      obtain ⟨-, -, hm | ⟨m, hm4, em, hh⟩⟩ := hR.2 p hp
      · refine q_if_t hm ?_
        refine q_call (m_meets (by decide)) ?_
        rw [mE_mE]
        unfold woE
        rw [if_pos h3, if_pos hm]
        rfl
      · have hne : ¬ g 163 p = -1 := by rw [em]; exact nI_nneg (by omega) (by decide)
        refine q_if_f hne ?_
        refine q_of ?_
        refine ev_bd ?_
        refine Ev.imp (P := Sum.elim (fun s => (teL (g 161) (g 162) (g 164) p m 0 0).2.2 = 0 ∧ s = ((teL (g 161) (g 162) (g 164) p m 0 0).2.1, mE (13 :: (teL (g 161) (g 162) (g 164) p m 0 0).1) 0 g)) (fun y => ¬ (teL (g 161) (g 162) (g 164) p m 0 0).2.2 = 0 ∧ y = (-5, mE (13 :: (teL (g 161) (g 162) (g 164) p m 0 0).1) (teL (g 161) (g 162) (g 164) p m 0 0).2.2 g))) ?_ ?_
        · refine ev_lp (I := fun k s => k ≤ m ∧ ∃ T acc, s = (acc, nI k, mE (13 :: T) 0 g) ∧ tePre (g 161) (g 162) (g 164) p m k T acc) m ?_ ?_ 2000 0 _ (Nat.zero_le _) (by omega) ⟨Nat.zero_le _, [], 0, rfl, ⟨rfl, rfl⟩⟩
          · rintro k s hk ⟨-, T, acc, rfl, hT⟩
            refine ev_ck p rfl (by omega) (by decide) ?_
            refine ev_f (by show ¬ g 163 p ≤ nI k; rw [em]; exact nI_ge hk (by omega)) ?_
            refine ev_ck (4 * p + k) (fifteen' rfl) (by omega) (by decide) ?_
            rcases hh k hk with e | ⟨w, hw, e, hk3⟩
            · obtain ⟨t1, t2⟩ := te_none hT hk e
              refine ev_t e ?_
              refine ev_call (m_meets (by decide)) (ev_some ?_)
              show ¬ (teL (g 161) (g 162) (g 164) p m 0 0).2.2 = 0 ∧ _
              rw [t1, t2, mE_mE]
              exact ⟨by decide, by rw [List.append_nil]; rfl⟩
            · refine ev_f (by show ¬ g 164 (4 * p + k) = -1; rw [e]; exact nI_nneg (by omega) (by decide)) ?_
              refine ev_ck w e (by omega) (by decide) ?_
              rcases so_val hR hw with ⟨s1, s2, v, s3, s4⟩ | ⟨s1, n0, n1, n2⟩
              · have hn := te_next hT hk (by omega) e s1
                refine ev_f (by show ¬ g 161 w = 4; rcases s2 with s | s | s <;> rw [s] <;> decide) ?_
                have ec : f_X9_soloWorth (mE (13 :: T) 0 g 164 (4 * p + k)) (mE (13 :: T) 0 g) = some ((soE (g 161) (g 162) w).2.1, mE (soE (g 161) (g 162) w).1 0 (mE (13 :: T) 0 g)) := by
                  show f_X9_soloWorth (g 164 (4 * p + k)) _ = _
                  rw [e]
                  exact m_solo (by omega) hL.mE s2
                refine ev_call ec (ev_some ?_)
                refine ⟨hk, T ++ (soE (g 161) (g 162) w).1, acc + (soE (g 161) (g 162) w).2.1, ?_, hn⟩
                rw [mE_mE]
                show (acc + _, nI k + 1, _) = _
                rw [l_1, nI_add]
                rfl
              · obtain ⟨t1, t2⟩ := te_bad hT hk (by omega) e s1
                have hk4 : g 161 w = 4 := by
                  obtain ⟨⟨c, hc, ec⟩, -⟩ := hR.2 w hw
                  rcases (show c = 0 ∨ c = 1 ∨ c = 2 ∨ c = 3 ∨ c = 4 by omega) with rfl | rfl | rfl | rfl | rfl
                  · exact absurd ec n0
                  · exact absurd ec n1
                  · exact absurd ec n2
                  · exact absurd ec hk3
                  · exact ec
                refine ev_t hk4 ?_
                refine ev_call (m_meets (by decide)) (ev_some ?_)
                show ¬ (teL (g 161) (g 162) (g 164) p m 0 0).2.2 = 0 ∧ _
                rw [t1, t2, mE_mE]
                exact ⟨by decide, by rw [List.append_nil]; rfl⟩
          · rintro s ⟨-, T, acc, rfl, hT⟩
            obtain ⟨t1, t2⟩ := te_end hT
            refine ev_ck p rfl (by omega) (by decide) ?_
            refine ev_t (by show g 163 p ≤ nI m; rw [em]; exact nI_le (Nat.le_refl m) (by omega)) (ev_some ?_)
            show (teL (g 161) (g 162) (g 164) p m 0 0).2.2 = 0 ∧ _
            rw [t1, t2]
            exact ⟨rfl, rfl⟩
        · have em2 : (g 163 p).toNatClampNeg = m := by rw [em, nI_clamp (by omega)]
          rintro (s | y) hq
          · obtain ⟨t1, rfl⟩ := hq
            refine ev_ck p rfl (by omega) (by decide) ?_
            by_cases hz : g 163 p = 0
            · refine ev_t hz ?_
              refine ev_call (m_meets (by decide)) (ev_some ?_)
              unfold woE
              rw [if_pos h3, if_neg hne, em2, if_pos t1, if_pos hz, mE_mE, List.append_nil]
              rfl
            · refine ev_f hz ?_
              refine ev_ck p rfl (by omega) (by decide) ?_
              refine ev_dz hz (ev_some ?_)
              unfold woE
              rw [if_pos h3, if_neg hne, em2, if_pos t1, if_neg hz]
              rfl
          · obtain ⟨t1, rfl⟩ := hq
            refine ev_some ?_
            unfold woE
            rw [if_pos h3, if_neg hne, em2, if_neg t1]
    · refine q_if_f h3 ?_
      have hk : g 161 p = 0 ∨ g 161 p = 1 ∨ g 161 p = 2 := by
        obtain ⟨⟨c, hc, ec⟩, -⟩ := hR.2 p hp
        rcases (show c = 0 ∨ c = 1 ∨ c = 2 ∨ c = 3 ∨ c = 4 by omega) with rfl | rfl | rfl | rfl | rfl
        · exact Or.inl ec
        · exact Or.inr (Or.inl ec)
        · exact Or.inr (Or.inr ec)
        · exact absurd ec h3
        · exact absurd ec h4
      refine q_call (m_solo (by omega) hL hk) ?_
      unfold woE
      rw [if_neg h3]
      rcases hk with h | h | h
      · rw [so_0 h]
      · rw [so_1 h]
      · rw [so_2 h]
/-- class and model hold the same players -/
theorem J_pl.rw {g : G} (h : J_pl g) : ∃ np, np ≤ 24 ∧ g 3 4 = nI np ∧ g 159 3 = nI np ∧ RW np (g 4) (g 5) (g 6) (g 7) ∧ RW np (g 161) (g 162) (g 163) (g 164) ∧ (∀ p, p < np → g 4 p = g 161 p ∧ g 5 p = g 162 p ∧ g 6 p = g 163 p) ∧ (∀ p, p < np → woE (g 4) (g 5) (g 6) (g 7) p = woE (g 161) (g 162) (g 163) (g 164) p) := by
  obtain ⟨np, h1, h2, h3, h4⟩ := h
  have hRm : RW np (g 161) (g 162) (g 163) (g 164) := by
    refine ⟨h1, fun p hp => ?_⟩
    obtain ⟨a, b, c, d, e, f⟩ := h4 p hp
    refine ⟨d, e, ?_⟩
    rcases f with f | ⟨m, f1, f2, f3⟩
    · exact Or.inl f
    · exact Or.inr ⟨m, f1, f2, fun k hk => (f3 k hk).2⟩
  have hRc : RW np (g 4) (g 5) (g 6) (g 7) := by
    refine ⟨h1, fun p hp => ?_⟩
    obtain ⟨a, b, c, d, e, f⟩ := h4 p hp
    refine ⟨by rw [a]; exact d, by rw [b]; exact e, ?_⟩
    rw [c]
    rcases f with f | ⟨m, f1, f2, f3⟩
    · exact Or.inl f
    · refine Or.inr ⟨m, f1, f2, fun k hk => ?_⟩
      obtain ⟨q1, q2⟩ := f3 k hk
      rw [q1]
      rcases q2 with q2 | ⟨w, q2, q3, q4⟩
      · exact Or.inl q2
      · exact Or.inr ⟨w, q2, q3, by rw [(h4 w q2).1]; exact q4⟩
  have hso : ∀ w, w < np → soE (g 4) (g 5) w = soE (g 161) (g 162) w := by
    intro w hw
    obtain ⟨a, b, -⟩ := h4 w hw
    unfold soE
    rw [a, b]
  refine ⟨np, h1, h2, h3, hRc, hRm, fun p hp => ⟨(h4 p hp).1, (h4 p hp).2.1, (h4 p hp).2.2.1⟩, fun p hp => ?_⟩
  obtain ⟨a, b, c, d, e, f⟩ := h4 p hp
  unfold woE
  rw [a, c, hso p hp]
  rcases f with f | ⟨m, f1, f2, f3⟩
  · rw [if_pos f, if_pos f]
  · have ht : ∀ n k acc, k + n ≤ m → teL (g 4) (g 5) (g 7) p n k acc = teL (g 161) (g 162) (g 164) p n k acc := by
      intro n
      induction n with
      | zero => intro k acc _; rfl
      | succ n ih =>
        intro k acc hk
        obtain ⟨q1, q2⟩ := f3 k (by omega)
        rw [teL, teL, q1]
        rcases q2 with q2 | ⟨w, q2, q3, q4⟩
        · rw [if_pos q2, if_pos q2]
        · rw [q3, nI_clamp (by omega), hso w q2, ih (k + 1) _ (by omega)]
    rw [f2, nI_clamp (by omega), ht m 0 0 (by omega)]
theorem J_log.lc {g : G} (h : J_log g) : Lc g ∧ Lm g := by
  obtain ⟨n, h1, h2, h3, h4, h5⟩ := h
  exact ⟨⟨n, h1, h2⟩, ⟨n, h1, h3⟩⟩
/-- both traces emptied -/
theorem Inv.clear {g : G} (h : Inv g) : Inv (up2 (up2 g 1 1 0) 159 2 0) := by
  obtain ⟨i1, ⟨n, h1, h2, h3, h4, h5⟩, i3, i4, i5, i6, i7⟩ := h
  refine ⟨i1, ⟨0, by decide, rfl, rfl, h4, fun i hi => absurd hi (Nat.not_lt_zero i)⟩, i3, i4, i5, i6.off rfl rfl rfl rfl rfl rfl rfl (fun a h1 h2 => ?_), i7⟩
  rw [up2_ne (by omega), up2_ne (by omega)]
