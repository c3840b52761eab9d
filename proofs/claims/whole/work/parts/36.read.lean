/-! The entry that counts, the outcome of a cell: class (read) and model (entryOf, outcomeOf); the call counts. -/
abbrev kn (R : Nat → Int32) (W : Int32) (x : Nat) : Prop := R (291 + x) ≤ W ∧ (R (351 + x) = 0 ∨ ¬ (R (351 + x) - 1 ≤ W))
def enS (R : Nat → Int32) (W : Int32) (c : Nat) : Nat → Int32
  | 0 => -1
  | e + 1 => if R (111 + e) = nI c ∧ kn R W e then (if enS R W c e = -1 ∨ R (291 + (enS R W c e).toNatClampNeg) ≤ R (291 + e) then nI e else enS R W c e) else enS R W c e
theorem enS_ok (R : Nat → Int32) (W : Int32) (c e : Nat) : enS R W c e = -nI 1 ∨ ∃ j, j < e ∧ enS R W c e = nI j := by
  induction e with
  | zero => exact Or.inl rfl
  | succ e ih =>
    have ih' : enS R W c e = -nI 1 ∨ ∃ j, j < e + 1 ∧ enS R W c e = nI j := by
      rcases ih with h | ⟨j, h1, h2⟩
      · exact Or.inl h
      · exact Or.inr ⟨j, by omega, h2⟩
    rw [enS]
    split
    · split
      · exact Or.inr ⟨e, by omega, rfl⟩
      · exact ih'
    · exact ih'
def ouS (R : Nat → Int32) (d b : Int32) : Int32 := if b = -1 then -1 else if R (231 + b.toNatClampNeg) ≤ d then R (171 + b.toNatClampNeg) else -1
theorem m_entryOf {t c dr e : Nat} {W : Int32} {g : G} (ht : t < 4) (h : T_entries (blkT g t) (rowT g t) dr e) : f_X9_entryOf (nI t) (nI c) W g = some (enS (rowT g t) W c e, g) := by
  obtain ⟨e60, c3, m110, hE, hZ⟩ := h
  unfold f_X9_entryOf
  refine q_bd (a := (enS (rowT g t) W c e, g)) ?_ rfl
  refine q_lp (fun i => (enS (rowT g t) W c i, nI i, g)) e (fun i hi => ?_) ?_ (by omega) rfl
  · rw [enS]
    by_cases h1 : rowT g t (111 + i) = nI c
    · by_cases h2 : rowT g t (291 + i) ≤ W
      · have h2' : ¬ W < rowT g t (291 + i) := Int32.not_lt.mpr h2
        by_cases h3 : rowT g t (351 + i) = nI 0 ∨ ¬ (rowT g t (351 + i) - nI 1 ≤ W)
        · have hk : kn (rowT g t) W i := ⟨h2, h3⟩
          rw [if_pos ⟨h1, hk⟩]
          rcases enS_ok (rowT g t) W c i with hb | ⟨j, hj, hb⟩
          · rw [hb, if_pos (show (-nI 1 : Int32) = -1 ∨ _ from Or.inl rfl)]
            rcases h3 with h3 | h3
            · simp (disch := omega) only [bd2_s, bd_s, wr_s, ck_s, bz_s0, bz_s1, dz_s, nI_litS, nI_add, pk_mul, pk_sub, nI_leI, nI_ltI, nI_eq, ng_lt, ng_le, lt_ng, le_ng, eq_ng, ng_eq, ng_ngE, ng_ngL, ng_ngl, sub1_lt, sub1_ng, eq_self, if_pos, if_neg, if_true, if_false, Nat.zero_add, Nat.add_zero, f_X9_cell, rw_k g t, m110, h1, h2', h3]
            · by_cases h4 : rowT g t (351 + i) = nI 0
              · simp (disch := omega) only [bd2_s, bd_s, wr_s, ck_s, bz_s0, bz_s1, dz_s, nI_litS, nI_add, pk_mul, pk_sub, nI_leI, nI_ltI, nI_eq, ng_lt, ng_le, lt_ng, le_ng, eq_ng, ng_eq, ng_ngE, ng_ngL, ng_ngl, sub1_lt, sub1_ng, eq_self, if_pos, if_neg, if_true, if_false, Nat.zero_add, Nat.add_zero, f_X9_cell, rw_k g t, m110, h1, h2', h4]
              · simp (disch := omega) only [bd2_s, bd_s, wr_s, ck_s, bz_s0, bz_s1, dz_s, nI_litS, nI_add, pk_mul, pk_sub, nI_leI, nI_ltI, nI_eq, ng_lt, ng_le, lt_ng, le_ng, eq_ng, ng_eq, ng_ngE, ng_ngL, ng_ngl, sub1_lt, sub1_ng, eq_self, if_pos, if_neg, if_true, if_false, Nat.zero_add, Nat.add_zero, f_X9_cell, rw_k g t, m110, h1, h2', h3, h4]
          · rw [hb, nI_clamp (by omega)]
            by_cases h5 : rowT g t (291 + j) ≤ rowT g t (291 + i)
            · have h5' : ¬ rowT g t (291 + i) < rowT g t (291 + j) := Int32.not_lt.mpr h5
              rw [if_pos (Or.inr h5)]
              rcases h3 with h3 | h3
              · simp (disch := omega) only [bd2_s, bd_s, wr_s, ck_s, bz_s0, bz_s1, dz_s, nI_litS, nI_add, pk_mul, pk_sub, nI_leI, nI_ltI, nI_eq, ng_lt, ng_le, lt_ng, le_ng, eq_ng, ng_eq, ng_ngE, ng_ngL, ng_ngl, sub1_lt, sub1_ng, eq_self, if_pos, if_neg, if_true, if_false, Nat.zero_add, Nat.add_zero, f_X9_cell, rw_k g t, m110, h1, h2', h3, h5']
              · by_cases h4 : rowT g t (351 + i) = nI 0
                · simp (disch := omega) only [bd2_s, bd_s, wr_s, ck_s, bz_s0, bz_s1, dz_s, nI_litS, nI_add, pk_mul, pk_sub, nI_leI, nI_ltI, nI_eq, ng_lt, ng_le, lt_ng, le_ng, eq_ng, ng_eq, ng_ngE, ng_ngL, ng_ngl, sub1_lt, sub1_ng, eq_self, if_pos, if_neg, if_true, if_false, Nat.zero_add, Nat.add_zero, f_X9_cell, rw_k g t, m110, h1, h2', h4, h5']
                · simp (disch := omega) only [bd2_s, bd_s, wr_s, ck_s, bz_s0, bz_s1, dz_s, nI_litS, nI_add, pk_mul, pk_sub, nI_leI, nI_ltI, nI_eq, ng_lt, ng_le, lt_ng, le_ng, eq_ng, ng_eq, ng_ngE, ng_ngL, ng_ngl, sub1_lt, sub1_ng, eq_self, if_pos, if_neg, if_true, if_false, Nat.zero_add, Nat.add_zero, f_X9_cell, rw_k g t, m110, h1, h2', h3, h4, h5']
            · have h5' : rowT g t (291 + i) < rowT g t (291 + j) := Int32.not_le.mp h5
              rw [if_neg (fun q => q.elim (fun q => absurd q (nI_nneg (by omega) (by decide))) h5)]
              rcases h3 with h3 | h3
              · simp (disch := omega) only [bd2_s, bd_s, wr_s, ck_s, bz_s0, bz_s1, dz_s, nI_litS, nI_add, pk_mul, pk_sub, nI_leI, nI_ltI, nI_eq, ng_lt, ng_le, lt_ng, le_ng, eq_ng, ng_eq, ng_ngE, ng_ngL, ng_ngl, sub1_lt, sub1_ng, eq_self, if_pos, if_neg, if_true, if_false, Nat.zero_add, Nat.add_zero, f_X9_cell, rw_k g t, m110, h1, h2', h3, h5']
              · by_cases h4 : rowT g t (351 + i) = nI 0
                · simp (disch := omega) only [bd2_s, bd_s, wr_s, ck_s, bz_s0, bz_s1, dz_s, nI_litS, nI_add, pk_mul, pk_sub, nI_leI, nI_ltI, nI_eq, ng_lt, ng_le, lt_ng, le_ng, eq_ng, ng_eq, ng_ngE, ng_ngL, ng_ngl, sub1_lt, sub1_ng, eq_self, if_pos, if_neg, if_true, if_false, Nat.zero_add, Nat.add_zero, f_X9_cell, rw_k g t, m110, h1, h2', h4, h5']
                · simp (disch := omega) only [bd2_s, bd_s, wr_s, ck_s, bz_s0, bz_s1, dz_s, nI_litS, nI_add, pk_mul, pk_sub, nI_leI, nI_ltI, nI_eq, ng_lt, ng_le, lt_ng, le_ng, eq_ng, ng_eq, ng_ngE, ng_ngL, ng_ngl, sub1_lt, sub1_ng, eq_self, if_pos, if_neg, if_true, if_false, Nat.zero_add, Nat.add_zero, f_X9_cell, rw_k g t, m110, h1, h2', h3, h4, h5']
        · rw [if_neg (fun q => h3 q.2.2)]
          have h4 : ¬ rowT g t (351 + i) = nI 0 := fun q => h3 (Or.inl q)
          have h5 : rowT g t (351 + i) - nI 1 ≤ W := Decidable.byContradiction (fun q => h3 (Or.inr q))
          simp (disch := omega) only [bd2_s, bd_s, wr_s, ck_s, bz_s0, bz_s1, dz_s, nI_litS, nI_add, pk_mul, pk_sub, nI_leI, nI_ltI, nI_eq, ng_lt, ng_le, lt_ng, le_ng, eq_ng, ng_eq, ng_ngE, ng_ngL, ng_ngl, sub1_lt, sub1_ng, eq_self, if_pos, if_neg, if_true, if_false, Nat.zero_add, Nat.add_zero, f_X9_cell, rw_k g t, m110, h1, h2', h4, h5]
      · have h2' : W < rowT g t (291 + i) := Int32.not_le.mp h2
        rw [if_neg (fun q => h2 q.2.1)]
        simp (disch := omega) only [bd2_s, bd_s, wr_s, ck_s, bz_s0, bz_s1, dz_s, nI_litS, nI_add, pk_mul, pk_sub, nI_leI, nI_ltI, nI_eq, ng_lt, ng_le, lt_ng, le_ng, eq_ng, ng_eq, ng_ngE, ng_ngL, ng_ngl, sub1_lt, sub1_ng, eq_self, if_pos, if_neg, if_true, if_false, Nat.zero_add, Nat.add_zero, f_X9_cell, rw_k g t, m110, h1, h2']
    · rw [if_neg (fun q => h1 q.1)]
      simp (disch := omega) only [bd2_s, bd_s, wr_s, ck_s, bz_s0, bz_s1, dz_s, nI_litS, nI_add, pk_mul, pk_sub, nI_leI, nI_ltI, nI_eq, ng_lt, ng_le, lt_ng, le_ng, eq_ng, ng_eq, ng_ngE, ng_ngL, ng_ngl, sub1_lt, sub1_ng, eq_self, if_pos, if_neg, if_true, if_false, Nat.zero_add, Nat.add_zero, f_X9_cell, rw_k g t, m110, h1]
  · simp (disch := omega) only [bd2_s, bd_s, wr_s, ck_s, bz_s0, bz_s1, dz_s, nI_litS, nI_add, pk_mul, pk_sub, nI_leI, nI_ltI, nI_eq, ng_lt, ng_le, lt_ng, le_ng, eq_ng, ng_eq, ng_ngE, ng_ngL, ng_ngl, sub1_lt, sub1_ng, eq_self, if_pos, if_neg, if_true, if_false, Nat.zero_add, Nat.add_zero, f_X9_cell, rw_k g t, m110]
theorem m_outcomeOf {t c dr e : Nat} {d W : Int32} {g : G} (ht : t < 4) (h : T_entries (blkT g t) (rowT g t) dr e) (h25 : g 159 25 = 0) : f_X9_outcomeOf (nI t) (nI c) d W g = some (ouS (rowT g t) d (enS (rowT g t) W c e), g) := by
  have q := m_entryOf (c := c) (W := W) ht h
  obtain ⟨e60, c3, m110, hE, hZ⟩ := h
  unfold ouS
  rcases enS_ok (rowT g t) W c e with hb | ⟨j, hj, hb⟩
  · rw [hb] at q ⊢
    simp (disch := omega) only [bd2_s, bd_s, wr_s, ck_s, bz_s0, bz_s1, dz_s, nI_litS, nI_add, pk_mul, pk_sub, nI_leI, nI_ltI, nI_eq, ng_lt, ng_le, lt_ng, le_ng, eq_ng, ng_eq, ng_ngE, ng_ngL, ng_ngl, sub1_lt, sub1_ng, eq_self, if_pos, if_neg, if_true, if_false, Nat.zero_add, Nat.add_zero, f_X9_outcomeOf, h25, q]
  · rw [hb] at q ⊢
    rw [if_neg (nI_nneg (by omega) (by decide)), nI_clamp (by omega)]
    by_cases h1 : rowT g t (231 + j) ≤ d
    · simp (disch := omega) only [bd2_s, bd_s, wr_s, ck_s, bz_s0, bz_s1, dz_s, nI_litS, nI_add, pk_mul, pk_sub, nI_leI, nI_ltI, nI_eq, ng_lt, ng_le, lt_ng, le_ng, eq_ng, ng_eq, ng_ngE, ng_ngL, ng_ngl, sub1_lt, sub1_ng, eq_self, if_pos, if_neg, if_true, if_false, Nat.zero_add, Nat.add_zero, f_X9_outcomeOf, h25, q, f_X9_cell, rw_k g t, h1]
    · simp (disch := omega) only [bd2_s, bd_s, wr_s, ck_s, bz_s0, bz_s1, dz_s, nI_litS, nI_add, pk_mul, pk_sub, nI_leI, nI_ltI, nI_eq, ng_lt, ng_le, lt_ng, le_ng, eq_ng, ng_eq, ng_ngE, ng_ngL, ng_ngl, sub1_lt, sub1_ng, eq_self, if_pos, if_neg, if_true, if_false, Nat.zero_add, Nat.add_zero, f_X9_outcomeOf, h25, q, f_X9_cell, rw_k g t, h1]
theorem c_isKnown {t x dr : Nat} {W : Int32} {g : G} (hx : x < 60) (h : T_entry (blkT g t) (rowT g t) dr x) : f_X7_isKnown (47 + 28 * t) (nI x) W g = some (if kn (rowT g t) W x then 1 else 0, g) := by
  obtain ⟨-, y1, y2, y3, y4, y5, y6, y7, y8⟩ := h
  by_cases h2 : rowT g t (291 + x) ≤ W
  · have h2' : ¬ W < rowT g t (291 + x) := Int32.not_lt.mpr h2
    rcases y8 with ⟨b1, b2⟩ | ⟨b1, b2⟩
    · rw [if_pos ⟨h2, Or.inl b1⟩]
      simp (disch := omega) only [bd2_s, bd_s, wr_s, ck_s, bz_s0, bz_s1, dz_s, nI_litS, nI_add, pk_mul, pk_sub, nI_leI, nI_ltI, nI_eq, ng_lt, ng_le, lt_ng, le_ng, eq_ng, ng_eq, ng_ngE, ng_ngL, ng_ngl, sub1_lt, sub1_ng, eq_self, if_pos, if_neg, if_true, if_false, Nat.zero_add, Nat.add_zero, f_X7_isKnown, bk_j g t, b2, y6, h2']
    · obtain ⟨b, hb, eb⟩ := i32_nn b1
      have h4 : ¬ rowT g t (351 + x) = 0 := by
        rw [b2, eb, l_1, l_0, nI_add, nI_eqW (by omega) (by omega)]
        omega
      have h5 : rowT g t (351 + x) - 1 = nI b := by
        rw [b2, eb, nI_1, nI_pred]
      by_cases h3 : nI b ≤ W
      · have h3' : ¬ W < nI b := Int32.not_lt.mpr h3
        rw [if_neg (fun q => q.2.elim h4 (fun z => z (by rw [h5]; exact h3)))]
        simp (disch := omega) only [bd2_s, bd_s, wr_s, ck_s, bz_s0, bz_s1, dz_s, nI_litS, nI_add, pk_mul, pk_sub, nI_leI, nI_ltI, nI_eq, ng_lt, ng_le, lt_ng, le_ng, eq_ng, ng_eq, ng_ngE, ng_ngL, ng_ngl, sub1_lt, sub1_ng, eq_self, if_pos, if_neg, if_true, if_false, Nat.zero_add, Nat.add_zero, f_X7_isKnown, bk_j g t, eb, y6, h2', h3']
      · have h3' : W < nI b := Int32.not_le.mp h3
        rw [if_pos ⟨h2, Or.inr (by rw [h5]; exact h3)⟩]
        simp (disch := omega) only [bd2_s, bd_s, wr_s, ck_s, bz_s0, bz_s1, dz_s, nI_litS, nI_add, pk_mul, pk_sub, nI_leI, nI_ltI, nI_eq, ng_lt, ng_le, lt_ng, le_ng, eq_ng, ng_eq, ng_ngE, ng_ngL, ng_ngl, sub1_lt, sub1_ng, eq_self, if_pos, if_neg, if_true, if_false, Nat.zero_add, Nat.add_zero, f_X7_isKnown, bk_j g t, eb, y6, h2', h3']
  · have h2' : W < rowT g t (291 + x) := Int32.not_le.mp h2
    rw [if_neg (fun q => h2 q.1)]
    rcases y8 with ⟨b1, b2⟩ | ⟨b1, b2⟩
    · simp (disch := omega) only [bd2_s, bd_s, wr_s, ck_s, bz_s0, bz_s1, dz_s, nI_litS, nI_add, pk_mul, pk_sub, nI_leI, nI_ltI, nI_eq, ng_lt, ng_le, lt_ng, le_ng, eq_ng, ng_eq, ng_ngE, ng_ngL, ng_ngl, sub1_lt, sub1_ng, eq_self, if_pos, if_neg, if_true, if_false, Nat.zero_add, Nat.add_zero, f_X7_isKnown, bk_j g t, b2, y6, h2']
    · obtain ⟨b, hb, eb⟩ := i32_nn b1
      by_cases h3 : W < nI b
      · simp (disch := omega) only [bd2_s, bd_s, wr_s, ck_s, bz_s0, bz_s1, dz_s, nI_litS, nI_add, pk_mul, pk_sub, nI_leI, nI_ltI, nI_eq, ng_lt, ng_le, lt_ng, le_ng, eq_ng, ng_eq, ng_ngE, ng_ngL, ng_ngl, sub1_lt, sub1_ng, eq_self, if_pos, if_neg, if_true, if_false, Nat.zero_add, Nat.add_zero, f_X7_isKnown, bk_j g t, eb, y6, h2', h3]
      · simp (disch := omega) only [bd2_s, bd_s, wr_s, ck_s, bz_s0, bz_s1, dz_s, nI_litS, nI_add, pk_mul, pk_sub, nI_leI, nI_ltI, nI_eq, ng_lt, ng_le, lt_ng, le_ng, eq_ng, ng_eq, ng_ngE, ng_ngL, ng_ngl, sub1_lt, sub1_ng, eq_self, if_pos, if_neg, if_true, if_false, Nat.zero_add, Nat.add_zero, f_X7_isKnown, bk_j g t, eb, y6, h2', h3]
theorem c_read {t dr e : Nat} {d W : Int32} {g : G} (ht : t < 4) (hd : dr ≤ 6) (h : T_entries (blkT g t) (rowT g t) dr e) : Ev (f_X6_read (47 + 28 * t) d W g) (fun q => (∀ a, a ≠ 16 → a ≠ 17 → q.2 a = g a) ∧ (∀ c, c < 30 → q.2 16 c = enS (rowT g t) W c e) ∧ ∀ c, c < 30 → q.2 17 c = ouS (rowT g t) d (enS (rowT g t) W c e)) := by
  obtain ⟨e60, c3, m110, hE, hZ⟩ := id h
  unfold f_X6_read
  rw [j_fill (by decide)]
  refine ev_call rfl ?_
  refine ev_bd (Ev.imp (P := fun s => (∀ a, a ≠ 16 → s a = g a) ∧ ∀ c, c < 30 → s 16 c = enS (rowT g t) W c e) ?_ ?_)
  · refine ev_lp (I := fun k s => s.1 = nI k ∧ (∀ a, a ≠ 16 → s.2 a = g a) ∧ ∀ c, c < 30 → s.2 16 c = enS (rowT g t) W c k) e ?_ ?_ 2000 0 _ (Nat.zero_le _) (by omega) ⟨rfl, fun a ha => fl_ne ha, fun c hc => (fl_in hc : fl g 16 30 (-1) 16 c = -1)⟩
    · rintro k ⟨x, s⟩ hk ⟨rfl, h1, h2⟩
      have h1 : ∀ a, a ≠ 16 → s a = g a := h1
      have h2 : ∀ c, c < 30 → s 16 c = enS (rowT g t) W c k := h2
      have hrow : rowT s t = rowT g t := rowT_ne (h1 165 (by decide))
      have hblk : blkT s t = blkT g t := blkT_ne (fun j hj => h1 _ (by omega))
      obtain ⟨⟨r, k', m, z1, z2, z3, z4, z5, z6⟩, y1, y2, y3, y4, y5, y6, y7, y8⟩ := id (hE k hk)
      have hkn := c_isKnown (g := s) (t := t) (dr := dr) (x := k) (W := W) (by omega) (by rw [hrow, hblk]; exact hE k hk)
      rw [hrow] at hkn
      have hc : s 16 (5 * r + k') = enS (rowT g t) W (5 * r + k') k := h2 _ (by omega)
      have c3' : s (47 + 28 * t) 3 = nI e := by rw [h1 _ (by omega)]; exact c3
      have y1' : s (47 + 28 * t + 9) k = nI (5 * r + k') := by rw [h1 _ (by omega), bk_j g t 9 (by decide), y1, z5]
      have y6' : ∀ j, j < e → s (47 + 28 * t + 12) j = rowT g t (291 + j) := fun j hj => by
        rw [h1 _ (by omega), bk_j g t 12 (by decide)]
        exact (hE j hj).2.2.2.2.2.2.1
      have keep : (∀ c, c < 30 → enS (rowT g t) W c (k + 1) = enS (rowT g t) W c k) → (lpB : Option ((Int32 × G) ⊕ G)) → lpB = some (.inl (nI (k + 1), s)) → Ev lpB (Sum.elim (fun s' => s'.1 = nI (k + 1) ∧ (∀ a, a ≠ 16 → s'.2 a = g a) ∧ ∀ c, c < 30 → s'.2 16 c = enS (rowT g t) W c (k + 1)) (fun s' => (∀ a, a ≠ 16 → s' a = g a) ∧ ∀ c, c < 30 → s' 16 c = enS (rowT g t) W c e)) := by
        intro hq b hb
        refine Ev.of hb ⟨rfl, h1, fun c hc => ?_⟩
        show s 16 c = _
        rw [hq c hc]
        exact h2 c hc
      have put : (∀ c, c < 30 → enS (rowT g t) W c (k + 1) = if c = 5 * r + k' then nI k else enS (rowT g t) W c k) → (lpB : Option ((Int32 × G) ⊕ G)) → lpB = some (.inl (nI (k + 1), up2 s 16 (5 * r + k') (nI k))) → Ev lpB (Sum.elim (fun s' => s'.1 = nI (k + 1) ∧ (∀ a, a ≠ 16 → s'.2 a = g a) ∧ ∀ c, c < 30 → s'.2 16 c = enS (rowT g t) W c (k + 1)) (fun s' => (∀ a, a ≠ 16 → s' a = g a) ∧ ∀ c, c < 30 → s' 16 c = enS (rowT g t) W c e)) := by
        intro hq b hb
        refine Ev.of hb ⟨rfl, fun a ha => ?_, fun c hc => ?_⟩
        · show up2 s 16 (5 * r + k') (nI k) a = _
          rw [up2_ne ha]
          exact h1 a ha
        · show up2 s 16 (5 * r + k') (nI k) 16 c = _
          rw [hq c hc, up2_eq]
          by_cases hh : c = 5 * r + k'
          · rw [upd_pos hh, if_pos hh]
          · rw [upd_ne hh, if_neg hh]
            exact h2 c hc
      by_cases hn : kn (rowT g t) W k
      · rw [if_pos hn] at hkn
        have other : ∀ c, c < 30 → c ≠ 5 * r + k' → enS (rowT g t) W c (k + 1) = enS (rowT g t) W c k := fun c hc hne => by
          rw [enS, if_neg]
          rintro ⟨q, -⟩
          rw [z5] at q
          exact hne (nI_inj (by omega) (by omega) q).symm
        rcases enS_ok (rowT g t) W (5 * r + k') k with hb | ⟨j, hj, hb⟩
        · refine put (fun c hc => ?_) _ ?_
          · by_cases hh : c = 5 * r + k'
            · rw [if_pos hh, hh, enS, if_pos ⟨z5, hn⟩, hb, if_pos (show (-nI 1 : Int32) = -1 ∨ _ from Or.inl rfl)]
            · rw [if_neg hh]; exact other c hc hh
          · rw [hb] at hc
            simp (disch := omega) only [bd2_s, bd_s, wr_s, ck_s, bz_s0, bz_s1, dz_s, nI_litS, nI_add, pk_mul, pk_sub, nI_leI, nI_ltI, nI_eq, ng_lt, ng_le, lt_ng, le_ng, eq_ng, ng_eq, ng_ngE, ng_ngL, ng_ngl, sub1_lt, sub1_ng, eq_self, if_pos, if_neg, if_true, if_false, Nat.zero_add, Nat.add_zero, c3', y1', hkn, hc]
        · by_cases h5 : rowT g t (291 + j) ≤ rowT g t (291 + k)
          · refine put (fun c hc => ?_) _ ?_
            · by_cases hh : c = 5 * r + k'
              · rw [if_pos hh, hh, enS, if_pos ⟨z5, hn⟩, hb, nI_clamp (by omega), if_pos (Or.inr h5)]
              · rw [if_neg hh]; exact other c hc hh
            · rw [hb] at hc
              have h5' : ¬ rowT g t (291 + k) < rowT g t (291 + j) := Int32.not_lt.mpr h5
              have u1 := y6' k hk
              have u2 := y6' j (by omega)
              simp (disch := omega) only [bd2_s, bd_s, wr_s, ck_s, bz_s0, bz_s1, dz_s, nI_litS, nI_add, pk_mul, pk_sub, nI_leI, nI_ltI, nI_eq, ng_lt, ng_le, lt_ng, le_ng, eq_ng, ng_eq, ng_ngE, ng_ngL, ng_ngl, sub1_lt, sub1_ng, eq_self, if_pos, if_neg, if_true, if_false, Nat.zero_add, Nat.add_zero, c3', y1', hkn, hc, u1, u2, h5']
          · refine keep (fun c hc => ?_) _ ?_
            · by_cases hh : c = 5 * r + k'
              · rw [hh, enS, if_pos ⟨z5, hn⟩, hb, nI_clamp (by omega), if_neg]
                rintro (q | q)
                · exact absurd q (nI_nneg (by omega) (by decide))
                · exact h5 q
              · exact other c hc hh
            · rw [hb] at hc
              have h5' : rowT g t (291 + k) < rowT g t (291 + j) := Int32.not_le.mp h5
              have u1 := y6' k hk
              have u2 := y6' j (by omega)
              simp (disch := omega) only [bd2_s, bd_s, wr_s, ck_s, bz_s0, bz_s1, dz_s, nI_litS, nI_add, pk_mul, pk_sub, nI_leI, nI_ltI, nI_eq, ng_lt, ng_le, lt_ng, le_ng, eq_ng, ng_eq, ng_ngE, ng_ngL, ng_ngl, sub1_lt, sub1_ng, eq_self, if_pos, if_neg, if_true, if_false, Nat.zero_add, Nat.add_zero, c3', y1', hkn, hc, u1, u2, h5']
      · rw [if_neg hn] at hkn
        refine keep (fun c hc => ?_) _ ?_
        · rw [enS, if_neg (fun q => hn q.2)]
        · simp (disch := omega) only [bd2_s, bd_s, wr_s, ck_s, bz_s0, bz_s1, dz_s, nI_litS, nI_add, pk_mul, pk_sub, nI_leI, nI_ltI, nI_eq, ng_lt, ng_le, lt_ng, le_ng, eq_ng, ng_eq, ng_ngE, ng_ngL, ng_ngl, sub1_lt, sub1_ng, eq_self, if_pos, if_neg, if_true, if_false, Nat.zero_add, Nat.add_zero, c3', y1', hkn]
    · rintro ⟨x, s⟩ ⟨rfl, h1, h2⟩
      dsimp only at h1 h2
      have c3' : s (47 + 28 * t) 3 = nI e := by rw [h1 _ (by omega)]; exact c3
      exact Ev.of (a := .inr s) (by simp (disch := omega) only [bd2_s, bd_s, wr_s, ck_s, bz_s0, bz_s1, dz_s, nI_litS, nI_add, pk_mul, pk_sub, nI_leI, nI_ltI, nI_eq, ng_lt, ng_le, lt_ng, le_ng, eq_ng, ng_eq, ng_ngE, ng_ngL, ng_ngl, sub1_lt, sub1_ng, eq_self, if_pos, if_neg, if_true, if_false, Nat.zero_add, Nat.add_zero, c3']) ⟨h1, h2⟩
  · rintro s ⟨h1, h2⟩
    have y4' : ∀ j, j < e → s (47 + 28 * t + 11) j = rowT g t (231 + j) := fun j hj => by
      rw [h1 _ (by omega), bk_j g t 11 (by decide)]
      exact (hE j hj).2.2.2.2.1
    have y2' : ∀ j, j < e → s (47 + 28 * t + 10) j = rowT g t (171 + j) := fun j hj => by
      rw [h1 _ (by omega), bk_j g t 10 (by decide)]
      exact (hE j hj).2.2.1
    refine ev_bd ?_
    refine ev_lp (I := fun k s' => s'.1 = nI k ∧ (∀ a, a ≠ 17 → s'.2 a = s a) ∧ ∀ c, c < k → s'.2 17 c = ouS (rowT g t) d (enS (rowT g t) W c e)) 30 ?_ ?_ 2000 0 _ (Nat.zero_le _) (by omega) ⟨rfl, fun a ha => rfl, fun c hc => absurd hc (Nat.not_lt_zero c)⟩
    · rintro k ⟨x, s'⟩ hk ⟨rfl, i1, i2⟩
      have i1 : ∀ a, a ≠ 17 → s' a = s a := i1
      have hc : s' 16 k = enS (rowT g t) W k e := by rw [i1 16 (by decide)]; exact h2 k hk
      have put : (lpB : Option ((Int32 × G) ⊕ G)) → lpB = some (.inl (nI (k + 1), up2 s' 17 k (ouS (rowT g t) d (enS (rowT g t) W k e)))) → Ev lpB (Sum.elim (fun s'' => s''.1 = nI (k + 1) ∧ (∀ a, a ≠ 17 → s''.2 a = s a) ∧ ∀ c, c < k + 1 → s''.2 17 c = ouS (rowT g t) d (enS (rowT g t) W c e)) (fun s'' => Ev (some ((0 : Int32), s'')) (fun q => (∀ a, a ≠ 16 → a ≠ 17 → q.2 a = g a) ∧ (∀ c, c < 30 → q.2 16 c = enS (rowT g t) W c e) ∧ ∀ c, c < 30 → q.2 17 c = ouS (rowT g t) d (enS (rowT g t) W c e)))) := by
        intro b hb
        refine Ev.of hb ⟨rfl, fun a ha => ?_, fun c hc => ?_⟩
        · show up2 s' 17 k _ a = _
          rw [up2_ne ha]
          exact i1 a ha
        · show up2 s' 17 k _ 17 c = _
          rw [up2_eq]
          by_cases hh : c = k
          · rw [hh, upd_eq]
          · rw [upd_ne hh]
            exact i2 c (by omega)
      refine put _ ?_
      unfold ouS
      rcases enS_ok (rowT g t) W k e with hb | ⟨j, hj, hb⟩
      · rw [hb] at hc ⊢
        simp (disch := omega) only [bd2_s, bd_s, wr_s, ck_s, bz_s0, bz_s1, dz_s, nI_litS, nI_add, pk_mul, pk_sub, nI_leI, nI_ltI, nI_eq, ng_lt, ng_le, lt_ng, le_ng, eq_ng, ng_eq, ng_ngE, ng_ngL, ng_ngl, sub1_lt, sub1_ng, eq_self, if_pos, if_neg, if_true, if_false, Nat.zero_add, Nat.add_zero, hc]
      · rw [hb] at hc ⊢
        rw [if_neg (nI_nneg (by omega) (by decide)), nI_clamp (by omega)]
        have u1 : s' (47 + 28 * t + 11) j = rowT g t (231 + j) := by rw [i1 _ (by omega)]; exact y4' j hj
        have u2 : s' (47 + 28 * t + 10) j = rowT g t (171 + j) := by rw [i1 _ (by omega)]; exact y2' j hj
        by_cases h5 : rowT g t (231 + j) ≤ d
        · simp (disch := omega) only [bd2_s, bd_s, wr_s, ck_s, bz_s0, bz_s1, dz_s, nI_litS, nI_add, pk_mul, pk_sub, nI_leI, nI_ltI, nI_eq, ng_lt, ng_le, lt_ng, le_ng, eq_ng, ng_eq, ng_ngE, ng_ngL, ng_ngl, sub1_lt, sub1_ng, eq_self, if_pos, if_neg, if_true, if_false, Nat.zero_add, Nat.add_zero, hc, u1, u2, h5]
        · simp (disch := omega) only [bd2_s, bd_s, wr_s, ck_s, bz_s0, bz_s1, dz_s, nI_litS, nI_add, pk_mul, pk_sub, nI_leI, nI_ltI, nI_eq, ng_lt, ng_le, lt_ng, le_ng, eq_ng, ng_eq, ng_ngE, ng_ngL, ng_ngl, sub1_lt, sub1_ng, eq_self, if_pos, if_neg, if_true, if_false, Nat.zero_add, Nat.add_zero, hc, u1, u2, h5]
    · rintro ⟨x, s'⟩ ⟨rfl, i1, i2⟩
      dsimp only at i1 i2
      refine Ev.of (a := .inr s') (by simp (disch := omega) only [bd2_s, bd_s, wr_s, ck_s, bz_s0, bz_s1, dz_s, nI_litS, nI_add, pk_mul, pk_sub, nI_leI, nI_ltI, nI_eq, ng_lt, ng_le, lt_ng, le_ng, eq_ng, ng_eq, ng_ngE, ng_ngL, ng_ngl, sub1_lt, sub1_ng, eq_self, if_pos, if_neg, if_true, if_false, Nat.zero_add, Nat.add_zero]) (ev_some ⟨fun a q1 q2 => (i1 a q2).trans (h1 a q1), fun c hc => ?_, i2⟩)
      show s' 16 c = _
      rw [i1 16 (by decide)]
      exact h2 c hc
theorem sp_counts : Sp4 Inv f_X8_counts f_X9_counts := by
  refine Sp4.to (fun a1 a2 a3 a4 g hI => ?_)
  obtain ⟨np, nt, h24, h4, e1, e2, ec, em, es, hP, hT⟩ := hI.pre
  rcases i32_split a1 with ⟨t, ht, rfl⟩ | ⟨t, ht0, ht, rfl⟩
  · by_cases htn : t < nt
    · rcases i32_split a4 with ⟨w, hw, rfl⟩ | ⟨w, hw0, hw, rfl⟩
      · obtain ⟨n, dr, e, s0, hin, hsum, hrd, hen⟩ := hT t htn
        have hd6 := hrd.1
        rcases rk_cases (a2 := a2) (a3 := a3) (by omega) hrd with ⟨f, f0, f3, h8, h9⟩ | ⟨r, k, m, rfl, rfl, hr, hk, hm, h8, h9⟩
        · refine sp_met f (hI.eff _ _) ?_ ?_
          · simp (disch := omega) only [bd2_s, bd_s, wr_s, ck_s, bz_s0, bz_s1, dz_s, nI_litS, nI_add, pk_mul, pk_sub, nI_leI, nI_ltI, nI_eq, ng_lt, ng_le, lt_ng, le_ng, eq_ng, ng_eq, ng_ngE, ng_ngL, ng_ngl, sub1_lt, sub1_ng, eq_self, if_pos, if_neg, if_true, if_false, Nat.zero_add, Nat.add_zero, f_X8_isTournament, f_X5_has, e1, ec, f_X8_counts, h8]
          · have h9' := h9 (cE [] (nI f) g) cE_row
            simp (disch := omega) only [bd2_s, bd_s, wr_s, ck_s, bz_s0, bz_s1, dz_s, nI_litS, nI_add, pk_mul, pk_sub, nI_leI, nI_ltI, nI_eq, ng_lt, ng_le, lt_ng, le_ng, eq_ng, ng_eq, ng_ngE, ng_ngL, ng_ngl, sub1_lt, sub1_ng, eq_self, if_pos, if_neg, if_true, if_false, Nat.zero_add, Nat.add_zero, f_X9_isTournament, f_X9_isPlayer, f_X9_in, e2, em, f_X9_counts, h9', cE_r, m_metS]
        · have m5 := hm.2.1
          obtain ⟨⟨v, g1⟩, q1, q2, q3, q4⟩ := c_read (t := t) (d := nI 2147483647) (W := nI w) (g := g) (by omega) hd6 hen
          dsimp only at q2 q3 q4
          have hs : Scr g g1 := ⟨fun a z1 z2 z3 => q2 a (by omega) (by omega), fun k z => by rw [q2 159 (by omega) (by omega)]⟩
          have h9' := h9 g1 (hs.row t)
          have q5 := m_entryOf (t := t) (c := 5 * r + k) (W := nI w) (g := g1) (dr := dr) (e := e) (by omega) (by rw [hs.row, hs.blk (by omega)]; exact hen)
          have em' : g1 159 8 = nI nt := by rw [q2 159 (by omega) (by omega)]; exact em
          have q6 : g1 16 (5 * r + k) = enS (rowT g t) (nI w) (5 * r + k) e := q3 _ (by omega)
          rw [hs.row] at q5
          refine ⟨enS (rowT g t) (nI w) (5 * r + k) e, g1, g1, ?_, ?_, hI.scr hs⟩
          · simp (disch := omega) only [bd2_s, bd_s, wr_s, ck_s, bz_s0, bz_s1, dz_s, nI_litS, nI_add, pk_mul, pk_sub, nI_leI, nI_ltI, nI_eq, ng_lt, ng_le, lt_ng, le_ng, eq_ng, ng_eq, ng_ngE, ng_ngL, ng_ngl, sub1_lt, sub1_ng, eq_self, if_pos, if_neg, if_true, if_false, Nat.zero_add, Nat.add_zero, f_X8_isTournament, f_X5_has, e1, ec, f_X8_counts, h8, q1, q6]
          · simp (disch := omega) only [bd2_s, bd_s, wr_s, ck_s, bz_s0, bz_s1, dz_s, nI_litS, nI_add, pk_mul, pk_sub, nI_leI, nI_ltI, nI_eq, ng_lt, ng_le, lt_ng, le_ng, eq_ng, ng_eq, ng_ngE, ng_ngL, ng_ngl, sub1_lt, sub1_ng, eq_self, if_pos, if_neg, if_true, if_false, Nat.zero_add, Nat.add_zero, f_X9_isTournament, f_X9_isPlayer, f_X9_in, e2, em, f_X9_counts, h9', em', q5]
      · exact ⟨-2, g, g, by simp (disch := omega) only [bd2_s, bd_s, wr_s, ck_s, bz_s0, bz_s1, dz_s, nI_litS, nI_add, pk_mul, pk_sub, nI_leI, nI_ltI, nI_eq, ng_lt, ng_le, lt_ng, le_ng, eq_ng, ng_eq, ng_ngE, ng_ngL, ng_ngl, sub1_lt, sub1_ng, eq_self, if_pos, if_neg, if_true, if_false, Nat.zero_add, Nat.add_zero, f_X8_isTournament, f_X5_has, e1, ec, f_X8_counts], by simp (disch := omega) only [bd2_s, bd_s, wr_s, ck_s, bz_s0, bz_s1, dz_s, nI_litS, nI_add, pk_mul, pk_sub, nI_leI, nI_ltI, nI_eq, ng_lt, ng_le, lt_ng, le_ng, eq_ng, ng_eq, ng_ngE, ng_ngL, ng_ngl, sub1_lt, sub1_ng, eq_self, if_pos, if_neg, if_true, if_false, Nat.zero_add, Nat.add_zero, f_X9_isTournament, f_X9_isPlayer, f_X9_in, e2, em, f_X9_counts], hI⟩
    · exact ⟨-2, g, g, by simp (disch := omega) only [bd2_s, bd_s, wr_s, ck_s, bz_s0, bz_s1, dz_s, nI_litS, nI_add, pk_mul, pk_sub, nI_leI, nI_ltI, nI_eq, ng_lt, ng_le, lt_ng, le_ng, eq_ng, ng_eq, ng_ngE, ng_ngL, ng_ngl, sub1_lt, sub1_ng, eq_self, if_pos, if_neg, if_true, if_false, Nat.zero_add, Nat.add_zero, f_X8_isTournament, f_X5_has, e1, ec, f_X8_counts], by simp (disch := omega) only [bd2_s, bd_s, wr_s, ck_s, bz_s0, bz_s1, dz_s, nI_litS, nI_add, pk_mul, pk_sub, nI_leI, nI_ltI, nI_eq, ng_lt, ng_le, lt_ng, le_ng, eq_ng, ng_eq, ng_ngE, ng_ngL, ng_ngl, sub1_lt, sub1_ng, eq_self, if_pos, if_neg, if_true, if_false, Nat.zero_add, Nat.add_zero, f_X9_isTournament, f_X9_isPlayer, f_X9_in, e2, em, f_X9_counts], hI⟩
  · exact ⟨-2, g, g, by simp (disch := omega) only [bd2_s, bd_s, wr_s, ck_s, bz_s0, bz_s1, dz_s, nI_litS, nI_add, pk_mul, pk_sub, nI_leI, nI_ltI, nI_eq, ng_lt, ng_le, lt_ng, le_ng, eq_ng, ng_eq, ng_ngE, ng_ngL, ng_ngl, sub1_lt, sub1_ng, eq_self, if_pos, if_neg, if_true, if_false, Nat.zero_add, Nat.add_zero, f_X8_isTournament, f_X5_has, e1, ec, f_X8_counts], by simp (disch := omega) only [bd2_s, bd_s, wr_s, ck_s, bz_s0, bz_s1, dz_s, nI_litS, nI_add, pk_mul, pk_sub, nI_leI, nI_ltI, nI_eq, ng_lt, ng_le, lt_ng, le_ng, eq_ng, ng_eq, ng_ngE, ng_ngL, ng_ngl, sub1_lt, sub1_ng, eq_self, if_pos, if_neg, if_true, if_false, Nat.zero_add, Nat.add_zero, f_X9_isTournament, f_X9_isPlayer, f_X9_in, e2, em, f_X9_counts], hI⟩
