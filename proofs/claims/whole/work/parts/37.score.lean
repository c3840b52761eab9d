/-! Points: class (score) and model (pointsOf); the call points. -/
def itK {α : Type} (f : Nat → α → α) : Nat → α → α
  | 0, a => a
  | n + 1, a => f n (itK f n a)
theorem itK_none {α : Type} {f : Nat → α → α} {m : Nat} (h : ∀ k, k < m → ∀ a, f k a = a) (a : α) : itK f m a = a := by
  induction m with
  | zero => rfl
  | succ m ih => rw [itK, h m (by omega), ih (fun k hk => h k (by omega))]
theorem itK_one {α : Type} {f : Nat → α → α} {m k : Nat} (hk : k < m) (h : ∀ i, i < m → i ≠ k → ∀ a, f i a = a) (a : α) : itK f m a = f k a := by
  induction m with
  | zero => omega
  | succ m ih =>
    rw [itK]
    by_cases e : k = m
    · subst e
      rw [itK_none (fun i hi => h i (by omega) (by omega))]
    · rw [h m (by omega) (by omega), ih (by omega) (fun i hi => h i (by omega))]
theorem itK_cg {α : Type} {f f' : Nat → α → α} {m : Nat} (h : ∀ k, k < m → ∀ a, f k a = f' k a) (a : α) : itK f m a = itK f' m a := by
  induction m with
  | zero => rfl
  | succ m ih => rw [itK, itK, ih (fun k hk => h k (by omega)), h m (by omega)]
def wh (o : Int32) : Int32 := if o = 1 then 1 else if o = 2 then 2 else if o = 4 then 2 else 0
def bh (o : Int32) : Int32 := if o = 1 then 1 else if o = 0 then 2 else if o = 3 then 2 else 0
theorem c_wh {o : Int32} {g : G} : f_X6_whiteHalves o g = some (wh o, g) := by
  unfold f_X6_whiteHalves wh
  repeat' split
  all_goals rfl
theorem c_bh {o : Int32} {g : G} : f_X6_blackHalves o g = some (bh o, g) := by
  unfold f_X6_blackHalves bh
  repeat' split
  all_goals rfl
theorem m_wh {o : Int32} {g : G} : f_X9_halves o (nI 1) g = some (wh o, g) := by
  unfold f_X9_halves wh
  by_cases h1 : o = 1
  · rw [if_pos h1, if_pos h1]
  · rw [if_neg h1, if_neg h1]
    by_cases h0 : o = 0
    · subst h0; rfl
    · by_cases h3 : o = 3
      · subst h3; rfl
      · rw [if_neg h0, if_neg h3]
        by_cases h2 : o = 2
        · rw [if_pos h2, if_pos h2]; rfl
        · rw [if_neg h2, if_neg h2]
          by_cases h4 : o = 4
          · rw [if_pos h4, if_pos h4]; rfl
          · rw [if_neg h4, if_neg h4]; rfl
theorem m_bh {o : Int32} {g : G} : f_X9_halves o (nI 0) g = some (bh o, g) := by
  unfold f_X9_halves bh
  by_cases h1 : o = 1
  · rw [if_pos h1, if_pos h1]
  · rw [if_neg h1, if_neg h1]
    by_cases h0 : o = 0
    · rw [if_pos h0, if_pos h0]; rfl
    · rw [if_neg h0, if_neg h0]
      by_cases h3 : o = 3
      · rw [if_pos h3, if_pos h3]; rfl
      · rw [if_neg h3, if_neg h3]
        by_cases h2 : o = 2
        · rw [if_pos h2]; rfl
        · rw [if_neg h2]
          by_cases h4 : o = 4
          · rw [if_pos h4]; rfl
          · rw [if_neg h4]; rfl
/-- what PAIR k of ROUND r adds to the points of p -/
def ptst (R : Nat → Int32) (d : Int32) (o : Nat → Int32) (p r k : Nat) (a : Int32) : Int32 :=
  if R (80 + (5 * r + k)) = nI 99 then (if R (50 + (5 * r + k)) = nI p then (if R (26 + r) ≤ d then a + nI 2 else a) else a)
  else if R (50 + (5 * r + k)) = nI p then a + wh (o (5 * r + k)) else if R (80 + (5 * r + k)) = nI p then a + bh (o (5 * r + k)) else a
def mm (R : Nat → Int32) (r : Nat) : Nat := (R (32 + r)).toNatClampNeg
def ptS (R : Nat → Int32) (d : Int32) (o : Nat → Int32) (p dr : Nat) : Int32 := itK (fun r a => itK (fun k a => ptst R d o p r k a) (mm R r) a) dr (nI 0)
theorem T_round.mmE {F : Nat → Nat → Int32} {R : Nat → Int32} {n r m : Nat} (h : T_round F R n r m) : mm R r = m := by
  have h5 := h.2.1
  have := h.2.2.2.2.2.1
  unfold mm
  rw [this, nI_clamp (by omega)]
/-- a pair: who has white, and who black or nobody -/
theorem T_round.pk {np n r m k : Nat} {mk : Nat → Int32} {F : Nat → Nat → Int32} {R : Nat → Int32} (h : T_round F R n r m) (hin : T_in np mk F R n) (h24 : np ≤ 24) (hk : k < m) : F 7 (5 * r + k) = R (50 + (5 * r + k)) ∧ F 8 (5 * r + k) = R (80 + (5 * r + k)) ∧ ∃ w, w < np ∧ R (50 + (5 * r + k)) = nI w ∧ (R (80 + (5 * r + k)) = nI 99 ∨ ∃ b, b < np ∧ R (80 + (5 * r + k)) = nI b ∧ b ≠ w) := by
  obtain ⟨h1, h2, h3, h4, h5, h6, h7, h8, h9, h10, h11, h12, h13⟩ := h
  obtain ⟨q1, q2, ⟨i, q3, q4⟩, q5⟩ := h9 k hk
  obtain ⟨-, w, w1, w2, -⟩ := hin.2.2.2.1 i q3
  refine ⟨q1, q2, w, w1, q4.trans w2, ?_⟩
  rcases q5 with q5 | ⟨j, q5, q6⟩
  · exact Or.inl q5
  · obtain ⟨-, b, b1, b2, -⟩ := hin.2.2.2.1 j q5
    refine Or.inr ⟨b, b1, q6.trans b2, fun e => ?_⟩
    subst e
    exact h11 k k hk hk (by rw [q4, w2, q6, b2])
theorem m_pair_in {t r m k : Nat} {x : Int32} {R : Nat → Int32} {g : G} (ht : t < 4) (hr : r < 6) (hR : rowT g t = R) (hm : R (32 + r) = nI m) (h5 : m ≤ 5) (hk : k < m) (e : R (50 + (5 * r + k)) = x ∨ R (80 + (5 * r + k)) = x) (hd : ∀ i, i < k → R (50 + (5 * r + i)) ≠ x ∧ R (80 + (5 * r + i)) ≠ x) : f_X9_pairOf (nI t) (nI r) x g = some (nI (5 * r + k), g) := by
  unfold f_X9_pairOf
  refine q_bd (a := .inr (nI (5 * r + k), g)) ?_ rfl
  refine q_lp (fun i => (nI i, g)) k (fun i hi => ?_) ?_ (by omega) rfl
  · obtain ⟨h1, h2⟩ := hd i hi
    simp (disch := omega) only [bd2_s, bd_s, wr_s, ck_s, bz_s0, bz_s1, dz_s, nI_litS, nI_add, pk_mul, pk_sub, nI_leI, nI_ltI, nI_eq, ng_lt, ng_le, lt_ng, le_ng, eq_ng, ng_eq, ng_ngE, ng_ngL, ng_ngl, sub1_lt, sub1_ng, eq_self, if_pos, if_neg, if_true, if_false, Nat.zero_add, Nat.add_zero, f_X9_cell, rw_k g t, hR, hm, h1, h2]
  · by_cases e1 : R (50 + (5 * r + k)) = x
    · simp (disch := omega) only [bd2_s, bd_s, wr_s, ck_s, bz_s0, bz_s1, dz_s, nI_litS, nI_add, pk_mul, pk_sub, nI_leI, nI_ltI, nI_eq, ng_lt, ng_le, lt_ng, le_ng, eq_ng, ng_eq, ng_ngE, ng_ngL, ng_ngl, sub1_lt, sub1_ng, eq_self, if_pos, if_neg, if_true, if_false, Nat.zero_add, Nat.add_zero, f_X9_cell, rw_k g t, hR, hm, e1]
    · have e2 := e.resolve_left e1
      simp (disch := omega) only [bd2_s, bd_s, wr_s, ck_s, bz_s0, bz_s1, dz_s, nI_litS, nI_add, pk_mul, pk_sub, nI_leI, nI_ltI, nI_eq, ng_lt, ng_le, lt_ng, le_ng, eq_ng, ng_eq, ng_ngE, ng_ngL, ng_ngl, sub1_lt, sub1_ng, eq_self, if_pos, if_neg, if_true, if_false, Nat.zero_add, Nat.add_zero, f_X9_cell, rw_k g t, hR, hm, e1, e2]
theorem m_pair_out {t r m : Nat} {x : Int32} {R : Nat → Int32} {g : G} (ht : t < 4) (hr : r < 6) (hR : rowT g t = R) (hm : R (32 + r) = nI m) (h5 : m ≤ 5) (hd : ∀ i, i < m → R (50 + (5 * r + i)) ≠ x ∧ R (80 + (5 * r + i)) ≠ x) : f_X9_pairOf (nI t) (nI r) x g = some (-nI 1, g) := by
  unfold f_X9_pairOf
  refine q_bd (a := .inl g) ?_ rfl
  refine q_lp (fun i => (nI i, g)) m (fun i hi => ?_) ?_ (by omega) rfl
  · obtain ⟨h1, h2⟩ := hd i hi
    simp (disch := omega) only [bd2_s, bd_s, wr_s, ck_s, bz_s0, bz_s1, dz_s, nI_litS, nI_add, pk_mul, pk_sub, nI_leI, nI_ltI, nI_eq, ng_lt, ng_le, lt_ng, le_ng, eq_ng, ng_eq, ng_ngE, ng_ngL, ng_ngl, sub1_lt, sub1_ng, eq_self, if_pos, if_neg, if_true, if_false, Nat.zero_add, Nat.add_zero, f_X9_cell, rw_k g t, hR, hm, h1, h2]
  · simp (disch := omega) only [bd2_s, bd_s, wr_s, ck_s, bz_s0, bz_s1, dz_s, nI_litS, nI_add, pk_mul, pk_sub, nI_leI, nI_ltI, nI_eq, ng_lt, ng_le, lt_ng, le_ng, eq_ng, ng_eq, ng_ngE, ng_ngL, ng_ngl, sub1_lt, sub1_ng, eq_self, if_pos, if_neg, if_true, if_false, Nat.zero_add, Nat.add_zero, f_X9_cell, rw_k g t, hR, hm]
/-- p's pair in ROUND r, if there is one -/
theorem T_round.who {t np n r m p : Nat} {mk : Nat → Int32} {F : Nat → Nat → Int32} {R : Nat → Int32} (h : T_round F R n r m) (ht : t < 4) (hr : r < 6) (hp : p < 24) :
    ((∀ k, k < m → R (50 + (5 * r + k)) ≠ nI p ∧ R (80 + (5 * r + k)) ≠ nI p) ∧ ∀ g, rowT g t = R → f_X9_pairOf (nI t) (nI r) (nI p) g = some (-nI 1, g)) ∨
    ∃ k, k < m ∧ (R (50 + (5 * r + k)) = nI p ∨ R (80 + (5 * r + k)) = nI p) ∧ (∀ i, i < m → i ≠ k → R (50 + (5 * r + i)) ≠ nI p ∧ R (80 + (5 * r + i)) ≠ nI p) ∧ ∀ g, rowT g t = R → f_X9_pairOf (nI t) (nI r) (nI p) g = some (nI (5 * r + k), g) := by
  obtain ⟨h1, h2, h3, h4, h5, h6, h7, h8, h9, h10, h11, h12, h13⟩ := h
  by_cases hx : ∃ k, k < m ∧ (R (50 + (5 * r + k)) = nI p ∨ R (80 + (5 * r + k)) = nI p)
  · obtain ⟨k, hk, hkp⟩ := hx
    right
    have hu : ∀ i, i < m → i ≠ k → R (50 + (5 * r + i)) ≠ nI p ∧ R (80 + (5 * r + i)) ≠ nI p := by
      intro i hi hne
      constructor
      · intro q
        rcases hkp with z | z
        · exact hne (h10 i k hi hk (q.trans z.symm))
        · exact h11 i k hi hk (q.trans z.symm)
      · intro q
        rcases hkp with z | z
        · exact h11 k i hk hi (z.trans q.symm)
        · exact hne (h12 i k hi hk (q.trans z.symm) (by rw [q]; exact nI_ne (b := 99) (by omega) (by decide) (by omega)))
    exact ⟨k, hk, hkp, hu, fun g hR => m_pair_in ht hr hR h6 h2 hk hkp (fun i hi => hu i (by omega) (by omega))⟩
  · left
    have hu : ∀ k, k < m → R (50 + (5 * r + k)) ≠ nI p ∧ R (80 + (5 * r + k)) ≠ nI p := fun k hk => ⟨fun q => hx ⟨k, hk, Or.inl q⟩, fun q => hx ⟨k, hk, Or.inr q⟩⟩
    exact ⟨hu, fun g hR => m_pair_out ht hr hR h6 h2 hu⟩
theorem ptst_out {R : Nat → Int32} {d : Int32} {o : Nat → Int32} {p r k : Nat} (h : R (50 + (5 * r + k)) ≠ nI p ∧ R (80 + (5 * r + k)) ≠ nI p) (a : Int32) : ptst R d o p r k a = a := by
  unfold ptst
  rw [if_neg h.1, if_neg h.1, if_neg h.2]
  split <;> rfl
theorem i32_a0 (a : Int32) : a + nI 0 = a := Int32.add_zero a
theorem m_pointsOf {t np n dr p : Nat} {mk : Nat → Int32} {F : Nat → Nat → Int32} {R : Nat → Int32} {d W : Int32} {o : Nat → Int32} {g : G} (ht : t < 4) (hp : p < 24) (h24 : np ≤ 24) (hR : rowT g t = R) (hin : T_in np mk F R n) (hrd : T_rounds F R n dr) (ho : ∀ c, c < 30 → f_X9_outcomeOf (nI t) (nI c) d W g = some (o c, g)) : f_X9_pointsOf (nI t) (nI p) d W g = some (ptS R d o p dr, g) := by
  obtain ⟨d6, c2, m25, hr, hz⟩ := hrd
  unfold f_X9_pointsOf
  refine q_bd (a := (ptS R d o p dr, g)) ?_ rfl
  refine q_lp (fun r => (ptS R d o p r, nI r, g)) dr (fun r hrr => ?_) ?_ (by omega) rfl
  · obtain ⟨m, hm⟩ := hr r hrr
    have m5 := hm.2.1
    have hs : ptS R d o p (r + 1) = itK (fun k a => ptst R d o p r k a) m (ptS R d o p r) := by
      show itK _ (mm R r) _ = _
      rw [hm.mmE]
      rfl
    rw [hs]
    generalize ptS R d o p r = a
    rcases hm.who (np := np) (mk := mk) (p := p) ht (by omega) hp with ⟨q1, q2⟩ | ⟨k, hk, q1, q2, q3⟩
    · rw [itK_none (fun k hk a => ptst_out (q1 k hk) a)]
      have q2' := q2 g hR
      simp (disch := omega) only [bd2_s, bd_s, wr_s, ck_s, bz_s0, bz_s1, dz_s, nI_litS, nI_add, pk_mul, pk_sub, nI_leI, nI_ltI, nI_eq, ng_lt, ng_le, lt_ng, le_ng, eq_ng, ng_eq, ng_ngE, ng_ngL, ng_ngl, sub1_lt, sub1_ng, eq_self, if_pos, if_neg, if_true, if_false, Nat.zero_add, Nat.add_zero, f_X9_cell, rw_k g t, hR, m25, q2']
    · rw [itK_one hk (fun i hi hne a => ptst_out (q2 i hi hne) a)]
      have q3' := q3 g hR
      have o' := ho (5 * r + k) (by omega)
      obtain ⟨-, -, w, hw, ew, eb⟩ := hm.pk hin h24 hk
      unfold ptst
      rcases eb with eb | ⟨b, hb, eb, hne⟩
      · have hwp : w = p := by
          rcases q1 with q | q
          · exact nI_inj (by omega) (by omega) (ew.symm.trans q)
          · rw [eb] at q
            exact absurd (nI_inj (by omega) (by omega) q) (by omega)
        subst hwp
        by_cases hd : R (26 + r) ≤ d
        · have hd' : ¬ d < R (26 + r) := Int32.not_lt.mpr hd
          simp (disch := omega) only [bd2_s, bd_s, wr_s, ck_s, bz_s0, bz_s1, dz_s, nI_litS, nI_add, pk_mul, pk_sub, nI_leI, nI_ltI, nI_eq, ng_lt, ng_le, lt_ng, le_ng, eq_ng, ng_eq, ng_ngE, ng_ngL, ng_ngl, sub1_lt, sub1_ng, eq_self, if_pos, if_neg, if_true, if_false, Nat.zero_add, Nat.add_zero, f_X9_cell, f_X9_isWithNobody, rw_k g t, hR, m25, q3', ew, eb, hd, hd']
        · have hd' : d < R (26 + r) := Int32.not_le.mp hd
          simp (disch := omega) only [bd2_s, bd_s, wr_s, ck_s, bz_s0, bz_s1, dz_s, nI_litS, nI_add, pk_mul, pk_sub, nI_leI, nI_ltI, nI_eq, ng_lt, ng_le, lt_ng, le_ng, eq_ng, ng_eq, ng_ngE, ng_ngL, ng_ngl, sub1_lt, sub1_ng, eq_self, if_pos, if_neg, if_true, if_false, Nat.zero_add, Nat.add_zero, f_X9_cell, f_X9_isWithNobody, rw_k g t, hR, m25, q3', ew, eb, hd, hd', i32_a0]
      · by_cases hwp : w = p
        · subst hwp
          simp (disch := omega) only [bd2_s, bd_s, wr_s, ck_s, bz_s0, bz_s1, dz_s, nI_litS, nI_add, pk_mul, pk_sub, nI_leI, nI_ltI, nI_eq, ng_lt, ng_le, lt_ng, le_ng, eq_ng, ng_eq, ng_ngE, ng_ngL, ng_ngl, sub1_lt, sub1_ng, eq_self, if_pos, if_neg, if_true, if_false, Nat.zero_add, Nat.add_zero, f_X9_cell, f_X9_isWithNobody, rw_k g t, hR, m25, q3', ew, eb, o', m_wh]
        · have hbp : b = p := by
            rcases q1 with q | q
            · exact absurd (nI_inj (by omega) (by omega) (ew.symm.trans q)) hwp
            · exact nI_inj (by omega) (by omega) (eb.symm.trans q)
          subst hbp
          simp (disch := omega) only [bd2_s, bd_s, wr_s, ck_s, bz_s0, bz_s1, dz_s, nI_litS, nI_add, pk_mul, pk_sub, nI_leI, nI_ltI, nI_eq, ng_lt, ng_le, lt_ng, le_ng, eq_ng, ng_eq, ng_ngE, ng_ngL, ng_ngl, sub1_lt, sub1_ng, eq_self, if_pos, if_neg, if_true, if_false, Nat.zero_add, Nat.add_zero, f_X9_cell, f_X9_isWithNobody, rw_k g t, hR, m25, q3', ew, eb, o', m_bh]
  · simp (disch := omega) only [bd2_s, bd_s, wr_s, ck_s, bz_s0, bz_s1, dz_s, nI_litS, nI_add, pk_mul, pk_sub, nI_leI, nI_ltI, nI_eq, ng_lt, ng_le, lt_ng, le_ng, eq_ng, ng_eq, ng_ngE, ng_ngL, ng_ngl, sub1_lt, sub1_ng, eq_self, if_pos, if_neg, if_true, if_false, Nat.zero_add, Nat.add_zero, f_X9_cell, rw_k g t, hR, m25]
theorem c_score {t np n dr : Nat} {mk : Nat → Int32} {d : Int32} {o : Nat → Int32} {g : G} (ht : t < 4) (h24 : np ≤ 24) (hin : T_in np mk (blkT g t) (rowT g t) n) (hrd : T_rounds (blkT g t) (rowT g t) n dr) (ho : ∀ c, c < 30 → g 17 c = o c) : Ev (f_X6_score (47 + 28 * t) d g) (fun q => (∀ a, a ≠ 19 → q.2 a = g a) ∧ ∀ p, p < 24 → q.2 19 p = ptS (rowT g t) d o p dr) := by
  obtain ⟨d6, c2, m25, hr, hz⟩ := hrd
  unfold f_X6_score
  rw [j_fill (by decide)]
  refine ev_call rfl ?_
  refine ev_bd ?_
  refine ev_lp (I := fun r s => s.1 = nI r ∧ (∀ a, a ≠ 19 → s.2 a = g a) ∧ ∀ p, p < 24 → s.2 19 p = ptS (rowT g t) d o p r) dr ?_ ?_ 2000 0 _ (Nat.zero_le _) (by omega) ⟨rfl, fun a ha => fl_ne ha, fun p hp => (fl_in hp : fl g 19 24 0 19 p = 0)⟩
  · rintro r ⟨x, s⟩ hrr ⟨rfl, h1, h2⟩
    dsimp only at h1 h2
    have c2' : s (47 + 28 * t) 2 = nI dr := by rw [h1 _ (by omega)]; exact c2
    dsimp only
    refine ev_f (by rw [c2']; exact nI_ge hrr (by omega)) ?_
    obtain ⟨m, hm⟩ := hr r hrr
    have m5 := hm.2.1
    have e5 := hm.2.2.2.2.1
    have e4 := hm.2.2.1
    refine ev_bd ?_
    refine ev_lp (I := fun k s' => s'.1 = nI k ∧ (∀ a, a ≠ 19 → s'.2 a = g a) ∧ ∀ p, p < 24 → s'.2 19 p = itK (fun k a => ptst (rowT g t) d o p r k a) k (ptS (rowT g t) d o p r)) m ?_ ?_ 2000 0 _ (Nat.zero_le _) (by omega) ⟨rfl, h1, h2⟩
    · rintro k ⟨x, s'⟩ hk ⟨rfl, i1, i2⟩
      dsimp only at i1 i2
      obtain ⟨f7, f8, w, hw, ew, eb⟩ := hm.pk hin h24 hk
      have e5' : s' (47 + 28 * t + 5) r = nI m := by rw [i1 _ (by omega), bk_j g t 5 (by decide)]; exact e5
      have e4' : s' (47 + 28 * t + 4) r = rowT g t (26 + r) := by rw [i1 _ (by omega), bk_j g t 4 (by decide)]; exact e4
      have f7' : s' (47 + 28 * t + 7) (5 * r + k) = nI w := by rw [i1 _ (by omega), bk_j g t 7 (by decide), f7, ew]
      have f8' : s' (47 + 28 * t + 8) (5 * r + k) = rowT g t (80 + (5 * r + k)) := by rw [i1 _ (by omega), bk_j g t 8 (by decide), f8]
      have o' : s' 17 (5 * r + k) = o (5 * r + k) := by rw [i1 17 (by decide)]; exact ho _ (by omega)
      have put : (s2 : G) → (∀ a, a ≠ 19 → s2 a = s' a) → (∀ p, p < 24 → s2 19 p = ptst (rowT g t) d o p r k (s' 19 p)) → (b : Option ((Int32 × G) ⊕ G)) → b = some (.inl (nI (k + 1), s2)) → Ev b (Sum.elim (fun s'' => s''.1 = nI (k + 1) ∧ (∀ a, a ≠ 19 → s''.2 a = g a) ∧ ∀ p, p < 24 → s''.2 19 p = itK (fun k a => ptst (rowT g t) d o p r k a) (k + 1) (ptS (rowT g t) d o p r)) (fun s'' => Ev (some (.inl (nI r + 1, s'') : (Int32 × G) ⊕ G)) (Sum.elim (fun s => s.1 = nI (r + 1) ∧ (∀ a, a ≠ 19 → s.2 a = g a) ∧ ∀ p, p < 24 → s.2 19 p = ptS (rowT g t) d o p (r + 1)) (fun s7 => Ev (some ((0 : Int32), s7)) (fun q => (∀ a, a ≠ 19 → q.2 a = g a) ∧ ∀ p, p < 24 → q.2 19 p = ptS (rowT g t) d o p dr))))) := by
        intro s2 z1 z2 b hb
        refine Ev.of hb ⟨rfl, fun a ha => (z1 a ha).trans (i1 a ha), fun p hp => ?_⟩
        show s2 19 p = ptst _ _ _ _ _ _ (itK _ k _)
        rw [z2 p hp, i2 p hp]
      have hcomm : r * 5 + k = 5 * r + k := by omega
      rcases eb with eb | ⟨b, hb, eb, hne⟩
      · rw [eb] at f8'
        by_cases hd : rowT g t (26 + r) ≤ d
        · have hd' : ¬ d < rowT g t (26 + r) := Int32.not_lt.mpr hd
          refine put (up2 s' 19 w (s' 19 w + nI 2)) (fun a ha => up2_ne ha) (fun p hp => ?_) _ ?_
          · unfold ptst
            rw [if_pos eb, ew, up2_eq]
            by_cases hh : w = p
            · subst hh
              rw [if_pos rfl, if_pos hd, upd_eq]
            · rw [if_neg (nI_ne (by omega) (by omega) hh), upd_ne (Ne.symm hh)]
          · simp (disch := omega) only [bd2_s, bd_s, wr_s, ck_s, bz_s0, bz_s1, dz_s, nI_litS, nI_add, pk_mul, pk_sub, nI_leI, nI_ltI, nI_eq, ng_lt, ng_le, lt_ng, le_ng, eq_ng, ng_eq, ng_ngE, ng_ngL, ng_ngl, sub1_lt, sub1_ng, eq_self, if_pos, if_neg, if_true, if_false, Nat.zero_add, Nat.add_zero, e5', hcomm, f8', e4', hd', f7']
        · have hd' : d < rowT g t (26 + r) := Int32.not_le.mp hd
          refine put s' (fun a ha => rfl) (fun p hp => ?_) _ ?_
          · unfold ptst
            rw [if_pos eb, ew, if_neg hd]
            split <;> rfl
          · simp (disch := omega) only [bd2_s, bd_s, wr_s, ck_s, bz_s0, bz_s1, dz_s, nI_litS, nI_add, pk_mul, pk_sub, nI_leI, nI_ltI, nI_eq, ng_lt, ng_le, lt_ng, le_ng, eq_ng, ng_eq, ng_ngE, ng_ngL, ng_ngl, sub1_lt, sub1_ng, eq_self, if_pos, if_neg, if_true, if_false, Nat.zero_add, Nat.add_zero, e5', hcomm, f8', e4', hd', f7']
      · rw [eb] at f8'
        refine put (up2 (up2 s' 19 w (s' 19 w + wh (o (5 * r + k)))) 19 b (s' 19 b + bh (o (5 * r + k)))) (fun a ha => by rw [up2_ne ha, up2_ne ha]) (fun p hp => ?_) _ ?_
        · unfold ptst
          rw [eb, ew, if_neg (nI_ne (by omega) (by decide) (by omega)), up2_eq, up2_eq]
          by_cases hh : w = p
          · subst hh
            rw [if_pos rfl, upd_ne (Ne.symm hne), upd_eq]
          · rw [if_neg (nI_ne (by omega) (by omega) hh)]
            by_cases hh2 : b = p
            · subst hh2
              rw [if_pos rfl, upd_eq]
            · rw [if_neg (nI_ne (by omega) (by omega) hh2), upd_ne (Ne.symm hh2), upd_ne (Ne.symm hh)]
        · simp (disch := omega) only [bd2_s, bd_s, wr_s, ck_s, bz_s0, bz_s1, dz_s, nI_litS, nI_add, pk_mul, pk_sub, nI_leI, nI_ltI, nI_eq, ng_lt, ng_le, lt_ng, le_ng, eq_ng, ng_eq, ng_ngE, ng_ngL, ng_ngl, sub1_lt, sub1_ng, eq_self, if_pos, if_neg, if_true, if_false, Nat.zero_add, Nat.add_zero, e5', hcomm, f8', f7', o', c_wh, c_bh, up2_ne, up2_eq, upd_ne]
    · rintro ⟨x, s'⟩ ⟨rfl, i1, i2⟩
      dsimp only at i1 i2
      have e5' : s' (47 + 28 * t + 5) r = nI m := by rw [i1 _ (by omega), bk_j g t 5 (by decide)]; exact e5
      refine Ev.of (a := .inr s') (by simp (disch := omega) only [bd2_s, bd_s, wr_s, ck_s, bz_s0, bz_s1, dz_s, nI_litS, nI_add, pk_mul, pk_sub, nI_leI, nI_ltI, nI_eq, ng_lt, ng_le, lt_ng, le_ng, eq_ng, ng_eq, ng_ngE, ng_ngL, ng_ngl, sub1_lt, sub1_ng, eq_self, if_pos, if_neg, if_true, if_false, Nat.zero_add, Nat.add_zero, e5']) ?_
      refine ev_some ⟨nI_1 r, i1, fun p hp => ?_⟩
      show s' 19 p = itK _ (mm (rowT g t) r) _
      rw [hm.mmE]
      exact i2 p hp
  · rintro ⟨x, s⟩ ⟨rfl, h1, h2⟩
    dsimp only at h1 h2
    have c2' : s (47 + 28 * t) 2 = nI dr := by rw [h1 _ (by omega)]; exact c2
    exact Ev.of (a := .inr s) (by simp (disch := omega) only [bd2_s, bd_s, wr_s, ck_s, bz_s0, bz_s1, dz_s, nI_litS, nI_add, pk_mul, pk_sub, nI_leI, nI_ltI, nI_eq, ng_lt, ng_le, lt_ng, le_ng, eq_ng, ng_eq, ng_ngE, ng_ngL, ng_ngl, sub1_lt, sub1_ng, eq_self, if_pos, if_neg, if_true, if_false, Nat.zero_add, Nat.add_zero, c2']) (ev_some ⟨h1, h2⟩)
