/-! Ratings: gain and rate. -/
theorem nI_wrap {j : Nat} (hj : j ≤ 2 ^ 32) : -nI j = nI (2 ^ 32 - j) := by
  have h : nI j + nI (2 ^ 32 - j) = 0 := by
    rw [nI_add, show j + (2 ^ 32 - j) = 2 ^ 32 from by omega]
    rfl
  have h2 : -nI j + (nI j + nI (2 ^ 32 - j)) = -nI j + 0 := by rw [h]
  rw [← Int32.add_assoc, Int32.add_left_neg, Int32.zero_add, Int32.add_zero] at h2
  exact h2.symm
theorem nI_and1 (j : Nat) : nI j &&& nI 1 = nI (j % 2) := by
  rw [← Nat.and_one_is_mod]
  apply Int32.toBitVec_inj.mp
  show BitVec.ofNat 32 j &&& BitVec.ofNat 32 1 = BitVec.ofNat 32 (j &&& 1)
  rw [BitVec.ofNat_and]
theorem par2 (x : Int32) : (x - x / nI 2 * nI 2 = nI 0 ∧ ¬ x &&& nI 1 = nI 1) ∨ (¬ x - x / nI 2 * nI 2 = nI 0 ∧ x &&& nI 1 = nI 1) := by
  rcases i32_split x with ⟨j, hj, rfl⟩ | ⟨j, hj0, hj, rfl⟩
  · rw [pk_rem hj (by omega) (by omega), nI_and1]
    have : j % 2 = 0 ∨ j % 2 = 1 := by omega
    rcases this with h | h
    · rw [h]; left; decide
    · rw [h]; right; decide
  · have hd : -nI j / nI 2 = -nI (j / 2) := by
      apply Int32.toInt_inj.mp
      rw [Int32.toInt_div, ng_toInt hj, nI_toInt (by omega), ng_toInt (by omega)]
      have e : (-(j : Int)).tdiv ((2 : Nat) : Int) = -((j / 2 : Nat) : Int) := by
        rw [Int.neg_tdiv]
        rfl
      rw [e, Int.bmod_eq_of_le (by omega) (by omega)]
    have hm : -nI j - -nI j / nI 2 * nI 2 = -nI (j % 2) := by
      rw [hd, Int32.neg_mul, pk_mul, Int32.sub_neg, Int32.add_comm, ← Int32.sub_eq_add_neg]
      have h2 : nI (j / 2 * 2) + nI (j % 2) = nI j := by
        rw [nI_add]
        congr 1
        omega
      rw [← h2]
      rw [Int32.sub_eq_add_neg, Int32.neg_add, Int32.sub_eq_add_neg, ← Int32.add_assoc, Int32.add_right_neg, Int32.zero_add]
    rw [hm, nI_wrap (j := j) (by omega), nI_and1]
    have h : (2 ^ 32 - j) % 2 = j % 2 := by omega
    rw [h]
    have : j % 2 = 0 ∨ j % 2 = 1 := by omega
    rcases this with h | h
    · rw [h]; left; decide
    · rw [h]; right; decide
/-- a quotient and its rest, as floorDiv and floorMod give them -/
theorem fl_dm (x : Int32) (g : G) : ∃ q, f_J9_floorDiv_7cf53 x 1000 g = some (q, g) ∧ f_J9_floorMod_7cf53 x 1000 g = some (x - nI 1000 * q, g) := by
  unfold f_J9_floorDiv_7cf53 f_J9_floorMod_7cf53
  have d0 : ∀ k : Option (Int32 × G), dz 1000 k = k := fun k => dz_s (n := 1000) (by omega) (by omega)
  rw [d0, d0]
  by_cases h0 : 0 ≤ (x ^^^ 1000)
  · rw [if_pos h0, if_pos h0]
    exact ⟨x / 1000, rfl, by rw [Int32.mul_comm]; rfl⟩
  · rw [if_neg h0, if_neg h0]
    by_cases h1 : x / 1000 * 1000 = x
    · rw [if_pos h1]
      have h2 : x - x / 1000 * 1000 = 0 := by rw [h1, Int32.sub_self]
      rw [if_pos h2]
      exact ⟨x / 1000, rfl, by rw [Int32.mul_comm]; rfl⟩
    · rw [if_neg h1]
      have h2 : ¬ x - x / 1000 * 1000 = 0 := fun q => h1 (by
        have : x - x / 1000 * 1000 + x / 1000 * 1000 = 0 + x / 1000 * 1000 := by rw [q]
        rw [Int32.sub_add_cancel, Int32.zero_add] at this
        exact this.symm)
      rw [if_neg h2]
      refine ⟨x / 1000 - 1, rfl, ?_⟩
      show some (x - x / 1000 * 1000 + 1000, g) = some (x - 1000 * (x / 1000 - 1), g)
      have : x - x / 1000 * 1000 + 1000 = x - 1000 * (x / 1000 - 1) := by
        rw [Int32.mul_sub, Int32.mul_one, Int32.mul_comm 1000 (x / 1000)]
        generalize x / 1000 * 1000 = y
        rw [Int32.sub_eq_add_neg, Int32.sub_eq_add_neg, Int32.sub_eq_add_neg, Int32.neg_add, Int32.sub_eq_add_neg, Int32.neg_neg, Int32.add_assoc]
      rw [this]
theorem rd_both (x : Int32) : ∃ r, (∀ g, f_X3_roundThousandths x g = some (r, g)) ∧ ∀ g, f_X9_rounded x g = some (r, g) := by
  obtain ⟨q, q1, q2⟩ := fl_dm x g0
  have hq : ∀ g, f_J9_floorDiv_7cf53 x 1000 g = some (q, g) ∧ f_J9_floorMod_7cf53 x 1000 g = some (x - nI 1000 * q, g) := by
    intro g
    obtain ⟨q', p1, p2⟩ := fl_dm x g
    have : q' = q := by
      unfold f_J9_floorDiv_7cf53 at q1 p1
      have d0 : ∀ k : Option (Int32 × G), dz 1000 k = k := fun k => dz_s (n := 1000) (by omega) (by omega)
      rw [d0] at q1 p1
      split at q1
      · rename_i h
        rw [if_pos h] at p1
        exact (Prod.mk.inj (Option.some.inj p1)).1.symm.trans (Prod.mk.inj (Option.some.inj q1)).1
      · rename_i h
        rw [if_neg h] at p1
        split at q1
        · rename_i h2
          rw [if_pos h2] at p1
          exact (Prod.mk.inj (Option.some.inj p1)).1.symm.trans (Prod.mk.inj (Option.some.inj q1)).1
        · rename_i h2
          rw [if_neg h2] at p1
          exact (Prod.mk.inj (Option.some.inj p1)).1.symm.trans (Prod.mk.inj (Option.some.inj q1)).1
    subst this
    exact ⟨p1, p2⟩
  refine ⟨if nI 500 < x - nI 1000 * q then q + nI 1 else if x - nI 1000 * q = nI 500 then (if q &&& nI 1 = nI 1 then q + nI 1 else q) else q, fun g => ?_, fun g => ?_⟩
  · unfold f_X3_roundThousandths
    refine q_call (hq g).1 ?_
    refine q_call (hq g).2 ?_
    rcases par2 q with ⟨h1, h2⟩ | ⟨h1, h2⟩
    · refine q_bd (a := nI 0) (q_if_t h1 rfl) ?_
      by_cases h5 : nI 500 < x - nI 1000 * q
      · rw [if_pos h5]
        exact q_bd (a := .inl ()) (q_if_t h5 rfl) rfl
      · rw [if_neg h5]
        by_cases h6 : x - nI 1000 * q = nI 500
        · rw [if_pos h6, if_neg h2]
          exact q_bd (a := .inr (q, g)) (q_if_f h5 (q_if_t h6 rfl)) rfl
        · rw [if_neg h6]
          exact q_bd (a := .inr (q, g)) (q_if_f h5 (q_if_f h6 rfl)) rfl
    · refine q_bd (a := nI 1) (q_if_f h1 rfl) ?_
      by_cases h5 : nI 500 < x - nI 1000 * q
      · rw [if_pos h5]
        exact q_bd (a := .inl ()) (q_if_t h5 rfl) rfl
      · rw [if_neg h5]
        by_cases h6 : x - nI 1000 * q = nI 500
        · rw [if_pos h6, if_pos h2]
          exact q_bd (a := .inl ()) (q_if_f h5 (q_if_t h6 rfl)) rfl
        · rw [if_neg h6]
          exact q_bd (a := .inr (q, g)) (q_if_f h5 (q_if_f h6 rfl)) rfl
  · unfold f_X9_rounded
    refine q_call (hq g).1 ?_
    by_cases h5 : nI 500 < x - nI 1000 * q
    · rw [if_pos h5]
      exact q_bd (a := .inl ()) (q_if_t h5 rfl) rfl
    · rw [if_neg h5]
      by_cases h6 : x - nI 1000 * q = nI 500
      · rw [if_pos h6]
        by_cases h2 : q &&& nI 1 = nI 1
        · rw [if_pos h2]
          exact q_bd (a := .inl ()) (q_if_f h5 (q_if_t h6 (q_if_t h2 rfl))) rfl
        · rw [if_neg h2]
          exact q_bd (a := .inr (q, g)) (q_if_f h5 (q_if_t h6 (q_if_f h2 rfl))) rfl
      · rw [if_neg h6]
        exact q_bd (a := .inr (q, g)) (q_if_f h5 (q_if_f h6 rfl)) rfl
noncomputable def rdS (x : Int32) : Int32 := Classical.choose (rd_both x)
theorem c_rd (x : Int32) (g : G) : f_X3_roundThousandths x g = some (rdS x, g) := (Classical.choose_spec (rd_both x)).1 g
theorem m_rd (x : Int32) (g : G) : f_X9_rounded x g = some (rdS x, g) := (Classical.choose_spec (rd_both x)).2 g
def clS (d : Int32) : Int32 := if d ≤ 400 then (if -400 ≤ d then d else -400) else 400
noncomputable def gnS (st h d : Int32) : Int32 := rdS (st * (500 * h - (500 + 5 * clS d / 4)))
theorem c_gain {st h d : Int32} {g : G} : f_X3_gain st h d g = some (gnS st h d, g) := by
  unfold f_X3_gain
  have h1 : ∃ r1, f_J9_min_7cf53 400 d g = some (r1, g) ∧ f_J9_max_7cf53 (-400) r1 g = some (clS d, g) := by
    unfold f_J9_min_7cf53 f_J9_max_7cf53 clS
    by_cases x1 : d < 400
    · refine ⟨d, if_pos x1, ?_⟩
      rw [if_pos (Int32.le_of_lt x1)]
      by_cases x2 : -400 < d
      · rw [if_pos x2, if_pos (Int32.le_of_lt x2)]
      · rw [if_neg x2]
        by_cases x3 : -400 ≤ d
        · rw [if_pos x3]
          have : d = -400 := Int32.le_antisymm (Int32.not_lt.mp x2) x3
          rw [this]
        · rw [if_neg x3]
    · refine ⟨400, if_neg x1, ?_⟩
      rw [if_pos (by decide)]
      by_cases x2 : d ≤ 400
      · have : d = 400 := Int32.le_antisymm x2 (Int32.not_lt.mp x1)
        rw [this]
        rfl
      · rw [if_neg x2]
  obtain ⟨r1, e1, e2⟩ := h1
  refine q_call e1 ?_
  refine q_call e2 ?_
  refine q_call (c_rd _ g) ?_
  rfl
theorem m_rate {a b : Nat} {st h : Int32} {g : G} (ha : a < 24) (hb : b < 24) : f_X9_rate (nI a) (nI b) st h g = some (nI 0, up2 g 181 a (g 182 a + gnS st h (g 182 a - g 182 b))) := by
  unfold f_X9_rate
  refine q_ck a rfl ha (by decide) ?_
  refine q_ck b rfl hb (by decide) ?_
  refine q_bd (a := clS (g 182 a - g 182 b)) ?_ ?_
  · unfold clS
    by_cases x1 : g 182 a - g 182 b ≤ 400
    · rw [if_pos x1, if_pos x1]
      by_cases x2 : -400 ≤ g 182 a - g 182 b
      · rw [if_pos x2, if_pos x2]
      · rw [if_neg x2, if_neg x2]
    · rw [if_neg x1, if_neg x1]
  · refine q_ck a rfl ha (by decide) ?_
    refine q_call (m_rd _ g) ?_
    refine q_ck a rfl ha (by decide) ?_
    rfl
theorem cE_fr {s s' : G} {P : Nat → Prop} (h1 : P 1) (h2 : P 2) (h : ∀ a, P a → s a = s' a) (T : List Int32) (f : Int32) : ∀ a, P a → cE T f s a = cE T f s' a := by
  intro a ha
  by_cases a1 : a = 1
  · subst a1
    show (fun k => if k = 1 then (aps T (s 1 1, s 2)).1 else if k = 2 then (if f = 0 then s 1 2 else f) else s 1 k) = (fun k => if k = 1 then (aps T (s' 1 1, s' 2)).1 else if k = 2 then (if f = 0 then s' 1 2 else f) else s' 1 k)
    rw [h 1 h1, h 2 h2]
  · by_cases a2 : a = 2
    · subst a2
      show (aps T (s 1 1, s 2)).2 = (aps T (s' 1 1, s' 2)).2
      rw [h 1 h1, h 2 h2]
    · rw [cE_off a1 a2, cE_off a1 a2]
      exact h a ha
theorem mE_fr {s s' : G} {P : Nat → Prop} (h1 : P 159) (h2 : P 160) (h : ∀ a, P a → s a = s' a) (T : List Int32) (f : Int32) : ∀ a, P a → mE T f s a = mE T f s' a := by
  intro a ha
  by_cases a1 : a = 159
  · subst a1
    show (fun k => if k = 2 then (aps T (s 159 2, s 160)).1 else if k = 0 then (if f = 0 then s 159 0 else f) else s 159 k) = (fun k => if k = 2 then (aps T (s' 159 2, s' 160)).1 else if k = 0 then (if f = 0 then s' 159 0 else f) else s' 159 k)
    rw [h 159 h1, h 160 h2]
  · by_cases a2 : a = 160
    · subst a2
      show (aps T (s 159 2, s 160)).2 = (aps T (s' 159 2, s' 160)).2
      rw [h 159 h1, h 160 h2]
    · rw [mE_off a1 a2, mE_off a1 a2]
      exact h a ha
