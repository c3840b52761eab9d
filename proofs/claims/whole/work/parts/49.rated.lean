/-! The call rated. -/
theorem m_isT {a : Int32} {nt : Nat} {s : G} (h4 : nt ≤ 4) (em : s 159 8 = nI nt) : f_X9_isTournament a s = some (nI 0, s) ∧ (∀ t, t < nt → a ≠ nI t) ∨ ∃ t, t < nt ∧ a = nI t ∧ f_X9_isTournament a s = some (nI 1, s) := by
  rcases i32_split a with ⟨t, ht, rfl⟩ | ⟨t, ht0, ht, rfl⟩
  · by_cases h : t < nt
    · exact Or.inr ⟨t, h, rfl, by simp (disch := omega) only [bd2_s, bd_s, wr_s, ck_s, bz_s0, bz_s1, dz_s, nI_litS, nI_add, pk_mul, pk_sub, nI_leI, nI_ltI, nI_eq, ng_lt, ng_le, lt_ng, le_ng, eq_ng, ng_eq, ng_ngE, ng_ngL, ng_ngl, sub1_lt, sub1_ng, eq_self, if_pos, if_neg, if_true, if_false, Nat.zero_add, Nat.add_zero, f_X9_isTournament, f_X9_in, em]⟩
    · exact Or.inl ⟨by simp (disch := omega) only [bd2_s, bd_s, wr_s, ck_s, bz_s0, bz_s1, dz_s, nI_litS, nI_add, pk_mul, pk_sub, nI_leI, nI_ltI, nI_eq, ng_lt, ng_le, lt_ng, le_ng, eq_ng, ng_eq, ng_ngE, ng_ngL, ng_ngl, sub1_lt, sub1_ng, eq_self, if_pos, if_neg, if_true, if_false, Nat.zero_add, Nat.add_zero, f_X9_isTournament, f_X9_in, em], fun u hu q => h (by rw [nI_inj (by omega) (by omega) q]; exact hu)⟩
  · exact Or.inl ⟨by simp (disch := omega) only [bd2_s, bd_s, wr_s, ck_s, bz_s0, bz_s1, dz_s, nI_litS, nI_add, pk_mul, pk_sub, nI_leI, nI_ltI, nI_eq, ng_lt, ng_le, lt_ng, le_ng, eq_ng, ng_eq, ng_ngE, ng_ngL, ng_ngl, sub1_lt, sub1_ng, eq_self, if_pos, if_neg, if_true, if_false, Nat.zero_add, Nat.add_zero, f_X9_isTournament, f_X9_in, em], fun u hu q => by
      have := ng_eq (a := u) (b := t) (by omega) ht0 ht
      rw [q] at this
      exact this.mp rfl⟩
theorem c_isT {a : Int32} {nt : Nat} {s : G} (h4 : nt ≤ 4) (em : s 0 12 = nI nt) : f_X8_isTournament a s = some (nI 0, s) ∧ (∀ t, t < nt → a ≠ nI t) ∨ ∃ t, t < nt ∧ a = nI t ∧ f_X8_isTournament a s = some (nI 1, s) := by
  rcases i32_split a with ⟨t, ht, rfl⟩ | ⟨t, ht0, ht, rfl⟩
  · by_cases h : t < nt
    · exact Or.inr ⟨t, h, rfl, by simp (disch := omega) only [bd2_s, bd_s, wr_s, ck_s, bz_s0, bz_s1, dz_s, nI_litS, nI_add, pk_mul, pk_sub, nI_leI, nI_ltI, nI_eq, ng_lt, ng_le, lt_ng, le_ng, eq_ng, ng_eq, ng_ngE, ng_ngL, ng_ngl, sub1_lt, sub1_ng, eq_self, if_pos, if_neg, if_true, if_false, Nat.zero_add, Nat.add_zero, f_X8_isTournament, em]⟩
    · exact Or.inl ⟨by simp (disch := omega) only [bd2_s, bd_s, wr_s, ck_s, bz_s0, bz_s1, dz_s, nI_litS, nI_add, pk_mul, pk_sub, nI_leI, nI_ltI, nI_eq, ng_lt, ng_le, lt_ng, le_ng, eq_ng, ng_eq, ng_ngE, ng_ngL, ng_ngl, sub1_lt, sub1_ng, eq_self, if_pos, if_neg, if_true, if_false, Nat.zero_add, Nat.add_zero, f_X8_isTournament, em], fun u hu q => h (by rw [nI_inj (by omega) (by omega) q]; exact hu)⟩
  · exact Or.inl ⟨by simp (disch := omega) only [bd2_s, bd_s, wr_s, ck_s, bz_s0, bz_s1, dz_s, nI_litS, nI_add, pk_mul, pk_sub, nI_leI, nI_ltI, nI_eq, ng_lt, ng_le, lt_ng, le_ng, eq_ng, ng_eq, ng_ngE, ng_ngL, ng_ngl, sub1_lt, sub1_ng, eq_self, if_pos, if_neg, if_true, if_false, Nat.zero_add, Nat.add_zero, f_X8_isTournament, em], fun u hu q => by
      have := ng_eq (a := u) (b := t) (by omega) ht0 ht
      rw [q] at this
      exact this.mp rfl⟩
theorem m_isP {a : Int32} {np : Nat} {s : G} (h24 : np ≤ 24) (em : s 159 3 = nI np) : f_X9_isPlayer a s = some (nI 0, s) ∧ (∀ t, t < np → a ≠ nI t) ∨ ∃ t, t < np ∧ a = nI t ∧ f_X9_isPlayer a s = some (nI 1, s) := by
  rcases i32_split a with ⟨t, ht, rfl⟩ | ⟨t, ht0, ht, rfl⟩
  · by_cases h : t < np
    · exact Or.inr ⟨t, h, rfl, by simp (disch := omega) only [bd2_s, bd_s, wr_s, ck_s, bz_s0, bz_s1, dz_s, nI_litS, nI_add, pk_mul, pk_sub, nI_leI, nI_ltI, nI_eq, ng_lt, ng_le, lt_ng, le_ng, eq_ng, ng_eq, ng_ngE, ng_ngL, ng_ngl, sub1_lt, sub1_ng, eq_self, if_pos, if_neg, if_true, if_false, Nat.zero_add, Nat.add_zero, f_X9_isPlayer, f_X9_in, em]⟩
    · exact Or.inl ⟨by simp (disch := omega) only [bd2_s, bd_s, wr_s, ck_s, bz_s0, bz_s1, dz_s, nI_litS, nI_add, pk_mul, pk_sub, nI_leI, nI_ltI, nI_eq, ng_lt, ng_le, lt_ng, le_ng, eq_ng, ng_eq, ng_ngE, ng_ngL, ng_ngl, sub1_lt, sub1_ng, eq_self, if_pos, if_neg, if_true, if_false, Nat.zero_add, Nat.add_zero, f_X9_isPlayer, f_X9_in, em], fun u hu q => h (by rw [nI_inj (by omega) (by omega) q]; exact hu)⟩
  · exact Or.inl ⟨by simp (disch := omega) only [bd2_s, bd_s, wr_s, ck_s, bz_s0, bz_s1, dz_s, nI_litS, nI_add, pk_mul, pk_sub, nI_leI, nI_ltI, nI_eq, ng_lt, ng_le, lt_ng, le_ng, eq_ng, ng_eq, ng_ngE, ng_ngL, ng_ngl, sub1_lt, sub1_ng, eq_self, if_pos, if_neg, if_true, if_false, Nat.zero_add, Nat.add_zero, f_X9_isPlayer, f_X9_in, em], fun u hu q => by
      have := ng_eq (a := u) (b := t) (by omega) ht0 ht
      rw [q] at this
      exact this.mp rfl⟩
theorem ref_is {a1 a2 a3 a4 : Int32} {np nt : Nat} {s : G} (h4 : nt ≤ 4) (h24 : np ≤ 24) (em : s 159 8 = nI nt) (e2 : s 159 3 = nI np) (h : f_X9_refused a1 a2 a3 a4 s = some (nI 0, s)) : f_X9_isTournament a1 s = some (nI 1, s) ∧ f_X9_isPlayer a2 s = some (nI 1, s) ∧ ∃ t, t < nt ∧ a1 = nI t := by
  unfold f_X9_refused at h
  rcases m_isT (a := a1) (s := s) h4 em with ⟨q, -⟩ | ⟨t, ht, et, q⟩
  · rw [q, bd2_s, if_pos (show nI 0 = 0 from rfl)] at h
    exact absurd (Prod.mk.inj (Option.some.inj h)).1 (by decide)
  · rw [q, bd2_s, if_neg (by decide)] at h
    rcases m_isP (a := a2) (s := s) h24 e2 with ⟨q', -⟩ | ⟨u, -, -, q'⟩
    · rw [q', bd2_s, if_pos (show nI 0 = 0 from rfl)] at h
      exact absurd (Prod.mk.inj (Option.some.inj h)).1 (by decide)
    · exact ⟨q, q', t, ht, et⟩
/-- the worths become the first ratings -/
theorem m_first {g : G} {n : Nat} {who : Nat → Nat} {v : Nat → Int32} (n10 : n ≤ 10) (h30 : g 159 30 = nI n) (h175 : ∀ i, i < n → who i < 24 ∧ g 175 i = nI (who i)) (h176 : ∀ i, i < n → g 176 i = v (who i)) : Ev (lp (fun (s22 : Int32 × G) => (if (s22.2 159 30) ≤ s22.1 then some (.inr (s22.2)) else ck s22.1 10 fun j26 => ck s22.1 10 fun j27 => ck (s22.2 175 j26) 24 fun j28 => wr (up2 s22.2 181 j28 (s22.2 176 j27)) fun g29 => some (.inl ((s22.1 + (1 : Int32)), g29)) : Option ((Int32 × G) ⊕ (G)))) 2000 ((0 : Int32), g)) (fun s => (∀ a, a ≠ 181 → s a = g a) ∧ ∀ i, i < n → s 181 (who i) = v (who i)) := by
  refine ev_lp (I := fun i s => s.1 = nI i ∧ (∀ a, a ≠ 181 → s.2 a = g a) ∧ ∀ j, j < i → s.2 181 (who j) = v (who j)) n ?_ ?_ 2000 0 _ (Nat.zero_le _) (by omega) ⟨rfl, fun _ _ => rfl, fun p hp => absurd hp (Nat.not_lt_zero p)⟩
  · rintro i ⟨x, s⟩ hi ⟨rfl, h1, h2⟩
    dsimp only at h1 h2
    obtain ⟨w1, w2⟩ := h175 i hi
    have w3 := h176 i hi
    have a1 : s 159 30 = nI n := by rw [h1 159 (by omega)]; exact h30
    have a2 : s 175 i = nI (who i) := by rw [h1 175 (by omega)]; exact w2
    have a3 : s 176 i = v (who i) := by rw [h1 176 (by omega)]; exact w3
    refine Ev.of (a := .inl (nI (i + 1), up2 s 181 (who i) (v (who i)))) (by simp (disch := omega) only [bd2_s, bd_s, wr_s, ck_s, bz_s0, bz_s1, dz_s, nI_litS, nI_add, pk_mul, pk_sub, nI_leI, nI_ltI, nI_eq, ng_lt, ng_le, lt_ng, le_ng, eq_ng, ng_eq, ng_ngE, ng_ngL, ng_ngl, sub1_lt, sub1_ng, eq_self, if_pos, if_neg, if_true, if_false, Nat.zero_add, Nat.add_zero, a1, a2, a3]) ⟨rfl, fun a ha => ?_, fun j hj => ?_⟩
    · dsimp only
      rw [up2_ne ha]; exact h1 a ha
    · dsimp only
      rw [up2_eq]
      by_cases e : who j = who i
      · rw [e, upd_eq]
      · rw [upd_ne e]
        refine h2 j ?_
        by_cases q : j = i
        · subst q; exact absurd rfl e
        · omega
  · rintro ⟨x, s⟩ ⟨rfl, h1, h2⟩
    dsimp only at h1 h2
    have a1 : s 159 30 = nI n := by rw [h1 159 (by omega)]; exact h30
    exact Ev.of (a := .inr s) (by simp (disch := omega) only [bd2_s, bd_s, wr_s, ck_s, bz_s0, bz_s1, dz_s, nI_litS, nI_add, pk_mul, pk_sub, nI_leI, nI_ltI, nI_eq, ng_lt, ng_le, lt_ng, le_ng, eq_ng, ng_eq, ng_ngE, ng_ngL, ng_ngl, sub1_lt, sub1_ng, eq_self, if_pos, if_neg, if_true, if_false, Nat.zero_add, Nat.add_zero, a1]) ⟨h1, h2⟩
theorem sp_rated : Sp4 Inv f_X8_rated f_X9_rated := by
  refine Sp4.to (fun a1 a2 a3 a4 g hI => ?_)
  have hfin : Inv (up2 (up2 g 1 1 0) 159 2 0) := hI.clear
  -- is the round in its range?
  have hrng : (a3 < -1 ∨ ¬ a3 < 6) ∧ (∀ s, f_X9_in a3 (-1) 5 s = some (nI 0, s)) ∨ (¬ a3 < -1 ∧ a3 < 6 ∧ (∀ s, f_X9_in a3 (-1) 5 s = some (nI 1, s)) ∧ ∃ rr, rr ≤ 6 ∧ ∀ i, i < 100 → (a3 < nI i ↔ rr ≤ i)) := by
    rcases i32_split a3 with ⟨r, hr, rfl⟩ | ⟨r, hr0, hr, rfl⟩
    · by_cases h : r < 6
      · refine Or.inr ⟨?_, ?_, fun s => ?_, r + 1, by omega, fun i hi => ?_⟩
        · show ¬ nI r < -nI 1
          rw [lt_ng (by omega) (by omega) (by omega)]
          exact not_false
        · show nI r < nI 6
          rw [nI_ltI (by omega) (by omega)]
          exact h
        · simp (disch := omega) only [bd2_s, bd_s, wr_s, ck_s, bz_s0, bz_s1, dz_s, nI_litS, nI_add, pk_mul, pk_sub, nI_leI, nI_ltI, nI_eq, ng_lt, ng_le, lt_ng, le_ng, eq_ng, ng_eq, ng_ngE, ng_ngL, ng_ngl, sub1_lt, sub1_ng, eq_self, if_pos, if_neg, if_true, if_false, Nat.zero_add, Nat.add_zero, f_X9_in]
        · rw [nI_ltI (by omega) (by omega)]
          omega
      · refine Or.inl ⟨Or.inr ?_, fun s => ?_⟩
        · show ¬ nI r < nI 6
          rw [nI_ltI (by omega) (by omega)]
          exact h
        · simp (disch := omega) only [bd2_s, bd_s, wr_s, ck_s, bz_s0, bz_s1, dz_s, nI_litS, nI_add, pk_mul, pk_sub, nI_leI, nI_ltI, nI_eq, ng_lt, ng_le, lt_ng, le_ng, eq_ng, ng_eq, ng_ngE, ng_ngL, ng_ngl, sub1_lt, sub1_ng, eq_self, if_pos, if_neg, if_true, if_false, Nat.zero_add, Nat.add_zero, f_X9_in]
    · by_cases h : r = 1
      · subst h
        refine Or.inr ⟨?_, ?_, fun s => ?_, 0, by omega, fun i hi => ?_⟩
        · decide
        · decide
        · rfl
        · rw [ng_lt (by omega) (by omega) (by omega)]
          exact ⟨fun _ => Nat.zero_le _, fun _ => trivial⟩
      · refine Or.inl ⟨Or.inl ?_, fun s => ?_⟩
        · show -nI r < -nI 1
          rw [ng_ngL (by omega) (by omega)]
          omega
        · simp (disch := omega) only [bd2_s, bd_s, wr_s, ck_s, bz_s0, bz_s1, dz_s, nI_litS, nI_add, pk_mul, pk_sub, nI_leI, nI_ltI, nI_eq, ng_lt, ng_le, lt_ng, le_ng, eq_ng, ng_eq, ng_ngE, ng_ngL, ng_ngl, sub1_lt, sub1_ng, eq_self, if_pos, if_neg, if_true, if_false, Nat.zero_add, Nat.add_zero, f_X9_in]
  rcases hrng with ⟨hb, hn⟩ | ⟨hr1, hr2, hn, rr, r6, hA⟩
  · refine ⟨-nI 2, up2 g 1 1 0, up2 (up2 g 1 1 0) 159 2 0, ?_, ?_, hfin⟩
    · unfold f_X8_rated
      refine q_call c_log ?_
      by_cases q : a3 < -1
      · exact q_if_t q rfl
      · exact q_if_f q (q_if_f (hb.resolve_left q) rfl)
    · obtain ⟨np, nt, h24, h4, e1, e2, ec, em, es, hP, hT⟩ := hI.pre
      unfold f_X9_rated
      refine q_wr ?_
      rcases m_isT (a := a1) (s := up2 (up2 g 1 1 0) 159 2 0) h4 em with ⟨q, -⟩ | ⟨t, -, -, q⟩
      · exact q_call q (q_if_t rfl rfl)
      · refine q_call q (q_if_f (by decide) ?_)
        rcases m_isP (a := a2) (s := up2 (up2 g 1 1 0) 159 2 0) h24 e2 with ⟨q, -⟩ | ⟨t, -, -, q⟩
        · exact q_call q (q_if_t rfl rfl)
        · refine q_call q (q_if_f (by decide) ?_)
          exact q_call (hn _) (q_if_t rfl rfl)
  · have hgc : ∀ a, a ≠ 1 → a ≠ 2 → up2 g 1 1 0 a = g a := fun a q _ => up2_ne q
    rcases ask_cases hI a1 a2 2147483647 a4 with ⟨x, hx, x8, x9⟩ | ⟨np, t, p, d, W, n, dr, e, k, rfl, rfl, hd0, rfl, hp, hd, hW, hT, hk, hkp, enp, hst, x8, x9⟩
    · have y8 := x8 _ hgc
      have y9 := x9 (up2 (up2 g 1 1 0) 159 2 0) rfl rfl rfl
      refine ⟨x, up2 g 1 1 0, up2 (up2 g 1 1 0) 159 2 0, ?_, ?_, hfin⟩
      · unfold f_X8_rated
        refine q_call c_log ?_
        refine q_if_f hr1 (q_if_t hr2 ?_)
        refine q_call y8 ?_
        refine q_if_f ?_ rfl
        rcases hx with rfl | rfl <;> decide
      · obtain ⟨np, nt, h24, h4, e1, e2, ec, em, es, hP, hT⟩ := hI.pre
        unfold f_X9_refused at y9
        unfold f_X9_rated
        refine q_wr ?_
        rcases m_isT (a := a1) (s := up2 (up2 g 1 1 0) 159 2 0) h4 em with ⟨q, -⟩ | ⟨t, -, -, q⟩
        · rw [q] at y9
          exact q_call q (q_if_t rfl y9)
        · rw [q] at y9
          refine q_call q (q_if_f (by decide) ?_)
          rcases m_isP (a := a2) (s := up2 (up2 g 1 1 0) 159 2 0) h24 e2 with ⟨q, -⟩ | ⟨t, -, -, q⟩
          · rw [bd2_s, if_neg (by decide), q] at y9
            exact q_call q (q_if_t rfl y9)
          · rw [bd2_s, if_neg (by decide), q] at y9
            refine q_call q (q_if_f (by decide) ?_)
            refine q_call (hn _) (q_if_f (by decide) ?_)
            rw [bd2_s, if_neg (by decide), if_neg (by decide)] at y9
            by_cases h4 : 0 ≤ a4
            · rw [if_pos h4] at y9
              refine q_if_t h4 ?_
              revert y9
              generalize f_X9_placeOf a1 a2 (up2 (up2 g 1 1 0) 159 2 0) = z
              rcases z with _ | ⟨z1, z2⟩
              · intro y9; exact absurd y9 (fun h => by cases h)
              · intro y9
                rw [bd2_s] at y9
                by_cases hz : z1 = -1
                · rw [if_pos hz] at y9
                  exact q_call rfl (q_if_t hz y9)
                · rw [if_neg hz] at y9
                  have := (Prod.mk.inj (Option.some.inj y9)).1
                  rcases hx with rfl | rfl
                  · exact absurd this (by decide)
                  · exact absurd this (by decide)
            · rw [if_neg h4] at y9
              exact q_if_f h4 y9
    · have h24 := hT.1
      have ht := hT.2.1
      have hin := hT.2.2.1
      obtain ⟨m, m1, m2, m3⟩ := hT.wrs
      obtain ⟨rb, s, eb, hs⟩ := hT.beg hI enp m1 m2 m3
      have y8 := x8 _ hgc
      -- the model's way to its loops
      obtain ⟨np', nt, h24', h4, e1, e2, ec, em, es, hP, -⟩ := hI.pre
      have : np' = np := nI_inj (by omega) (by omega) (e2.symm.trans enp)
      subst this
      have n10 := hin.1
      have hpl : ∃ k, k < n ∧ ∀ g', rowT g' t = rowT g t → f_X9_placeOf (nI t) (nI p) g' = some (nI k, g') := by
        rcases hin.who (p := p) ht (by omega) with ⟨w1, -⟩ | ⟨k, w, hk, -, -, -, -, w2⟩
        · obtain ⟨w, hw0, hw⟩ := hst
          have := nI_inj (by omega) (by omega) (w1.symm.trans hw)
          omega
        · exact ⟨k, hk, w2⟩
      obtain ⟨kp, hkp10, hpl⟩ := hpl
      have front : ∀ (T : List Int32) (f : Int32) (s : G), Scr (cE T f (up2 g 1 1 0)) s → f_X9_isTournament (nI t) (up2 s 159 2 0) = some (nI 1, up2 s 159 2 0) ∧ f_X9_isPlayer (nI p) (up2 s 159 2 0) = some (nI 1, up2 s 159 2 0) ∧ f_X9_placeOf (nI t) (nI p) (up2 s 159 2 0) = some (nI kp, up2 s 159 2 0) := by
        intro T f s hs
        have u3 : up2 s 159 2 0 159 3 = g 159 3 := by rw [up2_eq, upd_ne (by decide), hs.m3, cE_off (by decide) (by decide), up2_ne (by decide)]
        have u8 : up2 s 159 2 0 159 8 = g 159 8 := by rw [up2_eq, upd_ne (by decide), hs.m8, cE_off (by decide) (by decide), up2_ne (by decide)]
        have u165 : up2 s 159 2 0 165 = g 165 := by rw [up2_ne (by decide), hs.m165, cE_off (by decide) (by decide), up2_ne (by decide)]
        have r := ref_is h4 h24 (u8.trans em) (u3.trans e2) (x9 _ u3 u8 u165)
        exact ⟨r.1, r.2.1, hpl _ (rowT_ne u165)⟩
      rcases hs with ⟨mn, rfl, h1, h2⟩ | ⟨mn, rfl, h1⟩
      · -- all worths are known
        have hb40 : Scr (cE (tI (woG g) (whG g t) n) 0 (up2 g 1 1 0)) s := Scr.one (b := 40) (by omega) h1
        have zs : ∀ a, a ≠ 40 → a ≠ 1 → a ≠ 2 → s a = g a := fun a q1 q2 q3 => by rw [h1 a q1, cE_off q2 q3, up2_ne q2]
        have hTs : TT s np' t n dr e := hT.cg (zs 161 (by omega) (by omega) (by omega)) (zs 165 (by omega) (by omega) (by omega)) (fun a q1 q2 => zs a (by omega) (by omega) (by omega))
        have hRs : rowT s t = rowT g t := rowT_ne (zs 165 (by omega) (by omega) (by omega))
        obtain ⟨⟨r0, g1⟩, er, y1, y2, y3⟩ := c_read (d := nI 2147483647) (W := nI W) ht hTs.2.2.2.2.1.1 hTs.2.2.2.2.2
        dsimp only at y1 y2 y3
        rw [hRs] at y3
        have z1 : ∀ a, a ≠ 40 → a ≠ 1 → a ≠ 2 → a ≠ 16 → a ≠ 17 → g1 a = g a := fun a q1 q2 q3 q4 q5 => (y1 a q4 q5).trans (zs a q1 q2 q3)
        have hT1 : TT g1 np' t n dr e := hT.cg (z1 161 (by omega) (by omega) (by omega) (by omega) (by omega)) (z1 165 (by omega) (by omega) (by omega) (by omega) (by omega)) (fun a q1 q2 => z1 a (by omega) (by omega) (by omega) (by omega) (by omega))
        have hR1 : rowT g1 t = rowT g t := rowT_ne (z1 165 (by omega) (by omega) (by omega) (by omega) (by omega))
        have hsc1 : Scr (cE (tI (woG g) (whG g t) n) 0 (up2 g 1 1 0)) g1 := hb40.trans ⟨fun a q1 q2 q3 => y1 a (by omega) (by omega), fun k _ => by rw [y1 159 (by omega) (by omega)]⟩
        have isin : ∀ q i, q < np' → i < n → rowT g t (1 + i) = nI q → ¬ blkT g t 2 q = nI 0 := by
          intro q i hq hi ei
          rcases hin.2.2.2.2.2.2.2 q (by omega) with ⟨-, z⟩ | ⟨k, hk, -, z⟩
          · exact absurd ei (z i hi)
          · rw [z]
            rcases hin.2.2.2.2.2.1 k hk with y | y
            · rw [y]; decide
            · rw [y]; decide
        have kds : ∀ q i, q < np' → i < n → rowT g t (1 + i) = nI q → (g 161 q = 0 ∨ g 161 q = 1 ∨ g 161 q = 2 ∨ g 161 q = 3) := fun q i hq hi ei => hin.kd h24 (fun p hp => (hP p hp).2.2.2) hq hi ei
        have hc := c_rounds (a3 := a3) (rr := rr) (g := g1) (o := oc (rowT g t) (nI 2147483647) (nI W) e) (kd := g 161) (v0 := fun q => (woG g q).2.1) hT1 (by
            refine ((show Lc (up2 g 1 1 0) from ⟨0, by omega, rfl⟩).cE (tr := tI (woG g) (whG g t) n) (f := 0)).fr ?_
            rw [y1 1 (by omega) (by omega), h1 1 (by omega)]) (by
            rw [hR1]
            intro q i hq hi ei
            refine ⟨?_, kds q i hq hi ei⟩
            rw [z1 4 (by omega) (by omega) (by omega) (by omega) (by omega)]
            exact (hP q hq).1) y3 (by
            rw [hR1]
            intro q i hq hi ei
            rw [y1 40 (by omega) (by omega)]
            exact h2 q (by omega) (isin q i hq hi ei)) hA r6
        rw [hR1] at hc
        obtain ⟨y, ey, hy⟩ := hc
        -- the model behind any s5 of the class's
        have mm : ∀ (T : List Int32) (f : Int32) (s5 : G), Scr (cE T f (up2 g 1 1 0)) s5 → ∃ s1 s2, Scr (up2 s5 159 2 0) s1 ∧ ((rr ≤ dr ∧ f_X9_rated (nI t) (nI p) a3 (nI W) s5 = some ((rtR (rowT g t) (oc (rowT g t) (nI 2147483647) (nI W) e) (g 161) (fun q => (woG g q).2.1, []) rr).1 p, s2) ∧ Scr (mE (tI (woG g) (whG g t) n ++ (rtR (rowT g t) (oc (rowT g t) (nI 2147483647) (nI W) e) (g 161) (fun q => (woG g q).2.1, []) rr).2) 0 s1) s2) ∨ (dr < rr ∧ f_X9_rated (nI t) (nI p) a3 (nI W) s5 = some (-nI 5, s2) ∧ Scr (mE (tI (woG g) (whG g t) n ++ (rtR (rowT g t) (oc (rowT g t) (nI 2147483647) (nI W) e) (g 161) (fun q => (woG g q).2.1, []) dr).2) (nI 1) s1) s2)) := by
          intro T f s5 hs5
          obtain ⟨fr1, fr2, fr3⟩ := front T f s5 hs5
          obtain ⟨s1, ra, s2, ee1, hg, w3, w4, ee2, yy⟩ := hT.ga hI e2 m1 m2 m3 hs5
          rcases yy with ⟨-, rfl, w5, w6⟩ | ⟨q, -⟩
          · have hwho : ∀ i, i < n → whG g t i < 24 ∧ s2 175 i = nI (whG g t i) := by
              intro i hi
              refine ⟨(wf_ok (sl1 (blkT g t)) (N := 24) (i := i) (by rw [hT.cnn]; exact hi)).1, ?_⟩
              rw [w5 175 (by omega), mE_off (by omega) (by omega)]
              exact w4 i hi
            obtain ⟨s3, e3, x1, x2⟩ := m_first (g := s2) (who := whG g t) (v := fun q => (woG g q).2.1) n10 (by rw [w5 159 (by omega), mE_f (by omega) (by omega)]; exact w3) hwho w6
            have b5 : ∀ a, ¬ (15 ≤ a ∧ a ≤ 41) → ¬ (174 ≤ a ∧ a ≤ 183) → a ≠ 159 → a ≠ 160 → a ≠ 1 → a ≠ 2 → s3 a = g a := by
              intro a q1 q2 q3 q4 q5 q6
              rw [x1 a (by omega), w5 a (by omega), mE_off q3 q4, hg.1 a q1 q2 q3, up2_ne q3, hs5.1 a q1 q2 q3, cE_off q5 q6, up2_ne q5]
            have f5 : ∀ k, ¬ (30 ≤ k ∧ k ≤ 34) → k ≠ 2 → k ≠ 0 → s3 159 k = g 159 k := by
              intro k q1 q2 q3
              rw [x1 159 (by omega), w5 159 (by omega), mE_f q2 q3, hg.2 k q1, up2_eq, upd_ne q2, hs5.2 k q1, cE_off (by omega) (by omega), up2_ne (by omega)]
            have hT3 : TT s3 np' t n dr e := hT.cg (b5 161 (by omega) (by omega) (by omega) (by omega) (by omega) (by omega)) (b5 165 (by omega) (by omega) (by omega) (by omega) (by omega) (by omega)) (fun a q1 q2 => b5 a (by omega) (by omega) (by omega) (by omega) (by omega) (by omega))
            have hR3 : rowT s3 t = rowT g t := rowT_ne (b5 165 (by omega) (by omega) (by omega) (by omega) (by omega) (by omega))
            have hL3 : Lm s3 := by
              refine ((show Lm s1 from ⟨0, by omega, by rw [hg.2 2 (by omega), up2_eq, upd_eq]; rfl⟩).mE (tr := tI (woG g) (whG g t) n) (f := 0)).fr ?_
              rw [x1 159 (by omega), w5 159 (by omega)]
            have hm := m_rounds (a3 := a3) (rr := rr) (W := W) (g := s3) (o := oc (rowT g t) (nI 2147483647) (nI W) e) (kd := g 161) (v0 := fun q => (woG g q).2.1) hT3 hL3 ((f5 25 (by omega) (by omega) (by omega)).trans hI.h25) (by
                rw [hR3]
                intro q i hq hi ei
                refine ⟨?_, kds q i hq hi ei⟩
                rw [b5 161 (by omega) (by omega) (by omega) (by omega) (by omega) (by omega)]) (by rw [hR3]; exact fun c _ => rfl) (by
                rw [hR3]
                intro q i hq hi ei
                have hsq : sl1 (blkT g t) q = true := decide_eq_true (isin q i hq hi ei)
                have hcq : cn (sl1 (blkT g t)) q < n := by
                  have := cn_lt (sl1 (blkT g t)) (show q < 24 by omega) hsq
                  rw [hT.cnn] at this
                  exact this
                have hwq : whG g t (cn (sl1 (blkT g t)) q) = q := wf_at _ (by omega) hsq
                have := x2 _ hcq
                rw [hwq] at this
                exact this) hA r6
            rw [hR3] at hm
            obtain ⟨ym, em', hym⟩ := hm
            have hs13 : Scr (mE (tI (woG g) (whG g t) n) 0 s1) s3 := (Scr.one (b := 176) (by omega) w5).trans (Scr.one (b := 181) (by omega) x1)
            have pre : ∀ (x : Int32) (sz : G), (match (generalizing := false) ym with | .inl s35 => (ck (nI p) 24 fun j93 => some (((s35 181 j93), s35))) | .inr y => some y) = some (x, sz) → f_X9_rated (nI t) (nI p) a3 (nI W) s5 = some (x, sz) := by
              intro x sz hx
              unfold f_X9_rated
              refine q_wr ?_
              refine q_call fr1 (q_if_f (by decide) ?_)
              refine q_call fr2 (q_if_f (by decide) ?_)
              refine q_call (hn _) (q_if_f (by decide) ?_)
              refine q_if_t (nI_pos' hW) ?_
              refine q_call fr3 (q_if_f (nI_nneg (by omega) (by decide)) ?_)
              refine q_call ee1 ?_
              refine q_call ee2 (q_if_f (by decide) ?_)
              refine q_bd e3 ?_
              exact q_bd em' hx
            rcases hym with ⟨h, sM, rfl, v1, v2⟩ | ⟨h, sM, rfl, v1⟩
            · refine ⟨s1, sM, hg, Or.inl ⟨h, pre _ _ ?_, ?_⟩⟩
              · show ck (nI p) 24 _ = _
                refine q_ck p rfl (by omega) (by decide) ?_
                rw [v2 p k hp hk hkp]
              · have a1 : Scr (mE (rtR (rowT g t) (oc (rowT g t) (nI 2147483647) (nI W) e) (g 161) (fun q => (woG g q).2.1, []) rr).2 0 s3) sM := ⟨fun a q1 q2 q3 => v1 a (by omega), fun k _ => by rw [v1 159 (by omega)]⟩
                have a2 := (hs13.mE (rtR (rowT g t) (oc (rowT g t) (nI 2147483647) (nI W) e) (g 161) (fun q => (woG g q).2.1, []) rr).2 0).trans a1
                rw [mE_mE, if_pos rfl] at a2
                exact a2
            · refine ⟨s1, mE [] (nI 1) sM, hg, Or.inr ⟨h, pre _ _ rfl, ?_⟩⟩
              have a1 : Scr (mE (rtR (rowT g t) (oc (rowT g t) (nI 2147483647) (nI W) e) (g 161) (fun q => (woG g q).2.1, []) dr).2 0 s3) sM := ⟨fun a q1 q2 q3 => v1 a (by omega), fun k _ => by rw [v1 159 (by omega)]⟩
              have a2 := (hs13.mE (rtR (rowT g t) (oc (rowT g t) (nI 2147483647) (nI W) e) (g 161) (fun q => (woG g q).2.1, []) dr).2 0).trans a1
              rw [mE_mE, if_pos rfl] at a2
              have a3 := a2.mE [] (nI 1)
              rw [mE_mE, if_neg (by decide), List.append_nil] at a3
              exact a3
          · omega
        have cl8 : ∀ (x : Int32) (sz : G), (match (generalizing := false) y with | .inl s19 => (ck (nI p) 24 fun j27 => some (((s19 40 j27), s19))) | .inr y => some y) = some (x, sz) → f_X8_rated (nI t) (nI p) a3 (nI W) g = some (x, sz) := by
          intro x sz hx
          unfold f_X8_rated
          refine q_call c_log ?_
          refine q_if_f hr1 (q_if_t hr2 ?_)
          refine q_call y8 (q_if_t rfl ?_)
          refine q_ck t rfl ht (by decide) ?_
          refine q_wr ?_
          refine q_call eb (q_if_f (by decide) ?_)
          refine q_call er ?_
          exact q_bd ey hx
        rcases hy with ⟨h, sF, rfl, u1, u2⟩ | ⟨h, sF, rfl, u1⟩
        · have hF : Scr (cE (tI (woG g) (whG g t) n ++ (rtR (rowT g t) (oc (rowT g t) (nI 2147483647) (nI W) e) (g 161) (fun q => (woG g q).2.1, []) rr).2) 0 (up2 g 1 1 0)) sF := by
            have a2 := (hsc1.cE (rtR (rowT g t) (oc (rowT g t) (nI 2147483647) (nI W) e) (g 161) (fun q => (woG g q).2.1, []) rr).2 0).trans (Scr.one (b := 40) (by omega) u1)
            rw [cE_cE, if_pos rfl] at a2
            exact a2
          obtain ⟨s1, s2, hg, hh⟩ := mm _ _ _ hF
          rcases hh with ⟨-, k1, k2⟩ | ⟨q, -⟩
          · refine ⟨_, sF, s2, cl8 _ _ ?_, k1, inv_cl hI hF hg k2⟩
            show ck (nI p) 24 _ = _
            refine q_ck p rfl (by omega) (by decide) ?_
            rw [u2 p k hp hk hkp]
          · omega
        · have hF : Scr (cE (tI (woG g) (whG g t) n ++ (rtR (rowT g t) (oc (rowT g t) (nI 2147483647) (nI W) e) (g 161) (fun q => (woG g q).2.1, []) dr).2) (nI 1) (up2 g 1 1 0)) (cE [] (nI 1) sF) := by
            have a2 := (hsc1.cE (rtR (rowT g t) (oc (rowT g t) (nI 2147483647) (nI W) e) (g 161) (fun q => (woG g q).2.1, []) dr).2 0).trans (Scr.one (b := 40) (by omega) u1)
            rw [cE_cE, if_pos rfl] at a2
            have a3 := a2.cE [] (nI 1)
            rw [cE_cE, if_neg (by decide), List.append_nil] at a3
            exact a3
          obtain ⟨s1, s2, hg, hh⟩ := mm _ _ _ hF
          rcases hh with ⟨q, -⟩ | ⟨-, k1, k2⟩
          · omega
          · exact ⟨-nI 5, _, s2, cl8 _ _ rfl, k1, inv_cl hI hF hg k2⟩
      · -- a finding
        have hsc := Scr.one (b := 40) (by omega) h1
        obtain ⟨fr1, fr2, fr3⟩ := front _ _ s hsc
        obtain ⟨s1, ra, s2, ee1, hg, w3, w4, ee2, yy⟩ := hT.ga hI e2 m1 m2 m3 hsc
        rcases yy with ⟨q, -⟩ | ⟨-, rfl, w5⟩
        · omega
        · refine ⟨-nI 5, s, s2, ?_, ?_, inv_cl hI hsc hg (Scr.one (b := 176) (by omega) w5)⟩
          · unfold f_X8_rated
            refine q_call c_log ?_
            refine q_if_f hr1 (q_if_t hr2 ?_)
            refine q_call y8 (q_if_t rfl ?_)
            refine q_ck t rfl ht (by decide) ?_
            refine q_wr ?_
            refine q_call eb (q_if_t rfl ?_)
            rfl
          · unfold f_X9_rated
            refine q_wr ?_
            refine q_call fr1 (q_if_f (by decide) ?_)
            refine q_call fr2 (q_if_f (by decide) ?_)
            refine q_call (hn _) (q_if_f (by decide) ?_)
            refine q_if_t (nI_pos' hW) ?_
            refine q_call fr3 (q_if_f (nI_nneg (by omega) (by decide)) ?_)
            refine q_call ee1 ?_
            refine q_call ee2 (q_if_t rfl ?_)
            rfl
