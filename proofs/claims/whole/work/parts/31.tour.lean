/-! Tournaments: frames, reading; the calls rule, pair, round, withdraw, takeBack, told. -/
theorem bk_0 (g : G) (t : Nat) : g (47 + 28 * t) = blkT g t 0 := rfl
theorem bk_j (g : G) (t : Nat) (j : Nat) (h : j < 14) : g (47 + 28 * t + j) = blkT g t j := (blkT_get h).symm
theorem rw_k (g : G) (t : Nat) (k : Nat) (h : k < 412) : g 165 (412 * t + k) = rowT g t k := (rowT_get h).symm
theorem rw_0 (g : G) (t : Nat) : g 165 (412 * t) = rowT g t 0 := rfl
theorem blkT_set0 {g : G} {t k : Nat} {v : Int32} : blkT (up2 g (47 + 28 * t) k v) t = up2 (blkT g t) 0 k v := blkT_set (j := 0) (by decide)
theorem rowT_set0 {g : G} {t : Nat} {v : Int32} : rowT (up2 g 165 (412 * t) v) t = upd (rowT g t) 0 v := rowT_set (k := 0) (by decide)
theorem T_in.cg {np n : Nat} {mk : Nat → Int32} {F F' : Nat → Nat → Int32} {R R' : Nat → Int32} (h : T_in np mk F R n) (e0 : F' 0 1 = F 0 1) (e1 : F' 1 = F 1) (e2 : F' 2 = F 2) (eR : ∀ k, k < 21 → R' k = R k) : T_in np mk F' R' n := by
  obtain ⟨h1, h2, h3, h4, h5, h6, h7, h8⟩ := h
  refine ⟨h1, e0.trans h2, (eR 0 (by decide)).trans h3, fun k hk => ?_, fun i j hi hj q => ?_, fun k hk => ?_, fun k hk hk' => ?_, fun p hp => ?_⟩
  · rw [e1, eR _ (by omega)]; exact h4 k hk
  · rw [eR _ (by omega), eR _ (by omega)] at q; exact h5 i j hi hj q
  · rw [eR _ (by omega)]; exact h6 k hk
  · rw [eR _ (by omega), eR _ (by omega)]; exact h7 k hk hk'
  · rw [e2]
    rcases h8 p hp with ⟨q1, q2⟩ | ⟨k, q1, q2, q3⟩
    · exact Or.inl ⟨q1, fun k hk => by rw [eR _ (by omega)]; exact q2 k hk⟩
    · exact Or.inr ⟨k, q1, by rw [eR _ (by omega)]; exact q2, by rw [eR _ (by omega)]; exact q3⟩
theorem T_sum.cg {F F' : Nat → Nat → Int32} {R R' : Nat → Int32} (h : T_sum F R) (e3 : F' 3 = F 3) (eR : ∀ k, 21 ≤ k → k < 25 → R' k = R k) : T_sum F' R' := by
  refine ⟨by rw [e3]; exact h.1, fun i hi => ?_⟩
  rw [e3, eR _ (by omega) (by omega)]
  exact h.2 i hi
theorem T_round.cg {F F' : Nat → Nat → Int32} {R R' : Nat → Int32} {n r m : Nat} (hn : n ≤ 10) (hr : r < 6) (h : T_round F R n r m) (e : ∀ j, 4 ≤ j → j ≤ 8 → F' j = F j) (eR : ∀ k, (k < 11 ∨ 25 ≤ k) → k < 110 → R' k = R k) : T_round F' R' n r m := by
  obtain ⟨h1, h2, h3, h4, h5, h6, h7, h8, h9, h10, h11, h12, h13⟩ := h
  refine ⟨h1, h2, ?_, ?_, ?_, ?_, ?_, ?_, fun k hk => ?_, fun k k' hk hk' q => ?_, fun k k' hk hk' => ?_, fun k k' hk hk' q => ?_, fun k hk hk' => ?_⟩
  · rw [e 4 (by decide) (by decide), eR _ (by omega) (by omega)]; exact h3
  · rw [eR _ (by omega) (by omega)]; exact h4
  · rw [e 5 (by decide) (by decide)]; exact h5
  · rw [eR _ (by omega) (by omega)]; exact h6
  · rw [e 6 (by decide) (by decide), eR _ (by omega) (by omega)]; exact h7
  · rw [eR _ (by omega) (by omega), eR _ (by omega) (by omega)]; exact h8
  · obtain ⟨q1, q2, ⟨i, q3, q4⟩, q5⟩ := h9 k hk
    rw [e 7 (by decide) (by decide), e 8 (by decide) (by decide), eR (50 + (5 * r + k)) (by omega) (by omega), eR (80 + (5 * r + k)) (by omega) (by omega)]
    refine ⟨q1, q2, ⟨i, q3, by rw [eR (1 + i) (by omega) (by omega)]; exact q4⟩, ?_⟩
    rcases q5 with q5 | ⟨i, q5, q6⟩
    · exact Or.inl q5
    · exact Or.inr ⟨i, q5, by rw [eR (1 + i) (by omega) (by omega)]; exact q6⟩
  · rw [eR _ (by omega) (by omega), eR _ (by omega) (by omega)] at q; exact h10 k k' hk hk' q
  · rw [eR _ (by omega) (by omega), eR _ (by omega) (by omega)]; exact h11 k k' hk hk'
  · rw [eR (80 + (5 * r + k)) (by omega) (by omega)]
    rw [eR _ (by omega) (by omega), eR _ (by omega) (by omega)] at q; exact h12 k k' hk hk' q
  · rw [eR _ (by omega) (by omega), eR _ (by omega) (by omega)]; exact h13 k hk hk'
theorem T_rounds.cg {F F' : Nat → Nat → Int32} {R R' : Nat → Int32} {n dr : Nat} (hn : n ≤ 10) (h : T_rounds F R n dr) (e0 : F' 0 2 = F 0 2) (e : ∀ j, 4 ≤ j → j ≤ 8 → F' j = F j) (eR : ∀ k, (k < 11 ∨ 25 ≤ k) → k < 110 → R' k = R k) : T_rounds F' R' n dr := by
  obtain ⟨h1, h2, h3, h4, h5⟩ := h
  refine ⟨h1, e0.trans h2, (eR 25 (by omega) (by omega)).trans h3, fun r hr => ?_, fun r hr hr' => ?_⟩
  · obtain ⟨m, hm⟩ := h4 r hr
    exact ⟨m, hm.cg hn (by omega) e eR⟩
  · obtain ⟨q1, q2, q3, q4, q5⟩ := h5 r hr hr'
    rw [eR _ (by omega) (by omega), eR _ (by omega) (by omega), eR _ (by omega) (by omega), eR _ (by omega) (by omega)]
    refine ⟨q1, q2, q3, q4, fun k hk => ?_⟩
    rw [eR _ (by omega) (by omega), eR _ (by omega) (by omega)]
    exact q5 k hk
theorem T_entry.cg {F F' : Nat → Nat → Int32} {R R' : Nat → Int32} {dr x : Nat} (hd : dr ≤ 6) (hx : x < 60) (h : T_entry F R dr x) (e : ∀ j, 9 ≤ j → j ≤ 13 → F' j x = F j x) (eR : ∀ k, 32 ≤ k → k < 110 → R' k = R k) (eX : ∀ k, k = 111 + x ∨ k = 171 + x ∨ k = 231 + x ∨ k = 291 + x ∨ k = 351 + x → R' k = R k) : T_entry F' R' dr x := by
  obtain ⟨⟨r, k, m, q1, q2, q3, q4, q5, q6⟩, h2, h3, h4, h5, h6, h7, h8, h9⟩ := h
  refine ⟨⟨r, k, m, q1, q2, q3, ?_, ?_, ?_⟩, ?_⟩
  · rw [eR _ (by omega) (by omega)]; exact q4
  · rw [eX _ (by omega)]; exact q5
  · rw [eR _ (by omega) (by omega)]; exact q6
  · rw [e 9 (by decide) (by decide), e 10 (by decide) (by decide), e 11 (by decide) (by decide), e 12 (by decide) (by decide), e 13 (by decide) (by decide), eX (111 + x) (by omega), eX (171 + x) (by omega), eX (231 + x) (by omega), eX (291 + x) (by omega), eX (351 + x) (by omega)]
    exact ⟨h2, h3, h4, h5, h6, h7, h8, h9⟩
theorem T_entries.cg {F F' : Nat → Nat → Int32} {R R' : Nat → Int32} {dr e : Nat} (hd : dr ≤ 6) (h : T_entries F R dr e) (e0 : F' 0 3 = F 0 3) (ee : ∀ j, 9 ≤ j → j ≤ 13 → F' j = F j) (eR : ∀ k, 32 ≤ k → k < 411 → R' k = R k) : T_entries F' R' dr e := by
  obtain ⟨h1, h2, h3, h4, h5⟩ := h
  refine ⟨h1, e0.trans h2, (eR 110 (by omega) (by omega)).trans h3, fun x hx => (h4 x hx).cg hd (by omega) (fun j q1 q2 => by rw [ee j q1 q2]) (fun k q1 q2 => eR k q1 (by omega)) (fun k q => eR k (by omega) (by omega)), fun x hx hx' => ?_⟩
  rw [eR _ (by omega) (by omega), eR _ (by omega) (by omega), eR _ (by omega) (by omega), eR _ (by omega) (by omega), eR _ (by omega) (by omega)]
  exact h5 x hx hx'
/-- what changes tournaments alone -/
theorem Inv.tset {g g' : G} (h : Inv g) (e : ∀ a, ¬ (47 ≤ a ∧ a < 159) → a ≠ 165 → g' a = g a) (htr : J_tr g') : Inv g' := by
  obtain ⟨i1, i2, i3, i4, i5, i6, i7⟩ := h
  have x : ∀ a, ¬ (47 ≤ a ∧ a < 159) → a ≠ 165 → g' a = g a := e
  refine ⟨i1.cg (by rw [x 3 (by decide) (by decide)]) (x 4 (by decide) (by decide)) (x 5 (by decide) (by decide)) (x 6 (by decide) (by decide)) (x 7 (by decide) (by decide)) (by rw [x 159 (by decide) (by decide)]) (x 161 (by decide) (by decide)) (x 162 (by decide) (by decide)) (x 163 (by decide) (by decide)) (x 164 (by decide) (by decide)),
    i2.cg (x 1 (by decide) (by decide)) (x 2 (by decide) (by decide)) (by rw [x 159 (by decide) (by decide)]) (by rw [x 159 (by decide) (by decide)]) (x 160 (by decide) (by decide)),
    i3.cg (x 42 (by decide) (by decide)) (x 43 (by decide) (by decide)) (x 44 (by decide) (by decide)) (x 171 (by decide) (by decide)) (x 172 (by decide) (by decide)) (x 173 (by decide) (by decide)),
    i4.cg (x 45 (by decide) (by decide)) (fun k _ _ => by rw [x 159 (by decide) (by decide)]),
    i5.cg (by rw [x 0 (by decide) (by decide)]) (x 46 (by decide) (by decide)) (by rw [x 159 (by decide) (by decide)]) (x 184 (by decide) (by decide)), htr, by rw [x 159 (by decide) (by decide)]; exact i7⟩
/-- one tournament alone changes -/
theorem Inv.at {g g' : G} {np nt t : Nat} (h : Inv g) (e0 : g 159 3 = nI np) (h24 : np ≤ 24) (e1 : g 0 12 = nI nt) (h4 : nt ≤ 4) (ht : t < nt) (eo : ∀ a, ¬ (47 + 28 * t ≤ a ∧ a < 61 + 28 * t) → a ≠ 165 → g' a = g a) (er : ∀ k, ¬ (412 * t ≤ k ∧ k < 412 * t + 412) → g' 165 k = g 165 k) (hn : T_t np (g 161) (blkT g' t) (rowT g' t)) : Inv g' := by
  refine h.tset (fun a q1 q2 => eo a (by omega) q2) ?_
  obtain ⟨np0, nt0, h1, h2, h3, h4', h5, h6, h7⟩ := h.2.2.2.2.2.1
  have hnp : np0 = np := nI_inj (by omega) (by omega) (h1.symm.trans e0)
  subst hnp
  have hnt : nt0 = nt := nI_inj (by omega) (by omega) (h4'.symm.trans e1)
  subst hnt
  refine ⟨np0, nt0, by rw [eo 159 (by omega) (by decide)]; exact h1, h2, h3, by rw [eo 0 (by omega) (by decide)]; exact h4', by rw [eo 159 (by omega) (by decide)]; exact h5, by rw [eo 0 (by omega) (by decide), eo 159 (by omega) (by decide)]; exact h6, fun u hu => ?_⟩
  rw [eo 161 (by omega) (by decide)]
  by_cases e : u = t
  · subst e; exact hn
  · have q1 : rowT g' u = rowT g u := by
      funext k
      unfold rowT
      by_cases hk : k < 412
      · rw [if_pos hk, if_pos hk, er _ (by omega)]
      · rw [if_neg hk, if_neg hk]
    rw [q1, blkT_ne (fun j hj => eo _ (by omega) (by omega))]
    exact h7 u hu
theorem Inv.pre {g : G} (h : Inv g) : ∃ np nt : Nat, np ≤ 24 ∧ nt ≤ 4 ∧ g 3 4 = nI np ∧ g 159 3 = nI np ∧ g 0 12 = nI nt ∧ g 159 8 = nI nt ∧ g 0 14 = g 159 10 ∧ (∀ p, p < np → g 4 p = g 161 p ∧ g 5 p = g 162 p ∧ g 6 p = g 163 p ∧ (∃ k, k ≤ 4 ∧ g 161 p = nI k)) ∧ (∀ t, t < nt → T_t np (g 161) (blkT g t) (rowT g t)) := by
  obtain ⟨np, nt, e0, h24, h4, ec, em, es, hT⟩ := h.2.2.2.2.2.1
  obtain ⟨np0, q1, q2, q3, q4⟩ := h.1
  have hnp : np0 = np := nI_inj (by omega) (by omega) (q3.symm.trans e0)
  subst hnp
  exact ⟨np0, nt, h24, h4, q2, q3, ec, em, es, fun p hp => ⟨(q4 p hp).1, (q4 p hp).2.1, (q4 p hp).2.2.1, (q4 p hp).2.2.2.1⟩, hT⟩
theorem sp_rule : Sp3 Inv f_X8_rule f_X9_rule := by
  refine Sp3.to (fun a1 a2 a3 g hI => ?_)
  obtain ⟨np, nt, h24, h4, e1, e2, ec, em, es, hP, hT⟩ := hI.pre
  rcases i32_split a1 with ⟨t, ht, rfl⟩ | ⟨t, ht0, ht, rfl⟩
  · by_cases htn : t < nt
    · rcases i32_split a2 with ⟨j, hj, rfl⟩ | ⟨j, hj0, hj, rfl⟩
      · by_cases hj1 : j = 0
        · subst hj1
          exact ⟨-2, g, g, by simp (disch := omega) only [bd2_s, bd_s, wr_s, ck_s, bz_s0, bz_s1, dz_s, nI_litS, nI_add, pk_mul, pk_sub, nI_leI, nI_ltI, nI_eq, ng_lt, ng_le, lt_ng, le_ng, eq_ng, ng_eq, ng_ngE, ng_ngL, ng_ngl, sub1_lt, sub1_ng, eq_self, if_pos, if_neg, if_true, if_false, Nat.zero_add, Nat.add_zero, f_X8_isTournament, f_X5_has, e1, ec, f_X8_rule], by simp (disch := omega) only [bd2_s, bd_s, wr_s, ck_s, bz_s0, bz_s1, dz_s, nI_litS, nI_add, pk_mul, pk_sub, nI_leI, nI_ltI, nI_eq, ng_lt, ng_le, lt_ng, le_ng, eq_ng, ng_eq, ng_ngE, ng_ngL, ng_ngl, sub1_lt, sub1_ng, eq_self, if_pos, if_neg, if_true, if_false, Nat.zero_add, Nat.add_zero, f_X9_isTournament, f_X9_isPlayer, f_X9_in, e2, em, f_X9_rule], hI⟩
        · obtain ⟨i, rfl⟩ : ∃ i, j = i + 1 := ⟨j - 1, by omega⟩
          by_cases hi : i < 4
          · rcases i32_split a3 with ⟨w, hw', rfl⟩ | ⟨w, hw0, hw, rfl⟩
            · by_cases hw : w < 6
              · obtain ⟨n, dr, e, s0, hin, hsum, hrd, hen⟩ := hT t htn
                have hs := (hsum.2 i hi).1
                refine ⟨rowT g t (21 + i), up2 g (47 + 28 * t + 3) (i + 1) (nI w), up2 (up2 g (47 + 28 * t + 3) (i + 1) (nI w)) 165 (412 * t + (21 + i)) (nI w), ?_, ?_, ?_⟩
                · simp (disch := omega) only [bd2_s, bd_s, wr_s, ck_s, bz_s0, bz_s1, dz_s, nI_litS, nI_add, pk_mul, pk_sub, nI_leI, nI_ltI, nI_eq, ng_lt, ng_le, lt_ng, le_ng, eq_ng, ng_eq, ng_ngE, ng_ngL, ng_ngl, sub1_lt, sub1_ng, eq_self, if_pos, if_neg, if_true, if_false, Nat.zero_add, Nat.add_zero, f_X8_isTournament, f_X5_has, e1, ec, f_X8_rule, bk_j g t, hs]
                · have e1 : 21 + (i + 1) - 1 = 21 + i := by omega
                  simp (disch := omega) only [bd2_s, bd_s, wr_s, ck_s, bz_s0, bz_s1, dz_s, nI_litS, nI_add, pk_mul, pk_sub, nI_leI, nI_ltI, nI_eq, ng_lt, ng_le, lt_ng, le_ng, eq_ng, ng_eq, ng_ngE, ng_ngL, ng_ngl, sub1_lt, sub1_ng, eq_self, if_pos, if_neg, if_true, if_false, Nat.zero_add, Nat.add_zero, f_X9_isTournament, f_X9_isPlayer, f_X9_in, e2, em, f_X9_rule, f_X9_cell, f_X9_lay, up2_ne, e1, rw_k g t]
                · refine hI.at e2 h24 ec h4 htn (fun a q1 q2 => by rw [up2_ne q2, up2_ne (by omega)]) (fun k q => by rw [up2_eq, upd_ne (by omega), up2_ne (by omega)]) ?_
                  simp (disch := omega) only [rowT_set, rowT_up, blkT_off, blkT_set]
                  refine ⟨n, dr, e, ?_, hin.cg ?_ ?_ ?_ ?_, ⟨?_, fun q hq => ?_⟩, hrd.cg hin.1 ?_ ?_ ?_, hen.cg hrd.1 ?_ ?_ ?_⟩
                  · rw [upd_ne (by omega)]; exact s0
                  · first | rfl | (intros; exact up2_ne (by omega)) | (intros; exact upd_ne (by omega))
                  · first | rfl | (intros; exact up2_ne (by omega)) | (intros; exact upd_ne (by omega))
                  · first | rfl | (intros; exact up2_ne (by omega)) | (intros; exact upd_ne (by omega))
                  · first | rfl | (intros; exact up2_ne (by omega)) | (intros; exact upd_ne (by omega))
                  · simp (disch := omega) only [up2_eq, upd_ne]
                    exact hsum.1
                  · rw [up2_eq]
                    by_cases h : q = i
                    · subst h
                      rw [upd_eq, upd_eq]
                      exact ⟨rfl, w, by omega, rfl⟩
                    · rw [upd_ne (by omega), upd_ne (by omega)]
                      exact hsum.2 q hq
                  all_goals first | rfl | (intros; exact up2_ne (by omega)) | (intros; exact upd_ne (by omega))
              · exact ⟨-2, g, g, by simp (disch := omega) only [bd2_s, bd_s, wr_s, ck_s, bz_s0, bz_s1, dz_s, nI_litS, nI_add, pk_mul, pk_sub, nI_leI, nI_ltI, nI_eq, ng_lt, ng_le, lt_ng, le_ng, eq_ng, ng_eq, ng_ngE, ng_ngL, ng_ngl, sub1_lt, sub1_ng, eq_self, if_pos, if_neg, if_true, if_false, Nat.zero_add, Nat.add_zero, f_X8_isTournament, f_X5_has, e1, ec, f_X8_rule], by simp (disch := omega) only [bd2_s, bd_s, wr_s, ck_s, bz_s0, bz_s1, dz_s, nI_litS, nI_add, pk_mul, pk_sub, nI_leI, nI_ltI, nI_eq, ng_lt, ng_le, lt_ng, le_ng, eq_ng, ng_eq, ng_ngE, ng_ngL, ng_ngl, sub1_lt, sub1_ng, eq_self, if_pos, if_neg, if_true, if_false, Nat.zero_add, Nat.add_zero, f_X9_isTournament, f_X9_isPlayer, f_X9_in, e2, em, f_X9_rule], hI⟩
            · exact ⟨-2, g, g, by simp (disch := omega) only [bd2_s, bd_s, wr_s, ck_s, bz_s0, bz_s1, dz_s, nI_litS, nI_add, pk_mul, pk_sub, nI_leI, nI_ltI, nI_eq, ng_lt, ng_le, lt_ng, le_ng, eq_ng, ng_eq, ng_ngE, ng_ngL, ng_ngl, sub1_lt, sub1_ng, eq_self, if_pos, if_neg, if_true, if_false, Nat.zero_add, Nat.add_zero, f_X8_isTournament, f_X5_has, e1, ec, f_X8_rule], by simp (disch := omega) only [bd2_s, bd_s, wr_s, ck_s, bz_s0, bz_s1, dz_s, nI_litS, nI_add, pk_mul, pk_sub, nI_leI, nI_ltI, nI_eq, ng_lt, ng_le, lt_ng, le_ng, eq_ng, ng_eq, ng_ngE, ng_ngL, ng_ngl, sub1_lt, sub1_ng, eq_self, if_pos, if_neg, if_true, if_false, Nat.zero_add, Nat.add_zero, f_X9_isTournament, f_X9_isPlayer, f_X9_in, e2, em, f_X9_rule], hI⟩
          · exact ⟨-2, g, g, by simp (disch := omega) only [bd2_s, bd_s, wr_s, ck_s, bz_s0, bz_s1, dz_s, nI_litS, nI_add, pk_mul, pk_sub, nI_leI, nI_ltI, nI_eq, ng_lt, ng_le, lt_ng, le_ng, eq_ng, ng_eq, ng_ngE, ng_ngL, ng_ngl, sub1_lt, sub1_ng, eq_self, if_pos, if_neg, if_true, if_false, Nat.zero_add, Nat.add_zero, f_X8_isTournament, f_X5_has, e1, ec, f_X8_rule], by simp (disch := omega) only [bd2_s, bd_s, wr_s, ck_s, bz_s0, bz_s1, dz_s, nI_litS, nI_add, pk_mul, pk_sub, nI_leI, nI_ltI, nI_eq, ng_lt, ng_le, lt_ng, le_ng, eq_ng, ng_eq, ng_ngE, ng_ngL, ng_ngl, sub1_lt, sub1_ng, eq_self, if_pos, if_neg, if_true, if_false, Nat.zero_add, Nat.add_zero, f_X9_isTournament, f_X9_isPlayer, f_X9_in, e2, em, f_X9_rule], hI⟩
      · exact ⟨-2, g, g, by simp (disch := omega) only [bd2_s, bd_s, wr_s, ck_s, bz_s0, bz_s1, dz_s, nI_litS, nI_add, pk_mul, pk_sub, nI_leI, nI_ltI, nI_eq, ng_lt, ng_le, lt_ng, le_ng, eq_ng, ng_eq, ng_ngE, ng_ngL, ng_ngl, sub1_lt, sub1_ng, eq_self, if_pos, if_neg, if_true, if_false, Nat.zero_add, Nat.add_zero, f_X8_isTournament, f_X5_has, e1, ec, f_X8_rule], by simp (disch := omega) only [bd2_s, bd_s, wr_s, ck_s, bz_s0, bz_s1, dz_s, nI_litS, nI_add, pk_mul, pk_sub, nI_leI, nI_ltI, nI_eq, ng_lt, ng_le, lt_ng, le_ng, eq_ng, ng_eq, ng_ngE, ng_ngL, ng_ngl, sub1_lt, sub1_ng, eq_self, if_pos, if_neg, if_true, if_false, Nat.zero_add, Nat.add_zero, f_X9_isTournament, f_X9_isPlayer, f_X9_in, e2, em, f_X9_rule], hI⟩
    · exact ⟨-2, g, g, by simp (disch := omega) only [bd2_s, bd_s, wr_s, ck_s, bz_s0, bz_s1, dz_s, nI_litS, nI_add, pk_mul, pk_sub, nI_leI, nI_ltI, nI_eq, ng_lt, ng_le, lt_ng, le_ng, eq_ng, ng_eq, ng_ngE, ng_ngL, ng_ngl, sub1_lt, sub1_ng, eq_self, if_pos, if_neg, if_true, if_false, Nat.zero_add, Nat.add_zero, f_X8_isTournament, f_X5_has, e1, ec, f_X8_rule], by simp (disch := omega) only [bd2_s, bd_s, wr_s, ck_s, bz_s0, bz_s1, dz_s, nI_litS, nI_add, pk_mul, pk_sub, nI_leI, nI_ltI, nI_eq, ng_lt, ng_le, lt_ng, le_ng, eq_ng, ng_eq, ng_ngE, ng_ngL, ng_ngl, sub1_lt, sub1_ng, eq_self, if_pos, if_neg, if_true, if_false, Nat.zero_add, Nat.add_zero, f_X9_isTournament, f_X9_isPlayer, f_X9_in, e2, em, f_X9_rule], hI⟩
  · exact ⟨-2, g, g, by simp (disch := omega) only [bd2_s, bd_s, wr_s, ck_s, bz_s0, bz_s1, dz_s, nI_litS, nI_add, pk_mul, pk_sub, nI_leI, nI_ltI, nI_eq, ng_lt, ng_le, lt_ng, le_ng, eq_ng, ng_eq, ng_ngE, ng_ngL, ng_ngl, sub1_lt, sub1_ng, eq_self, if_pos, if_neg, if_true, if_false, Nat.zero_add, Nat.add_zero, f_X8_isTournament, f_X5_has, e1, ec, f_X8_rule], by simp (disch := omega) only [bd2_s, bd_s, wr_s, ck_s, bz_s0, bz_s1, dz_s, nI_litS, nI_add, pk_mul, pk_sub, nI_leI, nI_ltI, nI_eq, ng_lt, ng_le, lt_ng, le_ng, eq_ng, ng_eq, ng_ngE, ng_ngL, ng_ngl, sub1_lt, sub1_ng, eq_self, if_pos, if_neg, if_true, if_false, Nat.zero_add, Nat.add_zero, f_X9_isTournament, f_X9_isPlayer, f_X9_in, e2, em, f_X9_rule], hI⟩
