/-! The calls withdraw, takeBack, pair, round, told. -/
theorem q_lp {σ ρ : Type} {body : σ → Option (σ ⊕ ρ)} {r : ρ} (st : Nat → σ) (n : Nat) (hb : ∀ k, k < n → body (st k) = some (.inl (st (k + 1)))) (he : body (st n) = some (.inr r)) {fuel : Nat} (hf : n < fuel) {s : σ} (hs : s = st 0) : lp body fuel s = some r := by
  subst hs
  have h := ev_lp (body := body) (Q := fun q => q = r) (I := fun k s => s = st k) n (fun k s hk e => by subst e; exact ⟨_, hb k hk, rfl⟩) (fun s e => by subst e; exact ⟨_, he, rfl⟩) fuel 0 (st 0) (Nat.zero_le _) (by omega) rfl
  obtain ⟨q, h1, h2⟩ := h
  rw [h1, h2]
theorem m_place_in {t n k : Nat} {x : Int32} {g : G} (ht : t < 4) (hR : rowT g t 0 = nI n) (hn : n ≤ 10) (hk : k < n) (e : rowT g t (1 + k) = x) (hd : ∀ i, i < k → rowT g t (1 + i) ≠ x) : f_X9_placeOf (nI t) x g = some (nI k, g) := by
  unfold f_X9_placeOf
  refine q_bd (a := .inr (nI k, g)) ?_ rfl
  refine q_lp (fun i => (nI i, g)) k (fun i hi => ?_) ?_ (by omega) rfl
  · have h1 := hd i hi
    simp (disch := omega) only [bd2_s, bd_s, wr_s, ck_s, bz_s0, bz_s1, dz_s, nI_litS, nI_add, pk_mul, pk_sub, nI_leI, nI_ltI, nI_eq, ng_lt, ng_le, lt_ng, le_ng, eq_ng, ng_eq, ng_ngE, ng_ngL, ng_ngl, sub1_lt, sub1_ng, eq_self, if_pos, if_neg, if_true, if_false, Nat.zero_add, Nat.add_zero, f_X9_cell, rw_k g t, rw_0 g t, hR, h1]
  · simp (disch := omega) only [bd2_s, bd_s, wr_s, ck_s, bz_s0, bz_s1, dz_s, nI_litS, nI_add, pk_mul, pk_sub, nI_leI, nI_ltI, nI_eq, ng_lt, ng_le, lt_ng, le_ng, eq_ng, ng_eq, ng_ngE, ng_ngL, ng_ngl, sub1_lt, sub1_ng, eq_self, if_pos, if_neg, if_true, if_false, Nat.zero_add, Nat.add_zero, f_X9_cell, rw_k g t, rw_0 g t, hR, e]
theorem m_place_out {t n : Nat} {x : Int32} {g : G} (ht : t < 4) (hR : rowT g t 0 = nI n) (hn : n ≤ 10) (hd : ∀ i, i < n → rowT g t (1 + i) ≠ x) : f_X9_placeOf (nI t) x g = some (-nI 1, g) := by
  unfold f_X9_placeOf
  refine q_bd (a := .inl g) ?_ rfl
  refine q_lp (fun i => (nI i, g)) n (fun i hi => ?_) ?_ (by omega) rfl
  · have h1 := hd i hi
    simp (disch := omega) only [bd2_s, bd_s, wr_s, ck_s, bz_s0, bz_s1, dz_s, nI_litS, nI_add, pk_mul, pk_sub, nI_leI, nI_ltI, nI_eq, ng_lt, ng_le, lt_ng, le_ng, eq_ng, ng_eq, ng_ngE, ng_ngL, ng_ngl, sub1_lt, sub1_ng, eq_self, if_pos, if_neg, if_true, if_false, Nat.zero_add, Nat.add_zero, f_X9_cell, rw_k g t, rw_0 g t, hR, h1]
  · simp (disch := omega) only [bd2_s, bd_s, wr_s, ck_s, bz_s0, bz_s1, dz_s, nI_litS, nI_add, pk_mul, pk_sub, nI_leI, nI_ltI, nI_eq, ng_lt, ng_le, lt_ng, le_ng, eq_ng, ng_eq, ng_ngE, ng_ngL, ng_ngl, sub1_lt, sub1_ng, eq_self, if_pos, if_neg, if_true, if_false, Nat.zero_add, Nat.add_zero, f_X9_cell, rw_k g t, rw_0 g t, hR]
/-- who is in, and how: in no place, or in place k -/
theorem T_in.who {np n p t : Nat} {mk : Nat → Int32} {g : G} (h : T_in np mk (blkT g t) (rowT g t) n) (ht : t < 4) (hp : p < 24) : (blkT g t 2 p = nI 0 ∧ ∀ g', rowT g' t = rowT g t → f_X9_placeOf (nI t) (nI p) g' = some (-nI 1, g')) ∨ ∃ k w, k < n ∧ (w = 0 ∨ w = 1) ∧ rowT g t (1 + k) = nI p ∧ rowT g t (11 + k) = nI w ∧ blkT g t 2 p = nI (w + 1) ∧ ∀ g', rowT g' t = rowT g t → f_X9_placeOf (nI t) (nI p) g' = some (nI k, g') := by
  obtain ⟨h1, h2, h3, h4, h5, h6, h7, h8⟩ := h
  rcases h8 p hp with ⟨q1, q2⟩ | ⟨k, q1, q2, q3⟩
  · exact Or.inl ⟨q1, fun g' e => m_place_out ht (by rw [e]; exact h3) h1 (by rw [e]; exact q2)⟩
  · right
    have hm : ∀ g', rowT g' t = rowT g t → f_X9_placeOf (nI t) (nI p) g' = some (nI k, g') := fun g' e => m_place_in ht (by rw [e]; exact h3) h1 q1 (by rw [e]; exact q2) (fun i hi q => by
      rw [e] at q
      have := h5 i k (by omega) q1 (q.trans q2.symm)
      omega)
    rcases h6 k q1 with e | e
    · exact ⟨k, 0, q1, Or.inl rfl, q2, e, by rw [q3, e]; rfl, hm⟩
    · exact ⟨k, 1, q1, Or.inr rfl, q2, e, by rw [q3, e]; rfl, hm⟩
theorem sp_withdraw : Sp2 Inv f_X8_withdraw f_X9_withdraw := by
  refine Sp2.to (fun a1 a2 g hI => ?_)
  obtain ⟨np, nt, h24, h4, e1, e2, ec, em, es, hP, hT⟩ := hI.pre
  rcases i32_split a1 with ⟨t, ht, rfl⟩ | ⟨t, ht0, ht, rfl⟩
  · by_cases htn : t < nt
    · rcases i32_split a2 with ⟨p, hp, rfl⟩ | ⟨p, hp0, hp, rfl⟩
      · by_cases hpn : p < np
        · obtain ⟨n, dr, e, s0, hin, hsum, hrd, hen⟩ := hT t htn
          have h10 := hin.1
          rcases hin.who (p := p) (by omega) (by omega) with ⟨q1, q2⟩ | ⟨k, w, hk, hw, q1, q2, q3, q4⟩
          · have q2' := q2 g rfl
            exact ⟨-3, g, g, by simp (disch := omega) only [bd2_s, bd_s, wr_s, ck_s, bz_s0, bz_s1, dz_s, nI_litS, nI_add, pk_mul, pk_sub, nI_leI, nI_ltI, nI_eq, ng_lt, ng_le, lt_ng, le_ng, eq_ng, ng_eq, ng_ngE, ng_ngL, ng_ngl, sub1_lt, sub1_ng, eq_self, if_pos, if_neg, if_true, if_false, Nat.zero_add, Nat.add_zero, f_X8_isTournament, f_X5_has, e1, ec, f_X8_withdraw, bk_j g t, q1, q2'], by simp (disch := omega) only [bd2_s, bd_s, wr_s, ck_s, bz_s0, bz_s1, dz_s, nI_litS, nI_add, pk_mul, pk_sub, nI_leI, nI_ltI, nI_eq, ng_lt, ng_le, lt_ng, le_ng, eq_ng, ng_eq, ng_ngE, ng_ngL, ng_ngl, sub1_lt, sub1_ng, eq_self, if_pos, if_neg, if_true, if_false, Nat.zero_add, Nat.add_zero, f_X9_isTournament, f_X9_isPlayer, f_X9_in, e2, em, f_X9_withdraw, bk_j g t, q1, q2'], hI⟩
          · have q4' := q4 g rfl
            rcases hw with rfl | rfl
            · refine ⟨1, up2 g (47 + 28 * t + 2) p 2, up2 (up2 g (47 + 28 * t + 2) p 2) 165 (412 * t + (11 + k)) 1, ?_, ?_, ?_⟩
              · simp (disch := omega) only [bd2_s, bd_s, wr_s, ck_s, bz_s0, bz_s1, dz_s, nI_litS, nI_add, pk_mul, pk_sub, nI_leI, nI_ltI, nI_eq, ng_lt, ng_le, lt_ng, le_ng, eq_ng, ng_eq, ng_ngE, ng_ngL, ng_ngl, sub1_lt, sub1_ng, eq_self, if_pos, if_neg, if_true, if_false, Nat.zero_add, Nat.add_zero, f_X8_isTournament, f_X5_has, e1, ec, f_X8_withdraw, bk_j g t, q3]
              · have q5 := q4 (up2 g (47 + 28 * t + 2) p 2) (rowT_up (by omega))
                rw [l_2] at q5 ⊢
                simp (disch := omega) only [bd2_s, bd_s, wr_s, ck_s, bz_s0, bz_s1, dz_s, nI_litS, nI_add, pk_mul, pk_sub, nI_leI, nI_ltI, nI_eq, ng_lt, ng_le, lt_ng, le_ng, eq_ng, ng_eq, ng_ngE, ng_ngL, ng_ngl, sub1_lt, sub1_ng, eq_self, if_pos, if_neg, if_true, if_false, Nat.zero_add, Nat.add_zero, f_X9_isTournament, f_X9_isPlayer, f_X9_in, e2, em, f_X9_withdraw, f_X9_cell, f_X9_lay, q5, up2_ne, rw_k g t, q2]
              · refine hI.at e2 h24 ec h4 htn (fun a q1 q2 => by rw [up2_ne q2, up2_ne (by omega)]) (fun k q => by rw [up2_eq, upd_ne (by omega), up2_ne (by omega)]) ?_
                simp (disch := omega) only [rowT_set, rowT_up, blkT_off, blkT_set]
                refine ⟨n, dr, e, ?_, ?_, hsum.cg ?_ ?_, hrd.cg hin.1 ?_ ?_ ?_, hen.cg hrd.1 ?_ ?_ ?_⟩
                · rw [upd_ne (by omega)]; exact s0
                · obtain ⟨h1, h2, h3, h4, h5, h6, h7, h8⟩ := hin
                  refine ⟨h1, h2, by rw [upd_ne (by omega)]; exact h3, fun i hi => ?_, fun i j hi hj q => ?_, fun i hi => ?_, fun i hi hi' => ?_, fun q hq => ?_⟩
                  · rw [upd_ne (by omega)]; exact h4 i hi
                  · rw [upd_ne (by omega), upd_ne (by omega)] at q; exact h5 i j hi hj q
                  · by_cases hh : i = k
                    · subst hh; rw [upd_eq]; exact Or.inr rfl
                    · rw [upd_ne (by omega)]; exact h6 i hi
                  · rw [upd_ne (by omega), upd_ne (by omega)]; exact h7 i hi hi'
                  · rw [up2_eq]
                    rcases h8 q hq with ⟨r1, r2⟩ | ⟨i, r1, r2, r3⟩
                    · left
                      have hqp : q ≠ p := fun hh => r2 k hk (by rw [hh]; exact q1)
                      rw [upd_ne hqp]
                      exact ⟨r1, fun i hi => by rw [upd_ne (by omega)]; exact r2 i hi⟩
                    · right
                      refine ⟨i, r1, by rw [upd_ne (by omega)]; exact r2, ?_⟩
                      by_cases hh : i = k
                      · subst hh
                        have hqp : q = p := nI_inj (by omega) (by omega) (r2.symm.trans q1)
                        rw [hqp, upd_eq, upd_eq]
                        rfl
                      · have hqp : q ≠ p := fun h => hh (h5 i k r1 hk (by rw [r2, q1, h]))
                        rw [upd_ne hqp, upd_ne (by omega)]
                        exact r3
                all_goals first | rfl | (intros; exact up2_ne (by omega)) | (intros; exact upd_ne (by omega))
            · exact ⟨-3, g, g, by simp (disch := omega) only [bd2_s, bd_s, wr_s, ck_s, bz_s0, bz_s1, dz_s, nI_litS, nI_add, pk_mul, pk_sub, nI_leI, nI_ltI, nI_eq, ng_lt, ng_le, lt_ng, le_ng, eq_ng, ng_eq, ng_ngE, ng_ngL, ng_ngl, sub1_lt, sub1_ng, eq_self, if_pos, if_neg, if_true, if_false, Nat.zero_add, Nat.add_zero, f_X8_isTournament, f_X5_has, e1, ec, f_X8_withdraw, f_X9_cell, rw_k g t, bk_j g t, q2, q3, q4'], by simp (disch := omega) only [bd2_s, bd_s, wr_s, ck_s, bz_s0, bz_s1, dz_s, nI_litS, nI_add, pk_mul, pk_sub, nI_leI, nI_ltI, nI_eq, ng_lt, ng_le, lt_ng, le_ng, eq_ng, ng_eq, ng_ngE, ng_ngL, ng_ngl, sub1_lt, sub1_ng, eq_self, if_pos, if_neg, if_true, if_false, Nat.zero_add, Nat.add_zero, f_X9_isTournament, f_X9_isPlayer, f_X9_in, e2, em, f_X9_withdraw, f_X9_cell, rw_k g t, bk_j g t, q2, q3, q4'], hI⟩
        · exact ⟨-2, g, g, by simp (disch := omega) only [bd2_s, bd_s, wr_s, ck_s, bz_s0, bz_s1, dz_s, nI_litS, nI_add, pk_mul, pk_sub, nI_leI, nI_ltI, nI_eq, ng_lt, ng_le, lt_ng, le_ng, eq_ng, ng_eq, ng_ngE, ng_ngL, ng_ngl, sub1_lt, sub1_ng, eq_self, if_pos, if_neg, if_true, if_false, Nat.zero_add, Nat.add_zero, f_X8_isTournament, f_X5_has, e1, ec, f_X8_withdraw], by simp (disch := omega) only [bd2_s, bd_s, wr_s, ck_s, bz_s0, bz_s1, dz_s, nI_litS, nI_add, pk_mul, pk_sub, nI_leI, nI_ltI, nI_eq, ng_lt, ng_le, lt_ng, le_ng, eq_ng, ng_eq, ng_ngE, ng_ngL, ng_ngl, sub1_lt, sub1_ng, eq_self, if_pos, if_neg, if_true, if_false, Nat.zero_add, Nat.add_zero, f_X9_isTournament, f_X9_isPlayer, f_X9_in, e2, em, f_X9_withdraw], hI⟩
      · exact ⟨-2, g, g, by simp (disch := omega) only [bd2_s, bd_s, wr_s, ck_s, bz_s0, bz_s1, dz_s, nI_litS, nI_add, pk_mul, pk_sub, nI_leI, nI_ltI, nI_eq, ng_lt, ng_le, lt_ng, le_ng, eq_ng, ng_eq, ng_ngE, ng_ngL, ng_ngl, sub1_lt, sub1_ng, eq_self, if_pos, if_neg, if_true, if_false, Nat.zero_add, Nat.add_zero, f_X8_isTournament, f_X5_has, e1, ec, f_X8_withdraw], by simp (disch := omega) only [bd2_s, bd_s, wr_s, ck_s, bz_s0, bz_s1, dz_s, nI_litS, nI_add, pk_mul, pk_sub, nI_leI, nI_ltI, nI_eq, ng_lt, ng_le, lt_ng, le_ng, eq_ng, ng_eq, ng_ngE, ng_ngL, ng_ngl, sub1_lt, sub1_ng, eq_self, if_pos, if_neg, if_true, if_false, Nat.zero_add, Nat.add_zero, f_X9_isTournament, f_X9_isPlayer, f_X9_in, e2, em, f_X9_withdraw], hI⟩
    · exact ⟨-2, g, g, by simp (disch := omega) only [bd2_s, bd_s, wr_s, ck_s, bz_s0, bz_s1, dz_s, nI_litS, nI_add, pk_mul, pk_sub, nI_leI, nI_ltI, nI_eq, ng_lt, ng_le, lt_ng, le_ng, eq_ng, ng_eq, ng_ngE, ng_ngL, ng_ngl, sub1_lt, sub1_ng, eq_self, if_pos, if_neg, if_true, if_false, Nat.zero_add, Nat.add_zero, f_X8_isTournament, f_X5_has, e1, ec, f_X8_withdraw], by simp (disch := omega) only [bd2_s, bd_s, wr_s, ck_s, bz_s0, bz_s1, dz_s, nI_litS, nI_add, pk_mul, pk_sub, nI_leI, nI_ltI, nI_eq, ng_lt, ng_le, lt_ng, le_ng, eq_ng, ng_eq, ng_ngE, ng_ngL, ng_ngl, sub1_lt, sub1_ng, eq_self, if_pos, if_neg, if_true, if_false, Nat.zero_add, Nat.add_zero, f_X9_isTournament, f_X9_isPlayer, f_X9_in, e2, em, f_X9_withdraw], hI⟩
  · exact ⟨-2, g, g, by simp (disch := omega) only [bd2_s, bd_s, wr_s, ck_s, bz_s0, bz_s1, dz_s, nI_litS, nI_add, pk_mul, pk_sub, nI_leI, nI_ltI, nI_eq, ng_lt, ng_le, lt_ng, le_ng, eq_ng, ng_eq, ng_ngE, ng_ngL, ng_ngl, sub1_lt, sub1_ng, eq_self, if_pos, if_neg, if_true, if_false, Nat.zero_add, Nat.add_zero, f_X8_isTournament, f_X5_has, e1, ec, f_X8_withdraw], by simp (disch := omega) only [bd2_s, bd_s, wr_s, ck_s, bz_s0, bz_s1, dz_s, nI_litS, nI_add, pk_mul, pk_sub, nI_leI, nI_ltI, nI_eq, ng_lt, ng_le, lt_ng, le_ng, eq_ng, ng_eq, ng_ngE, ng_ngL, ng_ngl, sub1_lt, sub1_ng, eq_self, if_pos, if_neg, if_true, if_false, Nat.zero_add, Nat.add_zero, f_X9_isTournament, f_X9_isPlayer, f_X9_in, e2, em, f_X9_withdraw], hI⟩
theorem nI_eqW {a b : Nat} (ha : a < 2 ^ 32) (hb : b < 2 ^ 32) : (nI a = nI b) = (a = b) := propext ⟨fun h => by rw [← pk_tn ha, ← pk_tn hb, h], fun h => by rw [h]⟩
theorem i32_nn {x : Int32} (h : 0 ≤ x) : ∃ j : Nat, j < 2 ^ 31 ∧ x = nI j := nI_of (Int32.not_lt.mpr h)
theorem sp_takeBack : Sp3 Inv f_X8_takeBack f_X9_takeBack := by
  refine Sp3.to (fun a1 a2 a3 g hI => ?_)
  obtain ⟨np, nt, h24, h4, e1, e2, ec, em, es, hP, hT⟩ := hI.pre
  rcases i32_split a1 with ⟨t, ht, rfl⟩ | ⟨t, ht0, ht, rfl⟩
  · by_cases htn : t < nt
    · obtain ⟨n, dr, e, s0, hin, hsum, hrd, hen⟩ := hT t htn
      obtain ⟨e60, c3, m110, hE, hZ⟩ := id hen
      have hd6 := hrd.1
      rcases i32_split a3 with ⟨w, hw, rfl⟩ | ⟨w, hw0, hw, rfl⟩
      · rcases i32_split a2 with ⟨x, hx', rfl⟩ | ⟨x, hx0, hx, rfl⟩
        · by_cases hx : x < e
          · obtain ⟨⟨r, k, m, z1, z2, z3, z4, z5, z6⟩, y1, y2, y3, y4, y5, y6, y7, y8⟩ := id (hE x hx)
            by_cases hle : rowT g t (291 + x) ≤ nI w
            · rcases y8 with ⟨b1, b2⟩ | ⟨b1, b2⟩
              · refine ⟨1, up2 g (47 + 28 * t + 13) x (nI w), up2 (up2 g (47 + 28 * t + 13) x (nI w)) 165 (412 * t + (351 + x)) (nI (w + 1)), ?_, ?_, ?_⟩
                · simp (disch := omega) only [bd2_s, bd_s, wr_s, ck_s, bz_s0, bz_s1, dz_s, nI_litS, nI_add, pk_mul, pk_sub, nI_leI, nI_ltI, nI_eq, ng_lt, ng_le, lt_ng, le_ng, eq_ng, ng_eq, ng_ngE, ng_ngL, ng_ngl, sub1_lt, sub1_ng, eq_self, if_pos, if_neg, if_true, if_false, Nat.zero_add, Nat.add_zero, f_X8_isTournament, f_X5_has, e1, ec, f_X8_takeBack, bk_0 g t, bk_j g t, c3, y6, hle, b2]
                · simp (disch := omega) only [bd2_s, bd_s, wr_s, ck_s, bz_s0, bz_s1, dz_s, nI_litS, nI_add, pk_mul, pk_sub, nI_leI, nI_ltI, nI_eq, ng_lt, ng_le, lt_ng, le_ng, eq_ng, ng_eq, ng_ngE, ng_ngL, ng_ngl, sub1_lt, sub1_ng, eq_self, if_pos, if_neg, if_true, if_false, Nat.zero_add, Nat.add_zero, f_X9_isTournament, f_X9_isPlayer, f_X9_in, e2, em, f_X9_takeBack, f_X9_cell, f_X9_lay, up2_ne, rw_k g t, m110, hle, b1]
                · refine hI.at e2 h24 ec h4 htn (fun a q1 q2 => by rw [up2_ne q2, up2_ne (by omega)]) (fun k q => by rw [up2_eq, upd_ne (by omega), up2_ne (by omega)]) ?_
                  simp (disch := omega) only [rowT_set, rowT_up, blkT_off, blkT_set]
                  refine ⟨n, dr, e, ?_, hin.cg ?_ ?_ ?_ ?_, hsum.cg ?_ ?_, hrd.cg hin.1 ?_ ?_ ?_, ⟨e60, c3, ?_, fun y hy => ?_, fun y hy hy' => ?_⟩⟩
                  · rw [upd_ne (by omega)]; exact s0
                  · first | rfl | (intros; exact up2_ne (by omega)) | (intros; exact upd_ne (by omega))
                  · first | rfl | (intros; exact up2_ne (by omega)) | (intros; exact upd_ne (by omega))
                  · first | rfl | (intros; exact up2_ne (by omega)) | (intros; exact upd_ne (by omega))
                  · first | rfl | (intros; exact up2_ne (by omega)) | (intros; exact upd_ne (by omega))
                  · first | rfl | (intros; exact up2_ne (by omega)) | (intros; exact upd_ne (by omega))
                  · first | rfl | (intros; exact up2_ne (by omega)) | (intros; exact upd_ne (by omega))
                  · first | rfl | (intros; exact up2_ne (by omega)) | (intros; exact upd_ne (by omega))
                  · first | rfl | (intros; exact up2_ne (by omega)) | (intros; exact upd_ne (by omega))
                  · first | rfl | (intros; exact up2_ne (by omega)) | (intros; exact upd_ne (by omega))
                  · rw [upd_ne (by omega)]; exact m110
                  · by_cases hh : y = x
                    · subst hh
                      refine ⟨⟨r, k, m, z1, z2, z3, ?_, ?_, ?_⟩, ?_⟩
                      · rw [upd_ne (by omega)]; exact z4
                      · rw [upd_ne (by omega)]; exact z5
                      · rw [upd_ne (by omega)]; exact z6
                      · rw [upd_ne (by omega), upd_ne (by omega), upd_ne (by omega), upd_ne (by omega), upd_eq, up2_ne (by decide), up2_ne (by decide), up2_ne (by decide), up2_ne (by decide), up2_at]
                        exact ⟨y1, y2, y3, y4, y5, y6, y7, Or.inr ⟨nI_pos' hw, (nI_1 w).symm⟩⟩
                    · refine (hE y hy).cg hrd.1 (by omega) (fun j q1 q2 => ?_) (fun k q1 q2 => upd_ne (by omega)) (fun k q => upd_ne (by omega))
                      by_cases hj : j = 13
                      · subst hj; exact up2_at_ne hh
                      · rw [up2_ne hj]
                  · rw [upd_ne (by omega), upd_ne (by omega), upd_ne (by omega), upd_ne (by omega), upd_ne (by omega)]
                    exact hZ y hy hy'
              · obtain ⟨b, hb, eb⟩ := i32_nn b1
                have hnz : ¬ rowT g t (351 + x) = nI 0 := by
                  rw [b2, eb, l_1, nI_add, nI_eqW (by omega) (by omega)]
                  omega
                exact ⟨-3, g, g, by simp (disch := omega) only [bd2_s, bd_s, wr_s, ck_s, bz_s0, bz_s1, dz_s, nI_litS, nI_add, pk_mul, pk_sub, nI_leI, nI_ltI, nI_eq, ng_lt, ng_le, lt_ng, le_ng, eq_ng, ng_eq, ng_ngE, ng_ngL, ng_ngl, sub1_lt, sub1_ng, eq_self, if_pos, if_neg, if_true, if_false, Nat.zero_add, Nat.add_zero, f_X8_isTournament, f_X5_has, e1, ec, f_X8_takeBack, f_X9_cell, bk_0 g t, bk_j g t, rw_k g t, c3, m110, y6, hle, eb, hnz], by simp (disch := omega) only [bd2_s, bd_s, wr_s, ck_s, bz_s0, bz_s1, dz_s, nI_litS, nI_add, pk_mul, pk_sub, nI_leI, nI_ltI, nI_eq, ng_lt, ng_le, lt_ng, le_ng, eq_ng, ng_eq, ng_ngE, ng_ngL, ng_ngl, sub1_lt, sub1_ng, eq_self, if_pos, if_neg, if_true, if_false, Nat.zero_add, Nat.add_zero, f_X9_isTournament, f_X9_isPlayer, f_X9_in, e2, em, f_X9_takeBack, f_X9_cell, bk_0 g t, bk_j g t, rw_k g t, c3, m110, y6, hle, eb, hnz], hI⟩
            · exact ⟨-2, g, g, by simp (disch := omega) only [bd2_s, bd_s, wr_s, ck_s, bz_s0, bz_s1, dz_s, nI_litS, nI_add, pk_mul, pk_sub, nI_leI, nI_ltI, nI_eq, ng_lt, ng_le, lt_ng, le_ng, eq_ng, ng_eq, ng_ngE, ng_ngL, ng_ngl, sub1_lt, sub1_ng, eq_self, if_pos, if_neg, if_true, if_false, Nat.zero_add, Nat.add_zero, f_X8_isTournament, f_X5_has, e1, ec, f_X8_takeBack, f_X9_cell, bk_0 g t, bk_j g t, rw_k g t, c3, m110, y6, hle], by simp (disch := omega) only [bd2_s, bd_s, wr_s, ck_s, bz_s0, bz_s1, dz_s, nI_litS, nI_add, pk_mul, pk_sub, nI_leI, nI_ltI, nI_eq, ng_lt, ng_le, lt_ng, le_ng, eq_ng, ng_eq, ng_ngE, ng_ngL, ng_ngl, sub1_lt, sub1_ng, eq_self, if_pos, if_neg, if_true, if_false, Nat.zero_add, Nat.add_zero, f_X9_isTournament, f_X9_isPlayer, f_X9_in, e2, em, f_X9_takeBack, f_X9_cell, bk_0 g t, bk_j g t, rw_k g t, c3, m110, y6, hle], hI⟩
          · exact ⟨-2, g, g, by simp (disch := omega) only [bd2_s, bd_s, wr_s, ck_s, bz_s0, bz_s1, dz_s, nI_litS, nI_add, pk_mul, pk_sub, nI_leI, nI_ltI, nI_eq, ng_lt, ng_le, lt_ng, le_ng, eq_ng, ng_eq, ng_ngE, ng_ngL, ng_ngl, sub1_lt, sub1_ng, eq_self, if_pos, if_neg, if_true, if_false, Nat.zero_add, Nat.add_zero, f_X8_isTournament, f_X5_has, e1, ec, f_X8_takeBack, f_X9_cell, bk_0 g t, rw_k g t, c3, m110], by simp (disch := omega) only [bd2_s, bd_s, wr_s, ck_s, bz_s0, bz_s1, dz_s, nI_litS, nI_add, pk_mul, pk_sub, nI_leI, nI_ltI, nI_eq, ng_lt, ng_le, lt_ng, le_ng, eq_ng, ng_eq, ng_ngE, ng_ngL, ng_ngl, sub1_lt, sub1_ng, eq_self, if_pos, if_neg, if_true, if_false, Nat.zero_add, Nat.add_zero, f_X9_isTournament, f_X9_isPlayer, f_X9_in, e2, em, f_X9_takeBack, f_X9_cell, bk_0 g t, rw_k g t, c3, m110], hI⟩
        · exact ⟨-2, g, g, by simp (disch := omega) only [bd2_s, bd_s, wr_s, ck_s, bz_s0, bz_s1, dz_s, nI_litS, nI_add, pk_mul, pk_sub, nI_leI, nI_ltI, nI_eq, ng_lt, ng_le, lt_ng, le_ng, eq_ng, ng_eq, ng_ngE, ng_ngL, ng_ngl, sub1_lt, sub1_ng, eq_self, if_pos, if_neg, if_true, if_false, Nat.zero_add, Nat.add_zero, f_X8_isTournament, f_X5_has, e1, ec, f_X8_takeBack, f_X9_cell, bk_0 g t, rw_k g t, c3, m110], by simp (disch := omega) only [bd2_s, bd_s, wr_s, ck_s, bz_s0, bz_s1, dz_s, nI_litS, nI_add, pk_mul, pk_sub, nI_leI, nI_ltI, nI_eq, ng_lt, ng_le, lt_ng, le_ng, eq_ng, ng_eq, ng_ngE, ng_ngL, ng_ngl, sub1_lt, sub1_ng, eq_self, if_pos, if_neg, if_true, if_false, Nat.zero_add, Nat.add_zero, f_X9_isTournament, f_X9_isPlayer, f_X9_in, e2, em, f_X9_takeBack, f_X9_cell, bk_0 g t, rw_k g t, c3, m110], hI⟩
      · rcases i32_split a2 with ⟨x, hx', rfl⟩ | ⟨x, hx0, hx, rfl⟩
        · by_cases hx : x < e
          · exact ⟨-2, g, g, by simp (disch := omega) only [bd2_s, bd_s, wr_s, ck_s, bz_s0, bz_s1, dz_s, nI_litS, nI_add, pk_mul, pk_sub, nI_leI, nI_ltI, nI_eq, ng_lt, ng_le, lt_ng, le_ng, eq_ng, ng_eq, ng_ngE, ng_ngL, ng_ngl, sub1_lt, sub1_ng, eq_self, if_pos, if_neg, if_true, if_false, Nat.zero_add, Nat.add_zero, f_X8_isTournament, f_X5_has, e1, ec, f_X8_takeBack, f_X9_cell, bk_0 g t, rw_k g t, c3, m110], by simp (disch := omega) only [bd2_s, bd_s, wr_s, ck_s, bz_s0, bz_s1, dz_s, nI_litS, nI_add, pk_mul, pk_sub, nI_leI, nI_ltI, nI_eq, ng_lt, ng_le, lt_ng, le_ng, eq_ng, ng_eq, ng_ngE, ng_ngL, ng_ngl, sub1_lt, sub1_ng, eq_self, if_pos, if_neg, if_true, if_false, Nat.zero_add, Nat.add_zero, f_X9_isTournament, f_X9_isPlayer, f_X9_in, e2, em, f_X9_takeBack, f_X9_cell, bk_0 g t, rw_k g t, c3, m110], hI⟩
          · exact ⟨-2, g, g, by simp (disch := omega) only [bd2_s, bd_s, wr_s, ck_s, bz_s0, bz_s1, dz_s, nI_litS, nI_add, pk_mul, pk_sub, nI_leI, nI_ltI, nI_eq, ng_lt, ng_le, lt_ng, le_ng, eq_ng, ng_eq, ng_ngE, ng_ngL, ng_ngl, sub1_lt, sub1_ng, eq_self, if_pos, if_neg, if_true, if_false, Nat.zero_add, Nat.add_zero, f_X8_isTournament, f_X5_has, e1, ec, f_X8_takeBack, f_X9_cell, bk_0 g t, rw_k g t, c3, m110], by simp (disch := omega) only [bd2_s, bd_s, wr_s, ck_s, bz_s0, bz_s1, dz_s, nI_litS, nI_add, pk_mul, pk_sub, nI_leI, nI_ltI, nI_eq, ng_lt, ng_le, lt_ng, le_ng, eq_ng, ng_eq, ng_ngE, ng_ngL, ng_ngl, sub1_lt, sub1_ng, eq_self, if_pos, if_neg, if_true, if_false, Nat.zero_add, Nat.add_zero, f_X9_isTournament, f_X9_isPlayer, f_X9_in, e2, em, f_X9_takeBack, f_X9_cell, bk_0 g t, rw_k g t, c3, m110], hI⟩
        · exact ⟨-2, g, g, by simp (disch := omega) only [bd2_s, bd_s, wr_s, ck_s, bz_s0, bz_s1, dz_s, nI_litS, nI_add, pk_mul, pk_sub, nI_leI, nI_ltI, nI_eq, ng_lt, ng_le, lt_ng, le_ng, eq_ng, ng_eq, ng_ngE, ng_ngL, ng_ngl, sub1_lt, sub1_ng, eq_self, if_pos, if_neg, if_true, if_false, Nat.zero_add, Nat.add_zero, f_X8_isTournament, f_X5_has, e1, ec, f_X8_takeBack, f_X9_cell, bk_0 g t, rw_k g t, c3, m110], by simp (disch := omega) only [bd2_s, bd_s, wr_s, ck_s, bz_s0, bz_s1, dz_s, nI_litS, nI_add, pk_mul, pk_sub, nI_leI, nI_ltI, nI_eq, ng_lt, ng_le, lt_ng, le_ng, eq_ng, ng_eq, ng_ngE, ng_ngL, ng_ngl, sub1_lt, sub1_ng, eq_self, if_pos, if_neg, if_true, if_false, Nat.zero_add, Nat.add_zero, f_X9_isTournament, f_X9_isPlayer, f_X9_in, e2, em, f_X9_takeBack, f_X9_cell, bk_0 g t, rw_k g t, c3, m110], hI⟩
    · exact ⟨-2, g, g, by simp (disch := omega) only [bd2_s, bd_s, wr_s, ck_s, bz_s0, bz_s1, dz_s, nI_litS, nI_add, pk_mul, pk_sub, nI_leI, nI_ltI, nI_eq, ng_lt, ng_le, lt_ng, le_ng, eq_ng, ng_eq, ng_ngE, ng_ngL, ng_ngl, sub1_lt, sub1_ng, eq_self, if_pos, if_neg, if_true, if_false, Nat.zero_add, Nat.add_zero, f_X8_isTournament, f_X5_has, e1, ec, f_X8_takeBack], by simp (disch := omega) only [bd2_s, bd_s, wr_s, ck_s, bz_s0, bz_s1, dz_s, nI_litS, nI_add, pk_mul, pk_sub, nI_leI, nI_ltI, nI_eq, ng_lt, ng_le, lt_ng, le_ng, eq_ng, ng_eq, ng_ngE, ng_ngL, ng_ngl, sub1_lt, sub1_ng, eq_self, if_pos, if_neg, if_true, if_false, Nat.zero_add, Nat.add_zero, f_X9_isTournament, f_X9_isPlayer, f_X9_in, e2, em, f_X9_takeBack], hI⟩
  · exact ⟨-2, g, g, by simp (disch := omega) only [bd2_s, bd_s, wr_s, ck_s, bz_s0, bz_s1, dz_s, nI_litS, nI_add, pk_mul, pk_sub, nI_leI, nI_ltI, nI_eq, ng_lt, ng_le, lt_ng, le_ng, eq_ng, ng_eq, ng_ngE, ng_ngL, ng_ngl, sub1_lt, sub1_ng, eq_self, if_pos, if_neg, if_true, if_false, Nat.zero_add, Nat.add_zero, f_X8_isTournament, f_X5_has, e1, ec, f_X8_takeBack], by simp (disch := omega) only [bd2_s, bd_s, wr_s, ck_s, bz_s0, bz_s1, dz_s, nI_litS, nI_add, pk_mul, pk_sub, nI_leI, nI_ltI, nI_eq, ng_lt, ng_le, lt_ng, le_ng, eq_ng, ng_eq, ng_ngE, ng_ngL, ng_ngl, sub1_lt, sub1_ng, eq_self, if_pos, if_neg, if_true, if_false, Nat.zero_add, Nat.add_zero, f_X9_isTournament, f_X9_isPlayer, f_X9_in, e2, em, f_X9_takeBack], hI⟩
