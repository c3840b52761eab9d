/-! The calls tell, enter, tournament. -/
theorem Sp6.to {Inv : G → Prop} {f8 f9 : Int32 → Int32 → Int32 → Int32 → Int32 → Int32 → G → Option (Int32 × G)} (h : ∀ a b c d e f g, Inv g → ∃ r g1 g2, f8 a b c d e f g = some (r, g1) ∧ f9 a b c d e f g1 = some (r, g2) ∧ Inv g2) : Sp6 Inv f8 f9 := h
theorem Sp0.to {Inv : G → Prop} {f8 f9 : G → Option (Int32 × G)} (h : ∀ g, Inv g → ∃ r g1 g2, f8 g = some (r, g1) ∧ f9 g1 = some (r, g2) ∧ Inv g2) : Sp0 Inv f8 f9 := h
theorem sp_tell : Sp6 Inv f_X8_tell f_X9_tell := by
  refine Sp6.to (fun a1 a2 a3 a4 a5 a6 g hI => ?_)
  obtain ⟨np, nt, h24, h4, e1, e2, ec, em, es, hP, hT⟩ := hI.pre
  rcases i32_split a1 with ⟨t, ht, rfl⟩ | ⟨t, ht0, ht, rfl⟩
  · by_cases htn : t < nt
    · rcases i32_split a4 with ⟨w, hw', rfl⟩ | ⟨w, hw0, hw', rfl⟩
      · by_cases hw : w < 7
        · rcases i32_split a5 with ⟨d, hd, rfl⟩ | ⟨d, hd0, hd, rfl⟩
          · rcases i32_split a6 with ⟨q, hq, rfl⟩ | ⟨q, hq0, hq, rfl⟩
            · obtain ⟨n, dr, e, s0, hin, hsum, hrd, hen⟩ := hT t htn
              have hd6 := hrd.1
              obtain ⟨e60, c3, m110, hE, hZ⟩ := id hen
              rcases rk_cases (a2 := a2) (a3 := a3) (by omega) hrd with ⟨f, f0, f3, h8, h9⟩ | ⟨r, k, m, rfl, rfl, hr, hk, hm, h8, h9⟩
              · refine sp_met f (hI.eff _ _) ?_ ?_
                · simp (disch := omega) only [bd2_s, bd_s, wr_s, ck_s, bz_s0, bz_s1, dz_s, nI_litS, nI_add, pk_mul, pk_sub, nI_leI, nI_ltI, nI_eq, ng_lt, ng_le, lt_ng, le_ng, eq_ng, ng_eq, ng_ngE, ng_ngL, ng_ngl, sub1_lt, sub1_ng, eq_self, if_pos, if_neg, if_true, if_false, Nat.zero_add, Nat.add_zero, f_X8_isTournament, f_X5_has, e1, ec, f_X8_tell, h8]
                · have h9' := h9 (cE [] (nI f) g) cE_row
                  simp (disch := omega) only [bd2_s, bd_s, wr_s, ck_s, bz_s0, bz_s1, dz_s, nI_litS, nI_add, pk_mul, pk_sub, nI_leI, nI_ltI, nI_eq, ng_lt, ng_le, lt_ng, le_ng, eq_ng, ng_eq, ng_ngE, ng_ngL, ng_ngl, sub1_lt, sub1_ng, eq_self, if_pos, if_neg, if_true, if_false, Nat.zero_add, Nat.add_zero, f_X9_isTournament, f_X9_isPlayer, f_X9_in, e2, em, f_X9_tell, h9', cE_r, m_metS]
              · have h9' := h9 g rfl
                have m5 := hm.2.1
                have m32 := hm.2.2.2.2.2.1
                obtain ⟨v1, v2, -, v3⟩ := hm.2.2.2.2.2.2.2.2.1 k hk
                by_cases hb : rowT g t (80 + (5 * r + k)) = nI 99
                · exact ⟨-3, g, g, by simp (disch := omega) only [bd2_s, bd_s, wr_s, ck_s, bz_s0, bz_s1, dz_s, nI_litS, nI_add, pk_mul, pk_sub, nI_leI, nI_ltI, nI_eq, ng_lt, ng_le, lt_ng, le_ng, eq_ng, ng_eq, ng_ngE, ng_ngL, ng_ngl, sub1_lt, sub1_ng, eq_self, if_pos, if_neg, if_true, if_false, Nat.zero_add, Nat.add_zero, f_X8_isTournament, f_X5_has, e1, ec, f_X8_tell, h8, h9', f_X9_isWithNobody, f_X9_cell, bk_j g t, rw_k g t, v2, hb], by simp (disch := omega) only [bd2_s, bd_s, wr_s, ck_s, bz_s0, bz_s1, dz_s, nI_litS, nI_add, pk_mul, pk_sub, nI_leI, nI_ltI, nI_eq, ng_lt, ng_le, lt_ng, le_ng, eq_ng, ng_eq, ng_ngE, ng_ngL, ng_ngl, sub1_lt, sub1_ng, eq_self, if_pos, if_neg, if_true, if_false, Nat.zero_add, Nat.add_zero, f_X9_isTournament, f_X9_isPlayer, f_X9_in, e2, em, f_X9_tell, h8, h9', f_X9_isWithNobody, f_X9_cell, bk_j g t, rw_k g t, v2, hb], hI⟩
                · by_cases he : e = 60
                  · subst he
                    exact ⟨-4, g, g, by simp (disch := omega) only [bd2_s, bd_s, wr_s, ck_s, bz_s0, bz_s1, dz_s, nI_litS, nI_add, pk_mul, pk_sub, nI_leI, nI_ltI, nI_eq, ng_lt, ng_le, lt_ng, le_ng, eq_ng, ng_eq, ng_ngE, ng_ngL, ng_ngl, sub1_lt, sub1_ng, eq_self, if_pos, if_neg, if_true, if_false, Nat.zero_add, Nat.add_zero, f_X8_isTournament, f_X5_has, e1, ec, f_X8_tell, h8, h9', f_X9_isWithNobody, f_X9_cell, f_X7_addEntry, bk_j g t, bk_0 g t, rw_k g t, v2, hb, c3, m110], by simp (disch := omega) only [bd2_s, bd_s, wr_s, ck_s, bz_s0, bz_s1, dz_s, nI_litS, nI_add, pk_mul, pk_sub, nI_leI, nI_ltI, nI_eq, ng_lt, ng_le, lt_ng, le_ng, eq_ng, ng_eq, ng_ngE, ng_ngL, ng_ngl, sub1_lt, sub1_ng, eq_self, if_pos, if_neg, if_true, if_false, Nat.zero_add, Nat.add_zero, f_X9_isTournament, f_X9_isPlayer, f_X9_in, e2, em, f_X9_tell, h8, h9', f_X9_isWithNobody, f_X9_cell, f_X7_addEntry, bk_j g t, bk_0 g t, rw_k g t, v2, hb, c3, m110], hI⟩
                  · let g1 : G := up2 (up2 (up2 (up2 (up2 (up2 g (47 + 28 * t + 9) e (nI (5 * r + k))) (47 + 28 * t + 10) e (nI w)) (47 + 28 * t + 11) e (nI d)) (47 + 28 * t + 12) e (nI q)) (47 + 28 * t + 13) e (-nI 1)) (47 + 28 * t) 3 (nI (e + 1))
                    have hg1 : rowT g1 t = rowT g t := rowT_ne (by simp (disch := omega) only [g1, up2_ne])
                    have h9'' := h9 g1 hg1
                    have h165 : g1 165 = g 165 := by simp (disch := omega) only [g1, up2_ne]
                    have h159 : g1 159 = g 159 := by simp (disch := omega) only [g1, up2_ne]
                    refine ⟨nI e, g1, up2 (up2 (up2 (up2 (up2 g1 165 (412 * t + (111 + e)) (nI (5 * r + k))) 165 (412 * t + (171 + e)) (nI w)) 165 (412 * t + (231 + e)) (nI d)) 165 (412 * t + (291 + e)) (nI q)) 165 (412 * t + 110) (nI (e + 1)), ?_, ?_, ?_⟩
                    · have ee : e + 1 - 1 = e := by omega
                      simp (disch := omega) only [bd2_s, bd_s, wr_s, ck_s, bz_s0, bz_s1, dz_s, nI_litS, nI_add, pk_mul, pk_sub, nI_leI, nI_ltI, nI_eq, ng_lt, ng_le, lt_ng, le_ng, eq_ng, ng_eq, ng_ngE, ng_ngL, ng_ngl, sub1_lt, sub1_ng, eq_self, if_pos, if_neg, if_true, if_false, Nat.zero_add, Nat.add_zero, f_X8_isTournament, f_X5_has, e1, ec, f_X8_tell, h8, f_X7_addEntry, bk_j g t, bk_0 g t, v2, hb, c3, up2_ne, up2_eq, upd_eq, ee]
                      rfl
                    · simp (disch := omega) only [bd2_s, bd_s, wr_s, ck_s, bz_s0, bz_s1, dz_s, nI_litS, nI_add, pk_mul, pk_sub, nI_leI, nI_ltI, nI_eq, ng_lt, ng_le, lt_ng, le_ng, eq_ng, ng_eq, ng_ngE, ng_ngL, ng_ngl, sub1_lt, sub1_ng, eq_self, if_pos, if_neg, if_true, if_false, Nat.zero_add, Nat.add_zero, f_X9_isTournament, f_X9_isPlayer, f_X9_in, e2, em, f_X9_tell, h9'', f_X9_isWithNobody, f_X9_cell, f_X9_lay, h159, h165, rw_k g t, hb, m110]
                    · refine hI.at e2 h24 ec h4 htn (fun a q1 q2 => by simp (disch := omega) only [g1, up2_ne]) (fun k q => by simp (disch := omega) only [g1, up2_ne, up2_eq, upd_ne]) ?_
                      simp (disch := omega) only [rowT_set, hg1]
                      simp (disch := omega) only [g1, blkT_off, blkT_set, blkT_set0]
                      refine ⟨n, dr, e + 1, ?_, hin.cg ?_ ?_ ?_ ?_, hsum.cg ?_ ?_, hrd.cg hin.1 ?_ ?_ ?_, ⟨by omega, ?_, ?_, fun y hy => ?_, fun y hy hy' => ?_⟩⟩
                      · simp (disch := omega) only [upd_ne]; exact s0
                      · first | rfl | (intros; exact up2_ne (by omega)) | (intros; exact upd_ne (by omega)) | (intros; simp (disch := omega) only [upd_ne, up2_ne, up2_eq])
                      · first | rfl | (intros; exact up2_ne (by omega)) | (intros; exact upd_ne (by omega)) | (intros; simp (disch := omega) only [upd_ne, up2_ne, up2_eq])
                      · first | rfl | (intros; exact up2_ne (by omega)) | (intros; exact upd_ne (by omega)) | (intros; simp (disch := omega) only [upd_ne, up2_ne, up2_eq])
                      · first | rfl | (intros; exact up2_ne (by omega)) | (intros; exact upd_ne (by omega)) | (intros; simp (disch := omega) only [upd_ne, up2_ne, up2_eq])
                      · first | rfl | (intros; exact up2_ne (by omega)) | (intros; exact upd_ne (by omega)) | (intros; simp (disch := omega) only [upd_ne, up2_ne, up2_eq])
                      · first | rfl | (intros; exact up2_ne (by omega)) | (intros; exact upd_ne (by omega)) | (intros; simp (disch := omega) only [upd_ne, up2_ne, up2_eq])
                      · first | rfl | (intros; exact up2_ne (by omega)) | (intros; exact upd_ne (by omega)) | (intros; simp (disch := omega) only [upd_ne, up2_ne, up2_eq])
                      · first | rfl | (intros; exact up2_ne (by omega)) | (intros; exact upd_ne (by omega)) | (intros; simp (disch := omega) only [upd_ne, up2_ne, up2_eq])
                      · first | rfl | (intros; exact up2_ne (by omega)) | (intros; exact upd_ne (by omega)) | (intros; simp (disch := omega) only [upd_ne, up2_ne, up2_eq])
                      · simp (disch := omega) only [up2_eq, upd_eq]
                      · simp (disch := omega) only [upd_eq]
                      · by_cases hh : y = e
                        · subst hh
                          refine ⟨⟨r, k, m, hr, hk, m5, ?_, ?_, ?_⟩, ?_⟩
                          · simp (disch := omega) only [upd_ne]; exact m32
                          · simp (disch := omega) only [upd_ne, upd_eq]
                          · simp (disch := omega) only [upd_ne]; exact hb
                          · simp (disch := omega) only [upd_ne, upd_eq, up2_ne, up2_eq]
                            exact ⟨trivial, trivial, ⟨w, by omega, rfl⟩, trivial, nI_pos' hd, trivial, nI_pos' hq, Or.inl ⟨(hZ y (by omega) (by omega)).2.2.2.2, rfl⟩⟩
                        · refine (hE y (by omega)).cg hrd.1 (by omega) (fun j q1 q2 => ?_) (fun k q1 q2 => by simp (disch := omega) only [upd_ne]) (fun k q => by simp (disch := omega) only [upd_ne])
                          have hj : j = 9 ∨ j = 10 ∨ j = 11 ∨ j = 12 ∨ j = 13 := by omega
                          rcases hj with rfl | rfl | rfl | rfl | rfl
                          all_goals simp (disch := omega) only [up2_ne, up2_eq, upd_ne]
                      · simp (disch := omega) only [upd_ne]
                        exact hZ y (by omega) hy'
            · exact ⟨-2, g, g, by simp (disch := omega) only [bd2_s, bd_s, wr_s, ck_s, bz_s0, bz_s1, dz_s, nI_litS, nI_add, pk_mul, pk_sub, nI_leI, nI_ltI, nI_eq, ng_lt, ng_le, lt_ng, le_ng, eq_ng, ng_eq, ng_ngE, ng_ngL, ng_ngl, sub1_lt, sub1_ng, eq_self, if_pos, if_neg, if_true, if_false, Nat.zero_add, Nat.add_zero, f_X8_isTournament, f_X5_has, e1, ec, f_X8_tell], by simp (disch := omega) only [bd2_s, bd_s, wr_s, ck_s, bz_s0, bz_s1, dz_s, nI_litS, nI_add, pk_mul, pk_sub, nI_leI, nI_ltI, nI_eq, ng_lt, ng_le, lt_ng, le_ng, eq_ng, ng_eq, ng_ngE, ng_ngL, ng_ngl, sub1_lt, sub1_ng, eq_self, if_pos, if_neg, if_true, if_false, Nat.zero_add, Nat.add_zero, f_X9_isTournament, f_X9_isPlayer, f_X9_in, e2, em, f_X9_tell], hI⟩
          · exact ⟨-2, g, g, by simp (disch := omega) only [bd2_s, bd_s, wr_s, ck_s, bz_s0, bz_s1, dz_s, nI_litS, nI_add, pk_mul, pk_sub, nI_leI, nI_ltI, nI_eq, ng_lt, ng_le, lt_ng, le_ng, eq_ng, ng_eq, ng_ngE, ng_ngL, ng_ngl, sub1_lt, sub1_ng, eq_self, if_pos, if_neg, if_true, if_false, Nat.zero_add, Nat.add_zero, f_X8_isTournament, f_X5_has, e1, ec, f_X8_tell], by simp (disch := omega) only [bd2_s, bd_s, wr_s, ck_s, bz_s0, bz_s1, dz_s, nI_litS, nI_add, pk_mul, pk_sub, nI_leI, nI_ltI, nI_eq, ng_lt, ng_le, lt_ng, le_ng, eq_ng, ng_eq, ng_ngE, ng_ngL, ng_ngl, sub1_lt, sub1_ng, eq_self, if_pos, if_neg, if_true, if_false, Nat.zero_add, Nat.add_zero, f_X9_isTournament, f_X9_isPlayer, f_X9_in, e2, em, f_X9_tell], hI⟩
        · exact ⟨-2, g, g, by simp (disch := omega) only [bd2_s, bd_s, wr_s, ck_s, bz_s0, bz_s1, dz_s, nI_litS, nI_add, pk_mul, pk_sub, nI_leI, nI_ltI, nI_eq, ng_lt, ng_le, lt_ng, le_ng, eq_ng, ng_eq, ng_ngE, ng_ngL, ng_ngl, sub1_lt, sub1_ng, eq_self, if_pos, if_neg, if_true, if_false, Nat.zero_add, Nat.add_zero, f_X8_isTournament, f_X5_has, e1, ec, f_X8_tell], by simp (disch := omega) only [bd2_s, bd_s, wr_s, ck_s, bz_s0, bz_s1, dz_s, nI_litS, nI_add, pk_mul, pk_sub, nI_leI, nI_ltI, nI_eq, ng_lt, ng_le, lt_ng, le_ng, eq_ng, ng_eq, ng_ngE, ng_ngL, ng_ngl, sub1_lt, sub1_ng, eq_self, if_pos, if_neg, if_true, if_false, Nat.zero_add, Nat.add_zero, f_X9_isTournament, f_X9_isPlayer, f_X9_in, e2, em, f_X9_tell], hI⟩
      · exact ⟨-2, g, g, by simp (disch := omega) only [bd2_s, bd_s, wr_s, ck_s, bz_s0, bz_s1, dz_s, nI_litS, nI_add, pk_mul, pk_sub, nI_leI, nI_ltI, nI_eq, ng_lt, ng_le, lt_ng, le_ng, eq_ng, ng_eq, ng_ngE, ng_ngL, ng_ngl, sub1_lt, sub1_ng, eq_self, if_pos, if_neg, if_true, if_false, Nat.zero_add, Nat.add_zero, f_X8_isTournament, f_X5_has, e1, ec, f_X8_tell], by simp (disch := omega) only [bd2_s, bd_s, wr_s, ck_s, bz_s0, bz_s1, dz_s, nI_litS, nI_add, pk_mul, pk_sub, nI_leI, nI_ltI, nI_eq, ng_lt, ng_le, lt_ng, le_ng, eq_ng, ng_eq, ng_ngE, ng_ngL, ng_ngl, sub1_lt, sub1_ng, eq_self, if_pos, if_neg, if_true, if_false, Nat.zero_add, Nat.add_zero, f_X9_isTournament, f_X9_isPlayer, f_X9_in, e2, em, f_X9_tell], hI⟩
    · exact ⟨-2, g, g, by simp (disch := omega) only [bd2_s, bd_s, wr_s, ck_s, bz_s0, bz_s1, dz_s, nI_litS, nI_add, pk_mul, pk_sub, nI_leI, nI_ltI, nI_eq, ng_lt, ng_le, lt_ng, le_ng, eq_ng, ng_eq, ng_ngE, ng_ngL, ng_ngl, sub1_lt, sub1_ng, eq_self, if_pos, if_neg, if_true, if_false, Nat.zero_add, Nat.add_zero, f_X8_isTournament, f_X5_has, e1, ec, f_X8_tell], by simp (disch := omega) only [bd2_s, bd_s, wr_s, ck_s, bz_s0, bz_s1, dz_s, nI_litS, nI_add, pk_mul, pk_sub, nI_leI, nI_ltI, nI_eq, ng_lt, ng_le, lt_ng, le_ng, eq_ng, ng_eq, ng_ngE, ng_ngL, ng_ngl, sub1_lt, sub1_ng, eq_self, if_pos, if_neg, if_true, if_false, Nat.zero_add, Nat.add_zero, f_X9_isTournament, f_X9_isPlayer, f_X9_in, e2, em, f_X9_tell], hI⟩
  · exact ⟨-2, g, g, by simp (disch := omega) only [bd2_s, bd_s, wr_s, ck_s, bz_s0, bz_s1, dz_s, nI_litS, nI_add, pk_mul, pk_sub, nI_leI, nI_ltI, nI_eq, ng_lt, ng_le, lt_ng, le_ng, eq_ng, ng_eq, ng_ngE, ng_ngL, ng_ngl, sub1_lt, sub1_ng, eq_self, if_pos, if_neg, if_true, if_false, Nat.zero_add, Nat.add_zero, f_X8_isTournament, f_X5_has, e1, ec, f_X8_tell], by simp (disch := omega) only [bd2_s, bd_s, wr_s, ck_s, bz_s0, bz_s1, dz_s, nI_litS, nI_add, pk_mul, pk_sub, nI_leI, nI_ltI, nI_eq, ng_lt, ng_le, lt_ng, le_ng, eq_ng, ng_eq, ng_ngE, ng_ngL, ng_ngl, sub1_lt, sub1_ng, eq_self, if_pos, if_neg, if_true, if_false, Nat.zero_add, Nat.add_zero, f_X9_isTournament, f_X9_isPlayer, f_X9_in, e2, em, f_X9_tell], hI⟩
theorem sp_enter : Sp2 Inv f_X8_enter f_X9_enter := by
  refine Sp2.to (fun a1 a2 g hI => ?_)
  obtain ⟨np, nt, h24, h4, e1, e2, ec, em, es, hP, hT⟩ := hI.pre
  rcases i32_split a1 with ⟨t, ht, rfl⟩ | ⟨t, ht0, ht, rfl⟩
  · by_cases htn : t < nt
    · rcases i32_split a2 with ⟨p, hp, rfl⟩ | ⟨p, hp0, hp, rfl⟩
      · by_cases hpn : p < np
        · obtain ⟨n, dr, e, s0, hin, hsum, hrd, hen⟩ := hT t htn
          have h10 := hin.1
          have hd6 := hrd.1
          obtain ⟨k1, -, -, kd, hkd, ek⟩ := hP p hpn
          rw [ek] at k1
          have z1 := hin.2.1
          have z2 := hin.2.2.1
          have z3 := hrd.2.1
          have z4 := hrd.2.2.1
          rcases hin.who (p := p) (by omega) (by omega) with ⟨q1, q2⟩ | ⟨k, w, hk, hw, q1, q2, q3, q4⟩
          · have q2' := q2 g rfl
            by_cases hdr : dr = 0
            · subst hdr
              by_cases hn : n = 10
              · subst hn
                exact ⟨-4, g, g, by simp (disch := omega) only [bd2_s, bd_s, wr_s, ck_s, bz_s0, bz_s1, dz_s, nI_litS, nI_add, pk_mul, pk_sub, nI_leI, nI_ltI, nI_eq, ng_lt, ng_le, lt_ng, le_ng, eq_ng, ng_eq, ng_ngE, ng_ngL, ng_ngl, sub1_lt, sub1_ng, eq_self, if_pos, if_neg, if_true, if_false, Nat.zero_add, Nat.add_zero, f_X8_isTournament, f_X5_has, e1, ec, f_X8_enter, f_X7_hasIn, bk_0 g t, bk_j g t, q1, q2', f_X9_cell, rw_k g t, rw_0 g t, z1, z2, z3, z4], by simp (disch := omega) only [bd2_s, bd_s, wr_s, ck_s, bz_s0, bz_s1, dz_s, nI_litS, nI_add, pk_mul, pk_sub, nI_leI, nI_ltI, nI_eq, ng_lt, ng_le, lt_ng, le_ng, eq_ng, ng_eq, ng_ngE, ng_ngL, ng_ngl, sub1_lt, sub1_ng, eq_self, if_pos, if_neg, if_true, if_false, Nat.zero_add, Nat.add_zero, f_X9_isTournament, f_X9_isPlayer, f_X9_in, e2, em, f_X9_enter, f_X7_hasIn, bk_0 g t, bk_j g t, q1, q2', f_X9_cell, rw_k g t, rw_0 g t, z1, z2, z3, z4], hI⟩
              · by_cases hk4 : kd = 4
                · subst hk4
                  refine sp_met 3 (hI.eff _ _) ?_ ?_
                  · simp (disch := omega) only [bd2_s, bd_s, wr_s, ck_s, bz_s0, bz_s1, dz_s, nI_litS, nI_add, pk_mul, pk_sub, nI_leI, nI_ltI, nI_eq, ng_lt, ng_le, lt_ng, le_ng, eq_ng, ng_eq, ng_ngE, ng_ngL, ng_ngl, sub1_lt, sub1_ng, eq_self, if_pos, if_neg, if_true, if_false, Nat.zero_add, Nat.add_zero, f_X8_isTournament, f_X5_has, e1, ec, f_X8_enter, f_X7_hasIn, f_X5_isRated, bk_0 g t, bk_j g t, q1, z1, z3, k1, c_metS]
                  · have q2'' := q2 (cE [] (nI 3) g) cE_row
                    simp (disch := omega) only [bd2_s, bd_s, wr_s, ck_s, bz_s0, bz_s1, dz_s, nI_litS, nI_add, pk_mul, pk_sub, nI_leI, nI_ltI, nI_eq, ng_lt, ng_le, lt_ng, le_ng, eq_ng, ng_eq, ng_ngE, ng_ngL, ng_ngl, sub1_lt, sub1_ng, eq_self, if_pos, if_neg, if_true, if_false, Nat.zero_add, Nat.add_zero, f_X9_isTournament, f_X9_isPlayer, f_X9_in, e2, em, f_X9_enter, q2'', f_X9_cell, cE_r, rw_k g t, rw_0 g t, z2, z4, ek, m_metS]
                · let g1 : G := up2 (up2 (up2 g (47 + 28 * t + 2) p (nI 1)) (47 + 28 * t + 1) n (nI p)) (47 + 28 * t) 1 (nI (n + 1))
                  have hg1 : rowT g1 t = rowT g t := rowT_ne (by simp (disch := omega) only [g1, up2_ne])
                  have q2'' := q2 g1 hg1
                  have h165 : g1 165 = g 165 := by simp (disch := omega) only [g1, up2_ne]
                  have h159 : g1 159 = g 159 := by simp (disch := omega) only [g1, up2_ne]
                  have h161 : g1 161 = g 161 := by simp (disch := omega) only [g1, up2_ne]
                  refine ⟨nI (n + 1), g1, up2 (up2 g1 165 (412 * t + (1 + n)) (nI p)) 165 (412 * t) (nI (n + 1)), ?_, ?_, ?_⟩
                  · simp (disch := omega) only [bd2_s, bd_s, wr_s, ck_s, bz_s0, bz_s1, dz_s, nI_litS, nI_add, pk_mul, pk_sub, nI_leI, nI_ltI, nI_eq, ng_lt, ng_le, lt_ng, le_ng, eq_ng, ng_eq, ng_ngE, ng_ngL, ng_ngl, sub1_lt, sub1_ng, eq_self, if_pos, if_neg, if_true, if_false, Nat.zero_add, Nat.add_zero, f_X8_isTournament, f_X5_has, e1, ec, f_X8_enter, f_X7_hasIn, f_X5_isRated, f_X7_letIn, bk_0 g t, bk_j g t, q1, z1, z3, k1, up2_ne, up2_eq, upd_eq]
                    rfl
                  · simp (disch := omega) only [bd2_s, bd_s, wr_s, ck_s, bz_s0, bz_s1, dz_s, nI_litS, nI_add, pk_mul, pk_sub, nI_leI, nI_ltI, nI_eq, ng_lt, ng_le, lt_ng, le_ng, eq_ng, ng_eq, ng_ngE, ng_ngL, ng_ngl, sub1_lt, sub1_ng, eq_self, if_pos, if_neg, if_true, if_false, Nat.zero_add, Nat.add_zero, f_X9_isTournament, f_X9_isPlayer, f_X9_in, e2, em, f_X9_enter, q2'', f_X9_cell, f_X9_lay, h159, h165, h161, up2_eq, upd_ne, upd_eq, rw_k g t, rw_0 g t, z2, z4, ek]
                  · refine hI.at e2 h24 ec h4 htn (fun a q1 q2 => by simp (disch := omega) only [g1, up2_ne]) (fun k q => by simp (disch := omega) only [g1, up2_ne, up2_eq, upd_ne]) ?_
                    simp (disch := omega) only [rowT_set, rowT_set0, hg1]
                    simp (disch := omega) only [g1, blkT_off, blkT_set, blkT_set0]
                    refine ⟨n + 1, 0, e, ?_, ?_, hsum.cg ?_ ?_, ⟨by omega, z3, ?_, fun r hr => absurd hr (Nat.not_lt_zero r), fun r h1 h2 => ?_⟩, hen.cg hrd.1 ?_ ?_ ?_⟩
                    · simp (disch := omega) only [upd_ne]; exact s0
                    · obtain ⟨h1, h2, h3, h4, h5, h6, h7, h8⟩ := hin
                      have hne : ∀ k, k < n → rowT g t (1 + k) ≠ nI p := by
                        intro k hk hkp
                        rcases h8 p (by omega) with ⟨r1, r2⟩ | ⟨i, r1, r2, r3⟩
                        · exact r2 k hk hkp
                        · rw [q1] at r3
                          rcases h6 i r1 with e | e
                          · rw [e] at r3; exact absurd r3 (by decide)
                          · rw [e] at r3; exact absurd r3 (by decide)
                      refine ⟨by omega, ?_, ?_, fun i hi => ?_, fun i j hi hj q => ?_, fun i hi => ?_, fun i hi hi' => ?_, fun q hq => ?_⟩
                      · simp (disch := omega) only [up2_eq, upd_eq]
                      · simp (disch := omega) only [upd_eq]
                      · by_cases hh : i = n
                        · subst hh
                          simp (disch := omega) only [up2_ne, up2_eq, upd_eq, upd_ne]
                          exact ⟨trivial, p, hpn, rfl, by rw [ek]; exact nI_ne (by omega) (by decide) hk4⟩
                        · simp (disch := omega) only [up2_ne, up2_eq, upd_eq, upd_ne]
                          exact h4 i (by omega)
                      · by_cases hi' : i = n
                        · subst hi'
                          by_cases hj' : j = i
                          · exact hj'.symm
                          · exfalso
                            simp (disch := omega) only [upd_ne, upd_eq] at q
                            exact hne j (by omega) q.symm
                        · by_cases hj' : j = n
                          · subst hj'
                            exfalso
                            simp (disch := omega) only [upd_ne, upd_eq] at q
                            exact hne i (by omega) q
                          · simp (disch := omega) only [upd_ne] at q
                            exact h5 i j (by omega) (by omega) q
                      · simp (disch := omega) only [upd_ne]
                        by_cases hh : i = n
                        · subst hh
                          exact Or.inl (h7 i (by omega) (by omega)).2
                        · exact h6 i (by omega)
                      · simp (disch := omega) only [upd_ne]
                        exact h7 i (by omega) hi'
                      · simp (disch := omega) only [up2_ne, up2_eq]
                        by_cases hh : q = p
                        · subst hh
                          right
                          refine ⟨n, by omega, by simp (disch := omega) only [upd_ne, upd_eq], ?_⟩
                          simp (disch := omega) only [upd_ne, upd_eq]
                          rw [(h7 n (by omega) (by omega)).2]
                          rfl
                        · rw [upd_ne hh]
                          rcases h8 q hq with ⟨r1, r2⟩ | ⟨i, r1, r2, r3⟩
                          · left
                            refine ⟨r1, fun i hi => ?_⟩
                            by_cases hh2 : i = n
                            · subst hh2
                              simp (disch := omega) only [upd_ne, upd_eq]
                              exact nI_ne (by omega) (by omega) (Ne.symm hh)
                            · simp (disch := omega) only [upd_ne]
                              exact r2 i (by omega)
                          · right
                            refine ⟨i, by omega, ?_, ?_⟩
                            · simp (disch := omega) only [upd_ne]; exact r2
                            · simp (disch := omega) only [upd_ne]; exact r3
                    · first | rfl | (intros; exact up2_ne (by omega)) | (intros; exact upd_ne (by omega)) | (intros; simp (disch := omega) only [upd_ne, up2_ne, up2_eq])
                    · first | rfl | (intros; exact up2_ne (by omega)) | (intros; exact upd_ne (by omega)) | (intros; simp (disch := omega) only [upd_ne, up2_ne, up2_eq])
                    · simp (disch := omega) only [upd_ne]; exact z4
                    · simp (disch := omega) only [upd_ne]
                      refine ⟨(hrd.2.2.2.2 r (by omega) h2).1, (hrd.2.2.2.2 r (by omega) h2).2.1, (hrd.2.2.2.2 r (by omega) h2).2.2.1, (hrd.2.2.2.2 r (by omega) h2).2.2.2.1, fun k hk => ?_⟩
                      exact (hrd.2.2.2.2 r (by omega) h2).2.2.2.2 k hk
                    all_goals first | rfl | (intros; exact up2_ne (by omega)) | (intros; exact upd_ne (by omega)) | (intros; simp (disch := omega) only [upd_ne, up2_ne, up2_eq])
            · exact ⟨-3, g, g, by simp (disch := omega) only [bd2_s, bd_s, wr_s, ck_s, bz_s0, bz_s1, dz_s, nI_litS, nI_add, pk_mul, pk_sub, nI_leI, nI_ltI, nI_eq, ng_lt, ng_le, lt_ng, le_ng, eq_ng, ng_eq, ng_ngE, ng_ngL, ng_ngl, sub1_lt, sub1_ng, eq_self, if_pos, if_neg, if_true, if_false, Nat.zero_add, Nat.add_zero, f_X8_isTournament, f_X5_has, e1, ec, f_X8_enter, f_X7_hasIn, bk_0 g t, bk_j g t, q1, q2', f_X9_cell, rw_k g t, rw_0 g t, z1, z2, z3, z4], by simp (disch := omega) only [bd2_s, bd_s, wr_s, ck_s, bz_s0, bz_s1, dz_s, nI_litS, nI_add, pk_mul, pk_sub, nI_leI, nI_ltI, nI_eq, ng_lt, ng_le, lt_ng, le_ng, eq_ng, ng_eq, ng_ngE, ng_ngL, ng_ngl, sub1_lt, sub1_ng, eq_self, if_pos, if_neg, if_true, if_false, Nat.zero_add, Nat.add_zero, f_X9_isTournament, f_X9_isPlayer, f_X9_in, e2, em, f_X9_enter, f_X7_hasIn, bk_0 g t, bk_j g t, q1, q2', f_X9_cell, rw_k g t, rw_0 g t, z1, z2, z3, z4], hI⟩
          · have q4' := q4 g rfl
            exact ⟨-3, g, g, by simp (disch := omega) only [bd2_s, bd_s, wr_s, ck_s, bz_s0, bz_s1, dz_s, nI_litS, nI_add, pk_mul, pk_sub, nI_leI, nI_ltI, nI_eq, ng_lt, ng_le, lt_ng, le_ng, eq_ng, ng_eq, ng_ngE, ng_ngL, ng_ngl, sub1_lt, sub1_ng, eq_self, if_pos, if_neg, if_true, if_false, Nat.zero_add, Nat.add_zero, f_X8_isTournament, f_X5_has, e1, ec, f_X8_enter, f_X7_hasIn, bk_0 g t, bk_j g t, q3, q4', f_X9_cell, rw_k g t, rw_0 g t], by simp (disch := omega) only [bd2_s, bd_s, wr_s, ck_s, bz_s0, bz_s1, dz_s, nI_litS, nI_add, pk_mul, pk_sub, nI_leI, nI_ltI, nI_eq, ng_lt, ng_le, lt_ng, le_ng, eq_ng, ng_eq, ng_ngE, ng_ngL, ng_ngl, sub1_lt, sub1_ng, eq_self, if_pos, if_neg, if_true, if_false, Nat.zero_add, Nat.add_zero, f_X9_isTournament, f_X9_isPlayer, f_X9_in, e2, em, f_X9_enter, f_X7_hasIn, bk_0 g t, bk_j g t, q3, q4', f_X9_cell, rw_k g t, rw_0 g t], hI⟩
        · exact ⟨-2, g, g, by simp (disch := omega) only [bd2_s, bd_s, wr_s, ck_s, bz_s0, bz_s1, dz_s, nI_litS, nI_add, pk_mul, pk_sub, nI_leI, nI_ltI, nI_eq, ng_lt, ng_le, lt_ng, le_ng, eq_ng, ng_eq, ng_ngE, ng_ngL, ng_ngl, sub1_lt, sub1_ng, eq_self, if_pos, if_neg, if_true, if_false, Nat.zero_add, Nat.add_zero, f_X8_isTournament, f_X5_has, e1, ec, f_X8_enter], by simp (disch := omega) only [bd2_s, bd_s, wr_s, ck_s, bz_s0, bz_s1, dz_s, nI_litS, nI_add, pk_mul, pk_sub, nI_leI, nI_ltI, nI_eq, ng_lt, ng_le, lt_ng, le_ng, eq_ng, ng_eq, ng_ngE, ng_ngL, ng_ngl, sub1_lt, sub1_ng, eq_self, if_pos, if_neg, if_true, if_false, Nat.zero_add, Nat.add_zero, f_X9_isTournament, f_X9_isPlayer, f_X9_in, e2, em, f_X9_enter], hI⟩
      · exact ⟨-2, g, g, by simp (disch := omega) only [bd2_s, bd_s, wr_s, ck_s, bz_s0, bz_s1, dz_s, nI_litS, nI_add, pk_mul, pk_sub, nI_leI, nI_ltI, nI_eq, ng_lt, ng_le, lt_ng, le_ng, eq_ng, ng_eq, ng_ngE, ng_ngL, ng_ngl, sub1_lt, sub1_ng, eq_self, if_pos, if_neg, if_true, if_false, Nat.zero_add, Nat.add_zero, f_X8_isTournament, f_X5_has, e1, ec, f_X8_enter], by simp (disch := omega) only [bd2_s, bd_s, wr_s, ck_s, bz_s0, bz_s1, dz_s, nI_litS, nI_add, pk_mul, pk_sub, nI_leI, nI_ltI, nI_eq, ng_lt, ng_le, lt_ng, le_ng, eq_ng, ng_eq, ng_ngE, ng_ngL, ng_ngl, sub1_lt, sub1_ng, eq_self, if_pos, if_neg, if_true, if_false, Nat.zero_add, Nat.add_zero, f_X9_isTournament, f_X9_isPlayer, f_X9_in, e2, em, f_X9_enter], hI⟩
    · exact ⟨-2, g, g, by simp (disch := omega) only [bd2_s, bd_s, wr_s, ck_s, bz_s0, bz_s1, dz_s, nI_litS, nI_add, pk_mul, pk_sub, nI_leI, nI_ltI, nI_eq, ng_lt, ng_le, lt_ng, le_ng, eq_ng, ng_eq, ng_ngE, ng_ngL, ng_ngl, sub1_lt, sub1_ng, eq_self, if_pos, if_neg, if_true, if_false, Nat.zero_add, Nat.add_zero, f_X8_isTournament, f_X5_has, e1, ec, f_X8_enter], by simp (disch := omega) only [bd2_s, bd_s, wr_s, ck_s, bz_s0, bz_s1, dz_s, nI_litS, nI_add, pk_mul, pk_sub, nI_leI, nI_ltI, nI_eq, ng_lt, ng_le, lt_ng, le_ng, eq_ng, ng_eq, ng_ngE, ng_ngL, ng_ngl, sub1_lt, sub1_ng, eq_self, if_pos, if_neg, if_true, if_false, Nat.zero_add, Nat.add_zero, f_X9_isTournament, f_X9_isPlayer, f_X9_in, e2, em, f_X9_enter], hI⟩
  · exact ⟨-2, g, g, by simp (disch := omega) only [bd2_s, bd_s, wr_s, ck_s, bz_s0, bz_s1, dz_s, nI_litS, nI_add, pk_mul, pk_sub, nI_leI, nI_ltI, nI_eq, ng_lt, ng_le, lt_ng, le_ng, eq_ng, ng_eq, ng_ngE, ng_ngL, ng_ngl, sub1_lt, sub1_ng, eq_self, if_pos, if_neg, if_true, if_false, Nat.zero_add, Nat.add_zero, f_X8_isTournament, f_X5_has, e1, ec, f_X8_enter], by simp (disch := omega) only [bd2_s, bd_s, wr_s, ck_s, bz_s0, bz_s1, dz_s, nI_litS, nI_add, pk_mul, pk_sub, nI_leI, nI_ltI, nI_eq, ng_lt, ng_le, lt_ng, le_ng, eq_ng, ng_eq, ng_ngE, ng_ngL, ng_ngl, sub1_lt, sub1_ng, eq_self, if_pos, if_neg, if_true, if_false, Nat.zero_add, Nat.add_zero, f_X9_isTournament, f_X9_isPlayer, f_X9_in, e2, em, f_X9_enter], hI⟩
