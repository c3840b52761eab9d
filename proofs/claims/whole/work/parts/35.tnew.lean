/-! The call tournament; frames for scratch cells. -/
theorem Inv.cg {g g' : G} (h : Inv g) (x : ∀ a, (0 < a ∧ a < 8 ∨ 42 ≤ a ∧ a < 47 ∨ 160 ≤ a ∧ a < 165 ∨ 171 ≤ a ∧ a < 174 ∨ a = 184) → g' a = g a) (e0 : g' 0 11 = g 0 11) (y : ∀ k, (k ≤ 3 ∨ (21 ≤ k ∧ k ≤ 25) ∨ k = 42) → g' 159 k = g 159 k) (htr : J_tr g') : Inv g' := by
  obtain ⟨i1, i2, i3, i4, i5, i6, i7⟩ := h
  refine ⟨i1.cg (by rw [x 3 (by omega)]) (x 4 (by omega)) (x 5 (by omega)) (x 6 (by omega)) (x 7 (by omega)) (y 3 (by omega)) (x 161 (by omega)) (x 162 (by omega)) (x 163 (by omega)) (x 164 (by omega)),
    i2.cg (x 1 (by omega)) (x 2 (by omega)) (y 2 (by omega)) (y 0 (by omega)) (x 160 (by omega)),
    i3.cg (x 42 (by omega)) (x 43 (by omega)) (x 44 (by omega)) (x 171 (by omega)) (x 172 (by omega)) (x 173 (by omega)),
    i4.cg (x 45 (by omega)) (fun k _ _ => y k (by omega)),
    i5.cg e0 (x 46 (by omega)) (y 42 (by omega)) (x 184 (by omega)), htr, (y 25 (by omega)).trans i7⟩
/-- scratch: the class's 15 to 41, the model's 174 to 183 and some fields -/
def Scr (g g' : G) : Prop := (∀ a, ¬ (15 ≤ a ∧ a ≤ 41) → ¬ (174 ≤ a ∧ a ≤ 183) → a ≠ 159 → g' a = g a) ∧ ∀ k, ¬ (30 ≤ k ∧ k ≤ 34) → g' 159 k = g 159 k
theorem Inv.scr {g g' : G} (h : Inv g) (s : Scr g g') : Inv g' := by
  obtain ⟨s1, s2⟩ := s
  refine h.cg (fun a q => s1 a (by omega) (by omega) (by omega)) (by rw [s1 0 (by omega) (by omega) (by omega)]) (fun k q => s2 k (by omega)) ?_
  exact h.2.2.2.2.2.1.off (s2 3 (by omega)) (by rw [s1 0 (by omega) (by omega) (by omega)]) (s2 8 (by omega)) (by rw [s1 0 (by omega) (by omega) (by omega)]) (s2 10 (by omega)) (s1 161 (by omega) (by omega) (by omega)) (s1 165 (by omega) (by omega) (by omega)) (fun a q1 q2 => s1 a (by omega) (by omega) (by omega))
theorem Scr.rfl {g : G} : Scr g g := ⟨fun _ _ _ _ => Eq.refl _, fun _ _ => Eq.refl _⟩
theorem Scr.trans {g g' g'' : G} (h : Scr g g') (h' : Scr g' g'') : Scr g g'' := ⟨fun a q1 q2 q3 => (h'.1 a q1 q2 q3).trans (h.1 a q1 q2 q3), fun k q => (h'.2 k q).trans (h.2 k q)⟩
theorem Scr.row {g g' : G} (h : Scr g g') (t : Nat) : rowT g' t = rowT g t := rowT_ne (h.1 165 (by omega) (by omega) (by omega))
theorem Scr.blk {g g' : G} (h : Scr g g') {t : Nat} (ht : t < 4) : blkT g' t = blkT g t := blkT_ne (fun j hj => h.1 _ (by omega) (by omega) (by omega))
-- filling a row
def fl (g : G) (a n : Nat) (v : Int32) : G := up1 g a (fun k => if k < n then v else g a k)
theorem fl_ne {g : G} {a b n : Nat} {v : Int32} (h : b ≠ a) : fl g a n v b = g b := up1_ne h
theorem fl_in {g : G} {a n k : Nat} {v : Int32} (h : k < n) : fl g a n v a k = v := by
  unfold fl
  rw [up1_eq, if_pos h]
theorem fl_out {g : G} {a n k : Nat} {v : Int32} (h : n ≤ k) : fl g a n v a k = g a k := by
  unfold fl
  rw [up1_eq, if_neg (by omega)]
theorem fl_0 {g : G} {a : Nat} {v : Int32} : fl g a 0 v = g := by
  funext b
  by_cases h : b = a
  · subst h
    funext k
    exact fl_out (Nat.zero_le k)
  · exact fl_ne h
theorem fl_s {g : G} {a n : Nat} {v : Int32} : up2 (fl g a n v) a n v = fl g a (n + 1) v := by
  funext b
  by_cases h : b = a
  · subst h
    funext k
    rw [up2_eq]
    by_cases hk : k = n
    · subst hk
      rw [upd_eq, fl_in (by omega)]
    · rw [upd_ne hk]
      by_cases hk2 : k < n
      · rw [fl_in hk2, fl_in (by omega)]
      · rw [fl_out (by omega), fl_out (by omega)]
  · rw [up2_ne h, fl_ne h, fl_ne h]
theorem j_fill {a n : Nat} {v : Int32} {g : G} (hn : n < 1000) : f_J7_fill_53178 a n v g = some (nI 0, fl g a n v) := by
  unfold f_J7_fill_53178
  refine q_bd (a := fl g a n v) ?_ rfl
  refine q_lp (fun i => (nI i, fl g a i v)) n (fun i hi => ?_) ?_ (by omega) (by rw [fl_0]; rfl)
  · simp (disch := omega) only [bd2_s, bd_s, wr_s, ck_s, bz_s0, bz_s1, dz_s, nI_litS, nI_add, pk_mul, pk_sub, nI_leI, nI_ltI, nI_eq, ng_lt, ng_le, lt_ng, le_ng, eq_ng, ng_eq, ng_ngE, ng_ngL, ng_ngl, sub1_lt, sub1_ng, eq_self, if_pos, if_neg, if_true, if_false, Nat.zero_add, Nat.add_zero, fl_s]
  · simp (disch := omega) only [bd2_s, bd_s, wr_s, ck_s, bz_s0, bz_s1, dz_s, nI_litS, nI_add, pk_mul, pk_sub, nI_leI, nI_ltI, nI_eq, ng_lt, ng_le, lt_ng, le_ng, eq_ng, ng_eq, ng_ngE, ng_ngL, ng_ngl, sub1_lt, sub1_ng, eq_self, if_pos, if_neg, if_true, if_false, Nat.zero_add, Nat.add_zero]
-- filling a part of a row of the model
def fr (g : G) (a s n : Nat) (v : Int32) : G := up1 g a (fun k => if s ≤ k ∧ k < s + n then v else g a k)
theorem fr_ne {g : G} {a b s n : Nat} {v : Int32} (h : b ≠ a) : fr g a s n v b = g b := up1_ne h
theorem fr_in {g : G} {a s n k : Nat} {v : Int32} (h : s ≤ k) (h2 : k < s + n) : fr g a s n v a k = v := by
  unfold fr
  rw [up1_eq, if_pos ⟨h, h2⟩]
theorem fr_out {g : G} {a s n k : Nat} {v : Int32} (h : k < s ∨ s + n ≤ k) : fr g a s n v a k = g a k := by
  unfold fr
  rw [up1_eq, if_neg (by omega)]
theorem fr_0 {g : G} {a s : Nat} {v : Int32} : fr g a s 0 v = g := by
  funext b
  by_cases h : b = a
  · subst h
    funext k
    exact fr_out (by omega)
  · exact fr_ne h
theorem fr_s {g : G} {a s n : Nat} {v : Int32} : up2 (fr g a s n v) a (s + n) v = fr g a s (n + 1) v := by
  funext b
  by_cases h : b = a
  · subst h
    funext k
    rw [up2_eq]
    by_cases hk : k = s + n
    · subst hk
      rw [upd_eq, fr_in (by omega) (by omega)]
    · rw [upd_ne hk]
      by_cases hk2 : s ≤ k ∧ k < s + n
      · rw [fr_in hk2.1 hk2.2, fr_in (by omega) (by omega)]
      · rw [fr_out (by omega), fr_out (by omega)]
  · rw [up2_ne h, fr_ne h, fr_ne h]
/-- a new row of the model -/
def nwE (g : G) (t : Nat) : G := up2 (up2 (up2 (fr g 165 (412 * t) 412 (nI 0)) 159 10 (g 159 10 + nI 1)) 165 (412 * t + 411) (g 159 10 + nI 1)) 159 8 (nI (t + 1))
theorem m_another {t : Nat} {g : G} (ht : t < 4) (e : g 159 8 = nI t) : f_X9_another g = some (nI t, nwE g t) := by
  unfold f_X9_another
  refine q_bd (a := fr g 165 (412 * t) 412 (nI 0)) ?_ ?_
  · refine q_lp (fun i => (nI i, fr g 165 (412 * t) i (nI 0))) 412 (fun i hi => ?_) ?_ (by omega) (by rw [fr_0]; rfl)
    · simp (disch := omega) only [bd2_s, bd_s, wr_s, ck_s, bz_s0, bz_s1, dz_s, nI_litS, nI_add, pk_mul, pk_sub, nI_leI, nI_ltI, nI_eq, ng_lt, ng_le, lt_ng, le_ng, eq_ng, ng_eq, ng_ngE, ng_ngL, ng_ngl, sub1_lt, sub1_ng, eq_self, if_pos, if_neg, if_true, if_false, Nat.zero_add, Nat.add_zero, f_X9_lay, e, fr_s]
    · simp (disch := omega) only [bd2_s, bd_s, wr_s, ck_s, bz_s0, bz_s1, dz_s, nI_litS, nI_add, pk_mul, pk_sub, nI_leI, nI_ltI, nI_eq, ng_lt, ng_le, lt_ng, le_ng, eq_ng, ng_eq, ng_ngE, ng_ngL, ng_ngl, sub1_lt, sub1_ng, eq_self, if_pos, if_neg, if_true, if_false, Nat.zero_add, Nat.add_zero]
  · simp (disch := omega) only [bd2_s, bd_s, wr_s, ck_s, bz_s0, bz_s1, dz_s, nI_litS, nI_add, pk_mul, pk_sub, nI_leI, nI_ltI, nI_eq, ng_lt, ng_le, lt_ng, le_ng, eq_ng, ng_eq, ng_ngE, ng_ngL, ng_ngl, sub1_lt, sub1_ng, eq_self, if_pos, if_neg, if_true, if_false, Nat.zero_add, Nat.add_zero, f_X9_lay, e, fr_ne, up2_ne, up2_eq, upd_eq, upd_ne]
    rfl
/-- a new block of the class -/
def clE (g : G) (t : Nat) : G := fl (fl (up2 (up2 (up2 g (47 + 28 * t) 1 (nI 0)) (47 + 28 * t) 2 (nI 0)) (47 + 28 * t) 3 (nI 0)) (47 + 28 * t + 2) 24 (nI 0)) (47 + 28 * t + 3) 5 (nI 0)
theorem c_clear {t : Nat} {g : G} : f_X7_clear (47 + 28 * t) g = some (nI 0, clE g t) := by
  simp (disch := omega) only [bd2_s, bd_s, wr_s, ck_s, bz_s0, bz_s1, dz_s, nI_litS, nI_add, pk_mul, pk_sub, nI_leI, nI_ltI, nI_eq, ng_lt, ng_le, lt_ng, le_ng, eq_ng, ng_eq, ng_ngE, ng_ngL, ng_ngl, sub1_lt, sub1_ng, eq_self, if_pos, if_neg, if_true, if_false, Nat.zero_add, Nat.add_zero, f_X7_clear, j_fill]
  rfl
theorem clE_ne {g : G} {t a : Nat} (h : a ≠ 47 + 28 * t) (h2 : a ≠ 47 + 28 * t + 2) (h3 : a ≠ 47 + 28 * t + 3) : clE g t a = g a := by
  unfold clE
  simp (disch := omega) only [fl_ne, up2_ne]
def opE (g : G) (t : Nat) : G := up2 (up2 (up2 g 0 14 (g 0 14 + nI 1)) (47 + 28 * t) 0 (g 0 14 + nI 1)) 0 12 (nI (t + 1))
theorem c_open {t : Nat} {g : G} (ht : t < 4) (e : g 0 12 = nI t) : f_X8_openNext g = some (nI t, opE g t) := by
  have e1 : t + 1 - 1 = t := by omega
  simp (disch := omega) only [bd2_s, bd_s, wr_s, ck_s, bz_s0, bz_s1, dz_s, nI_litS, nI_add, pk_mul, pk_sub, nI_leI, nI_ltI, nI_eq, ng_lt, ng_le, lt_ng, le_ng, eq_ng, ng_eq, ng_ngE, ng_ngL, ng_ngl, sub1_lt, sub1_ng, eq_self, if_pos, if_neg, if_true, if_false, Nat.zero_add, Nat.add_zero, f_X8_openNext, up2_ne, up2_eq, upd_eq, upd_ne, e, e1]
  rfl
/-- one tournament more: block and row nt are told, the others stay -/
theorem Inv.more {g g' : G} {np nt : Nat} (h : Inv g) (e0 : g 159 3 = nI np) (h24 : np ≤ 24) (e1 : g 0 12 = nI nt) (h4 : nt < 4) (x : ∀ a, ¬ (47 + 28 * nt ≤ a ∧ a < 61 + 28 * nt) → a ≠ 165 → a ≠ 0 → a ≠ 159 → g' a = g a) (x0 : g' 0 11 = g 0 11) (y : ∀ k, k ≠ 8 → k ≠ 10 → g' 159 k = g 159 k)
    (c12 : g' 0 12 = nI (nt + 1)) (m8 : g' 159 8 = nI (nt + 1)) (c14 : g' 0 14 = g' 159 10) (er : ∀ k, ¬ (412 * nt ≤ k ∧ k < 412 * nt + 412) → g' 165 k = g 165 k) (hn : T_t np (g 161) (blkT g' nt) (rowT g' nt)) : Inv g' := by
  obtain ⟨np0, nt0, h1, h2, h3, h4', h5, h6, h7⟩ := h.2.2.2.2.2.1
  have hnp : np0 = np := nI_inj (by omega) (by omega) (h1.symm.trans e0)
  subst hnp
  have hnt : nt0 = nt := nI_inj (by omega) (by omega) (h4'.symm.trans e1)
  subst hnt
  refine h.cg (fun a q => x a (by omega) (by omega) (by omega) (by omega)) x0 (fun k q => y k (by omega) (by omega)) ⟨np0, nt0 + 1, (y 3 (by omega) (by omega)).trans h1, h2, by omega, c12, m8, c14, fun u hu => ?_⟩
  rw [x 161 (by omega) (by omega) (by omega) (by omega)]
  by_cases e : u = nt0
  · subst e; exact hn
  · have q1 : rowT g' u = rowT g u := by
      funext k
      unfold rowT
      by_cases hk : k < 412
      · rw [if_pos hk, if_pos hk, er _ (by omega)]
      · rw [if_neg hk, if_neg hk]
    rw [q1, blkT_ne (fun j hj => x _ (by omega) (by omega) (by omega) (by omega))]
    exact h7 u (by omega)
theorem sp_tournament : Sp0 Inv f_X8_tournament f_X9_tournament := by
  refine Sp0.to (fun g hI => ?_)
  obtain ⟨np, nt, h24, h4, e1, e2, ec, em, es, hP, hT⟩ := hI.pre
  by_cases hn : nt = 4
  · subst hn
    exact ⟨-4, g, g, by simp (disch := omega) only [bd2_s, bd_s, wr_s, ck_s, bz_s0, bz_s1, dz_s, nI_litS, nI_add, pk_mul, pk_sub, nI_leI, nI_ltI, nI_eq, ng_lt, ng_le, lt_ng, le_ng, eq_ng, ng_eq, ng_ngE, ng_ngL, ng_ngl, sub1_lt, sub1_ng, eq_self, if_pos, if_neg, if_true, if_false, Nat.zero_add, Nat.add_zero, f_X8_isTournament, f_X5_has, e1, ec, f_X8_tournament], by simp (disch := omega) only [bd2_s, bd_s, wr_s, ck_s, bz_s0, bz_s1, dz_s, nI_litS, nI_add, pk_mul, pk_sub, nI_leI, nI_ltI, nI_eq, ng_lt, ng_le, lt_ng, le_ng, eq_ng, ng_eq, ng_ngE, ng_ngL, ng_ngl, sub1_lt, sub1_ng, eq_self, if_pos, if_neg, if_true, if_false, Nat.zero_add, Nat.add_zero, f_X9_isTournament, f_X9_isPlayer, f_X9_in, e2, em, f_X9_tournament], hI⟩
  · have c12 : clE g nt 0 12 = nI nt := by rw [clE_ne (by omega) (by omega) (by omega)]; exact ec
    have c14 : clE g nt 0 14 = g 159 10 := by rw [clE_ne (by omega) (by omega) (by omega)]; exact es
    have x8 : opE (clE g nt) nt 159 = g 159 := by
      unfold opE
      simp (disch := omega) only [up2_ne, clE_ne]
    refine ⟨nI nt, opE (clE g nt) nt, nwE (opE (clE g nt) nt) nt, ?_, ?_, ?_⟩
    · have q := c_open (t := nt) (g := clE g nt) (by omega) c12
      simp (disch := omega) only [bd2_s, bd_s, wr_s, ck_s, bz_s0, bz_s1, dz_s, nI_litS, nI_add, pk_mul, pk_sub, nI_leI, nI_ltI, nI_eq, ng_lt, ng_le, lt_ng, le_ng, eq_ng, ng_eq, ng_ngE, ng_ngL, ng_ngl, sub1_lt, sub1_ng, eq_self, if_pos, if_neg, if_true, if_false, Nat.zero_add, Nat.add_zero, f_X8_isTournament, f_X5_has, e1, ec, f_X8_tournament, c_clear, q]
    · have q := m_another (t := nt) (g := opE (clE g nt) nt) (by omega) (by rw [x8]; exact em)
      simp (disch := omega) only [bd2_s, bd_s, wr_s, ck_s, bz_s0, bz_s1, dz_s, nI_litS, nI_add, pk_mul, pk_sub, nI_leI, nI_ltI, nI_eq, ng_lt, ng_le, lt_ng, le_ng, eq_ng, ng_eq, ng_ngE, ng_ngL, ng_ngl, sub1_lt, sub1_ng, eq_self, if_pos, if_neg, if_true, if_false, Nat.zero_add, Nat.add_zero, f_X9_isTournament, f_X9_isPlayer, f_X9_in, e2, em, f_X9_tournament, x8, q]
    · have y165 : ∀ k, nwE (opE (clE g nt) nt) nt 165 (412 * nt + k) = if k < 411 then nI 0 else if k = 411 then g 159 10 + nI 1 else g 165 (412 * nt + k) := by
        intro k
        unfold nwE
        rw [x8]
        by_cases h1 : k < 411
        · simp (disch := omega) only [up2_ne, up2_eq, upd_ne, fr_in, if_pos]
        · by_cases h2 : k = 411
          · subst h2
            simp (disch := omega) only [up2_ne, up2_eq, upd_eq, if_neg, if_pos, if_true]
          · simp (disch := omega) only [up2_ne, up2_eq, upd_ne, fr_out, if_neg]
            unfold opE
            simp (disch := omega) only [up2_ne, clE_ne]
      have yR : ∀ k, k < 411 → rowT (nwE (opE (clE g nt) nt) nt) nt k = nI 0 := by
        intro k hk
        rw [rowT_get (by omega), y165, if_pos hk]
      refine hI.more e2 h24 ec (by omega) (fun a q1 q2 q3 q4 => ?_) ?_ (fun k q1 q2 => ?_) ?_ ?_ ?_ (fun k q => ?_) ?_
      · unfold nwE opE
        simp (disch := omega) only [up2_ne, fr_ne, clE_ne]
      · unfold nwE opE
        simp (disch := omega) only [up2_ne, up2_eq, upd_ne, fr_ne, clE_ne]
      · unfold nwE
        simp (disch := omega) only [up2_ne, up2_eq, upd_ne, fr_ne]
        rw [x8]
      · unfold nwE opE
        simp (disch := omega) only [up2_ne, up2_eq, upd_eq, fr_ne]
      · unfold nwE
        simp (disch := omega) only [up2_eq, upd_eq]
      · unfold nwE
        rw [x8]
        unfold opE
        simp (disch := omega) only [up2_ne, up2_eq, upd_eq, upd_ne, fr_ne]
        rw [c14]
      · unfold nwE opE
        simp (disch := omega) only [up2_ne, up2_eq, upd_ne, fr_out, clE_ne]
      · have b0 : ∀ j, j < 14 → blkT (nwE (opE (clE g nt) nt) nt) nt j = opE (clE g nt) nt (47 + 28 * nt + j) := by
          intro j hj
          rw [blkT_get hj]
          unfold nwE
          simp (disch := omega) only [up2_ne, fr_ne]
        have b1 : ∀ k, 0 < k → k < 4 → blkT (nwE (opE (clE g nt) nt) nt) nt 0 k = nI 0 := by
          intro k h1 h2
          rw [b0 0 (by omega)]
          unfold opE clE
          have : k = 1 ∨ k = 2 ∨ k = 3 := by omega
          rcases this with rfl | rfl | rfl
          all_goals simp (disch := omega) only [up2_ne, up2_eq, upd_ne, upd_eq, fl_ne, Nat.add_zero]
        refine ⟨0, 0, 0, ?_, ⟨by omega, ?_, ?_, fun k hk => absurd hk (Nat.not_lt_zero k), fun i j hi => absurd hi (Nat.not_lt_zero i), fun k hk => absurd hk (Nat.not_lt_zero k), fun k h1 h2 => ?_, fun p hp => Or.inl ⟨?_, fun k hk => absurd hk (Nat.not_lt_zero k)⟩⟩, ⟨?_, fun i hi => ?_⟩, ⟨by omega, ?_, ?_, fun k hk => absurd hk (Nat.not_lt_zero k), fun r h1 h2 => ?_⟩, ⟨by omega, ?_, ?_, fun k hk => absurd hk (Nat.not_lt_zero k), fun x h1 h2 => ?_⟩⟩
        · rw [b0 0 (by omega), rowT_get (by omega), y165]
          unfold opE
          simp (disch := omega) only [up2_ne, up2_eq, upd_eq, Nat.add_zero, if_neg, if_pos, if_true, c14]
        · exact b1 1 (by omega) (by omega)
        · exact yR 0 (by omega)
        · exact ⟨yR _ (by omega), yR _ (by omega)⟩
        · rw [b0 2 (by omega)]
          unfold opE clE
          simp (disch := omega) only [up2_ne, fl_ne, fl_in]
          rfl
        · rw [b0 3 (by omega)]
          unfold opE clE
          simp (disch := omega) only [up2_ne, fl_ne, fl_in]
          rfl
        · rw [b0 3 (by omega), yR _ (by omega)]
          unfold opE clE
          simp (disch := omega) only [up2_ne, fl_ne, fl_in]
          exact ⟨trivial, 0, by omega, rfl⟩
        · exact b1 2 (by omega) (by omega)
        · exact yR _ (by omega)
        · exact ⟨yR _ (by omega), yR _ (by omega), yR _ (by omega), yR _ (by omega), fun k hk => ⟨yR _ (by omega), yR _ (by omega)⟩⟩
        · exact b1 3 (by omega) (by omega)
        · exact yR _ (by omega)
        · exact ⟨yR _ (by omega), yR _ (by omega), yR _ (by omega), yR _ (by omega), yR _ (by omega)⟩
