/-! The call standing. -/
theorem m_stand {t n : Nat} {k : Int32} {c : Nat → Nat} {sr : Nat → Nat} {P : Nat → Int32} {A : Nat → Nat → Int32} {d W : Nat} {nt : Nat} {s : G} (ht : t < nt) (h4 : nt ≤ 4) (em : s 159 8 = nI nt) (hd : d < 2 ^ 31) (hW : W < 2 ^ 31) (h : MT t sr P A (nI d) (nI W) s) (hw : MW t n c s) (x : Int32) (hx : (∃ m, m < n ∧ (ahN (pV sr P A) c (c m) n + lsN (pV sr P A) c (c m) n = k ∧ ∀ i, i < m → ¬ ahN (pV sr P A) c (c i) n + lsN (pV sr P A) c (c i) n = k) ∧ x = nI (c m)) ∨ ((∀ i, i < n → ¬ ahN (pV sr P A) c (c i) n + lsN (pV sr P A) c (c i) n = k) ∧ x = -nI 1)) : f_X9_standing (nI t) k (nI d) (nI W) s = some (x, s) := by
  have ah := fun p hp => m_ahead (p := p) (Nat.lt_of_lt_of_le ht h4) hp h hw
  have pr := fun a b ha hb => m_parting (a := a) (b := b) (Nat.lt_of_lt_of_le ht h4) ha hb h
  obtain ⟨n10, w1, w2⟩ := hw
  have tE : f_X9_isTournament (nI t) s = some (nI 1, s) := by simp (disch := omega) only [bd2_s, bd_s, wr_s, ck_s, bz_s0, bz_s1, dz_s, nI_litS, nI_add, pk_mul, pk_sub, nI_leI, nI_ltI, nI_eq, ng_lt, ng_le, lt_ng, le_ng, eq_ng, ng_eq, ng_ngE, ng_ngL, ng_ngl, sub1_lt, sub1_ng, eq_self, if_pos, if_neg, if_true, if_false, Nat.zero_add, Nat.add_zero, f_X9_isTournament, f_X9_in, em]
  have c0 : f_X9_cell (nI t) 0 s = some (nI n, s) := by simp (disch := omega) only [bd2_s, bd_s, wr_s, ck_s, bz_s0, bz_s1, dz_s, nI_litS, nI_add, pk_mul, pk_sub, nI_leI, nI_ltI, nI_eq, ng_lt, ng_le, lt_ng, le_ng, eq_ng, ng_eq, ng_ngE, ng_ngL, ng_ngl, sub1_lt, sub1_ng, eq_self, if_pos, if_neg, if_true, if_false, Nat.zero_add, Nat.add_zero, f_X9_cell, rw_0 s t, w1]
  have c1 : ∀ i, i < n → f_X9_cell (nI t) (1 + nI i) s = some (nI (c i), s) := fun i hi => by
    have q2 := (w2 i hi).2
    simp (disch := omega) only [bd2_s, bd_s, wr_s, ck_s, bz_s0, bz_s1, dz_s, nI_litS, nI_add, pk_mul, pk_sub, nI_leI, nI_ltI, nI_eq, ng_lt, ng_le, lt_ng, le_ng, eq_ng, ng_eq, ng_ngE, ng_ngL, ng_ngl, sub1_lt, sub1_ng, eq_self, if_pos, if_neg, if_true, if_false, Nat.zero_add, Nat.add_zero, f_X9_cell, rw_k s t, q2]
  have inner : ∀ p, p < 24 → ∀ a : Int32, lp (fun (s21 : Int32 × Int32 × G) => (bd2 (f_X9_cell (nI t) (0 : Int32) s21.2.2) fun r25 g26 => if r25 ≤ s21.2.1 then some (.inr (s21.1, g26)) else bd2 (f_X9_cell (nI t) ((1 : Int32) + s21.2.1) g26) fun r28 g29 => bd ((if (nI p) ≤ r28 then some (.inl (s21.2.1, g29)) else bd2 (f_X9_parting (nI t) r28 (nI p) (nI d) (nI W) g29) fun r34 g35 => if r34 = 0 then some (.inr (.inl ((s21.1 + (1 : Int32)), (s21.2.1 + (1 : Int32)), g35))) else some (.inl (s21.2.1, g35)) : Option ((Int32 × G) ⊕ ((Int32 × Int32 × G) ⊕ (Int32 × G))))) fun s37m => (match s37m with | .inl s32 => (some (.inl ((s21.1 + (0 : Int32)), (s32.1 + (1 : Int32)), s32.2))) | .inr y => some y) : Option ((Int32 × Int32 × G) ⊕ (Int32 × G)))) 2000 (a, (0 : Int32), s) = some (a + lsN (pV sr P A) c p n, s) := by
    intro p hp a
    refine q_lp (fun j => (a + lsN (pV sr P A) c p j, nI j, s)) n (fun j hj => ?_) ?_ (by omega) (by rw [lsN, i32_a0]; rfl)
    · obtain ⟨q1, q2⟩ := w2 j hj
      dsimp only
      refine q_call c0 ?_
      refine q_if_f (nI_ge hj (by omega)) ?_
      refine q_call (c1 j hj) ?_
      rw [lsN]
      by_cases x1 : c j < p
      · by_cases x2 : prS (pV sr P A) (c j) p = nI 0
        · refine q_bd (a := .inr (.inl (a + lsN (pV sr P A) c p j + nI 1, nI (j + 1), s))) ?_ ?_
          · refine q_if_f (nI_ge x1 (by omega)) ?_
            refine q_call (pr _ _ q1 hp) ?_
            refine q_if_t x2 ?_
            rw [← nI_1 j]; rfl
          · dsimp only
            rw [if_pos ⟨x1, x2⟩, Int32.add_assoc]
        · refine q_bd (a := .inl (nI j, s)) ?_ ?_
          · refine q_if_f (nI_ge x1 (by omega)) ?_
            refine q_call (pr _ _ q1 hp) ?_
            refine q_if_f x2 ?_
            rfl
          · dsimp only
            rw [if_neg (fun q => x2 q.2), i32_a0, l_0, i32_a0, ← nI_1 j]
      · refine q_bd (a := .inl (nI j, s)) ?_ ?_
        · refine q_if_t (by rw [nI_leI (by omega) (by omega)]; omega) ?_
          rfl
        · dsimp only
          rw [if_neg (fun q => x1 q.1), i32_a0, l_0, i32_a0, ← nI_1 j]
    · dsimp only
      refine q_call c0 ?_
      refine q_if_t (Int32.le_refl _) ?_
      rfl
  have stp : ∀ i, i < n → ¬ ahN (pV sr P A) c (c i) n + lsN (pV sr P A) c (c i) n = k → (bd2 (f_X9_cell (nI t) (0 : Int32) s) fun r11 g12 => if r11 ≤ nI i then some (.inr (.inl (g12))) else bd2 (f_X9_cell (nI t) ((1 : Int32) + nI i) g12) fun r14 g15 => bd2 (f_X9_ahead (nI t) r14 (nI d) (nI W) g15) fun r16 g17 => bd (lp (fun (s21 : Int32 × Int32 × G) => (bd2 (f_X9_cell (nI t) (0 : Int32) s21.2.2) fun r25 g26 => if r25 ≤ s21.2.1 then some (.inr (s21.1, g26)) else bd2 (f_X9_cell (nI t) ((1 : Int32) + s21.2.1) g26) fun r28 g29 => bd ((if r14 ≤ r28 then some (.inl (s21.2.1, g29)) else bd2 (f_X9_parting (nI t) r28 r14 (nI d) (nI W) g29) fun r34 g35 => if r34 = 0 then some (.inr (.inl ((s21.1 + (1 : Int32)), (s21.2.1 + (1 : Int32)), g35))) else some (.inl (s21.2.1, g35)) : Option ((Int32 × G) ⊕ ((Int32 × Int32 × G) ⊕ (Int32 × G))))) fun s37m => (match s37m with | .inl s32 => (some (.inl ((s21.1 + (0 : Int32)), (s32.1 + (1 : Int32)), s32.2))) | .inr y => some y) : Option ((Int32 × Int32 × G) ⊕ (Int32 × G)))) 2000 (r16, (0 : Int32), g17)) fun (s24 : Int32 × G) => if s24.1 = k then some (.inr (.inr ((r14, s24.2)))) else some (.inl ((nI i + (1 : Int32)), s24.2))) = some (.inl (nI (i + 1), s) : (Int32 × G) ⊕ ((G) ⊕ (Int32 × G))) := by
    intro i hi hk
    have q1 := (w2 i hi).1
    refine q_call c0 ?_
    refine q_if_f (nI_ge hi (by omega)) ?_
    refine q_call (c1 i hi) ?_
    refine q_call (ah _ q1) ?_
    refine q_bd (inner _ q1 _) ?_
    refine q_if_f hk ?_
    rw [← nI_1 i]
  unfold f_X9_standing
  refine q_call tE ?_
  refine q_if_f (by decide) ?_
  refine q_if_f (nI_lt0 hd) ?_
  refine q_if_t (by rw [l_0, nI_leI (by omega) (by omega)]; omega) ?_
  rcases hx with ⟨m, hm, ⟨h1, h2⟩, rfl⟩ | ⟨h1, rfl⟩
  · refine q_bd (a := .inr (nI (c m), s)) ?_ rfl
    refine q_lp (fun i => (nI i, s)) m (fun i hi => stp i (by omega) (h2 i hi)) ?_ (by omega) rfl
    have q1 := (w2 m hm).1
    dsimp only
    refine q_call c0 ?_
    refine q_if_f (nI_ge hm (by omega)) ?_
    refine q_call (c1 m hm) ?_
    refine q_call (ah _ q1) ?_
    refine q_bd (inner _ q1 _) ?_
    refine q_if_t h1 ?_
    rfl
  · refine q_bd (a := .inl s) ?_ rfl
    refine q_lp (fun i => (nI i, s)) n (fun i hi => stp i hi (h1 i hi)) ?_ (by omega) rfl
    dsimp only
    refine q_call c0 ?_
    refine q_if_t (Int32.le_refl _) ?_
    rfl
theorem sp_standing : Sp4 Inv f_X8_standing f_X9_standing := by
  refine Sp4.to (fun a1 a2 a3 a4 g hI => ?_)
  obtain ⟨np, nt, h24, h4, e1, e2, ec, em, es, hP, hT⟩ := hI.pre
  rcases i32_split a1 with ⟨t, ht, rfl⟩ | ⟨t, ht0, ht, rfl⟩
  · by_cases htn : t < nt
    · rcases i32_split a3 with ⟨d, hd, rfl⟩ | ⟨d, hd0, hd, rfl⟩
      · rcases i32_split a4 with ⟨W, hW, rfl⟩ | ⟨W, hW0, hW, rfl⟩
        · obtain ⟨n, dr, e, q0, hin, hsm, hrd, hen⟩ := hT t htn
          have hT : TT g np t n dr e := ⟨h24, by omega, hin, hsm, hrd, hen⟩
          obtain ⟨⟨r, s⟩, ee, z1, z2, z3⟩ := hT.table (d := nI d) (W := nI W)
          dsimp only at z1 z2 z3
          have hs : Scr g s := Scr.of z1
          have hT' := hT.scr hs
          have m := hT'.mt (hT'.oc (hs.m25.trans hI.h25)) (d := nI d) (W := nI W)
          have mw := hT'.mw
          rw [hs.row] at m mw
          have m8 : s 159 8 = nI nt := hs.m8.trans em
          rcases c_whoIs (k := a2) z2 z3 with ⟨j, hj, hk, hw⟩ | ⟨hk, hw⟩
          · refine ⟨_, s, s, ?_, m_stand htn h4 m8 hd hW m mw _ (Or.inl ⟨j, hj, hk, rfl⟩), hI.scr hs⟩
            simp (disch := omega) only [bd2_s, bd_s, wr_s, ck_s, bz_s0, bz_s1, dz_s, nI_litS, nI_add, pk_mul, pk_sub, nI_leI, nI_ltI, nI_eq, ng_lt, ng_le, lt_ng, le_ng, eq_ng, ng_eq, ng_ngE, ng_ngL, ng_ngl, sub1_lt, sub1_ng, eq_self, if_pos, if_neg, if_true, if_false, Nat.zero_add, Nat.add_zero, f_X8_isTournament, f_X5_has, e1, ec, f_X8_standing, ee, hw]
          · refine ⟨_, s, s, ?_, m_stand htn h4 m8 hd hW m mw _ (Or.inr ⟨hk, rfl⟩), hI.scr hs⟩
            simp (disch := omega) only [bd2_s, bd_s, wr_s, ck_s, bz_s0, bz_s1, dz_s, nI_litS, nI_add, pk_mul, pk_sub, nI_leI, nI_ltI, nI_eq, ng_lt, ng_le, lt_ng, le_ng, eq_ng, ng_eq, ng_ngE, ng_ngL, ng_ngl, sub1_lt, sub1_ng, eq_self, if_pos, if_neg, if_true, if_false, Nat.zero_add, Nat.add_zero, f_X8_isTournament, f_X5_has, e1, ec, f_X8_standing, ee, hw]
        · exact ⟨-2, g, g, by simp (disch := omega) only [bd2_s, bd_s, wr_s, ck_s, bz_s0, bz_s1, dz_s, nI_litS, nI_add, pk_mul, pk_sub, nI_leI, nI_ltI, nI_eq, ng_lt, ng_le, lt_ng, le_ng, eq_ng, ng_eq, ng_ngE, ng_ngL, ng_ngl, sub1_lt, sub1_ng, eq_self, if_pos, if_neg, if_true, if_false, Nat.zero_add, Nat.add_zero, f_X8_isTournament, f_X5_has, e1, ec, f_X8_standing], by simp (disch := omega) only [bd2_s, bd_s, wr_s, ck_s, bz_s0, bz_s1, dz_s, nI_litS, nI_add, pk_mul, pk_sub, nI_leI, nI_ltI, nI_eq, ng_lt, ng_le, lt_ng, le_ng, eq_ng, ng_eq, ng_ngE, ng_ngL, ng_ngl, sub1_lt, sub1_ng, eq_self, if_pos, if_neg, if_true, if_false, Nat.zero_add, Nat.add_zero, f_X9_isTournament, f_X9_isPlayer, f_X9_in, e2, em, f_X9_standing], hI⟩
      · exact ⟨-2, g, g, by simp (disch := omega) only [bd2_s, bd_s, wr_s, ck_s, bz_s0, bz_s1, dz_s, nI_litS, nI_add, pk_mul, pk_sub, nI_leI, nI_ltI, nI_eq, ng_lt, ng_le, lt_ng, le_ng, eq_ng, ng_eq, ng_ngE, ng_ngL, ng_ngl, sub1_lt, sub1_ng, eq_self, if_pos, if_neg, if_true, if_false, Nat.zero_add, Nat.add_zero, f_X8_isTournament, f_X5_has, e1, ec, f_X8_standing], by simp (disch := omega) only [bd2_s, bd_s, wr_s, ck_s, bz_s0, bz_s1, dz_s, nI_litS, nI_add, pk_mul, pk_sub, nI_leI, nI_ltI, nI_eq, ng_lt, ng_le, lt_ng, le_ng, eq_ng, ng_eq, ng_ngE, ng_ngL, ng_ngl, sub1_lt, sub1_ng, eq_self, if_pos, if_neg, if_true, if_false, Nat.zero_add, Nat.add_zero, f_X9_isTournament, f_X9_isPlayer, f_X9_in, e2, em, f_X9_standing], hI⟩
    · exact ⟨-2, g, g, by simp (disch := omega) only [bd2_s, bd_s, wr_s, ck_s, bz_s0, bz_s1, dz_s, nI_litS, nI_add, pk_mul, pk_sub, nI_leI, nI_ltI, nI_eq, ng_lt, ng_le, lt_ng, le_ng, eq_ng, ng_eq, ng_ngE, ng_ngL, ng_ngl, sub1_lt, sub1_ng, eq_self, if_pos, if_neg, if_true, if_false, Nat.zero_add, Nat.add_zero, f_X8_isTournament, f_X5_has, e1, ec, f_X8_standing], by simp (disch := omega) only [bd2_s, bd_s, wr_s, ck_s, bz_s0, bz_s1, dz_s, nI_litS, nI_add, pk_mul, pk_sub, nI_leI, nI_ltI, nI_eq, ng_lt, ng_le, lt_ng, le_ng, eq_ng, ng_eq, ng_ngE, ng_ngL, ng_ngl, sub1_lt, sub1_ng, eq_self, if_pos, if_neg, if_true, if_false, Nat.zero_add, Nat.add_zero, f_X9_isTournament, f_X9_isPlayer, f_X9_in, e2, em, f_X9_standing], hI⟩
  · exact ⟨-2, g, g, by simp (disch := omega) only [bd2_s, bd_s, wr_s, ck_s, bz_s0, bz_s1, dz_s, nI_litS, nI_add, pk_mul, pk_sub, nI_leI, nI_ltI, nI_eq, ng_lt, ng_le, lt_ng, le_ng, eq_ng, ng_eq, ng_ngE, ng_ngL, ng_ngl, sub1_lt, sub1_ng, eq_self, if_pos, if_neg, if_true, if_false, Nat.zero_add, Nat.add_zero, f_X8_isTournament, f_X5_has, e1, ec, f_X8_standing], by simp (disch := omega) only [bd2_s, bd_s, wr_s, ck_s, bz_s0, bz_s1, dz_s, nI_litS, nI_add, pk_mul, pk_sub, nI_leI, nI_ltI, nI_eq, ng_lt, ng_le, lt_ng, le_ng, eq_ng, ng_eq, ng_ngE, ng_ngL, ng_ngl, sub1_lt, sub1_ng, eq_self, if_pos, if_neg, if_true, if_false, Nat.zero_add, Nat.add_zero, f_X9_isTournament, f_X9_isPlayer, f_X9_in, e2, em, f_X9_standing], hI⟩
