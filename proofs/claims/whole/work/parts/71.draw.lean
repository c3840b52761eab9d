/-! Drawing a round: class and model. -/
theorem sp_drawRoundR (a1 a2 : Int32) (g : G) (hI : Inv g) : ∃ r g1 g2, -nI 5 ≤ r ∧ f_X8_drawRound a1 a2 g = some (r, g1) ∧ f_X9_drawOf a1 a2 g1 = some (r, g2) ∧ Inv g2 := by
  obtain ⟨np, nt, h24, h4, e1, e2, ec, em, es, hP, hT⟩ := hI.pre
  have hTs := hT
  rcases c_isT (a := a1) (s := g) h4 ec with ⟨q, hno⟩ | ⟨t, htn, rfl, q⟩
  · refine ⟨-nI 2, g, g, by decide, ?_, ?_, hI⟩
    · unfold f_X8_drawRound
      exact q_call q (q_if_t rfl rfl)
    · rcases m_isT (a := a1) (s := g) h4 em with ⟨q', -⟩ | ⟨t, htn, e, -⟩
      · unfold f_X9_drawOf
        exact q_call q' (q_if_t rfl rfl)
      · exact absurd e (hno t htn)
  have mq : ∀ s : G, s 159 8 = nI nt → f_X9_isTournament (nI t) s = some (nI 1, s) := by
    intro s hs
    rcases m_isT (a := nI t) (s := s) h4 hs with ⟨-, q'⟩ | ⟨-, -, -, q'⟩
    · exact absurd rfl (q' t htn)
    · exact q'
  obtain ⟨n, dr, e, q0, hin, hsm, hrd, hen⟩ := hT t htn
  have ht4 : t < 4 := by omega
  have hT : TT g np t n dr e := ⟨h24, ht4, hin, hsm, hrd, hen⟩
  have d6 := hrd.1
  have n10 := hin.1
  rcases i32_split a2 with ⟨d, hd, rfl⟩ | ⟨d, hd0, hd, rfl⟩
  rotate_left
  · refine ⟨-nI 2, g, g, by decide, ?_, ?_, hI⟩
    · unfold f_X8_drawRound
      refine q_call q (q_if_f (by decide) ?_)
      exact q_if_f (by rw [l_0, le_ng (by omega) hd0 hd]; exact not_false) rfl
    · unfold f_X9_drawOf
      refine q_call (mq g em) (q_if_f (by decide) ?_)
      exact q_if_t (by rw [l_0, ng_lt (by omega) hd0 hd]; trivial) rfl
  have c25 : ∀ s : G, rowT s t = rowT g t → f_X9_cell (nI t) 25 s = some (nI dr, s) := by
    intro s hs
    have m25 := hrd.2.2.1
    simp (disch := omega) only [bd2_s, bd_s, wr_s, ck_s, bz_s0, bz_s1, dz_s, nI_litS, nI_add, pk_mul, pk_sub, nI_leI, nI_ltI, nI_eq, ng_lt, ng_le, lt_ng, le_ng, eq_ng, ng_eq, ng_ngE, ng_ngL, ng_ngl, sub1_lt, sub1_ng, eq_self, if_pos, if_neg, if_true, if_false, Nat.zero_add, Nat.add_zero, f_X9_cell, rw_k s t, hs, m25]
  -- the latest day
  have hday : ∃ x : Int32, f_X7_latestDay (47 + 28 * t) g = some (x, g) ∧ ((x ≤ nI d ∧ ∀ s : G, rowT s t = rowT g t → (if nI dr ≤ 0 then some (.inl (s)) else bd2 (f_X9_cell (nI t) (25 : Int32) s) fun r39 g40 => bd2 (f_X9_cell (nI t) (((26 : Int32) + r39) - (1 : Int32)) g40) fun r41 g42 => if r41 ≤ nI d then some (.inl (g42)) else some (.inr (((-2 : Int32), g42))) : Option ((G) ⊕ (Int32 × G))) = some (.inl s)) ∨ (¬ x ≤ nI d ∧ ∀ s : G, rowT s t = rowT g t → (if nI dr ≤ 0 then some (.inl (s)) else bd2 (f_X9_cell (nI t) (25 : Int32) s) fun r39 g40 => bd2 (f_X9_cell (nI t) (((26 : Int32) + r39) - (1 : Int32)) g40) fun r41 g42 => if r41 ≤ nI d then some (.inl (g42)) else some (.inr (((-2 : Int32), g42))) : Option ((G) ⊕ (Int32 × G))) = some (.inr (-2, s)))) := by
    by_cases z : dr = 0
    · refine ⟨0, ?_, Or.inl ⟨?_, fun s hs => ?_⟩⟩
      · unfold f_X7_latestDay
        exact q_if_t (by rw [show g (47 + 28 * t) 2 = nI dr from hrd.2.1, z]; rfl) rfl
      · exact nI_pos' hd
      · exact q_if_t (by rw [z]; decide) rfl
    · obtain ⟨m, hm⟩ := hrd.2.2.2.1 (dr - 1) (by omega)
      have e4 : g (47 + 28 * t + 4) (dr - 1) = rowT g t (26 + (dr - 1)) := by rw [bk_j g t 4 (by decide)]; exact hm.2.2.1
      have c2 : g (47 + 28 * t) 2 = nI dr := hrd.2.1
      have cc : ∀ s : G, rowT s t = rowT g t → f_X9_cell (nI t) (((26 : Int32) + nI dr) - (1 : Int32)) s = some (rowT g t (26 + (dr - 1)), s) := by
        intro s hs
        have e1 : 26 + dr - 1 = 26 + (dr - 1) := by omega
        simp (disch := omega) only [bd2_s, bd_s, wr_s, ck_s, bz_s0, bz_s1, dz_s, nI_litS, nI_add, pk_mul, pk_sub, nI_leI, nI_ltI, nI_eq, ng_lt, ng_le, lt_ng, le_ng, eq_ng, ng_eq, ng_ngE, ng_ngL, ng_ngl, sub1_lt, sub1_ng, eq_self, if_pos, if_neg, if_true, if_false, Nat.zero_add, Nat.add_zero, f_X9_cell, e1, rw_k s t, hs]
      refine ⟨rowT g t (26 + (dr - 1)), ?_, ?_⟩
      · unfold f_X7_latestDay
        refine q_if_f (by rw [c2]; exact nI_ne0 (by omega) (by omega)) ?_
        refine q_ck (dr - 1) (by rw [c2, l_1, pk_sub (by omega)]) (by omega) (by decide) ?_
        rw [e4]
      · by_cases y : rowT g t (26 + (dr - 1)) ≤ nI d
        · refine Or.inl ⟨y, fun s hs => ?_⟩
          refine q_if_f (nI_nle (by omega) (by omega)) ?_
          refine q_call (c25 s hs) ?_
          exact q_call (cc s hs) (q_if_t y rfl)
        · refine Or.inr ⟨y, fun s hs => ?_⟩
          refine q_if_f (nI_nle (by omega) (by omega)) ?_
          refine q_call (c25 s hs) ?_
          exact q_call (cc s hs) (q_if_f y rfl)
  obtain ⟨x, ex, hx⟩ := hday
  rcases hx with ⟨xd, hxm⟩ | ⟨xd, hxm⟩
  rotate_left
  · refine ⟨-nI 2, g, g, by decide, ?_, ?_, hI⟩
    · unfold f_X8_drawRound
      refine q_call q (q_if_f (by decide) ?_)
      refine q_if_t (nI_pos' hd) ?_
      refine q_ck t rfl ht4 (by decide) ?_
      refine q_wr ?_
      exact q_call ex (q_if_f xd rfl)
    · unfold f_X9_drawOf
      refine q_call (mq g em) (q_if_f (by decide) ?_)
      refine q_if_f (nI_lt0 hd) ?_
      refine q_call (c25 g rfl) ?_
      exact q_bd (hxm g rfl) rfl
  -- who is drawn
  obtain ⟨f1, f2, f3, f4⟩ := hT.sf0
  generalize hsel : sl0 (blkT g t) = sel at *
  have sel24 : ∀ p, p < 24 → (sel p = true ↔ g (47 + 28 * t + 2) p = nI 1) := by
    intro p hp
    rw [← hsel, bk_j g t 2 (by decide)]
    exact decide_eq_true_iff
  generalize hM : cn sel 24 = M at *
  have wok : ∀ x, x < M → wf sel 24 x < 24 ∧ sel (wf sel 24 x) = true ∧ cn sel (wf sel 24 x) = x := fun x hx => wf_ok sel (by omega)
  have wnp : ∀ x, x < M → wf sel 24 x < np := fun x hx => f1 _ (wok x hx).1 (wok x hx).2.1
  have winj : ∀ x y, x < M → y < M → wf sel 24 x = wf sel 24 y → x = y := fun x y hx hy z => by rw [← (wok x hx).2.2, ← (wok y hy).2.2, z]
  obtain ⟨⟨rg, s1⟩, eg, ⟨g0, g1, g2, g3, g4, g5⟩⟩ := c_gather (t := t) (M := M) (g := g) (sel := sel) hM f3 ht4 sel24
  dsimp only at g0 g1 g2 g3 g4 g5
  subst g0
  have sc1 : Scr g s1 := ⟨fun a q1 q2 q3 => g1 a (by omega) (by omega) (by omega), fun k _ => by rw [g1 159 (by omega) (by omega) (by omega)]⟩
  -- the class up to its gathering
  have c8 : ∀ (x : Int32) (s : G), (if (2 : Int32) ≤ nI M then if (s1 (47 + 28 * t) 2) < (6 : Int32) then bd2 (f_X0_askWorths s1) fun r14 g15 => if r14 = 0 then some (((-5 : Int32), g15)) else bd2 (f_X6_read (47 + 28 * t) (nI d) (nI d) g15) fun r17 g18 => bd2 (f_X6_score (47 + 28 * t) (nI d) g18) fun r19 g20 => bd2 (f_X0_recall (47 + 28 * t) g20) fun r21 g22 => bd2 (f_X0_priceAll  g22) fun r23 g24 => bd2 (f_X0_findWay  g24) fun r25 g26 => bd2 (f_X0_writeRound (47 + 28 * t) (nI d) g26) fun r27 g28 => some ((r27, g28)) else some (((-4 : Int32), s1)) else some (((-3 : Int32), s1))) = some (x, s) → f_X8_drawRound (nI t) (nI d) g = some (x, s) := by
    intro x s hxs
    unfold f_X8_drawRound
    refine q_call q (q_if_f (by decide) ?_)
    refine q_if_t (nI_pos' hd) ?_
    refine q_ck t rfl ht4 (by decide) ?_
    refine q_wr ?_
    refine q_call ex (q_if_t xd ?_)
    refine q_call eg ?_
    exact hxs
  have s12 : s1 (47 + 28 * t) 2 = nI dr := by rw [g1 _ (by omega) (by omega) (by omega)]; exact hrd.2.1
  -- the model up to its gathering, behind any state of the class's
  have m9 : ∀ s : G, s 159 3 = nI np → s 159 8 = nI nt → rowT s t = rowT g t → ∃ q1, (∀ a, a ≠ 159 → a ≠ 175 → q1 a = s a) ∧ (∀ k, k ≠ 30 → q1 159 k = s 159 k) ∧ q1 159 30 = nI M ∧ (∀ i, i < M → q1 175 i = nI (wf sel 24 i)) ∧ ∀ (x : Int32) (s' : G), (if (2 : Int32) ≤ (q1 159 30) then bd2 (f_X9_cell (nI t) (25 : Int32) q1) fun r12 g13 => if r12 = (6 : Int32) then some (((-4 : Int32), g13)) else bd2 (f_X9_askWorths  g13) fun r15 g16 => if r15 = (-5 : Int32) then some (((-5 : Int32), g16)) else bd (lp (fun (s20 : Int32 × G) => (if (s20.2 159 30) ≤ s20.1 then some (.inr (s20.2)) else ck s20.1 10 fun j24 => bd2 (f_X9_pointsOf (nI t) (s20.2 175 j24) (nI d) (nI d) s20.2) fun r25 g26 => ck s20.1 10 fun j27 => wr (up2 g26 177 j27 r25) fun g28 => some (.inl ((s20.1 + (1 : Int32)), g28)) : Option ((Int32 × G) ⊕ (G)))) 2000 ((0 : Int32), g16)) fun (s22 : G) => bd2 (f_X9_search (nI t) s22) fun r30 g31 => bd2 (f_X9_pairUp (nI t) (nI d) g31) fun r32 g33 => bd2 (f_X9_cell (nI t) (25 : Int32) g33) fun r34 g35 => bd2 (f_X9_cell (nI t) (((32 : Int32) + r34) - (1 : Int32)) g35) fun r36 g37 => some ((r36, g37)) else some (((-3 : Int32), q1))) = some (x, s') → f_X9_drawOf (nI t) (nI d) s = some (x, s') := by
    intro s n3 n8 hrow
    obtain ⟨⟨rq, q1⟩, eq, u0, u1, u2, u3, u4⟩ := m_gather (t := t) (np := np) (all := 0) (g := s) (sel := sel) (who := wf sel 24) ht4 h24 (Or.inl rfl) n3 (by rw [hrow]; exact f4) (fun p hp hs => wf_at sel (by omega) hs) (by rw [f2]; exact f3)
    dsimp only at u0 u1 u2 u3 u4
    rw [f2] at u3 u4
    subst u0
    refine ⟨q1, u1, u2, u3, u4, fun x s' hxs => ?_⟩
    unfold f_X9_drawOf
    refine q_call (mq s n8) (q_if_f (by decide) ?_)
    refine q_if_f (nI_lt0 hd) ?_
    refine q_call (c25 s hrow) ?_
    refine q_bd (hxm s hrow) ?_
    refine q_call eq ?_
    exact hxs
  by_cases M2 : 2 ≤ M
  rotate_left
  · -- too few
    obtain ⟨q1, u1, u2, u3, u4, u5⟩ := m9 s1 (sc1.m3.trans e2) (sc1.m8.trans em) (sc1.row t)
    refine ⟨-nI 3, s1, q1, by decide, c8 _ _ (q_if_f (by rw [l_2]; exact nI_ge (by omega) (by omega)) rfl), u5 _ _ (q_if_f (by rw [u3, l_2]; exact nI_ge (by omega) (by omega)) rfl), (hI.scr sc1).scr (Scr.gat u1 u2)⟩
  by_cases d5 : dr < 6
  rotate_left
  · -- no room
    have ed : dr = 6 := by omega
    obtain ⟨q1, u1, u2, u3, u4, u5⟩ := m9 s1 (sc1.m3.trans e2) (sc1.m8.trans em) (sc1.row t)
    have rq1 : rowT q1 t = rowT g t := (rowT_ne (u1 165 (by decide) (by decide))).trans (sc1.row t)
    refine ⟨-nI 4, s1, q1, by decide, c8 _ _ (q_if_t (by rw [l_2]; exact nI_le M2 (by omega)) (q_if_f (by rw [s12, ed]; decide) rfl)), u5 _ _ (q_if_t (by rw [u3, l_2]; exact nI_le M2 (by omega)) (q_call (c25 q1 rq1) (q_if_t (by rw [ed]; rfl) rfl))), (hI.scr sc1).scr (Scr.gat u1 u2)⟩
  -- the worths
  obtain ⟨np', -, -, enp, hR4, hR161, -, hww⟩ := hI.1.rw
  have : np' = np := nI_inj (by have := hR4.1; omega) (by omega) (enp.symm.trans e2)
  subst this
  obtain ⟨m, m1, m2, m3⟩ := worst (woG g) sel
  rw [hM] at m1 m3
  have y4 : s1 4 = g 4 := g1 4 (by decide) (by decide) (by decide)
  have y5 : s1 5 = g 5 := g1 5 (by decide) (by decide) (by decide)
  have y6 : s1 6 = g 6 := g1 6 (by decide) (by decide) (by decide)
  have y7 : s1 7 = g 7 := g1 7 (by decide) (by decide) (by decide)
  obtain ⟨hLc, hLm⟩ := hI.2.1.lc
  obtain ⟨⟨ra, s2⟩, ea, ha⟩ := c_askX (np := np') (m := m) (M := M) (g := s1) (who := wf sel 24) (w := woG g) (by rw [y4, y5, y6, y7]; exact hR4) (fun p hp => by rw [y4, y5, y6, y7]) (hLc.fr (g1 1 (by decide) (by decide) (by decide))) g3 f3 (fun i hi => ⟨wnp i hi, g4 i hi⟩) m1 m2 m3
  -- the model's asking, behind any state that has the log so
  have mask : ∀ (T : List Int32) (f : Int32) (s : G), (∀ a, ¬ (15 ≤ a ∧ a ≤ 41) → ¬ (47 + 28 * t ≤ a ∧ a < 61 + 28 * t) → s a = cE T f g a) → ∃ q1 rb q2, (∀ a, a ≠ 159 → a ≠ 175 → q1 a = s a) ∧ (∀ k, k ≠ 30 → q1 159 k = s 159 k) ∧ q1 159 30 = nI M ∧ (∀ i, i < M → q1 175 i = nI (wf sel 24 i)) ∧ rowT q1 t = rowT g t ∧ f_X9_askWorths q1 = some (rb, q2) ∧ ((m = M ∧ rb = nI 1 ∧ (∀ a, a ≠ 176 → q2 a = mE (tI (woG g) (wf sel 24) M) 0 q1 a) ∧ ∀ i, i < M → q2 176 i = (woG g (wf sel 24 i)).2.1) ∨ (m < M ∧ rb = -nI 5 ∧ ∀ a, a ≠ 176 → q2 a = mE (tI (woG g) (wf sel 24) (m + 1)) (woG g (wf sel 24 m)).2.2 q1 a)) ∧ ∀ (x : Int32) (s' : G), (if rb = (-5 : Int32) then some (((-5 : Int32), q2)) else bd (lp (fun (s20 : Int32 × G) => (if (s20.2 159 30) ≤ s20.1 then some (.inr (s20.2)) else ck s20.1 10 fun j24 => bd2 (f_X9_pointsOf (nI t) (s20.2 175 j24) (nI d) (nI d) s20.2) fun r25 g26 => ck s20.1 10 fun j27 => wr (up2 g26 177 j27 r25) fun g28 => some (.inl ((s20.1 + (1 : Int32)), g28)) : Option ((Int32 × G) ⊕ (G)))) 2000 ((0 : Int32), q2)) fun (s22 : G) => bd2 (f_X9_search (nI t) s22) fun r30 g31 => bd2 (f_X9_pairUp (nI t) (nI d) g31) fun r32 g33 => bd2 (f_X9_cell (nI t) (25 : Int32) g33) fun r34 g35 => bd2 (f_X9_cell (nI t) (((32 : Int32) + r34) - (1 : Int32)) g35) fun r36 g37 => some ((r36, g37))) = some (x, s') → f_X9_drawOf (nI t) (nI d) s = some (x, s') := by
    intro T f s hs
    have z : ∀ a, 159 ≤ a → s a = g a := fun a ha => (hs a (by omega) (by omega)).trans (cE_off (by omega) (by omega))
    have hrow : rowT s t = rowT g t := rowT_ne (z 165 (by omega))
    obtain ⟨q1, u1, u2, u3, u4, u5⟩ := m9 s (by rw [z 159 (by omega)]; exact e2) (by rw [z 159 (by omega)]; exact em) hrow
    have rq1 : rowT q1 t = rowT g t := (rowT_ne (u1 165 (by decide) (by decide))).trans hrow
    have w1 : q1 161 = g 161 := (u1 161 (by decide) (by decide)).trans (z 161 (by omega))
    have w2 : q1 162 = g 162 := (u1 162 (by decide) (by decide)).trans (z 162 (by omega))
    have w3 : q1 163 = g 163 := (u1 163 (by decide) (by decide)).trans (z 163 (by omega))
    have w4 : q1 164 = g 164 := (u1 164 (by decide) (by decide)).trans (z 164 (by omega))
    obtain ⟨⟨rb, q2⟩, eq, yy⟩ := m_askW (np := np') (m := m) (M := M) (g := q1) (who := wf sel 24) (w := woG g) (by rw [w1, w2, w3, w4]; exact hR161) (fun p hp => by rw [w1, w2, w3, w4]; exact (hww p hp).symm) (hLm.fr (by rw [u2 2 (by decide), z 159 (by omega)])) u3 f3 (fun i hi => ⟨wnp i hi, u4 i hi⟩) m1 m2 m3
    refine ⟨q1, rb, q2, u1, u2, u3, u4, rq1, eq, yy, fun x s' hxs => u5 x s' ?_⟩
    refine q_if_t (by rw [u3, l_2]; exact nI_le M2 (by omega)) ?_
    refine q_call (c25 q1 rq1) ?_
    refine q_if_f (nI_ne (b := 6) (by omega) (by omega) (by omega)) ?_
    refine q_call eq ?_
    exact hxs
  have cg1 : ∀ (T : List Int32) (f : Int32) (a : Nat), ¬ (15 ≤ a ∧ a ≤ 41) → cE T f s1 a = cE T f g a := fun T f a ha => cE_fr (P := fun a => ¬ (15 ≤ a ∧ a ≤ 41)) (by decide) (by decide) (fun a ha => g1 a (by omega) (by omega) (by omega)) T f a ha
  rcases ha with ⟨mM, rfl, k1, k2⟩ | ⟨mM, rfl, k1⟩
  rotate_left
  · -- a finding
    have hs2 : ∀ a, ¬ (15 ≤ a ∧ a ≤ 41) → s2 a = cE (tI (woG g) (wf sel 24) (m + 1)) (woG g (wf sel 24 m)).2.2 g a := fun a ha => (k1 a (by omega)).trans (cg1 _ _ a ha)
    obtain ⟨q1, rb, q2, u1, u2, u3, u4, rq1, eq, yy, fin⟩ := mask _ _ s2 (fun a ha _ => hs2 a ha)
    rcases yy with ⟨z, -⟩ | ⟨-, rfl, k3⟩
    · omega
    · have a1 : Scr (cE (tI (woG g) (wf sel 24) (m + 1)) (woG g (wf sel 24 m)).2.2 g) s2 := ⟨fun a q1 q2 q3 => hs2 a q1, fun k _ => by rw [hs2 159 (by omega)]⟩
      have a2 := a1.trans (Scr.gat u1 u2)
      refine ⟨-nI 5, s2, q2, by decide, c8 _ _ (q_if_t (by rw [l_2]; exact nI_le M2 (by omega)) (q_if_t (by rw [s12, l_6, nI_ltI (by omega) (by omega)]; exact d5) (q_call ea (q_if_t rfl rfl)))), fin _ _ (q_if_t rfl rfl), ?_⟩
      exact ((hI.eff _ _).scr (a2.mE _ _)).scr (Scr.one (b := 176) (by omega) k3)
  -- all worths are known
  dsimp only at k1 k2
  subst mM
  clear m1 m3
  have hs2 : ∀ a, ¬ (15 ≤ a ∧ a ≤ 41) → s2 a = cE (tI (woG g) (wf sel 24) m) 0 g a := fun a ha => (k1 a (by omega)).trans (cg1 _ _ a ha)
  have z2 : ∀ a, ¬ (15 ≤ a ∧ a ≤ 41) → a ≠ 1 → a ≠ 2 → s2 a = g a := fun a q1 q2 q3 => (hs2 a q1).trans (cE_off q2 q3)
  have hT2 : TT s2 np' t n dr e := hT.cg (z2 161 (by omega) (by omega) (by omega)) (z2 165 (by omega) (by omega) (by omega)) (fun a q1 q2 => z2 a (by omega) (by omega) (by omega))
  have hR2 : rowT s2 t = rowT g t := rowT_ne (z2 165 (by omega) (by omega) (by omega))
  have wv : ∀ x, x < m → ∃ v, v ≤ 3025 ∧ (woG g (wf sel 24 x)).2.1 = nI v := by
    intro x hx
    rcases wo_val hR4 (wnp x hx) with ⟨-, v, v1, v2⟩ | ⟨-, f, v1, v2, v3⟩
    · exact ⟨v, v1, v2⟩
    · have := m2 x hx
      rw [v3] at this
      exact absurd this (nI_ne0 v1 (by omega))
  have hvv : ∀ x, x < m → (woG g (wf sel 24 x)).2.1 = nI ((woG g (wf sel 24 x)).2.1.toNatClampNeg) ∧ (woG g (wf sel 24 x)).2.1.toNatClampNeg ≤ 3025 := by
    intro x hx
    obtain ⟨v, v1, v2⟩ := wv x hx
    rw [v2, nI_clamp (by omega)]
    exact ⟨rfl, v1⟩
  have hpp : ∀ p, p < 24 → PT (rowT g t) (nI d) (oc (rowT g t) (nI d) (nI d) e) dr p = nI ((PT (rowT g t) (nI d) (oc (rowT g t) (nI d) (nI d) e) dr p).toNatClampNeg) ∧ (PT (rowT g t) (nI d) (oc (rowT g t) (nI d) (nI d) e) dr p).toNatClampNeg ≤ 12 := by
    intro p hp
    obtain ⟨v, v1, v2⟩ := pt_bd (d := nI d) (o := oc (rowT g t) (nI d) (nI d) e) ht4 hp h24 hin hrd.w dr (Nat.le_refl _)
    rw [show PT (rowT g t) (nI d) (oc (rowT g t) (nI d) (nI d) e) dr p = nI v from v2, nI_clamp (by omega)]
    exact ⟨rfl, by omega⟩
  generalize hvd : (fun x => (woG g (wf sel 24 x)).2.1.toNatClampNeg) = vv
  generalize hpd : (fun x => (PT (rowT g t) (nI d) (oc (rowT g t) (nI d) (nI d) e) dr (wf sel 24 x)).toNatClampNeg) = pp
  have hvv' : ∀ x, x < m → (woG g (wf sel 24 x)).2.1 = nI (vv x) ∧ vv x ≤ 3025 := by rw [← hvd]; exact hvv
  have hpp' : ∀ x, x < m → PT (rowT g t) (nI d) (oc (rowT g t) (nI d) (nI d) e) dr (wf sel 24 x) = nI (pp x) ∧ pp x ≤ 12 := by rw [← hpd]; exact fun x hx => hpp _ (wok x hx).1
  obtain ⟨hh, ehh⟩ : ∃ hh : Nat → H4, hh = fun x => hcS (rowT g t) (wf sel 24 x) dr := ⟨_, rfl⟩
  obtain ⟨ww, eww⟩ : ∃ ww : Nat → Nat → Nat, ww = fun x y => waS (rowT g t) (wf sel 24 x) (wf sel 24 y) dr := ⟨_, rfl⟩
  obtain ⟨w9, ew9⟩ : ∃ w9 : Nat → Nat, w9 = fun x => waS (rowT g t) (wf sel 24 x) 99 dr := ⟨_, rfl⟩
  have hw1 : ∀ x y, ww x y ≤ 1 := fun x y => by rw [eww]; exact waS_1 dr
  have hw9 : ∀ x, w9 x ≤ 1 := fun x => by rw [ew9]; exact waS_1 dr
  have hc : ∀ i j, i < j → j < m → cC pp vv hh ww i j ≤ 4000000 := fun i j hij hj => (cC_bd (hpp' i (by omega)).2 (hpp' j hj).2 (hvv' i (by omega)).2 (hvv' j hj).2 (hw1 i j)).1
  have hal : ∀ i, i < m → aC m pp w9 i ≤ 4000000 := fun i hi => aC_bd (hpp' i hi).2 (hpp' 0 (by omega)).2 (by omega) (hw9 i)
  have hC : m * 4000000 < 2147483647 := by omega
  have mn := pairs_n hc hal hC f3 M2
  obtain ⟨tn, etn⟩ : ∃ tn : Nat → Nat → Nat, tn = fun x y => if tuC hh x y < stC hh x y then 1 else 0 := ⟨_, rfl⟩
  -- the class, from its worths on
  have big : Ev (bd2 (f_X6_read (47 + 28 * t) (nI d) (nI d) s2) fun r17 g18 => bd2 (f_X6_score (47 + 28 * t) (nI d) g18) fun r19 g20 => bd2 (f_X0_recall (47 + 28 * t) g20) fun r21 g22 => bd2 (f_X0_priceAll  g22) fun r23 g24 => bd2 (f_X0_findWay  g24) fun r25 g26 => bd2 (f_X0_writeRound (47 + 28 * t) (nI d) g26) fun r27 g28 => some ((r27, g28))) (fun q => q.1 = nI (cn (pf m (cC pp vv hh ww) (aC m pp w9)) m) ∧ (∀ a, ¬ (15 ≤ a ∧ a ≤ 41) → ¬ (47 + 28 * t ≤ a ∧ a < 61 + 28 * t) → q.2 a = s2 a) ∧ (∀ a k, 47 + 28 * t ≤ a → a < 61 + 28 * t → ¬ (a = 47 + 28 * t ∧ k = 2) → ¬ (47 + 28 * t + 4 ≤ a ∧ a ≤ 47 + 28 * t + 6 ∧ k = dr) → ¬ (47 + 28 * t + 7 ≤ a ∧ a ≤ 47 + 28 * t + 8 ∧ 5 * dr ≤ k ∧ k < 5 * dr + cn (pf m (cC pp vv hh ww) (aC m pp w9)) m) → q.2 a k = s2 a k) ∧ q.2 (47 + 28 * t) 2 = nI (dr + 1) ∧ q.2 (47 + 28 * t + 4) dr = nI d ∧ q.2 (47 + 28 * t + 5) dr = nI (cn (pf m (cC pp vv hh ww) (aC m pp w9)) m) ∧ q.2 (47 + 28 * t + 6) dr = nI (opt m (cC pp vv hh ww) (aC m pp w9) (fsM m)).1 ∧ ∀ x, x < m → pf m (cC pp vv hh ww) (aC m pp w9) x = true → q.2 (47 + 28 * t + 7) (5 * dr + cn (pf m (cC pp vv hh ww) (aC m pp w9)) x) = nI (wPl (wf sel 24) tn (wy m (cC pp vv hh ww) (aC m pp w9)) x) ∧ q.2 (47 + 28 * t + 8) (5 * dr + cn (pf m (cC pp vv hh ww) (aC m pp w9)) x) = nI (bPl (wf sel 24) tn (wy m (cC pp vv hh ww) (aC m pp w9)) x)) := by
    refine hT2.score (fun r s3 x1 x2 x3 => ?_)
    rw [hR2] at x3
    have z27 : s2 27 = s1 27 := (k1 27 (by decide)).trans (cE_off (by decide) (by decide))
    have z28 : s2 28 = s1 28 := (k1 28 (by decide)).trans (cE_off (by decide) (by decide))
    have z29 : s2 29 = s1 29 := (k1 29 (by decide)).trans (cE_off (by decide) (by decide))
    have hT3 : TT s3 np' t n dr e := hT2.cg (x1 _ (by omega)) (x1 _ (by omega)) (fun a q1 q2 => x1 a (by omega))
    have hR3 : rowT s3 t = rowT g t := (rowT_ne (x1 _ (by omega))).trans hR2
    refine ev_bd2 ((c_recall (g := s3) (sel := sel) hT3 hM f3 (fun p hp => by rw [x1 29 (by omega), z29]; exact g5 p hp)).imp ?_)
    rintro ⟨r4, s4⟩ ⟨v1, v2⟩
    dsimp only at v1 v2
    rw [hR3] at v2
    have hps : Psrc m pp vv hh ww w9 (wf sel 24) s4 := by
      refine ⟨?_, fun x hx => ⟨⟨(wok x hx).1, ?_, ?_, (hpp' x hx).2, ?_, (hvv' x hx).2⟩, ?_, fun y hy hxy => ⟨?_, hw1 x y⟩, ?_, hw9 x⟩⟩
      · rw [v1 27 (by omega), x1 27 (by omega), z27]; exact g3
      · rw [v1 28 (by omega), x1 28 (by omega), z28]; exact g4 x hx
      · rw [v1 19 (by omega), x3 _ (wok x hx).1]; exact (hpp' x hx).1
      · rw [v1 30 (by omega), x1 30 (by omega), k2 x hx]; exact (hvv' x hx).1
      · obtain ⟨c1, c2, c3⟩ := v2.1 x hx
        obtain ⟨b1, b2, b3, b4⟩ := hc_bd (p := wf sel 24 x) ht4 (wok x hx).1 h24 hin hrd.w dr (Nat.le_refl _)
        rw [ehh]
        exact ⟨c1, c2, c3, Nat.le_trans b1 (by omega), Nat.le_trans b2 (by omega), b3, b4⟩
      · rw [eww]; exact v2.2.1 x y hx hy hxy
      · rw [ew9]; exact v2.2.2 x hx
    refine ev_bd2 ((c_priceAll hps f3).imp ?_)
    rintro ⟨r5, s5⟩ ⟨w1, w2, w3⟩
    dsimp only at w1 w2 w3
    refine ev_bd2 ((c_findWay (M := m) (c := cC pp vv hh ww) (al := aC m pp w9) (g := s5) hc hal f3 (by rw [w1 27 (by decide) (by decide)]; exact hps.1) (fun i j hij hj => (w2 i j hij hj).1) w3).imp ?_)
    rintro ⟨r6, s6⟩ ⟨p1, p2, p3, p4⟩
    dsimp only at p1 p2 p3 p4
    have blk : ∀ a, 47 + 28 * t ≤ a → a < 61 + 28 * t → s6 a = s2 a := fun a q1 q2 => (p1 a (by omega) (by omega) (by omega)).trans ((w1 a (by omega) (by omega)).trans ((v1 a (by omega)).trans (x1 a (by omega))))
    have hws : Wsrc m (wf sel 24) tn (wy m (cC pp vv hh ww) (aC m pp w9)) (pf m (cC pp vv hh ww) (aC m pp w9)) s6 := by
      refine ⟨?_, fun x hx => ⟨(wok x hx).1, ?_, p4 x hx, way_bd hc hal hC f3 _ _ rfl x, ?_⟩⟩
      · rw [p2 11 (by decide), w1 27 (by decide) (by decide)]; exact hps.1
      · rw [p1 28 (by decide) (by decide) (by decide), w1 28 (by decide) (by decide)]; exact (hps.2 x hx).1.2.1
      · by_cases px : pf m (cC pp vv hh ww) (aC m pp w9) x = true
        · left
          obtain ⟨-, -, -, hh4⟩ := pf_ok hc hal hC f3 hx px
          refine ⟨px, ?_, ?_⟩
          · rcases hh4 with ⟨z, -⟩ | ⟨z, -⟩
            · rw [z]; omega
            · exact z
          · rcases hh4 with ⟨z, -⟩ | ⟨z1, z2, -⟩
            · exact Or.inl z
            · refine Or.inr ⟨z2, ?_, ?_⟩
              · rw [etn]
                dsimp only
                split <;> omega
              · rw [p1 35 (by decide) (by decide) (by decide), (w2 x _ z1 z2).2, etn]
        · right
          refine ⟨?_, (npf_ok hc hal hC f3 hx px).1⟩
          cases z : pf m (cC pp vv hh ww) (aC m pp w9) x with
          | false => rfl
          | true => exact absurd z px
    refine ev_bd2 ((c_writeRound (day := nI d) ht4 f3 hws d5 mn.2 (by rw [blk _ (by omega) (by omega), z2 _ (by omega) (by omega) (by omega)]; exact hrd.2.1) p3).imp ?_)
    rintro ⟨r7, s7⟩ ⟨o1, o2, o3, o4, o5, o6, o7, o8⟩
    dsimp only at o1 o2 o3 o4 o5 o6 o7 o8
    refine ev_some ⟨o1, fun a q1 q2 => ?_, fun a k q1 q2 n1 n2 n3 => ?_, o4, o5, o6, o7, o8⟩
    · dsimp only
      rw [o2 a q2, p1 a (by omega) (by omega) (by omega), w1 a (by omega) (by omega), v1 a (by omega), x1 a (by omega)]
    · dsimp only
      rw [o3 a k q1 q2 n1 n2 n3, blk a q1 q2]
  obtain ⟨⟨r7, s7⟩, e7, o1, o2, o3, o4, o5, o6, o7, o8⟩ := big
  dsimp only at o1 o2 o3 o4 o5 o6 o7 o8
  subst o1
  -- the model
  have hs7 : ∀ a, ¬ (15 ≤ a ∧ a ≤ 41) → ¬ (47 + 28 * t ≤ a ∧ a < 61 + 28 * t) → s7 a = cE (tI (woG g) (wf sel 24) m) 0 g a := fun a q1 q2 => (o2 a q1 q2).trans (hs2 a q1)
  obtain ⟨q1, rb, q2, u1, u2, u3, u4, rq1, eq, yy, fin⟩ := mask _ _ s7 hs7
  rcases yy with ⟨-, rfl, k3, k4⟩ | ⟨z, -⟩
  rotate_left
  · omega
  have z7 : ∀ a, 159 ≤ a → s7 a = g a := fun a ha => (hs7 a (by omega) (by omega)).trans (cE_off (by omega) (by omega))
  have zq2 : ∀ a, 160 < a → a ≠ 175 → a ≠ 176 → q2 a = g a := fun a a1 a2 a3 => by rw [k3 a a3, mE_off (by omega) (by omega), u1 a (by omega) a2, z7 a (by omega)]
  have rq2 : rowT q2 t = rowT g t := rowT_ne (zq2 165 (by omega) (by omega) (by omega))
  -- for the model the blocks do not matter: the old ones
  have row25 := hrd.2.2.1
  have q225 : q2 159 25 = 0 := by rw [k3 159 (by decide), mE_f (by decide) (by decide), u2 25 (by decide), z7 159 (by omega)]; exact hI.h25
  have q230 : q2 159 30 = nI m := by rw [k3 159 (by decide), mE_f (by decide) (by decide)]; exact u3
  have q2175 : ∀ i, i < m → q2 175 i = nI (wf sel 24 i) := fun i hi => by rw [k3 175 (by decide), mE_off (by decide) (by decide)]; exact u4 i hi
  have bl7 : ∀ (j k : Nat), j < 14 → ¬ (j = 0 ∧ k = 2) → ¬ (4 ≤ j ∧ j ≤ 6 ∧ k = dr) → ¬ (7 ≤ j ∧ j ≤ 8 ∧ 5 * dr ≤ k ∧ k < 5 * dr + cn (pf m (cC pp vv hh ww) (aC m pp w9)) m) → s7 (47 + 28 * t + j) k = blkT g t j k := by
    intro j k hj n1 n2 n3
    rw [o3 (47 + 28 * t + j) k (by omega) (by omega) (by omega) (by omega) (by omega), z2 _ (by omega) (by omega) (by omega), blkT_get hj]
  have hen7 : ∀ s : G, (∀ a, a < 159 → s a = s7 a) → rowT s t = rowT g t → T_entries (blkT s t) (rowT s t) dr e := by
    intro s hs hrs
    rw [hrs]
    refine hen.cg d6 ?_ (fun j j1 j2 => ?_) (fun k _ _ => rfl)
    · rw [blkT_get (by decide), hs _ (by omega)]
      exact bl7 0 3 (by decide) (by omega) (by omega) (by omega)
    · rw [blkT_get (show j < 14 by omega), hs _ (by omega)]
      funext k
      exact bl7 j k (by omega) (by omega) (by omega) (by omega)
  have cq2 : ∀ a, a < 159 → q2 a = s7 a := fun a ha => by rw [k3 a (by omega), mE_off (by omega) (by omega), u1 a (by omega) (by omega)]
  have hpts : ∀ s : G, (∀ a, a ≠ 177 → s a = q2 a) → ∀ p, p < 24 → f_X9_pointsOf (nI t) (nI p) (nI d) (nI d) s = some (PT (rowT g t) (nI d) (oc (rowT g t) (nI d) (nI d) e) dr p, s) := by
    intro s hs p hp
    have hrs : rowT s t = rowT g t := (rowT_ne (hs 165 (by decide))).trans rq2
    refine m_pointsOf (F := blkT g t) ht4 hp h24 hrs hin hrd (fun c hc => ?_)
    have := m_outcomeOf (c := c) (d := nI d) (W := nI d) ht4 (hen7 s (fun a ha => (hs a (by omega)).trans (cq2 a ha)) hrs) (by rw [hs 159 (by decide)]; exact q225)
    rw [hrs] at this
    exact this
  have hTq : TT g np' t n dr e := hT
  obtain ⟨q3, e3, v1, v2⟩ := m_pts (d := d) (g := q2) (M := m) (who := wf sel 24) (P := PT (rowT g t) (nI d) (oc (rowT g t) (nI d) (nI d) e) dr) (t := t) f3 q230 (fun i hi => ⟨(wok i hi).1, q2175 i hi⟩) hpts
  have rq3 : rowT q3 t = rowT g t := (rowT_ne (v1 165 (by decide))).trans rq2
  have hms : Msrc t np' n dr m (rowT g t) pp vv (wf sel 24) (g 161) (blkT g t) q3 := by
    refine ⟨ht4, h24, hin, hrd.w, rq3, by rw [v1 159 (by decide)]; exact q230, fun x hx => ⟨(wok x hx).1, by rw [v1 175 (by decide)]; exact q2175 x hx, ?_, (hvv' x hx).2, ?_, (hpp' x hx).2⟩, fun x y hx hy hxy z => hxy (winj x y hx hy z)⟩
    · rw [v1 176 (by decide), k4 x hx]; exact (hvv' x hx).1
    · rw [v2 x hx]; exact (hpp' x hx).1
  have hsrch : Ev (f_X9_search (nI t) q3) (fun q => (∀ a, a ≠ 159 → a ≠ 178 → a ≠ 179 → a ≠ 180 → q.2 a = q3 a) ∧ (∀ k, k ≠ 32 → k ≠ 33 → k ≠ 34 → q.2 159 k = q3 159 k) ∧ ∀ S, 0 < S → S < 2 ^ m → q.2 178 S = nI (opt m (cC pp vv hh ww) (aC m pp w9) (bs S)).1 ∧ q.2 179 S = nI (opt m (cC pp vv hh ww) (aC m pp w9) (bs S)).2) := by
    unfold f_X9_search
    refine ev_bd ((m_costs hms f3).imp ?_)
    rintro s5 ⟨c1, c2, c3, c4⟩
    rw [← ehh, ← eww] at c3
    rw [← ew9] at c4
    refine (m_dp (M := m) (c := cC pp vv hh ww) (al := aC m pp w9) (g := s5) hc hal f3 (by rw [c2 30 (by decide) (by decide) (by decide)]; exact hms.2.2.2.2.2.1) c3 c4).imp ?_
    rintro ⟨r, s6⟩ ⟨d1, d2⟩
    dsimp only at d1 d2
    exact ⟨fun a a1 a2 a3 a4 => (d1 a a2 a3).trans (c1 a a1 a4), fun k x1 x2 x3 => by show s6 159 k = q3 159 k; rw [d1 159 (by decide) (by decide)]; exact c2 k x1 x2 x3, d2⟩
  obtain ⟨⟨r5, q5⟩, e5, w1, w2, w3⟩ := hsrch
  dsimp only at w1 w2 w3
  have pm := Nat.two_pow_pos m
  have pm2 : 2 ≤ 2 ^ m := by
    have := Nat.pow_le_pow_right (n := 2) (by omega) (show 1 ≤ m by omega)
    omega
  have ob := opt_bd hc hal _ (fsM m) rfl
  rw [fs_cn] at ob
  have hms5 : Msrc t np' n dr m (rowT g t) pp vv (wf sel 24) (g 161) (blkT g t) q5 := by
    obtain ⟨y1, y2, y3, y4, y5, y6, y7, y8⟩ := hms
    refine ⟨y1, y2, y3, y4, (rowT_ne (w1 165 (by decide) (by decide) (by decide) (by decide))).trans y5, (w2 30 (by decide) (by decide) (by decide)).trans y6, ?_, y8⟩
    rw [w1 175 (by decide) (by decide) (by decide) (by decide), w1 176 (by decide) (by decide) (by decide) (by decide), w1 177 (by decide) (by decide) (by decide) (by decide)]
    exact y7
  have h178 : q5 178 (2 ^ m - 1) = nI (opt m (cC pp vv hh ww) (aC m pp w9) (fsM m)).1 := by
    have := (w3 (2 ^ m - 1) (by omega) (by omega)).1
    rw [bs_fs] at this
    exact this
  obtain ⟨⟨r6, q6⟩, e6, x1, x2, x3, x4, x5, x6, x7, x8, x9, x10⟩ := m_pairUp (day := nI d) (w9 := w9) hms5 f3 M2 d5 ehh eww hc hal h178 (by omega) (fun S h1 h2 => (w3 S h1 h2).2)
  dsimp only at x1 x2 x3 x4 x5 x6 x7 x8 x9 x10
  rw [← etn] at x9
  generalize hcc : cC pp vv hh ww = c at *
  generalize haa : aC m pp w9 = al at *
  have cellA : f_X9_cell (nI t) 25 q6 = some (nI (dr + 1), q6) := by simp (disch := omega) only [bd2_s, bd_s, wr_s, ck_s, bz_s0, bz_s1, dz_s, nI_litS, nI_add, pk_mul, pk_sub, nI_leI, nI_ltI, nI_eq, ng_lt, ng_le, lt_ng, le_ng, eq_ng, ng_eq, ng_ngE, ng_ngL, ng_ngl, sub1_lt, sub1_ng, eq_self, if_pos, if_neg, if_true, if_false, Nat.zero_add, Nat.add_zero, f_X9_cell, rw_k q6 t, x4]
  have cellB : f_X9_cell (nI t) (((32 : Int32) + nI (dr + 1)) - (1 : Int32)) q6 = some (nI (cn (pf m c al) m), q6) := by
    have e1 : 32 + (dr + 1) - 1 = 32 + dr := by omega
    simp (disch := omega) only [bd2_s, bd_s, wr_s, ck_s, bz_s0, bz_s1, dz_s, nI_litS, nI_add, pk_mul, pk_sub, nI_leI, nI_ltI, nI_eq, ng_lt, ng_le, lt_ng, le_ng, eq_ng, ng_eq, ng_ngE, ng_ngL, ng_ngl, sub1_lt, sub1_ng, eq_self, if_pos, if_neg, if_true, if_false, Nat.zero_add, Nat.add_zero, f_X9_cell, e1, rw_k q6 t, x6]
  refine ⟨nI (cn (pf m c al) m), s7, q6, (ng_le (by have := mn.2; omega) (by decide) (by decide)).mpr trivial, c8 _ _ (q_if_t (by rw [l_2]; exact nI_le M2 (by omega)) (q_if_t (by rw [s12, l_6, nI_ltI (by omega) (by omega)]; exact d5) (q_call ea (q_if_f (by decide) e7)))), fin _ _ (q_if_f (by decide) (q_bd e3 (q_call e5 (q_call e6 (q_call cellA (q_call cellB rfl)))))), ?_⟩
  -- what holds behind it
  have cq6 : ∀ a, a < 159 → q6 a = s7 a := fun a ha => by rw [x1 a (by omega) (by omega), w1 a (by omega) (by omega) (by omega) (by omega), v1 a (by omega), cq2 a ha]
  have fq6 : ∀ k, ¬ (30 ≤ k ∧ k ≤ 34) → q6 159 k = mE (tI (woG g) (wf sel 24) m) 0 s7 159 k := by
    intro k hk
    rw [x2 k (by omega), w2 k (by omega) (by omega) (by omega), v1 159 (by decide), k3 159 (by decide)]
    have a1 : Scr s7 q1 := Scr.gat u1 u2
    exact (a1.mE (tI (woG g) (wf sel 24) m) 0).2 k hk
  have aq6 : ∀ a, 159 < a → a ≠ 165 → ¬ (174 ≤ a ∧ a ≤ 183) → q6 a = mE (tI (woG g) (wf sel 24) m) 0 s7 a := by
    intro a h1 h2 h3
    rw [x1 a (by omega) h2, w1 a (by omega) (by omega) (by omega) (by omega), v1 a (by omega), k3 a (by omega)]
    have a1 : Scr s7 q1 := Scr.gat u1 u2
    exact (a1.mE (tI (woG g) (wf sel 24) m) 0).1 a (by omega) (by omega) (by omega)
  have mm7 : ∀ a, (¬ (15 ≤ a ∧ a ≤ 41) ∧ ¬ (47 + 28 * t ≤ a ∧ a < 61 + 28 * t)) → mE (tI (woG g) (wf sel 24) m) 0 s7 a = mE (tI (woG g) (wf sel 24) m) 0 (cE (tI (woG g) (wf sel 24) m) 0 g) a := mE_fr (P := fun a => ¬ (15 ≤ a ∧ a ≤ 41) ∧ ¬ (47 + 28 * t ≤ a ∧ a < 61 + 28 * t)) (by omega) (by omega) (fun a ha => hs7 a ha.1 ha.2) _ _
  have hIe := hI.eff (tI (woG g) (wf sel 24) m) 0
  have pe : ∀ k, mE (tI (woG g) (wf sel 24) m) 0 (cE (tI (woG g) (wf sel 24) m) 0 g) 159 k = mE (tI (woG g) (wf sel 24) m) 0 (cE (tI (woG g) (wf sel 24) m) 0 g) 159 k := fun _ => rfl
  have b12 : ∀ k, mE (tI (woG g) (wf sel 24) m) 0 (cE (tI (woG g) (wf sel 24) m) 0 g) 0 k = g 0 k := fun k => by rw [mE_off (by decide) (by decide), cE_off (by decide) (by decide)]
  have b159 : ∀ k, k ≠ 2 → k ≠ 0 → mE (tI (woG g) (wf sel 24) m) 0 (cE (tI (woG g) (wf sel 24) m) 0 g) 159 k = g 159 k := fun k k1 k2 => by rw [mE_f k1 k2, cE_off (by decide) (by decide)]
  have b161 : mE (tI (woG g) (wf sel 24) m) 0 (cE (tI (woG g) (wf sel 24) m) 0 g) 161 = g 161 := by rw [mE_off (by decide) (by decide), cE_off (by decide) (by decide)]
  have b165 : mE (tI (woG g) (wf sel 24) m) 0 (cE (tI (woG g) (wf sel 24) m) 0 g) 165 = g 165 := by rw [mE_off (by decide) (by decide), cE_off (by decide) (by decide)]
  have q5165 : q5 165 = g 165 := by rw [w1 165 (by decide) (by decide) (by decide) (by decide), v1 165 (by decide), zq2 165 (by decide) (by decide) (by decide)]
  refine hIe.at2 (t := t) ((b159 3 (by decide) (by decide)).trans e2) h24 ((b12 12).trans ec) h4 htn (fun a n1 n2 n3 n4 n5 => ?_) (fun k hk => ?_) (fun k hk => ?_) ?_
  · by_cases lt : a < 159
    · rw [cq6 a lt, hs7 a n3 n1, mE_off (by omega) (by omega)]
    · rw [aq6 a (by omega) n2 n4]
      exact mm7 a ⟨n3, n1⟩
  · rw [fq6 k hk, mm7 159 ⟨by omega, by omega⟩]
  · rw [x3 k hk, b165, q5165]
  · rw [b161]
    have F' : ∀ j, j < 14 → blkT q6 t j = s7 (47 + 28 * t + j) := fun j hj => by rw [blkT_get hj, cq6 _ (by omega)]
    have Fe : ∀ j, (j = 1 ∨ j = 2 ∨ j = 3 ∨ (9 ≤ j ∧ j ≤ 13)) → blkT q6 t j = blkT g t j := by
      intro j hj
      rw [F' j (by omega)]
      funext k
      exact bl7 j k (by omega) (by omega) (by omega) (by omega)
    have F0 : ∀ k, k ≠ 2 → blkT q6 t 0 k = blkT g t 0 k := by
      intro k hk
      rw [F' 0 (by decide)]
      exact bl7 0 k (by decide) (by omega) (by omega) (by omega)
    have wIn : ∀ x, x < m → ∃ i, i < n ∧ rowT g t (1 + i) = nI (wf sel 24 x) := by
      intro x hx
      have hb : ¬ blkT g t 2 (wf sel 24 x) = nI 0 := by
        have h1 := (sel24 _ (wok x hx).1).mp (wok x hx).2.1
        rw [bk_j g t 2 (by decide)] at h1
        rw [h1]
        decide
      obtain ⟨-, i, hi, ei⟩ := hT.isin (wok x hx).1 hb
      exact ⟨i, hi, by rw [(hin.at h24 hi).2.2, ei]⟩
    obtain ⟨pr1, pr2⟩ := prs_ok (who := wf sel 24) (tn := tn) hc hal hC f3 (fun x hx => (wok x hx).1) winj (I := fun p => ∃ i, i < n ∧ rowT g t (1 + i) = nI p) wIn
    refine ⟨n, dr + 1, e, ?_, ?_, ?_, ?_, ?_⟩
    · rw [F0 0 (by decide), x10 411 (by omega) (by omega) (by omega) (by omega) (by omega) (by omega) (by omega)]
      exact q0
    · exact hin.cg (F0 1 (by decide)) (Fe 1 (by omega)) (Fe 2 (by omega)) (fun k hk => x10 k (by omega) (by omega) (by omega) (by omega) (by omega) (by omega) (by omega))
    · exact hsm.cg (Fe 3 (by omega)) (fun k hk1 hk2 => x10 k (by omega) (by omega) (by omega) (by omega) (by omega) (by omega) (by omega))
    · refine T_rounds.add (M := m) (m := cn (pf m c al) m) (p := pf m c al) (W := wPl (wf sel 24) tn (wy m c al)) (B := bPl (wf sel 24) tn (wy m c al)) hin hrd d5 hd rfl mn.1 mn.2 ?_ ?_ ?_ ?_ (fun j k j1 j2 hk => ?_) (fun j k j1 j2 hk => ?_) (fun y hy py => ?_) x4 x5 x6 x7 x8 x9 x10 pr1 pr2
      · rw [F' 0 (by decide)]; exact o4
      · rw [F' 4 (by decide)]; exact o5
      · rw [F' 5 (by decide)]; exact o6
      · rw [F' 6 (by decide)]; exact o7
      · rw [F' j (by omega)]; exact bl7 j k (by omega) (by omega) (by omega) (by omega)
      · rw [F' j (by omega)]; exact bl7 j k (by omega) (by omega) (by omega) (by omega)
      · rw [F' 7 (by decide), F' 8 (by decide)]; exact o8 y hy py
    · exact hen.add d5 (F0 3 (by decide)) (fun j j1 j2 => Fe j (by omega)) (fun r hr => x10 _ (by omega) (by omega) (by omega) (by omega) (by omega) (by omega) (by omega)) (fun r k hr hk => x10 _ (by omega) (by omega) (by omega) (by omega) (by omega) (by omega) (by omega)) (fun k hk1 hk2 => x10 k (by omega) (by omega) (by omega) (by omega) (by omega) (by omega) (by omega))
theorem sp_drawRound : Sp2 Inv f_X8_drawRound f_X9_drawOf := fun a1 a2 g hI => by
  obtain ⟨r, g1, g2, -, h⟩ := sp_drawRoundR a1 a2 g hI
  exact ⟨r, g1, g2, h⟩
