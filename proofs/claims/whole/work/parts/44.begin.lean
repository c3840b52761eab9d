/-! Gathering, and asking for worths: class and model. -/
theorem Scr.put {g s : G} (h : Scr g s) {a k : Nat} {v : Int32} (ha : (15 ≤ a ∧ a ≤ 41) ∨ (174 ≤ a ∧ a ≤ 183)) : Scr g (up2 s a k v) := ⟨fun b q1 q2 q3 => (up2_ne (by omega)).trans (h.1 b q1 q2 q3), fun j q => by rw [up2_ne (by omega)]; exact h.2 j q⟩
theorem Scr.putF {g s : G} (h : Scr g s) {k : Nat} {v : Int32} (hk : 30 ≤ k ∧ k ≤ 34) : Scr g (up2 s 159 k v) := ⟨fun b q1 q2 q3 => (up2_ne q3).trans (h.1 b q1 q2 q3), fun j q => by rw [up2_eq, upd_ne (by omega)]; exact h.2 j q⟩
theorem cE_frame {s s' : G} {b : Nat} (h1 : b ≠ 1) (h2 : b ≠ 2) (h : ∀ a, a ≠ b → s a = s' a) (T : List Int32) (f : Int32) : ∀ a, a ≠ b → cE T f s a = cE T f s' a := by
  intro a ha
  by_cases a1 : a = 1
  · subst a1
    show (fun k => if k = 1 then (aps T (s 1 1, s 2)).1 else if k = 2 then (if f = 0 then s 1 2 else f) else s 1 k) = (fun k => if k = 1 then (aps T (s' 1 1, s' 2)).1 else if k = 2 then (if f = 0 then s' 1 2 else f) else s' 1 k)
    rw [h 1 (Ne.symm h1), h 2 (Ne.symm h2)]
  · by_cases a2 : a = 2
    · subst a2
      show (aps T (s 1 1, s 2)).2 = (aps T (s' 1 1, s' 2)).2
      rw [h 1 (Ne.symm h1), h 2 (Ne.symm h2)]
    · rw [cE_off a1 a2, cE_off a1 a2]
      exact h a ha
theorem mE_frame {s s' : G} {b : Nat} (h1 : b ≠ 159) (h2 : b ≠ 160) (h : ∀ a, a ≠ b → s a = s' a) (T : List Int32) (f : Int32) : ∀ a, a ≠ b → mE T f s a = mE T f s' a := by
  intro a ha
  by_cases a1 : a = 159
  · subst a1
    show (fun k => if k = 2 then (aps T (s 159 2, s 160)).1 else if k = 0 then (if f = 0 then s 159 0 else f) else s 159 k) = (fun k => if k = 2 then (aps T (s' 159 2, s' 160)).1 else if k = 0 then (if f = 0 then s' 159 0 else f) else s' 159 k)
    rw [h 159 (Ne.symm h1), h 160 (Ne.symm h2)]
  · by_cases a2 : a = 160
    · subst a2
      show (aps T (s 159 2, s 160)).2 = (aps T (s' 159 2, s' 160)).2
      rw [h 159 (Ne.symm h1), h 160 (Ne.symm h2)]
    · rw [mE_off a1 a2, mE_off a1 a2]
      exact h a ha
theorem Lc.fr {s g : G} (h : Lc g) (e : s 1 = g 1) : Lc s := by
  unfold Lc
  rw [e]
  exact h
theorem Lm.fr {s g : G} (h : Lm g) (e : s 159 2 = g 159 2) : Lm s := by
  unfold Lm
  rw [e]
  exact h
theorem c_begin {t np m : Nat} {g : G} {sel : Nat → Bool} {who : Nat → Nat} {w : Nat → List Int32 × Int32 × Int32} (hR : RW np (g 4) (g 5) (g 6) (g 7)) (hw : ∀ p, p < np → woE (g 4) (g 5) (g 6) (g 7) p = w p) (hL : Lc g) (hsel : ∀ p, p < 24 → (sel p = true ↔ ¬ g (47 + 28 * t + 2) p = nI 0)) (hin : ∀ p, p < 24 → sel p = true → p < np) (hwho : ∀ p, p < 24 → sel p = true → who (cn sel p) = p) (hm : m ≤ 24) (hok : ∀ q, q < m → sel q = true → (w q).2.2 = 0) (hend : m = 24 ∨ (m < 24 ∧ sel m = true ∧ ¬ (w m).2.2 = 0)) : Ev (f_X3_begin (47 + 28 * t) g) (fun q => (m = 24 ∧ q.1 = nI 1 ∧ (∀ a, a ≠ 40 → q.2 a = cE (tI w who (cn sel 24)) 0 g a) ∧ ∀ p, p < 24 → sel p = true → q.2 40 p = (w p).2.1) ∨ (m < 24 ∧ q.1 = nI 0 ∧ ∀ a, a ≠ 40 → q.2 a = cE (tI w who (cn sel m + 1)) (w m).2.2 g a)) := by
  unfold f_X3_begin
  refine ev_bd ?_
  have call : ∀ (s : G) (T : List Int32) (p : Nat), p < 24 → sel p = true → (∀ a, a ≠ 40 → s a = cE T 0 g a) → f_X5_worthFor (nI p) s = some ((w p).2.1, cE (w p).1 (w p).2.2 s) := by
    intro s T p hp hs h
    have z : ∀ a, a ≠ 40 → a ≠ 1 → a ≠ 2 → s a = g a := fun a q1 q2 q3 => (h a q1).trans (cE_off q2 q3)
    have e4 : s 4 = g 4 := z 4 (by omega) (by omega) (by omega)
    have e5 : s 5 = g 5 := z 5 (by omega) (by omega) (by omega)
    have e6 : s 6 = g 6 := z 6 (by omega) (by omega) (by omega)
    have e7 : s 7 = g 7 := z 7 (by omega) (by omega) (by omega)
    have q := c_worthFor (g := s) (p := p) (np := np) (by rw [e4, e5, e6, e7]; exact hR) (hin p hp hs) ((hL.cE (tr := T) (f := 0)).fr (h 1 (by omega)))
    rw [e4, e5, e6, e7, hw p (hin p hp hs)] at q
    exact q
  have val : ∀ p, p < 24 → sel p = true → ((w p).2.2 = 0 ∧ ∃ v, v ≤ 3025 ∧ (w p).2.1 = nI v) ∨ ((w p).2.1 = -nI 5 ∧ ∃ f, 0 < f ∧ f < 6 ∧ (w p).2.2 = nI f) := by
    intro p hp hs
    have q := wo_val hR (hin p hp hs)
    rw [hw p (hin p hp hs)] at q
    exact q
  refine ev_lp (I := fun p s => s.1 = nI p ∧ (∀ a, a ≠ 40 → s.2 a = cE (tI w who (cn sel p)) 0 g a) ∧ ∀ q, q < p → sel q = true → s.2 40 q = (w q).2.1) m ?_ ?_ 2000 0 _ (Nat.zero_le _) (by omega) ⟨rfl, fun a ha => ?_, fun q hq => absurd hq (Nat.not_lt_zero q)⟩
  · rintro p ⟨x, s⟩ hp ⟨rfl, h1, h2⟩
    dsimp only at h1 h2
    have st : s (47 + 28 * t + 2) p = g (47 + 28 * t + 2) p := by rw [h1 _ (by omega), cE_off (by omega) (by omega)]
    by_cases hs : sel p = true
    · have st0 := (hsel p (by omega)).mp hs
      rw [← st] at st0
      have hc := call s _ p (by omega) hs h1
      have f0 := hok p hp hs
      rcases val p (by omega) hs with ⟨-, v, v1, v2⟩ | ⟨-, f, q1, q2, q3⟩
      · rw [f0, v2] at hc
        refine Ev.of (a := .inl (nI (p + 1), up2 (cE (w p).1 0 s) 40 p (nI v))) (by simp (disch := omega) only [bd2_s, bd_s, wr_s, ck_s, bz_s0, bz_s1, dz_s, nI_litS, nI_add, pk_mul, pk_sub, nI_leI, nI_ltI, nI_eq, ng_lt, ng_le, lt_ng, le_ng, eq_ng, ng_eq, ng_ngE, ng_ngL, ng_ngl, sub1_lt, sub1_ng, eq_self, if_pos, if_neg, if_true, if_false, Nat.zero_add, Nat.add_zero, f_X7_hasIn, st0, hc, up2_eq, upd_eq]) ⟨rfl, fun a ha => ?_, fun q hq hsq => ?_⟩
        · show up2 _ 40 p _ a = _
          rw [up2_ne ha, cn, if_pos hs, tI, hwho p (by omega) hs, cE_frame (by decide) (by decide) h1 _ _ a ha, cE_cE]
          rfl
        · show up2 _ 40 p _ 40 q = _
          by_cases e : q = p
          · subst e
            rw [up2_eq, upd_eq, v2]
          · rw [up2_eq, upd_ne e, cE_off (by decide) (by decide)]
            exact h2 q (by omega) hsq
      · rw [f0] at q3
        exact absurd q3.symm (nI_ne0 q1 (by omega))
    · have st0 : s (47 + 28 * t + 2) p = nI 0 := by
        rw [st]
        exact Classical.not_not.mp (fun q => hs ((hsel p (by omega)).mpr q))
      refine Ev.of (a := .inl (nI (p + 1), s)) (by simp (disch := omega) only [bd2_s, bd_s, wr_s, ck_s, bz_s0, bz_s1, dz_s, nI_litS, nI_add, pk_mul, pk_sub, nI_leI, nI_ltI, nI_eq, ng_lt, ng_le, lt_ng, le_ng, eq_ng, ng_eq, ng_ngE, ng_ngL, ng_ngl, sub1_lt, sub1_ng, eq_self, if_pos, if_neg, if_true, if_false, Nat.zero_add, Nat.add_zero, f_X7_hasIn, st0]) ⟨rfl, fun a ha => ?_, fun q hq hsq => ?_⟩
      · rw [cn, if_neg hs]
        exact h1 a ha
      · refine h2 q ?_ hsq
        by_cases e : q = p
        · subst e; exact absurd hsq hs
        · omega
  · rintro ⟨x, s⟩ ⟨rfl, h1, h2⟩
    dsimp only at h1 h2
    rcases hend with e | ⟨h24, hs, hf⟩
    · subst e
      exact Ev.of (a := .inr (.inl s)) (by simp (disch := omega) only [bd2_s, bd_s, wr_s, ck_s, bz_s0, bz_s1, dz_s, nI_litS, nI_add, pk_mul, pk_sub, nI_leI, nI_ltI, nI_eq, ng_lt, ng_le, lt_ng, le_ng, eq_ng, ng_eq, ng_ngE, ng_ngL, ng_ngl, sub1_lt, sub1_ng, eq_self, if_pos, if_neg, if_true, if_false, Nat.zero_add, Nat.add_zero]) (ev_some (Or.inl ⟨rfl, rfl, h1, h2⟩))
    · have st : s (47 + 28 * t + 2) m = g (47 + 28 * t + 2) m := by rw [h1 _ (by omega), cE_off (by omega) (by omega)]
      have st0 := (hsel m (by omega)).mp hs
      rw [← st] at st0
      have hc := call s _ m (by omega) hs h1
      rcases val m (by omega) hs with ⟨q1, -⟩ | ⟨v2, -⟩
      · exact absurd q1 hf
      · rw [v2] at hc
        refine Ev.of (a := .inr (.inr (nI 0, up2 (cE (w m).1 (w m).2.2 s) 40 m (-nI 5)))) (by simp (disch := omega) only [bd2_s, bd_s, wr_s, ck_s, bz_s0, bz_s1, dz_s, nI_litS, nI_add, pk_mul, pk_sub, nI_leI, nI_ltI, nI_eq, ng_lt, ng_le, lt_ng, le_ng, eq_ng, ng_eq, ng_ngE, ng_ngL, ng_ngl, sub1_lt, sub1_ng, eq_self, if_pos, if_neg, if_true, if_false, Nat.zero_add, Nat.add_zero, f_X7_hasIn, st0, hc, up2_eq, upd_eq]) (ev_some (Or.inr ⟨h24, rfl, fun a ha => ?_⟩))
        show up2 _ 40 m _ a = _
        rw [up2_ne ha, tI, hwho m (by omega) hs, cE_frame (by decide) (by decide) h1 _ _ a ha, cE_cE, if_neg hf]
  · dsimp only
    rw [cn, tI, cE_nil]
theorem m_gather {t np : Nat} {all : Nat} {g : G} {sel : Nat → Bool} {who : Nat → Nat} (ht : t < 4) (h24 : np ≤ 24) (hall : all = 0 ∨ all = 1) (hp3 : g 159 3 = nI np) (hpl : ∀ p, p < np → (sel p = false ∧ ((∀ g', rowT g' t = rowT g t → f_X9_placeOf (nI t) (nI p) g' = some (-nI 1, g')) ∨ (all = 0 ∧ ∃ k, k < 10 ∧ rowT g t (11 + k) = nI 1 ∧ ∀ g', rowT g' t = rowT g t → f_X9_placeOf (nI t) (nI p) g' = some (nI k, g')))) ∨ (sel p = true ∧ ∃ k, k < 10 ∧ (all = 0 → rowT g t (11 + k) = nI 0) ∧ ∀ g', rowT g' t = rowT g t → f_X9_placeOf (nI t) (nI p) g' = some (nI k, g'))) (hwho : ∀ p, p < np → sel p = true → who (cn sel p) = p) (h10 : cn sel np ≤ 10) : Ev (f_X9_gather (nI t) (nI all) g) (fun q => q.1 = 0 ∧ (∀ a, a ≠ 159 → a ≠ 175 → q.2 a = g a) ∧ (∀ k, k ≠ 30 → q.2 159 k = g 159 k) ∧ q.2 159 30 = nI (cn sel np) ∧ ∀ i, i < cn sel np → q.2 175 i = nI (who i)) := by
  unfold f_X9_gather
  refine ev_wr ?_
  refine ev_bd ?_
  refine ev_lp (I := fun p s => s.1 = nI p ∧ (∀ a, a ≠ 159 → a ≠ 175 → s.2 a = g a) ∧ (∀ k, k ≠ 30 → s.2 159 k = g 159 k) ∧ s.2 159 30 = nI (cn sel p) ∧ ∀ i, i < cn sel p → s.2 175 i = nI (who i)) np ?_ ?_ 2000 0 _ (Nat.zero_le _) (by omega) ⟨rfl, fun a h1 h2 => up2_ne h1, fun k hk => ?_, rfl, fun i hi => absurd hi (Nat.not_lt_zero i)⟩
  · rintro p ⟨x, s⟩ hp ⟨rfl, h1, h2, h3, h4⟩
    dsimp only at h1 h2 h3 h4
    have p3 : s 159 3 = nI np := (h2 3 (by omega)).trans hp3
    have hrow : rowT s t = rowT g t := rowT_ne (h1 165 (by omega) (by omega))
    rcases hpl p hp with ⟨hs, hn | ⟨ha, k, hk, hr, hn⟩⟩ | ⟨hs, k, hk, hr, hn⟩
    · have hn := hn s hrow
      refine Ev.of (a := .inl (nI (p + 1), s)) (by simp (disch := omega) only [bd2_s, bd_s, wr_s, ck_s, bz_s0, bz_s1, dz_s, nI_litS, nI_add, pk_mul, pk_sub, nI_leI, nI_ltI, nI_eq, ng_lt, ng_le, lt_ng, le_ng, eq_ng, ng_eq, ng_ngE, ng_ngL, ng_ngl, sub1_lt, sub1_ng, eq_self, if_pos, if_neg, if_true, if_false, Nat.zero_add, Nat.add_zero, p3, hn]) ⟨rfl, h1, h2, ?_, ?_⟩
      · rw [cn, hs, if_neg (by decide)]; exact h3
      · rw [cn, hs, if_neg (by decide)]; exact h4
    · have hn := hn s hrow
      subst ha
      refine Ev.of (a := .inl (nI (p + 1), s)) (by simp (disch := omega) only [bd2_s, bd_s, wr_s, ck_s, bz_s0, bz_s1, dz_s, nI_litS, nI_add, pk_mul, pk_sub, nI_leI, nI_ltI, nI_eq, ng_lt, ng_le, lt_ng, le_ng, eq_ng, ng_eq, ng_ngE, ng_ngL, ng_ngl, sub1_lt, sub1_ng, eq_self, if_pos, if_neg, if_true, if_false, Nat.zero_add, Nat.add_zero, p3, hn, f_X9_cell, rw_k s t, hrow, hr]) ⟨rfl, h1, h2, ?_, ?_⟩
      · rw [cn, hs, if_neg (by decide)]; exact h3
      · rw [cn, hs, if_neg (by decide)]; exact h4
    · have hn := hn s hrow
      have c10 : cn sel p < 10 := by
        have := cn_lt sel hp hs
        omega
      refine Ev.of (a := .inl (nI (p + 1), up2 (up2 s 175 (cn sel p) (nI p)) 159 30 (nI (cn sel p + 1)))) ?_ ⟨rfl, fun a a1 a2 => ?_, fun k hk => ?_, ?_, fun i hi => ?_⟩
      · rcases hall with rfl | rfl
        · have hr := hr rfl
          simp (disch := omega) only [bd2_s, bd_s, wr_s, ck_s, bz_s0, bz_s1, dz_s, nI_litS, nI_add, pk_mul, pk_sub, nI_leI, nI_ltI, nI_eq, ng_lt, ng_le, lt_ng, le_ng, eq_ng, ng_eq, ng_ngE, ng_ngL, ng_ngl, sub1_lt, sub1_ng, eq_self, if_pos, if_neg, if_true, if_false, Nat.zero_add, Nat.add_zero, p3, hn, f_X9_cell, rw_k s t, hrow, hr, h3, up2_ne]
        · simp (disch := omega) only [bd2_s, bd_s, wr_s, ck_s, bz_s0, bz_s1, dz_s, nI_litS, nI_add, pk_mul, pk_sub, nI_leI, nI_ltI, nI_eq, ng_lt, ng_le, lt_ng, le_ng, eq_ng, ng_eq, ng_ngE, ng_ngL, ng_ngl, sub1_lt, sub1_ng, eq_self, if_pos, if_neg, if_true, if_false, Nat.zero_add, Nat.add_zero, p3, hn, h3, up2_ne]
      · dsimp only
        rw [up2_ne a1, up2_ne a2]
        exact h1 a a1 a2
      · dsimp only
        rw [up2_eq, upd_ne hk, up2_ne (by decide)]
        exact h2 k hk
      · dsimp only
        rw [up2_eq, upd_eq, cn, if_pos hs]
      · dsimp only
        rw [cn, if_pos hs] at hi
        rw [up2_ne (by decide), up2_eq]
        by_cases e : i = cn sel p
        · subst e
          rw [upd_eq, hwho p hp hs]
        · rw [upd_ne e]
          exact h4 i (by omega)
  · rintro ⟨x, s⟩ ⟨rfl, h1, h2, h3, h4⟩
    dsimp only at h1 h2 h3 h4
    have p3 : s 159 3 = nI np := (h2 3 (by omega)).trans hp3
    exact Ev.of (a := .inr s) (by simp (disch := omega) only [bd2_s, bd_s, wr_s, ck_s, bz_s0, bz_s1, dz_s, nI_litS, nI_add, pk_mul, pk_sub, nI_leI, nI_ltI, nI_eq, ng_lt, ng_le, lt_ng, le_ng, eq_ng, ng_eq, ng_ngE, ng_ngL, ng_ngl, sub1_lt, sub1_ng, eq_self, if_pos, if_neg, if_true, if_false, Nat.zero_add, Nat.add_zero, p3]) (ev_some ⟨rfl, h1, h2, h3, h4⟩)
  · dsimp only
    rw [up2_eq, upd_ne hk]
theorem m_askW {np m M : Nat} {g : G} {who : Nat → Nat} {w : Nat → List Int32 × Int32 × Int32} (hR : RW np (g 161) (g 162) (g 163) (g 164)) (hw : ∀ p, p < np → woE (g 161) (g 162) (g 163) (g 164) p = w p) (hL : Lm g) (hM : g 159 30 = nI M) (M10 : M ≤ 10) (hwho : ∀ i, i < M → who i < np ∧ g 175 i = nI (who i)) (hm : m ≤ M) (hok : ∀ i, i < m → (w (who i)).2.2 = 0) (hend : m = M ∨ (m < M ∧ ¬ (w (who m)).2.2 = 0)) : Ev (f_X9_askWorths g) (fun q => (m = M ∧ q.1 = nI 1 ∧ (∀ a, a ≠ 176 → q.2 a = mE (tI w who M) 0 g a) ∧ ∀ i, i < M → q.2 176 i = (w (who i)).2.1) ∨ (m < M ∧ q.1 = -nI 5 ∧ ∀ a, a ≠ 176 → q.2 a = mE (tI w who (m + 1)) (w (who m)).2.2 g a)) := by
  unfold f_X9_askWorths
  refine ev_bd ?_
  have call : ∀ (s : G) (T : List Int32) (i : Nat), i < M → (∀ a, a ≠ 176 → s a = mE T 0 g a) → f_X9_worthOf (nI (who i)) s = some ((w (who i)).2.1, mE (w (who i)).1 (w (who i)).2.2 s) := by
    intro s T i hi h
    have z : ∀ a, a ≠ 176 → a ≠ 159 → a ≠ 160 → s a = g a := fun a q1 q2 q3 => (h a q1).trans (mE_off q2 q3)
    have e4 : s 161 = g 161 := z 161 (by omega) (by omega) (by omega)
    have e5 : s 162 = g 162 := z 162 (by omega) (by omega) (by omega)
    have e6 : s 163 = g 163 := z 163 (by omega) (by omega) (by omega)
    have e7 : s 164 = g 164 := z 164 (by omega) (by omega) (by omega)
    have q := m_worthOf (g := s) (p := who i) (np := np) (by rw [e4, e5, e6, e7]; exact hR) (hwho i hi).1 ((hL.mE (tr := T) (f := 0)).fr (by rw [h 159 (by omega)]))
    rw [e4, e5, e6, e7, hw _ (hwho i hi).1] at q
    exact q
  have val : ∀ i, i < M → ((w (who i)).2.2 = 0 ∧ ∃ v, v ≤ 3025 ∧ (w (who i)).2.1 = nI v) ∨ ((w (who i)).2.1 = -nI 5 ∧ ∃ f, 0 < f ∧ f < 6 ∧ (w (who i)).2.2 = nI f) := by
    intro i hi
    have q := wo_val hR (hwho i hi).1
    rw [hw _ (hwho i hi).1] at q
    exact q
  refine ev_lp (I := fun i s => s.1 = nI i ∧ (∀ a, a ≠ 176 → s.2 a = mE (tI w who i) 0 g a) ∧ ∀ j, j < i → s.2 176 j = (w (who j)).2.1) m ?_ ?_ 2000 0 _ (Nat.zero_le _) (by omega) ⟨rfl, fun a ha => ?_, fun q hq => absurd hq (Nat.not_lt_zero q)⟩
  · rintro i ⟨x, s⟩ hi ⟨rfl, h1, h2⟩
    dsimp only at h1 h2
    have p30 : s 159 30 = nI M := by rw [h1 159 (by omega), mE_f (by omega) (by omega)]; exact hM
    have p175 : s 175 i = nI (who i) := by rw [h1 175 (by omega), mE_off (by omega) (by omega)]; exact (hwho i (by omega)).2
    have hc := call s _ i (by omega) h1
    have f0 := hok i hi
    rcases val i (by omega) with ⟨-, v, v1, v2⟩ | ⟨-, f, q1, q2, q3⟩
    · rw [f0, v2] at hc
      refine Ev.of (a := .inl (nI (i + 1), up2 (mE (w (who i)).1 0 s) 176 i (nI v))) (by simp (disch := omega) only [bd2_s, bd_s, wr_s, ck_s, bz_s0, bz_s1, dz_s, nI_litS, nI_add, pk_mul, pk_sub, nI_leI, nI_ltI, nI_eq, ng_lt, ng_le, lt_ng, le_ng, eq_ng, ng_eq, ng_ngE, ng_ngL, ng_ngl, sub1_lt, sub1_ng, eq_self, if_pos, if_neg, if_true, if_false, Nat.zero_add, Nat.add_zero, p30, p175, hc]) ⟨rfl, fun a ha => ?_, fun j hj => ?_⟩
      · show up2 _ 176 i _ a = _
        rw [up2_ne ha, tI, mE_frame (by decide) (by decide) h1 _ _ a ha, mE_mE]
        rfl
      · show up2 _ 176 i _ 176 j = _
        by_cases e : j = i
        · subst e
          rw [up2_eq, upd_eq, v2]
        · rw [up2_eq, upd_ne e, mE_off (by decide) (by decide)]
          exact h2 j (by omega)
    · rw [f0] at q3
      exact absurd q3.symm (nI_ne0 q1 (by omega))
  · rintro ⟨x, s⟩ ⟨rfl, h1, h2⟩
    dsimp only at h1 h2
    have p30 : s 159 30 = nI M := by rw [h1 159 (by omega), mE_f (by omega) (by omega)]; exact hM
    rcases hend with e | ⟨hlt, hf⟩
    · subst e
      exact Ev.of (a := .inr (.inl s)) (by simp (disch := omega) only [bd2_s, bd_s, wr_s, ck_s, bz_s0, bz_s1, dz_s, nI_litS, nI_add, pk_mul, pk_sub, nI_leI, nI_ltI, nI_eq, ng_lt, ng_le, lt_ng, le_ng, eq_ng, ng_eq, ng_ngE, ng_ngL, ng_ngl, sub1_lt, sub1_ng, eq_self, if_pos, if_neg, if_true, if_false, Nat.zero_add, Nat.add_zero, p30]) (ev_some (Or.inl ⟨rfl, rfl, h1, h2⟩))
    · have p175 : s 175 m = nI (who m) := by rw [h1 175 (by omega), mE_off (by omega) (by omega)]; exact (hwho m hlt).2
      have hc := call s _ m hlt h1
      rcases val m hlt with ⟨q1, -⟩ | ⟨v2, -⟩
      · exact absurd q1 hf
      · rw [v2] at hc
        refine Ev.of (a := .inr (.inr (-nI 5, mE (w (who m)).1 (w (who m)).2.2 s))) (by simp (disch := omega) only [bd2_s, bd_s, wr_s, ck_s, bz_s0, bz_s1, dz_s, nI_litS, nI_add, pk_mul, pk_sub, nI_leI, nI_ltI, nI_eq, ng_lt, ng_le, lt_ng, le_ng, eq_ng, ng_eq, ng_ngE, ng_ngL, ng_ngl, sub1_lt, sub1_ng, eq_self, if_pos, if_neg, if_true, if_false, Nat.zero_add, Nat.add_zero, p30, p175, hc]) (ev_some (Or.inr ⟨hlt, rfl, fun a ha => ?_⟩))
        show mE _ _ s a = _
        rw [tI, mE_frame (by decide) (by decide) h1 _ _ a ha, mE_mE, if_neg hf]
  · dsimp only
    rw [tI, mE_nil]
