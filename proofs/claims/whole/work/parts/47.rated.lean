/-! The call rated. -/
abbrev VT : Type := (Nat → Int32) × List Int32
noncomputable def rtP (kd : Nat → Int32) (ou : Int32) (w b : Nat) (a : VT) : VT := (upd (upd a.1 w (a.1 w + gnS (stE kd w).2.1 (wh ou) (a.1 w - a.1 b))) b (a.1 b + gnS (stE kd b).2.1 (bh ou) (-(a.1 w - a.1 b))), a.2 ++ (stE kd w).1 ++ (stE kd b).1)
noncomputable def rtK (R o kd : Nat → Int32) (r k : Nat) (a : VT) : VT := if R (80 + (5 * r + k)) = nI 99 then a else if o (5 * r + k) = nI 0 ∨ o (5 * r + k) = nI 1 ∨ o (5 * r + k) = nI 2 then rtP kd (o (5 * r + k)) (R (50 + (5 * r + k))).toNatClampNeg (R (80 + (5 * r + k))).toNatClampNeg a else a
noncomputable def rtR (R o kd : Nat → Int32) (a0 : VT) (r : Nat) : VT := itK (fun r a => itK (fun k a => rtK R o kd r k a) (mm R r) a) r a0
/-- a pair of round r, and that both are in -/
theorem T_round.pk2 {np n r m k : Nat} {mk : Nat → Int32} {F : Nat → Nat → Int32} {R : Nat → Int32} (h : T_round F R n r m) (hin : T_in np mk F R n) (h24 : np ≤ 24) (hk : k < m) : F 7 (5 * r + k) = R (50 + (5 * r + k)) ∧ F 8 (5 * r + k) = R (80 + (5 * r + k)) ∧ ∃ w, w < np ∧ R (50 + (5 * r + k)) = nI w ∧ (∃ i, i < n ∧ R (1 + i) = nI w) ∧ (R (80 + (5 * r + k)) = nI 99 ∨ ∃ b, b < np ∧ R (80 + (5 * r + k)) = nI b ∧ b ≠ w ∧ ∃ i, i < n ∧ R (1 + i) = nI b) := by
  obtain ⟨q1, q2, w, hw, ew, eb⟩ := h.pk hin h24 hk
  obtain ⟨-, -, ⟨i, hi, ei⟩, hb⟩ := h.2.2.2.2.2.2.2.2.1 k hk
  refine ⟨q1, q2, w, hw, ew, ⟨i, hi, ei.symm.trans ew⟩, ?_⟩
  rcases eb with eb | ⟨b, hb1, eb, hne⟩
  · exact Or.inl eb
  · rcases hb with hb | ⟨j, hj, ej⟩
    · rw [eb] at hb
      exact absurd (nI_inj (b := 99) (by omega) (by omega) hb) (by omega)
    · exact Or.inr ⟨b, hb1, eb, hne, j, hj, ej.symm.trans eb⟩
theorem T_in.kd {np n i p : Nat} {mk : Nat → Int32} {F : Nat → Nat → Int32} {R : Nat → Int32} (h : T_in np mk F R n) (h24 : np ≤ 24) (hk : ∀ p, p < np → ∃ k, k ≤ 4 ∧ mk p = nI k) (hp : p < np) (hi : i < n) (e : R (1 + i) = nI p) : mk p = 0 ∨ mk p = 1 ∨ mk p = 2 ∨ mk p = 3 := by
  obtain ⟨-, q, hq, eq, h4⟩ := h.2.2.2.1 i hi
  have : q = p := nI_inj (by omega) (by omega) (eq.symm.trans e)
  subst this
  rcases kd_cases (hk q hq) with h | h | h | h | h
  · exact Or.inl h
  · exact Or.inr (Or.inl h)
  · exact Or.inr (Or.inr (Or.inl h))
  · exact Or.inr (Or.inr (Or.inr h))
  · exact absurd h h4
theorem st_0 {kd : Nat → Int32} {p : Nat} (h : kd p = 0 ∨ kd p = 1 ∨ kd p = 2 ∨ kd p = 3) : (stE kd p).2.2 = 0 := by
  unfold stE
  rcases h with h | h | h | h <;> rw [h] <;> rfl
theorem st_cg {kd kd' : Nat → Int32} {p : Nat} (h : kd p = kd' p) : stE kd p = stE kd' p := by
  unfold stE
  rw [h]
theorem rtK_nob {R o kd : Nat → Int32} {r k : Nat} (h : R (80 + (5 * r + k)) = nI 99) (a : VT) : rtK R o kd r k a = a := by
  unfold rtK
  rw [if_pos h]
theorem rtK_no {R o kd : Nat → Int32} {r k : Nat} (h : ¬ (o (5 * r + k) = nI 0 ∨ o (5 * r + k) = nI 1 ∨ o (5 * r + k) = nI 2)) (a : VT) : rtK R o kd r k a = a := by
  unfold rtK
  rw [if_neg h]
  split <;> rfl
theorem rtK_p {R o kd : Nat → Int32} {r k w b : Nat} (hw : w < 24) (hb : b < 24) (ew : R (50 + (5 * r + k)) = nI w) (eb : R (80 + (5 * r + k)) = nI b) (h : o (5 * r + k) = nI 0 ∨ o (5 * r + k) = nI 1 ∨ o (5 * r + k) = nI 2) (a : VT) : rtK R o kd r k a = rtP kd (o (5 * r + k)) w b a := by
  unfold rtK
  rw [ew, eb, if_neg (nI_ne (by omega) (by omega) (by omega)), if_pos h, nI_clamp (by omega), nI_clamp (by omega)]
/-- who is in no pair before stays as he was -/
theorem rt_same {np n r m p : Nat} {mk : Nat → Int32} {F : Nat → Nat → Int32} {R o kd : Nat → Int32} (h : T_round F R n r m) (hin : T_in np mk F R n) (h24 : np ≤ 24) : ∀ k, k ≤ m → (∀ i, i < k → R (50 + (5 * r + i)) ≠ nI p ∧ R (80 + (5 * r + i)) ≠ nI p) → ∀ a : VT, (itK (fun k a => rtK R o kd r k a) k a).1 p = a.1 p := by
  intro k
  induction k with
  | zero => intro _ _ a; rfl
  | succ k ih =>
    intro hk hd a
    rw [itK]
    have q := ih (by omega) (fun i hi => hd i (by omega)) a
    obtain ⟨d1, d2⟩ := hd k (by omega)
    obtain ⟨-, -, w, hw, ew, eb⟩ := h.pk hin h24 (show k < m by omega)
    rcases eb with eb | ⟨b, hb, eb, -⟩
    · rw [rtK_nob eb]; exact q
    · by_cases ho : o (5 * r + k) = nI 0 ∨ o (5 * r + k) = nI 1 ∨ o (5 * r + k) = nI 2
      · rw [rtK_p (by omega) (by omega) ew eb ho]
        unfold rtP
        dsimp only
        rw [upd_ne (fun e => d2 (by rw [eb, e])), upd_ne (fun e => d1 (by rw [ew, e]))]
        exact q
      · rw [rtK_no ho]; exact q
/-- the class's ratings through one round -/
theorem c_goThrough {np t n dr e r m : Nat} {g s : G} {o kd : Nat → Int32} {V : VT} (hT : TT g np t n dr e) (hm : T_round (blkT g t) (rowT g t) n r m) (hr : r < 6) (hL : Lc g) (hkd : ∀ p i, p < np → i < n → rowT g t (1 + i) = nI p → g 4 p = kd p ∧ (kd p = 0 ∨ kd p = 1 ∨ kd p = 2 ∨ kd p = 3)) (ho : ∀ c, c < 30 → g 17 c = o c) (hs : ∀ a, a ≠ 40 → s a = cE V.2 0 g a) (hv : ∀ p i, p < np → i < n → rowT g t (1 + i) = nI p → s 40 p = V.1 p) : Ev (f_X3_goThrough (47 + 28 * t) (nI r) s) (fun q => (∀ a, a ≠ 40 → q.2 a = cE (itK (fun k a => rtK (rowT g t) o kd r k a) m V).2 0 g a) ∧ ∀ p i, p < np → i < n → rowT g t (1 + i) = nI p → q.2 40 p = (itK (fun k a => rtK (rowT g t) o kd r k a) m V).1 p) := by
  obtain ⟨h24, ht, hin, -⟩ := hT
  have m5 := hm.2.1
  have e5 := hm.2.2.2.2.1
  unfold f_X3_goThrough
  refine ev_bd ?_
  refine ev_lp (I := fun k s' => s'.1 = nI k ∧ (∀ a, a ≠ 40 → s'.2 a = cE (itK (fun k a => rtK (rowT g t) o kd r k a) k V).2 0 g a) ∧ ∀ p i, p < np → i < n → rowT g t (1 + i) = nI p → s'.2 40 p = (itK (fun k a => rtK (rowT g t) o kd r k a) k V).1 p) m ?_ ?_ 2000 0 _ (Nat.zero_le _) (by omega) ⟨rfl, hs, hv⟩
  · rintro k ⟨x, s'⟩ hk ⟨rfl, i1, i2⟩
    dsimp only at i1 i2
    rw [itK]
    generalize itK (fun k a => rtK (rowT g t) o kd r k a) k V = a at i1 i2
    obtain ⟨f7, f8, w, hw, ew, ⟨iw, hiw, eiw⟩, eb⟩ := hm.pk2 hin h24 hk
    have z : ∀ a, a ≠ 40 → a ≠ 1 → a ≠ 2 → s' a = g a := fun b q1 q2 q3 => (i1 b q1).trans (cE_off q2 q3)
    have e5' : s' (47 + 28 * t + 5) r = nI m := by rw [z _ (by omega) (by omega) (by omega), bk_j g t 5 (by decide)]; exact e5
    have f7' : s' (47 + 28 * t + 7) (5 * r + k) = nI w := by rw [z _ (by omega) (by omega) (by omega), bk_j g t 7 (by decide), f7, ew]
    have f8' : s' (47 + 28 * t + 8) (5 * r + k) = rowT g t (80 + (5 * r + k)) := by rw [z _ (by omega) (by omega) (by omega), bk_j g t 8 (by decide), f8]
    have o' : s' 17 (5 * r + k) = o (5 * r + k) := by rw [z 17 (by decide) (by decide) (by decide)]; exact ho _ (by omega)
    have hcomm : r * 5 + k = 5 * r + k := by omega
    rcases eb with eb | ⟨b, hb, eb, hne, ib, hib, eib⟩
    · rw [eb] at f8'
      refine Ev.of (a := .inl (nI (k + 1), s')) (by simp (disch := omega) only [bd2_s, bd_s, wr_s, ck_s, bz_s0, bz_s1, dz_s, nI_litS, nI_add, pk_mul, pk_sub, nI_leI, nI_ltI, nI_eq, ng_lt, ng_le, lt_ng, le_ng, eq_ng, ng_eq, ng_ngE, ng_ngL, ng_ngl, sub1_lt, sub1_ng, eq_self, if_pos, if_neg, if_true, if_false, Nat.zero_add, Nat.add_zero, e5', hcomm, f8', f7', o']) ⟨rfl, ?_⟩
      rw [rtK_nob eb]
      exact ⟨i1, i2⟩
    · rw [eb] at f8'
      by_cases hoo : o (5 * r + k) = nI 0 ∨ o (5 * r + k) = nI 1 ∨ o (5 * r + k) = nI 2
      · have hpl := c_isPlayed (o := o (5 * r + k)) (g := s')
        rw [if_pos hoo] at hpl
        obtain ⟨kw, kw'⟩ := hkd w iw hw hiw eiw
        obtain ⟨kb, kb'⟩ := hkd b ib hb hib eib
        have s4 : s' 4 = g 4 := z 4 (by decide) (by decide) (by decide)
        have L' : Lc s' := (hL.cE (tr := a.2) (f := 0)).fr (i1 1 (by decide))
        have st1 := c_stepFor (p := w) (g := s') (by omega) L'
        rw [s4, st_cg kw, st_0 kw'] at st1
        have st2 := c_stepFor (p := b) (g := cE (stE kd w).1 0 s') (by omega) L'.cE
        rw [show cE (stE kd w).1 0 s' 4 = g 4 from (cE_off (by decide) (by decide)).trans s4, st_cg kb, st_0 kb', cE_cE, if_pos rfl] at st2
        have st1 : f_X5_stepFor (nI w) s' = some ((stE kd w).2.1, cE (stE kd w).1 (nI 0) s') := st1
        have st2 : f_X5_stepFor (nI b) (cE (stE kd w).1 (nI 0) s') = some ((stE kd b).2.1, cE ((stE kd w).1 ++ (stE kd b).1) (nI 0) s') := st2
        have v1 := i2 w iw hw hiw eiw
        have v2 := i2 b ib hb hib eib
        refine Ev.of (a := .inl (nI (k + 1), up2 (up2 (cE ((stE kd w).1 ++ (stE kd b).1) 0 s') 40 w (a.1 w + gnS (stE kd w).2.1 (wh (o (5 * r + k))) (a.1 w - a.1 b))) 40 b (a.1 b + gnS (stE kd b).2.1 (bh (o (5 * r + k))) (-(a.1 w - a.1 b))))) ?_ ⟨rfl, ?_⟩
        · simp (disch := omega) only [bd2_s, bd_s, wr_s, ck_s, bz_s0, bz_s1, dz_s, nI_litS, nI_add, pk_mul, pk_sub, nI_leI, nI_ltI, nI_eq, ng_lt, ng_le, lt_ng, le_ng, eq_ng, ng_eq, ng_ngE, ng_ngL, ng_ngl, sub1_lt, sub1_ng, eq_self, if_pos, if_neg, if_true, if_false, Nat.zero_add, Nat.add_zero, e5', hcomm, f8', f7', o', hpl, st1, st2, c_wh, c_bh, c_gain, cE_r, v1, v2, up2_ne, up2_eq, upd_ne, upd_eq]
        · rw [rtK_p (by omega) (by omega) ew eb hoo]
          unfold rtP
          dsimp only
          refine ⟨fun c hc => ?_, fun p i hp hi ei => ?_⟩
          · rw [up2_ne hc, up2_ne hc, cE_frame (by decide) (by decide) i1 _ _ c hc, cE_cE, if_pos rfl, List.append_assoc]
          · rw [up2_eq]
            by_cases q1 : p = b
            · subst q1
              rw [upd_eq, upd_eq]
            · rw [upd_ne q1, upd_ne q1, up2_eq]
              by_cases q2 : p = w
              · subst q2
                rw [upd_eq, upd_eq]
              · rw [upd_ne q2, upd_ne q2, cE_off (by decide) (by decide)]
                exact i2 p i hp hi ei
      · have hpl := c_isPlayed (o := o (5 * r + k)) (g := s')
        rw [if_neg hoo] at hpl
        refine Ev.of (a := .inl (nI (k + 1), s')) (by simp (disch := omega) only [bd2_s, bd_s, wr_s, ck_s, bz_s0, bz_s1, dz_s, nI_litS, nI_add, pk_mul, pk_sub, nI_leI, nI_ltI, nI_eq, ng_lt, ng_le, lt_ng, le_ng, eq_ng, ng_eq, ng_ngE, ng_ngL, ng_ngl, sub1_lt, sub1_ng, eq_self, if_pos, if_neg, if_true, if_false, Nat.zero_add, Nat.add_zero, e5', hcomm, f8', f7', o', hpl]) ⟨rfl, ?_⟩
        rw [rtK_no hoo]
        exact ⟨i1, i2⟩
  · rintro ⟨x, s'⟩ ⟨rfl, i1, i2⟩
    dsimp only at i1 i2
    have e5' : s' (47 + 28 * t + 5) r = nI m := by rw [i1 _ (by omega), cE_off (by omega) (by omega), bk_j g t 5 (by decide)]; exact e5
    exact Ev.of (a := .inr s') (by simp (disch := omega) only [bd2_s, bd_s, wr_s, ck_s, bz_s0, bz_s1, dz_s, nI_litS, nI_add, pk_mul, pk_sub, nI_leI, nI_ltI, nI_eq, ng_lt, ng_le, lt_ng, le_ng, eq_ng, ng_eq, ng_ngE, ng_ngL, ng_ngl, sub1_lt, sub1_ng, eq_self, if_pos, if_neg, if_true, if_false, Nat.zero_add, Nat.add_zero, e5']) (ev_some ⟨i1, i2⟩)
/-- the model's ratings through one round -/
theorem m_goThrough {np t n dr e r m W : Nat} {g s : G} {o kd : Nat → Int32} {V : VT} (hT : TT g np t n dr e) (hm : T_round (blkT g t) (rowT g t) n r m) (hr : r < 6) (hL : Lm g) (h25 : g 159 25 = 0) (hkd : ∀ p i, p < np → i < n → rowT g t (1 + i) = nI p → g 161 p = kd p ∧ (kd p = 0 ∨ kd p = 1 ∨ kd p = 2 ∨ kd p = 3)) (ho : ∀ c, c < 30 → o c = oc (rowT g t) (nI 2147483647) (nI W) e c) (hs : ∀ a, (a ≠ 181 ∧ a ≠ 182) → s a = mE V.2 0 g a) (hv : ∀ p i, p < np → i < n → rowT g t (1 + i) = nI p → s 181 p = V.1 p ∧ s 182 p = V.1 p) : Ev (lp (fun (s52 : Int32 × G) => (bd2 (f_X9_cell (nI t) ((32 : Int32) + nI r) s52.2) fun r55 g56 => if r55 ≤ s52.1 then some (.inr (g56)) else bd2 (f_X9_isWithNobody (nI t) (((5 : Int32) * nI r) + s52.1) g56) fun r58 g59 => bd ((if r58 = 0 then bd2 (f_X9_outcomeOf (nI t) (((5 : Int32) * nI r) + s52.1) (2147483647 : Int32) (nI W) g59) fun r86 g87 => some ((r86, g87)) else some (((-1 : Int32), g59)) : Option (Int32 × G))) fun (s62 : Int32 × G) => bd2 (f_X9_in s62.1 (0 : Int32) (2 : Int32) s62.2) fun r63 g64 => bd ((if r63 = 0 then some (g64) else bd2 (f_X9_cell (nI t) ((50 : Int32) + (((5 : Int32) * nI r) + s52.1)) g64) fun r68 g69 => bd2 (f_X9_cell (nI t) ((80 : Int32) + (((5 : Int32) * nI r) + s52.1)) g69) fun r70 g71 => bd2 (f_X9_stepFor r68 g71) fun r72 g73 => bd2 (f_X9_stepFor r70 g73) fun r74 g75 => bd2 (f_X9_halves s62.1 (1 : Int32) g75) fun r76 g77 => bd2 (f_X9_rate r68 r70 r72 r76 g77) fun r78 g79 => bd2 (f_X9_halves s62.1 (0 : Int32) g79) fun r80 g81 => bd2 (f_X9_rate r70 r68 r74 r80 g81) fun r82 g83 => some (g83) : Option (G))) fun (s66 : G) => some (.inl ((s52.1 + (1 : Int32)), s66)) : Option ((Int32 × G) ⊕ (G)))) 2000 ((0 : Int32), s)) (fun q => (∀ a, (a ≠ 181 ∧ a ≠ 182) → q a = mE (itK (fun k a => rtK (rowT g t) o kd r k a) m V).2 0 g a) ∧ ∀ p i, p < np → i < n → rowT g t (1 + i) = nI p → q 181 p = (itK (fun k a => rtK (rowT g t) o kd r k a) m V).1 p) := by
  have hT0 := hT
  obtain ⟨h24, ht, hin, -⟩ := hT
  have m5 := hm.2.1
  have e6 := hm.2.2.2.2.2.1
  refine ev_lp (I := fun k s' => s'.1 = nI k ∧ (∀ a, (a ≠ 181 ∧ a ≠ 182) → s'.2 a = mE (itK (fun k a => rtK (rowT g t) o kd r k a) k V).2 0 g a) ∧ (∀ p i, p < np → i < n → rowT g t (1 + i) = nI p → s'.2 182 p = V.1 p) ∧ ∀ p i, p < np → i < n → rowT g t (1 + i) = nI p → s'.2 181 p = (itK (fun k a => rtK (rowT g t) o kd r k a) k V).1 p) m ?_ ?_ 2000 0 _ (Nat.zero_le _) (by omega) ⟨rfl, hs, fun p i h1 h2 h3 => (hv p i h1 h2 h3).2, fun p i h1 h2 h3 => (hv p i h1 h2 h3).1⟩
  · rintro k ⟨x, s'⟩ hk ⟨rfl, i1, i0, i2⟩
    dsimp only at i1 i0 i2
    rw [itK]
    have same := fun p (hd : ∀ i, i < k → rowT g t (50 + (5 * r + i)) ≠ nI p ∧ rowT g t (80 + (5 * r + i)) ≠ nI p) => rt_same (o := o) (kd := kd) hm hin h24 k (by omega) hd V
    generalize itK (fun k a => rtK (rowT g t) o kd r k a) k V = a at i1 i2 same
    obtain ⟨f7, f8, w, hw, ew, ⟨iw, hiw, eiw⟩, eb⟩ := hm.pk2 hin h24 hk
    have z : ∀ a, a ≠ 181 ∧ a ≠ 182 → a ≠ 159 → a ≠ 160 → s' a = g a := fun b q1 q2 q3 => (i1 b q1).trans (mE_off q2 q3)
    have hT' : TT s' np t n dr e := hT0.cg (z 161 (by omega) (by omega) (by omega)) (z 165 (by omega) (by omega) (by omega)) (fun c q1 q2 => z c (by omega) (by omega) (by omega))
    have hrow : rowT s' t = rowT g t := rowT_ne (z 165 (by omega) (by omega) (by omega))
    have s25 : s' 159 25 = 0 := by rw [i1 159 (by omega), mE_f (by omega) (by omega)]; exact h25
    have o' := hT'.oc s25 (d := nI 2147483647) (W := nI W) (5 * r + k) (by omega)
    rw [hrow, ← ho _ (by omega)] at o'
    rcases eb with eb | ⟨b, hb, eb, hne, ib, hib, eib⟩
    · refine Ev.of (a := .inl (nI (k + 1), s')) (by simp (disch := omega) only [bd2_s, bd_s, wr_s, ck_s, bz_s0, bz_s1, dz_s, nI_litS, nI_add, pk_mul, pk_sub, nI_leI, nI_ltI, nI_eq, ng_lt, ng_le, lt_ng, le_ng, eq_ng, ng_eq, ng_ngE, ng_ngL, ng_ngl, sub1_lt, sub1_ng, eq_self, if_pos, if_neg, if_true, if_false, Nat.zero_add, Nat.add_zero, f_X9_cell, f_X9_isWithNobody, f_X9_in, rw_k s' t, hrow, e6, eb]) ⟨rfl, ?_⟩
      rw [rtK_nob eb]
      exact ⟨i1, i0, i2⟩
    · by_cases hoo : o (5 * r + k) = nI 0 ∨ o (5 * r + k) = nI 1 ∨ o (5 * r + k) = nI 2
      · have hpl := in_02 (x := o (5 * r + k)) (g := s')
        rw [if_pos hoo] at hpl
        obtain ⟨kw, kw'⟩ := hkd w iw hw hiw eiw
        obtain ⟨kb, kb'⟩ := hkd b ib hb hib eib
        have s4 : s' 161 = g 161 := z 161 (by omega) (by decide) (by decide)
        have L' : Lm s' := (hL.mE (tr := a.2) (f := 0)).fr (by rw [i1 159 (by omega)])
        have st1 := m_stepFor (p := w) (g := s') (by omega) L' (by rw [s4, kw]; exact kw')
        rw [s4, st_cg kw] at st1
        have st2 := m_stepFor (p := b) (g := mE (stE kd w).1 0 s') (by omega) L'.mE (by rw [mE_off (by decide) (by decide), s4, kb]; exact kb')
        rw [show mE (stE kd w).1 0 s' 161 = g 161 from (mE_off (by decide) (by decide)).trans s4, st_cg kb, mE_mE, if_pos rfl] at st2
        -- who they were before the round
        have dis : ∀ p, (rowT g t (50 + (5 * r + k)) = nI p ∨ rowT g t (80 + (5 * r + k)) = nI p) → p < 24 → ∀ i, i < k → rowT g t (50 + (5 * r + i)) ≠ nI p ∧ rowT g t (80 + (5 * r + i)) ≠ nI p := by
          intro p hp hp24 i hi
          obtain ⟨-, -, -, -, -, -, -, -, -, u1, u2, u3, -⟩ := hm
          constructor
          · intro q
            rcases hp with z | z
            · have := u1 i k (by omega) hk (q.trans z.symm); omega
            · exact u2 i k (by omega) hk (q.trans z.symm)
          · intro q
            rcases hp with z | z
            · exact u2 k i hk (by omega) (z.trans q.symm)
            · have := u3 i k (by omega) hk (q.trans z.symm) (by rw [q]; exact nI_ne (b := 99) (by omega) (by decide) (by omega)); omega
        have vw := same w (dis w (Or.inl ew) (by omega))
        have vb := same b (dis b (Or.inr eb) (by omega))
        have v1 := i0 w iw hw hiw eiw
        have v2 := i0 b ib hb hib eib
        rw [← vw] at v1
        rw [← vb] at v2
        have rt1 := m_rate (a := w) (b := b) (st := (stE kd w).2.1) (h := wh (o (5 * r + k))) (g := mE ((stE kd w).1 ++ (stE kd b).1) 0 s') (by omega) (by omega)
        rw [show mE ((stE kd w).1 ++ (stE kd b).1) 0 s' 182 = s' 182 from mE_off (by decide) (by decide), v1, v2] at rt1
        have rt2 := m_rate (a := b) (b := w) (st := (stE kd b).2.1) (h := bh (o (5 * r + k))) (g := up2 (mE ((stE kd w).1 ++ (stE kd b).1) 0 s') 181 w (a.1 w + gnS (stE kd w).2.1 (wh (o (5 * r + k))) (a.1 w - a.1 b))) (by omega) (by omega)
        rw [up2_ne (show 182 ≠ 181 by decide), show mE ((stE kd w).1 ++ (stE kd b).1) 0 s' 182 = s' 182 from mE_off (by decide) (by decide), v1, v2, show a.1 b - a.1 w = -(a.1 w - a.1 b) from Int32.neg_sub.symm] at rt2
        refine Ev.of (a := .inl (nI (k + 1), up2 (up2 (mE ((stE kd w).1 ++ (stE kd b).1) 0 s') 181 w (a.1 w + gnS (stE kd w).2.1 (wh (o (5 * r + k))) (a.1 w - a.1 b))) 181 b (a.1 b + gnS (stE kd b).2.1 (bh (o (5 * r + k))) (-(a.1 w - a.1 b))))) ?_ ⟨rfl, ?_⟩
        · dsimp only
          refine q_call (v := nI m) (g' := s') (by simp (disch := omega) only [bd2_s, bd_s, wr_s, ck_s, bz_s0, bz_s1, dz_s, nI_litS, nI_add, pk_mul, pk_sub, nI_leI, nI_ltI, nI_eq, ng_lt, ng_le, lt_ng, le_ng, eq_ng, ng_eq, ng_ngE, ng_ngL, ng_ngl, sub1_lt, sub1_ng, eq_self, if_pos, if_neg, if_true, if_false, Nat.zero_add, Nat.add_zero, f_X9_cell, rw_k s' t, hrow, e6]) ?_
          refine q_if_f (nI_ge hk (by omega)) ?_
          refine q_call (v := nI 0) (g' := s') (by simp (disch := omega) only [bd2_s, bd_s, wr_s, ck_s, bz_s0, bz_s1, dz_s, nI_litS, nI_add, pk_mul, pk_sub, nI_leI, nI_ltI, nI_eq, ng_lt, ng_le, lt_ng, le_ng, eq_ng, ng_eq, ng_ngE, ng_ngL, ng_ngl, sub1_lt, sub1_ng, eq_self, if_pos, if_neg, if_true, if_false, Nat.zero_add, Nat.add_zero, f_X9_isWithNobody, f_X9_cell, rw_k s' t, hrow, eb]) ?_
          refine q_bd (a := (o (5 * r + k), s')) (q_if_t rfl (q_call (show f_X9_outcomeOf (nI t) (5 * nI r + nI k) 2147483647 (nI W) s' = some (o (5 * r + k), s') by
            rw [show (5 : Int32) * nI r + nI k = nI (5 * r + k) by simp (disch := omega) only [bd2_s, bd_s, wr_s, ck_s, bz_s0, bz_s1, dz_s, nI_litS, nI_add, pk_mul, pk_sub, nI_leI, nI_ltI, nI_eq, ng_lt, ng_le, lt_ng, le_ng, eq_ng, ng_eq, ng_ngE, ng_ngL, ng_ngl, sub1_lt, sub1_ng, eq_self, if_pos, if_neg, if_true, if_false, Nat.zero_add, Nat.add_zero]]
            exact o') rfl)) ?_
          refine q_call hpl ?_
          refine q_bd (a := up2 (up2 (mE ((stE kd w).1 ++ (stE kd b).1) 0 s') 181 w (a.1 w + gnS (stE kd w).2.1 (wh (o (5 * r + k))) (a.1 w - a.1 b))) 181 b (a.1 b + gnS (stE kd b).2.1 (bh (o (5 * r + k))) (-(a.1 w - a.1 b)))) ?_ (by rw [← nI_1 k])
          refine q_if_f (by decide) ?_
          refine q_call (v := nI w) (g' := s') (by simp (disch := omega) only [bd2_s, bd_s, wr_s, ck_s, bz_s0, bz_s1, dz_s, nI_litS, nI_add, pk_mul, pk_sub, nI_leI, nI_ltI, nI_eq, ng_lt, ng_le, lt_ng, le_ng, eq_ng, ng_eq, ng_ngE, ng_ngL, ng_ngl, sub1_lt, sub1_ng, eq_self, if_pos, if_neg, if_true, if_false, Nat.zero_add, Nat.add_zero, f_X9_cell, rw_k s' t, hrow, ew]) ?_
          refine q_call (v := nI b) (g' := s') (by simp (disch := omega) only [bd2_s, bd_s, wr_s, ck_s, bz_s0, bz_s1, dz_s, nI_litS, nI_add, pk_mul, pk_sub, nI_leI, nI_ltI, nI_eq, ng_lt, ng_le, lt_ng, le_ng, eq_ng, ng_eq, ng_ngE, ng_ngL, ng_ngl, sub1_lt, sub1_ng, eq_self, if_pos, if_neg, if_true, if_false, Nat.zero_add, Nat.add_zero, f_X9_cell, rw_k s' t, hrow, eb]) ?_
          refine q_call st1 ?_
          refine q_call st2 ?_
          refine q_call m_wh ?_
          refine q_call rt1 ?_
          refine q_call m_bh ?_
          refine q_call rt2 ?_
          rfl
        · rw [rtK_p (by omega) (by omega) ew eb hoo]
          unfold rtP
          dsimp only
          refine ⟨fun c hc => ?_, fun p i hp hi ei => ?_, fun p i hp hi ei => ?_⟩
          · rw [up2_ne hc.1, up2_ne hc.1, mE_fr (P := fun c => c ≠ 181 ∧ c ≠ 182) (by decide) (by decide) i1 _ _ c hc, mE_mE, if_pos rfl, List.append_assoc]
          · rw [up2_ne (by decide), up2_ne (by decide), mE_off (by decide) (by decide)]
            exact i0 p i hp hi ei
          · rw [up2_eq]
            by_cases q1 : p = b
            · subst q1
              rw [upd_eq, upd_eq]
            · rw [upd_ne q1, upd_ne q1, up2_eq]
              by_cases q2 : p = w
              · subst q2
                rw [upd_eq, upd_eq]
              · rw [upd_ne q2, upd_ne q2, mE_off (by decide) (by decide)]
                exact i2 p i hp hi ei
      · have hpl := in_02 (x := o (5 * r + k)) (g := s')
        rw [if_neg hoo] at hpl
        refine Ev.of (a := .inl (nI (k + 1), s')) (by simp (disch := omega) only [bd2_s, bd_s, wr_s, ck_s, bz_s0, bz_s1, dz_s, nI_litS, nI_add, pk_mul, pk_sub, nI_leI, nI_ltI, nI_eq, ng_lt, ng_le, lt_ng, le_ng, eq_ng, ng_eq, ng_ngE, ng_ngL, ng_ngl, sub1_lt, sub1_ng, eq_self, if_pos, if_neg, if_true, if_false, Nat.zero_add, Nat.add_zero, f_X9_cell, f_X9_isWithNobody, rw_k s' t, hrow, e6, eb, o', hpl]) ⟨rfl, ?_⟩
        rw [rtK_no hoo]
        exact ⟨i1, i0, i2⟩
  · rintro ⟨x, s'⟩ ⟨rfl, i1, i0, i2⟩
    dsimp only at i1 i0 i2
    have hrow : rowT s' t = rowT g t := rowT_ne ((i1 165 (by omega)).trans (mE_off (by omega) (by omega)))
    exact Ev.of (a := .inr s') (by simp (disch := omega) only [bd2_s, bd_s, wr_s, ck_s, bz_s0, bz_s1, dz_s, nI_litS, nI_add, pk_mul, pk_sub, nI_leI, nI_ltI, nI_eq, ng_lt, ng_le, lt_ng, le_ng, eq_ng, ng_eq, ng_ngE, ng_ngL, ng_ngl, sub1_lt, sub1_ng, eq_self, if_pos, if_neg, if_true, if_false, Nat.zero_add, Nat.add_zero, f_X9_cell, rw_k s' t, hrow, e6]) ⟨i1, i2⟩
