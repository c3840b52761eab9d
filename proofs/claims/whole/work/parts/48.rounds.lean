/-! The call rated: rounds, and all. -/
theorem rtR_s {R o kd : Nat → Int32} {a0 : VT} {F : Nat → Nat → Int32} {n r m : Nat} (hm : T_round F R n r m) : rtR R o kd a0 (r + 1) = itK (fun k a => rtK R o kd r k a) m (rtR R o kd a0 r) := by
  show itK _ (mm R r) _ = _
  rw [hm.mmE]
  rfl
theorem c_rounds {np t n dr e rr : Nat} {a3 : Int32} {g : G} {o kd : Nat → Int32} {v0 : Nat → Int32} (hT : TT g np t n dr e) (hL : Lc g) (hkd : ∀ p i, p < np → i < n → rowT g t (1 + i) = nI p → g 4 p = kd p ∧ (kd p = 0 ∨ kd p = 1 ∨ kd p = 2 ∨ kd p = 3)) (ho : ∀ c, c < 30 → g 17 c = o c) (hv : ∀ p i, p < np → i < n → rowT g t (1 + i) = nI p → g 40 p = v0 p) (hA : ∀ i, i < 100 → (a3 < nI i ↔ rr ≤ i)) (h6 : rr ≤ 6) : Ev (lp (fun (s17 : Int32 × G) => (if a3 < s17.1 then some (.inr (.inl (s17.2))) else if s17.1 < (s17.2 (47 + 28 * t) 2) then bd2 (f_X3_goThrough (47 + 28 * t) s17.1 s17.2) fun r22 g23 => some (.inl ((s17.1 + (1 : Int32)), g23)) else bd2 (f_X1_met (1 : Int32) s17.2) fun r24 g25 => some (.inr (.inr ((r24, g25)))) : Option ((Int32 × G) ⊕ ((G) ⊕ (Int32 × G))))) 2000 ((0 : Int32), g)) (fun y => (rr ≤ dr ∧ ∃ s, y = .inl s ∧ (∀ a, a ≠ 40 → s a = cE (rtR (rowT g t) o kd (v0, []) rr).2 0 g a) ∧ ∀ p i, p < np → i < n → rowT g t (1 + i) = nI p → s 40 p = (rtR (rowT g t) o kd (v0, []) rr).1 p) ∨ (dr < rr ∧ ∃ s, y = .inr (-nI 5, cE [] (nI 1) s) ∧ ∀ a, a ≠ 40 → s a = cE (rtR (rowT g t) o kd (v0, []) dr).2 0 g a)) := by
  obtain ⟨d6, c2, m25, hr, hz⟩ := hT.2.2.2.2.1
  have ht := hT.2.1
  refine ev_lp (I := fun r s => s.1 = nI r ∧ (∀ a, a ≠ 40 → s.2 a = cE (rtR (rowT g t) o kd (v0, []) r).2 0 g a) ∧ ∀ p i, p < np → i < n → rowT g t (1 + i) = nI p → s.2 40 p = (rtR (rowT g t) o kd (v0, []) r).1 p) (if rr ≤ dr then rr else dr) ?_ ?_ 2000 0 _ (Nat.zero_le _) (by split <;> omega) ⟨rfl, fun a ha => ?_, hv⟩
  · rintro r ⟨x, s⟩ hrr ⟨rfl, h1, h2⟩
    dsimp only at h1 h2
    have q1 : r < rr := by split at hrr <;> omega
    have q2 : r < dr := by split at hrr <;> omega
    have c2' : s (47 + 28 * t) 2 = nI dr := by rw [h1 _ (by omega), cE_off (by omega) (by omega)]; exact c2
    obtain ⟨m, hm⟩ := hr r q2
    dsimp only
    refine ev_f (fun q => absurd ((hA r (by omega)).mp q) (by omega)) ?_
    refine ev_t (by rw [c2', nI_ltI (by omega) (by omega)]; exact q2) ?_
    refine ev_bd2 ((c_goThrough (V := rtR (rowT g t) o kd (v0, []) r) hT hm (by omega) hL hkd ho h1 h2).imp ?_)
    rintro ⟨r3, s3⟩ ⟨y1, y2⟩
    rw [← rtR_s hm] at y1 y2
    exact ev_some ⟨nI_1 r, y1, y2⟩
  · rintro ⟨x, s⟩ ⟨rfl, h1, h2⟩
    dsimp only at h1 h2
    have c2' : s (47 + 28 * t) 2 = nI dr := by rw [h1 _ (by omega), cE_off (by omega) (by omega)]; exact c2
    by_cases h : rr ≤ dr
    · rw [if_pos h] at h1 h2 ⊢
      refine ev_t ((hA rr (by omega)).mpr (Nat.le_refl _)) ?_
      exact ev_some (Or.inl ⟨h, s, rfl, h1, h2⟩)
    · rw [if_neg h] at h1 h2 ⊢
      refine ev_f (fun q => absurd ((hA dr (by omega)).mp q) (by omega)) ?_
      refine ev_f (by show ¬ nI dr < s (47 + 28 * t) 2; rw [c2', nI_ltI (by omega) (by omega)]; omega) ?_
      refine ev_call (c_metS (n := 1) (by omega) (by omega)) ?_
      exact ev_some (Or.inr ⟨by omega, s, rfl, h1⟩)
  · dsimp only
    show g a = cE [] 0 g a
    rw [cE_nil]
theorem m_copy {g : G} : Ev (lp (fun (s42 : Int32 × G) => (if (24 : Int32) ≤ s42.1 then some (.inr (s42.2)) else ck s42.1 24 fun j46 => ck s42.1 24 fun j47 => wr (up2 s42.2 182 j47 (s42.2 181 j46)) fun g48 => some (.inl ((s42.1 + (1 : Int32)), g48)) : Option ((Int32 × G) ⊕ (G)))) 2000 ((0 : Int32), g)) (fun s => (∀ a, a ≠ 182 → s a = g a) ∧ ∀ p, p < 24 → s 182 p = g 181 p) := by
  refine ev_lp (I := fun i s => s.1 = nI i ∧ (∀ a, a ≠ 182 → s.2 a = g a) ∧ ∀ p, p < i → s.2 182 p = g 181 p) 24 ?_ ?_ 2000 0 _ (Nat.zero_le _) (by omega) ⟨rfl, fun _ _ => rfl, fun p hp => absurd hp (Nat.not_lt_zero p)⟩
  · rintro i ⟨x, s⟩ hi ⟨rfl, h1, h2⟩
    dsimp only at h1 h2
    refine Ev.of (a := .inl (nI (i + 1), up2 s 182 i (s 181 i))) (by simp (disch := omega) only [bd2_s, bd_s, wr_s, ck_s, bz_s0, bz_s1, dz_s, nI_litS, nI_add, pk_mul, pk_sub, nI_leI, nI_ltI, nI_eq, ng_lt, ng_le, lt_ng, le_ng, eq_ng, ng_eq, ng_ngE, ng_ngL, ng_ngl, sub1_lt, sub1_ng, eq_self, if_pos, if_neg, if_true, if_false, Nat.zero_add, Nat.add_zero]) ⟨rfl, fun a ha => ?_, fun p hp => ?_⟩
    · dsimp only
      rw [up2_ne ha]; exact h1 a ha
    · dsimp only
      rw [up2_eq]
      by_cases e : p = i
      · subst e; rw [upd_eq, h1 181 (by omega)]
      · rw [upd_ne e]; exact h2 p (by omega)
  · rintro ⟨x, s⟩ ⟨rfl, h1, h2⟩
    dsimp only at h1 h2
    exact Ev.of (a := .inr s) (by simp (disch := omega) only [bd2_s, bd_s, wr_s, ck_s, bz_s0, bz_s1, dz_s, nI_litS, nI_add, pk_mul, pk_sub, nI_leI, nI_ltI, nI_eq, ng_lt, ng_le, lt_ng, le_ng, eq_ng, ng_eq, ng_ngE, ng_ngL, ng_ngl, sub1_lt, sub1_ng, eq_self, if_pos, if_neg, if_true, if_false, Nat.zero_add, Nat.add_zero]) ⟨h1, h2⟩
theorem m_rounds {np t n dr e rr W : Nat} {a3 : Int32} {g : G} {o kd : Nat → Int32} {v0 : Nat → Int32} (hT : TT g np t n dr e) (hL : Lm g) (h25 : g 159 25 = 0) (hkd : ∀ p i, p < np → i < n → rowT g t (1 + i) = nI p → g 161 p = kd p ∧ (kd p = 0 ∨ kd p = 1 ∨ kd p = 2 ∨ kd p = 3)) (ho : ∀ c, c < 30 → o c = oc (rowT g t) (nI 2147483647) (nI W) e c) (hv : ∀ p i, p < np → i < n → rowT g t (1 + i) = nI p → g 181 p = v0 p) (hA : ∀ i, i < 100 → (a3 < nI i ↔ rr ≤ i)) (h6 : rr ≤ 6) : Ev (lp (fun (s33 : Int32 × G) => (if a3 < s33.1 then some (.inr (.inl (s33.2))) else bd2 (f_X9_cell (nI t) (25 : Int32) s33.2) fun r37 g38 => if s33.1 < r37 then bd (lp (fun (s42 : Int32 × G) => (if (24 : Int32) ≤ s42.1 then some (.inr (s42.2)) else ck s42.1 24 fun j46 => ck s42.1 24 fun j47 => wr (up2 s42.2 182 j47 (s42.2 181 j46)) fun g48 => some (.inl ((s42.1 + (1 : Int32)), g48)) : Option ((Int32 × G) ⊕ (G)))) 2000 ((0 : Int32), g38)) fun (s44 : G) => bd (lp (fun (s52 : Int32 × G) => (bd2 (f_X9_cell (nI t) ((32 : Int32) + s33.1) s52.2) fun r55 g56 => if r55 ≤ s52.1 then some (.inr (g56)) else bd2 (f_X9_isWithNobody (nI t) (((5 : Int32) * s33.1) + s52.1) g56) fun r58 g59 => bd ((if r58 = 0 then bd2 (f_X9_outcomeOf (nI t) (((5 : Int32) * s33.1) + s52.1) (2147483647 : Int32) (nI W) g59) fun r86 g87 => some ((r86, g87)) else some (((-1 : Int32), g59)) : Option (Int32 × G))) fun (s62 : Int32 × G) => bd2 (f_X9_in s62.1 (0 : Int32) (2 : Int32) s62.2) fun r63 g64 => bd ((if r63 = 0 then some (g64) else bd2 (f_X9_cell (nI t) ((50 : Int32) + (((5 : Int32) * s33.1) + s52.1)) g64) fun r68 g69 => bd2 (f_X9_cell (nI t) ((80 : Int32) + (((5 : Int32) * s33.1) + s52.1)) g69) fun r70 g71 => bd2 (f_X9_stepFor r68 g71) fun r72 g73 => bd2 (f_X9_stepFor r70 g73) fun r74 g75 => bd2 (f_X9_halves s62.1 (1 : Int32) g75) fun r76 g77 => bd2 (f_X9_rate r68 r70 r72 r76 g77) fun r78 g79 => bd2 (f_X9_halves s62.1 (0 : Int32) g79) fun r80 g81 => bd2 (f_X9_rate r70 r68 r74 r80 g81) fun r82 g83 => some (g83) : Option (G))) fun (s66 : G) => some (.inl ((s52.1 + (1 : Int32)), s66)) : Option ((Int32 × G) ⊕ (G)))) 2000 ((0 : Int32), s44)) fun (s54 : G) => some (.inl ((s33.1 + (1 : Int32)), s54)) else bd2 (f_X9_meets (1 : Int32) g38) fun r90 g91 => some (.inr (.inr ((r90, g91)))) : Option ((Int32 × G) ⊕ ((G) ⊕ (Int32 × G))))) 2000 ((0 : Int32), g)) (fun y => (rr ≤ dr ∧ ∃ s, y = .inl s ∧ (∀ a, (a ≠ 181 ∧ a ≠ 182) → s a = mE (rtR (rowT g t) o kd (v0, []) rr).2 0 g a) ∧ ∀ p i, p < np → i < n → rowT g t (1 + i) = nI p → s 181 p = (rtR (rowT g t) o kd (v0, []) rr).1 p) ∨ (dr < rr ∧ ∃ s, y = .inr (-nI 5, mE [] (nI 1) s) ∧ ∀ a, (a ≠ 181 ∧ a ≠ 182) → s a = mE (rtR (rowT g t) o kd (v0, []) dr).2 0 g a)) := by
  obtain ⟨d6, c2, m25, hr, hz⟩ := hT.2.2.2.2.1
  have ht := hT.2.1
  have h24 := hT.1
  refine ev_lp (I := fun r s => s.1 = nI r ∧ (∀ a, (a ≠ 181 ∧ a ≠ 182) → s.2 a = mE (rtR (rowT g t) o kd (v0, []) r).2 0 g a) ∧ ∀ p i, p < np → i < n → rowT g t (1 + i) = nI p → s.2 181 p = (rtR (rowT g t) o kd (v0, []) r).1 p) (if rr ≤ dr then rr else dr) ?_ ?_ 2000 0 _ (Nat.zero_le _) (by split <;> omega) ⟨rfl, fun a ha => ?_, hv⟩
  · rintro r ⟨x, s⟩ hrr ⟨rfl, h1, h2⟩
    dsimp only at h1 h2
    have q1 : r < rr := by split at hrr <;> omega
    have q2 : r < dr := by split at hrr <;> omega
    have hrow : rowT s t = rowT g t := rowT_ne ((h1 165 (by omega)).trans (mE_off (by omega) (by omega)))
    have c25 : f_X9_cell (nI t) 25 s = some (nI dr, s) := by simp (disch := omega) only [bd2_s, bd_s, wr_s, ck_s, bz_s0, bz_s1, dz_s, nI_litS, nI_add, pk_mul, pk_sub, nI_leI, nI_ltI, nI_eq, ng_lt, ng_le, lt_ng, le_ng, eq_ng, ng_eq, ng_ngE, ng_ngL, ng_ngl, sub1_lt, sub1_ng, eq_self, if_pos, if_neg, if_true, if_false, Nat.zero_add, Nat.add_zero, f_X9_cell, rw_k s t, hrow, m25]
    obtain ⟨m, hm⟩ := hr r q2
    dsimp only
    refine ev_f (fun q => absurd ((hA r (by omega)).mp q) (by omega)) ?_
    refine ev_call c25 ?_
    refine ev_t (by rw [nI_ltI (by omega) (by omega)]; exact q2) ?_
    refine ev_bd (m_copy.imp ?_)
    rintro s2 ⟨y1, y2⟩
    refine ev_bd ((m_goThrough (V := rtR (rowT g t) o kd (v0, []) r) (s := s2) (W := W) hT hm (by omega) hL h25 hkd ho (fun a ha => (y1 a ha.2).trans (h1 a ha)) (fun p i hp hi ei => ⟨by rw [y1 181 (by omega)]; exact h2 p i hp hi ei, by rw [y2 p (by omega)]; exact h2 p i hp hi ei⟩)).imp ?_)
    rintro s3 ⟨z1, z2⟩
    rw [← rtR_s hm] at z1 z2
    exact ev_some ⟨nI_1 r, z1, z2⟩
  · rintro ⟨x, s⟩ ⟨rfl, h1, h2⟩
    dsimp only at h1 h2
    have hrow : rowT s t = rowT g t := rowT_ne ((h1 165 (by omega)).trans (mE_off (by omega) (by omega)))
    have c25 : f_X9_cell (nI t) 25 s = some (nI dr, s) := by simp (disch := omega) only [bd2_s, bd_s, wr_s, ck_s, bz_s0, bz_s1, dz_s, nI_litS, nI_add, pk_mul, pk_sub, nI_leI, nI_ltI, nI_eq, ng_lt, ng_le, lt_ng, le_ng, eq_ng, ng_eq, ng_ngE, ng_ngL, ng_ngl, sub1_lt, sub1_ng, eq_self, if_pos, if_neg, if_true, if_false, Nat.zero_add, Nat.add_zero, f_X9_cell, rw_k s t, hrow, m25]
    by_cases h : rr ≤ dr
    · rw [if_pos h] at h1 h2 ⊢
      refine ev_t ((hA rr (by omega)).mpr (Nat.le_refl _)) ?_
      exact ev_some (Or.inl ⟨h, s, rfl, h1, h2⟩)
    · rw [if_neg h] at h1 h2 ⊢
      refine ev_f (fun q => absurd ((hA dr (by omega)).mp q) (by omega)) ?_
      refine ev_call c25 ?_
      refine ev_f (by rw [nI_ltI (by omega) (by omega)]; omega) ?_
      refine ev_call (m_metS (n := 1) (by omega) (by omega)) ?_
      exact ev_some (Or.inr ⟨by omega, s, rfl, h1⟩)
  · dsimp only
    show g a = mE [] 0 g a
    rw [mE_nil]
