/-! Colours and partners of before: pure, and the model. -/
/-- the rounds, without what is behind them -/
def T_rndW (F : Nat → Nat → Int32) (R : Nat → Int32) (n dr : Nat) : Prop := dr ≤ 6 ∧ F 0 2 = nI dr ∧ R 25 = nI dr ∧ (∀ r, r < dr → ∃ m, T_round F R n r m) ∧ True
theorem T_rounds.w {F : Nat → Nat → Int32} {R : Nat → Int32} {n dr : Nat} (h : T_rounds F R n dr) : T_rndW F R n dr := ⟨h.1, h.2.1, h.2.2.1, h.2.2.2.1, trivial⟩
abbrev H4 : Type := Nat × Nat × Nat × Nat
def hcK (R : Nat → Int32) (p r k : Nat) (a : H4) : H4 := act R p r k (fun a => (a.1 + 1, a.2.1, 1, a.2.2.1)) (fun a => (a.1, a.2.1 + 1, 2, a.2.2.1)) a
theorem hcK_out {R : Nat → Int32} {p r k : Nat} (h : R (50 + (5 * r + k)) ≠ nI p ∧ R (80 + (5 * r + k)) ≠ nI p) (a : H4) : hcK R p r k a = a := act_out h a
def hcS (R : Nat → Int32) (p dr : Nat) : H4 := itK (fun r a => itK (fun k a => hcK R p r k a) (mm R r) a) dr (0, 0, 0, 0)
theorem hcS_s {R : Nat → Int32} {F : Nat → Nat → Int32} {n r m p : Nat} (hm : T_round F R n r m) : hcS R p (r + 1) = itK (fun k a => hcK R p r k a) m (hcS R p r) := by
  show itK _ (mm R r) _ = _
  rw [hm.mmE]
  rfl
def waK (R : Nat → Int32) (p q r k : Nat) (a : Nat) : Nat := if (R (50 + (5 * r + k)) = nI p ∧ R (80 + (5 * r + k)) = nI q) ∨ (R (50 + (5 * r + k)) = nI q ∧ R (80 + (5 * r + k)) = nI p) then 1 else a
theorem waK_out {R : Nat → Int32} {p q r k : Nat} (h : R (50 + (5 * r + k)) ≠ nI p ∧ R (80 + (5 * r + k)) ≠ nI p) (a : Nat) : waK R p q r k a = a := by
  unfold waK
  rw [if_neg (fun z => z.elim (fun z => h.1 z.1) (fun z => h.2 z.2))]
def waS (R : Nat → Int32) (p q dr : Nat) : Nat := itK (fun r a => itK (fun k a => waK R p q r k a) (mm R r) a) dr 0
theorem waS_s {R : Nat → Int32} {F : Nat → Nat → Int32} {n r m p q : Nat} (hm : T_round F R n r m) : waS R p q (r + 1) = itK (fun k a => waK R p q r k a) m (waS R p q r) := by
  show itK _ (mm R r) _ = _
  rw [hm.mmE]
  rfl
theorem waI {R : Nat → Int32} {p q r : Nat} : ∀ (m a : Nat), a ≤ 1 → itK (fun k a => waK R p q r k a) m a ≤ 1 := by
  intro m
  induction m with
  | zero => intro a h; exact h
  | succ m ih =>
    intro a h
    rw [itK]
    have := ih a h
    show waK R p q r m _ ≤ 1
    unfold waK
    split
    · exact Nat.le_refl _
    · exact this
theorem waS_1 {R : Nat → Int32} {p q : Nat} : ∀ r, waS R p q r ≤ 1 := by
  intro r
  induction r with
  | zero => exact Nat.zero_le _
  | succ r ih =>
    show itK _ (mm R r) _ ≤ 1
    exact waI _ _ ih
/-- the history stays small -/
theorem hc_bd {t np n dr p : Nat} {mk : Nat → Int32} {F : Nat → Nat → Int32} {R : Nat → Int32} (ht : t < 4) (hp : p < 24) (h24 : np ≤ 24) (hin : T_in np mk F R n) (hrd : T_rndW F R n dr) : ∀ r, r ≤ dr → (hcS R p r).1 ≤ r ∧ (hcS R p r).2.1 ≤ r ∧ (hcS R p r).2.2.1 ≤ 2 ∧ (hcS R p r).2.2.2 ≤ 2 := by
  obtain ⟨d6, c2, m25, hr, hz⟩ := hrd
  intro r
  induction r with
  | zero => intro _; exact ⟨Nat.le_refl _, Nat.le_refl _, Nat.zero_le _, Nat.zero_le _⟩
  | succ r ih =>
    intro h
    obtain ⟨i1, i2, i3, i4⟩ := ih (by omega)
    obtain ⟨m, hm⟩ := hr r (by omega)
    rw [hcS_s hm]
    generalize hcS R p r = a at *
    rcases hm.who (np := np) (mk := mk) (p := p) ht (by omega) hp with ⟨q1, -⟩ | ⟨k, hk, q1, q2, -⟩
    · rw [itK_none (fun k hk a => hcK_out (q1 k hk) a)]
      exact ⟨by omega, by omega, i3, i4⟩
    · rw [itK_one hk (fun i hi hne a => hcK_out (q2 i hi hne) a)]
      unfold hcK act
      split
      · exact ⟨by omega, by omega, i3, i4⟩
      · split
        · dsimp only; exact ⟨by omega, by omega, by omega, i3⟩
        · split
          · dsimp only; exact ⟨by omega, by omega, by omega, i3⟩
          · exact ⟨by omega, by omega, i3, i4⟩
def dcM (l : Nat) : Int32 := if l = 1 then nI 1 else if l = 2 then nI 0 else -nI 1
def dcC (l : Nat) : Int32 := if l = 1 then nI 1 else if l = 2 then -nI 1 else nI 0
theorem bal_w {a b : Nat} : nI a - nI b + 1 = nI (a + 1) - nI b := by
  rw [← nI_1, Int32.sub_eq_add_neg, Int32.sub_eq_add_neg, Int32.add_assoc, Int32.add_assoc, Int32.add_comm (-nI b)]
theorem bal_b {a b : Nat} : nI a - nI b + (-1) = nI a - nI (b + 1) := by
  rw [← nI_1, Int32.sub_eq_add_neg, Int32.sub_eq_add_neg, Int32.neg_add, Int32.sub_eq_add_neg, Int32.add_assoc]
theorem bal_le {a b : Nat} (ha : a < 1000) (hb : b < 1000) : (nI a - nI b ≤ 0) = (a ≤ b) := by
  rw [Int32.le_iff_toInt_le, pk_sub_toInt (by omega) (by omega), show (0 : Int32).toInt = 0 from rfl]
  exact propext ⟨fun h => by omega, fun h => by omega⟩
theorem bal_ge {a b : Nat} (ha : a < 1000) (hb : b < 1000) : (0 ≤ nI a - nI b) = (b ≤ a) := by
  rw [Int32.le_iff_toInt_le, pk_sub_toInt (by omega) (by omega), show (0 : Int32).toInt = 0 from rfl]
  exact propext ⟨fun h => by omega, fun h => by omega⟩
/-- what a colour costs -/
def cpN (h : H4) (col : Nat) : Nat := (if (col = 1 ∧ h.2.1 < h.1) ∨ (col = 2 ∧ h.1 < h.2.1) then 40 else 0) + (if h.2.2.1 = col ∧ h.2.2.2 = col then 1000000 else 0)
theorem m_colours {t np n dr p : Nat} {mk : Nat → Int32} {F : Nat → Nat → Int32} {R : Nat → Int32} {g : G} (ht : t < 4) (hp : p < 24) (h24 : np ≤ 24) (hR : rowT g t = R) (hin : T_in np mk F R n) (hrd : T_rndW F R n dr) : Ev (f_X9_colours (nI t) (nI p) g) (fun q => (∀ a, a ≠ 159 → q.2 a = g a) ∧ (∀ k, k ≠ 32 → k ≠ 33 → k ≠ 34 → q.2 159 k = g 159 k) ∧ q.2 159 32 = nI (hcS R p dr).1 - nI (hcS R p dr).2.1 ∧ q.2 159 33 = dcM (hcS R p dr).2.2.1 ∧ q.2 159 34 = dcM (hcS R p dr).2.2.2) := by
  obtain ⟨d6, c2, m25, hr, hz⟩ := hrd
  unfold f_X9_colours
  refine ev_wr (ev_wr (ev_wr ?_))
  refine ev_bd ?_
  refine ev_lp (I := fun r s => s.1 = nI r ∧ (∀ a, a ≠ 159 → s.2 a = g a) ∧ (∀ k, k ≠ 32 → k ≠ 33 → k ≠ 34 → s.2 159 k = g 159 k) ∧ s.2 159 32 = nI (hcS R p r).1 - nI (hcS R p r).2.1 ∧ s.2 159 33 = dcM (hcS R p r).2.2.1 ∧ s.2 159 34 = dcM (hcS R p r).2.2.2) dr ?_ ?_ 2000 0 _ (Nat.zero_le _) (by omega) ⟨rfl, fun a ha => ?_, fun k k1 k2 k3 => ?_, ?_, ?_, ?_⟩
  · rintro r ⟨x, s⟩ hrr ⟨rfl, h1, h2, h3, h4, h5⟩
    dsimp only at h1 h2 h3 h4 h5
    obtain ⟨m, hm⟩ := hr r hrr
    have hrow : rowT s t = R := (rowT_ne (h1 165 (by decide))).trans hR
    have c25 : f_X9_cell (nI t) 25 s = some (nI dr, s) := by simp (disch := omega) only [bd2_s, bd_s, wr_s, ck_s, bz_s0, bz_s1, dz_s, nI_litS, nI_add, pk_mul, pk_sub, nI_leI, nI_ltI, nI_eq, ng_lt, ng_le, lt_ng, le_ng, eq_ng, ng_eq, ng_ngE, ng_ngL, ng_ngl, sub1_lt, sub1_ng, eq_self, if_pos, if_neg, if_true, if_false, Nat.zero_add, Nat.add_zero, f_X9_cell, rw_k s t, hrow, m25]
    rw [hcS_s hm]
    generalize hcS R p r = a at *
    dsimp only
    refine ev_call c25 ?_
    refine ev_f (nI_ge hrr (by omega)) ?_
    rcases hm.who (np := np) (mk := mk) (p := p) ht (by omega) hp with ⟨q1, q2⟩ | ⟨k, hk, q1, q2, q3⟩
    · rw [itK_none (fun k hk a => hcK_out (q1 k hk) a)]
      refine ev_call (q2 s hrow) ?_
      refine Ev.of (a := .inl (nI (r + 1), s)) ?_ ⟨rfl, h1, h2, h3, h4, h5⟩
      exact q_bd (a := s) (q_if_t rfl rfl) (by rw [nI_1])
    · rw [itK_one hk (fun i hi hne a => hcK_out (q2 i hi hne) a)]
      have m5 := hm.2.1
      refine ev_call (q3 s hrow) ?_
      obtain ⟨-, -, w, hw, ew, eb⟩ := hm.pk hin h24 hk
      unfold hcK act
      rcases eb with eb | ⟨b, hb, eb, hne⟩
      · rw [if_pos eb]
        have wn : f_X9_isWithNobody (nI t) (nI (5 * r + k)) s = some (nI 1, s) := by simp (disch := omega) only [bd2_s, bd_s, wr_s, ck_s, bz_s0, bz_s1, dz_s, nI_litS, nI_add, pk_mul, pk_sub, nI_leI, nI_ltI, nI_eq, ng_lt, ng_le, lt_ng, le_ng, eq_ng, ng_eq, ng_ngE, ng_ngL, ng_ngl, sub1_lt, sub1_ng, eq_self, if_pos, if_neg, if_true, if_false, Nat.zero_add, Nat.add_zero, f_X9_isWithNobody, f_X9_cell, rw_k s t, hrow, eb]
        refine Ev.of (a := .inl (nI (r + 1), s)) ?_ ⟨rfl, h1, h2, h3, h4, h5⟩
        exact q_bd (a := s) (q_if_f (nI_nneg (by omega) (by decide)) (q_call wn (q_if_f (by decide) rfl))) (by rw [nI_1])
      · have wn : f_X9_isWithNobody (nI t) (nI (5 * r + k)) s = some (nI 0, s) := by simp (disch := omega) only [bd2_s, bd_s, wr_s, ck_s, bz_s0, bz_s1, dz_s, nI_litS, nI_add, pk_mul, pk_sub, nI_leI, nI_ltI, nI_eq, ng_lt, ng_le, lt_ng, le_ng, eq_ng, ng_eq, ng_ngE, ng_ngL, ng_ngl, sub1_lt, sub1_ng, eq_self, if_pos, if_neg, if_true, if_false, Nat.zero_add, Nat.add_zero, f_X9_isWithNobody, f_X9_cell, rw_k s t, hrow, eb]
        have c50 : f_X9_cell (nI t) (50 + nI (5 * r + k)) s = some (nI w, s) := by simp (disch := omega) only [bd2_s, bd_s, wr_s, ck_s, bz_s0, bz_s1, dz_s, nI_litS, nI_add, pk_mul, pk_sub, nI_leI, nI_ltI, nI_eq, ng_lt, ng_le, lt_ng, le_ng, eq_ng, ng_eq, ng_ngE, ng_ngL, ng_ngl, sub1_lt, sub1_ng, eq_self, if_pos, if_neg, if_true, if_false, Nat.zero_add, Nat.add_zero, f_X9_cell, rw_k s t, hrow, ew]
        rw [eb, ew, if_neg (nI_ne (by omega) (by decide) (by omega))]
        have put : ∀ (c : Int32) (c1 : Int32) (a' : H4), nI a.1 - nI a.2.1 + c1 = nI a'.1 - nI a'.2.1 → c = dcM a'.2.2.1 → a'.2.2.2 = a.2.2.1 → (b' : Option ((Int32 × G) ⊕ G)) → b' = some (.inl (nI (r + 1), up2 (up2 (up2 s 159 32 (s 159 32 + c1)) 159 34 (up2 s 159 32 (s 159 32 + c1) 159 33)) 159 33 c)) → Ev b' (Sum.elim (fun s => s.1 = nI (r + 1) ∧ (∀ a, a ≠ 159 → s.2 a = g a) ∧ (∀ k, k ≠ 32 → k ≠ 33 → k ≠ 34 → s.2 159 k = g 159 k) ∧ s.2 159 32 = nI a'.1 - nI a'.2.1 ∧ s.2 159 33 = dcM a'.2.2.1 ∧ s.2 159 34 = dcM a'.2.2.2) (fun s => Ev (some ((0 : Int32), s)) (fun q => (∀ a, a ≠ 159 → q.2 a = g a) ∧ (∀ k, k ≠ 32 → k ≠ 33 → k ≠ 34 → q.2 159 k = g 159 k) ∧ q.2 159 32 = nI (hcS R p dr).1 - nI (hcS R p dr).2.1 ∧ q.2 159 33 = dcM (hcS R p dr).2.2.1 ∧ q.2 159 34 = dcM (hcS R p dr).2.2.2))) := by
          intro c c1 a' e1 e2 e3 b' hb'
          refine Ev.of hb' ⟨rfl, fun a ha => ?_, fun k k1 k2 k3 => ?_, ?_, ?_, ?_⟩
          · dsimp only
            rw [up2_ne ha, up2_ne ha, up2_ne ha]; exact h1 a ha
          · dsimp only
            rw [up2_eq, upd_ne k2, up2_eq, upd_ne k3, up2_eq, upd_ne k1]; exact h2 k k1 k2 k3
          · dsimp only
            rw [up2_eq, upd_ne (by decide), up2_eq, upd_ne (by decide), up2_eq, upd_eq, h3, e1]
          · dsimp only
            rw [up2_eq, upd_eq, e2]
          · dsimp only
            rw [up2_eq, upd_ne (by decide), up2_eq, upd_eq, up2_eq, upd_ne (by decide), h4, e3]
        by_cases hwp : w = p
        · subst hwp
          rw [if_pos rfl]
          refine put (nI 1) 1 (a.1 + 1, a.2.1, 1, a.2.2.1) bal_w rfl rfl _ ?_
          refine q_bd (a := up2 (up2 (up2 s 159 32 (s 159 32 + 1)) 159 34 (up2 s 159 32 (s 159 32 + 1) 159 33)) 159 33 (nI 1)) (q_if_f (nI_nneg (by omega) (by decide)) (q_call wn (q_if_t rfl (q_call c50 (q_bd (a := nI 1) (q_if_t rfl rfl) (q_bd (a := nI 1) (q_if_t rfl rfl) rfl)))))) (by rw [nI_1])
        · rw [if_neg (nI_ne (by omega) (by omega) hwp)]
          have hbp : b = p := by
            rcases q1 with q | q
            · exact absurd (nI_inj (by omega) (by omega) (ew.symm.trans q)) hwp
            · exact nI_inj (by omega) (by omega) (eb.symm.trans q)
          rw [if_pos (show nI b = nI p by rw [hbp])]
          refine put (nI 0) (-1) (a.1, a.2.1 + 1, 2, a.2.2.1) bal_b rfl rfl _ ?_
          refine q_bd (a := up2 (up2 (up2 s 159 32 (s 159 32 + (-1))) 159 34 (up2 s 159 32 (s 159 32 + (-1)) 159 33)) 159 33 (nI 0)) (q_if_f (nI_nneg (by omega) (by decide)) (q_call wn (q_if_t rfl (q_call c50 (q_bd (a := nI 0) (q_if_f (nI_ne (by omega) (by omega) hwp) rfl) (q_bd (a := -1) (q_if_f (by decide) rfl) rfl)))))) (by rw [nI_1])
  · rintro ⟨x, s⟩ ⟨rfl, h1, h2, h3, h4, h5⟩
    dsimp only at h1 h2 h3 h4 h5
    have hrow : rowT s t = R := (rowT_ne (h1 165 (by decide))).trans hR
    have c25 : f_X9_cell (nI t) 25 s = some (nI dr, s) := by simp (disch := omega) only [bd2_s, bd_s, wr_s, ck_s, bz_s0, bz_s1, dz_s, nI_litS, nI_add, pk_mul, pk_sub, nI_leI, nI_ltI, nI_eq, ng_lt, ng_le, lt_ng, le_ng, eq_ng, ng_eq, ng_ngE, ng_ngL, ng_ngl, sub1_lt, sub1_ng, eq_self, if_pos, if_neg, if_true, if_false, Nat.zero_add, Nat.add_zero, f_X9_cell, rw_k s t, hrow, m25]
    dsimp only
    refine ev_call c25 ?_
    refine ev_t (Int32.le_refl _) ?_
    exact ev_some (ev_some ⟨h1, h2, h3, h4, h5⟩)
  · dsimp only
    rw [up2_ne ha, up2_ne ha, up2_ne ha]
  · dsimp only
    rw [up2_eq, upd_ne k3, up2_eq, upd_ne k2, up2_eq, upd_ne k1]
  · dsimp only
    rw [up2_eq, upd_ne (by decide), up2_eq, upd_ne (by decide), up2_eq, upd_eq]
    show (0 : Int32) = nI 0 - nI 0
    decide
  · rfl
  · rfl
theorem m_colourCost {t np n dr p col : Nat} {mk : Nat → Int32} {F : Nat → Nat → Int32} {R : Nat → Int32} {g : G} (ht : t < 4) (hp : p < 24) (h24 : np ≤ 24) (hR : rowT g t = R) (hin : T_in np mk F R n) (hrd : T_rndW F R n dr) (hcol : col = 1 ∨ col = 2) : Ev (f_X9_colourCost (nI t) (nI p) (if col = 1 then nI 1 else nI 0) g) (fun q => q.1 = nI (cpN (hcS R p dr) col) ∧ (∀ a, a ≠ 159 → q.2 a = g a) ∧ ∀ k, k ≠ 32 → k ≠ 33 → k ≠ 34 → q.2 159 k = g 159 k) := by
  obtain ⟨b1, b2, b3, b4⟩ := hc_bd (p := p) ht hp h24 hin hrd dr (Nat.le_refl _)
  have d6 := hrd.1
  obtain ⟨⟨r0, s⟩, e0, h1, h2, h3, h4, h5⟩ := m_colours (p := p) ht hp h24 hR hin hrd
  dsimp only at h1 h2 h3 h4 h5
  generalize hcS R p dr = hh at *
  obtain ⟨wc, bc, lat, bef⟩ := hh
  dsimp only at b1 b2 b3 b4 h3 h4 h5
  refine Ev.of (a := (nI (cpN (wc, bc, lat, bef) col), s)) ?_ ⟨rfl, h1, h2⟩
  have eL : ∀ c : Nat, c = 1 ∨ c = 2 → (s 159 33 = (if c = 1 then nI 1 else nI 0) ↔ lat = c) := by
    intro c hc
    rw [h4]
    have : lat = 0 ∨ lat = 1 ∨ lat = 2 := by omega
    unfold dcM
    rcases this with rfl | rfl | rfl <;> rcases hc with rfl | rfl <;> decide
  have eB : s 159 34 = s 159 33 ↔ bef = lat := by
    rw [h4, h5]
    have h : lat = 0 ∨ lat = 1 ∨ lat = 2 := by omega
    have h' : bef = 0 ∨ bef = 1 ∨ bef = 2 := by omega
    unfold dcM
    rcases h with rfl | rfl | rfl <;> rcases h' with rfl | rfl | rfl <;> decide
  have le0 : s 159 32 ≤ 0 ↔ wc ≤ bc := by rw [h3, bal_le (by omega) (by omega)]
  have ge0 : 0 ≤ s 159 32 ↔ bc ≤ wc := by rw [h3, bal_ge (by omega) (by omega)]
  have eLc := eL col hcol
  unfold f_X9_colourCost
  refine q_call e0 ?_
  unfold cpN
  -- the third of a colour
  have third : ∀ (x : Nat) (y : Option (Int32 × G)), y = some (nI (x + (if lat = col ∧ bef = col then 1000000 else 0)), s) → (if (s 159 33) = (if col = 1 then nI 1 else nI 0) then if (s 159 34) = (s 159 33) then some (((nI x + (1000000 : Int32)), s)) else some (((nI x + (0 : Int32)), s)) else some (((nI x + (0 : Int32)), s))) = y := by
    intro x y hy
    rw [hy]
    by_cases q1 : lat = col
    · rw [if_pos (eLc.mpr q1)]
      by_cases q2 : bef = lat
      · rw [if_pos (eB.mpr q2), if_pos ⟨q1, q2.trans q1⟩, l_1000000, nI_add]
      · rw [if_neg (fun z => q2 (eB.mp z)), if_neg (fun z => q2 (z.2.trans z.1.symm)), l_0, nI_add]
    · rw [if_neg (fun z => q1 (eLc.mp z)), if_neg (fun z => q1 z.1), l_0, nI_add]
  have third' : ∀ (x : Nat) (y : Option (Unit ⊕ (Int32 × G))), y = some (.inr (nI (x + (if lat = col ∧ bef = col then 1000000 else 0)), s)) → (if (s 159 33) = (if col = 1 then nI 1 else nI 0) then if (s 159 34) = (s 159 33) then some (.inr ((nI x + (1000000 : Int32)), s)) else some (.inr ((nI x + (0 : Int32)), s)) else some (.inr ((nI x + (0 : Int32)), s))) = y := by
    intro x y hy
    rw [hy]
    by_cases q1 : lat = col
    · rw [if_pos (eLc.mpr q1)]
      by_cases q2 : bef = lat
      · rw [if_pos (eB.mpr q2), if_pos ⟨q1, q2.trans q1⟩, l_1000000, nI_add]
      · rw [if_neg (fun z => q2 (eB.mp z)), if_neg (fun z => q2 (z.2.trans z.1.symm)), l_0, nI_add]
    · rw [if_neg (fun z => q1 (eLc.mp z)), if_neg (fun z => q1 z.1), l_0, nI_add]
  have a3 : (if (if col = 1 then nI 1 else nI 0) = 0 then some ((0 : Int32)) else some ((1 : Int32)) : Option Int32) = some (if col = 1 then nI 1 else nI 0) := by
    rcases hcol with rfl | rfl <;> rfl
  by_cases t1 : col = 1 ∧ bc < wc
  · have c1 : ¬ (if col = 1 then nI 1 else nI 0) = 0 := by rw [if_pos t1.1]; decide
    rw [if_pos (Or.inl t1)]
    refine q_bd (a := .inr (nI (40 + (if lat = col ∧ bef = col then 1000000 else 0)), s)) (q_if_f (fun z => by have := le0.mp z; omega) (q_if_f c1 (q_bd a3 (third' 40 _ rfl)))) rfl
  · by_cases t2 : col = 2 ∧ wc < bc
    · have c1 : (if col = 1 then nI 1 else nI 0) = 0 := by rw [if_neg (by omega)]; rfl
      rw [if_pos (Or.inr t2)]
      refine q_bd (a := .inl ()) (q_if_t (le0.mpr (by omega)) rfl) ?_
      refine q_bd (a := .inr (nI (40 + (if lat = col ∧ bef = col then 1000000 else 0)), s)) (q_if_f (fun z => by have := ge0.mp z; omega) (q_if_t c1 (q_bd a3 (third' 40 _ rfl)))) rfl
    · have e40 : (if (col = 1 ∧ bc < wc) ∨ (col = 2 ∧ wc < bc) then 40 else 0) = 0 := if_neg (fun z => z.elim t1 t2)
      rw [e40]
      have f1 : (if (s 159 32) ≤ 0 then some (.inl ()) else if (if col = 1 then nI 1 else nI 0) = 0 then some (.inl ()) else bd ((if (if col = 1 then nI 1 else nI 0) = 0 then some ((0 : Int32)) else some ((1 : Int32)) : Option (Int32))) fun (s23 : Int32) => if (s 159 33) = s23 then if (s 159 34) = (s 159 33) then some (.inr ((((40 : Int32) + (1000000 : Int32)), s))) else some (.inr ((((40 : Int32) + (0 : Int32)), s))) else some (.inr ((((40 : Int32) + (0 : Int32)), s))) : Option ((Unit) ⊕ (Int32 × G))) = some (.inl ()) := by
        by_cases q : wc ≤ bc
        · exact q_if_t (le0.mpr q) rfl
        · refine q_if_f (fun z => q (le0.mp z)) (q_if_t ?_ rfl)
          rw [if_neg (fun z => t1 ⟨z, by omega⟩)]
          rfl
      refine q_bd f1 ?_
      have f2 : (if 0 ≤ (s 159 32) then some (.inl ()) else if (if col = 1 then nI 1 else nI 0) = 0 then bd ((if (if col = 1 then nI 1 else nI 0) = 0 then some ((0 : Int32)) else some ((1 : Int32)) : Option (Int32))) fun (s14 : Int32) => if (s 159 33) = s14 then if (s 159 34) = (s 159 33) then some (.inr ((((40 : Int32) + (1000000 : Int32)), s))) else some (.inr ((((40 : Int32) + (0 : Int32)), s))) else some (.inr ((((40 : Int32) + (0 : Int32)), s))) else some (.inl ()) : Option ((Unit) ⊕ (Int32 × G))) = some (.inl ()) := by
        by_cases q : bc ≤ wc
        · exact q_if_t (ge0.mpr q) rfl
        · refine q_if_f (fun z => q (ge0.mp z)) (q_if_f ?_ rfl)
          rw [if_pos (show col = 1 by rcases hcol with z | z; exact z; exact absurd ⟨z, by omega⟩ t2)]
          decide
      refine q_bd f2 ?_
      refine q_bd a3 ?_
      exact third 0 _ rfl
theorem m_wasWith {t np n dr p q : Nat} {mk : Nat → Int32} {F : Nat → Nat → Int32} {R : Nat → Int32} {g : G} (ht : t < 4) (hp : p < 24) (hq : (q < 24 ∧ q ≠ p) ∨ q = 99) (h24 : np ≤ 24) (hR : rowT g t = R) (hin : T_in np mk F R n) (hrd : T_rndW F R n dr) : f_X9_wasWith (nI t) (nI p) (nI q) g = some (nI (waS R p q dr), g) := by
  obtain ⟨d6, c2, m25, hr, hz⟩ := hrd
  have c25 : f_X9_cell (nI t) 25 g = some (nI dr, g) := by simp (disch := omega) only [bd2_s, bd_s, wr_s, ck_s, bz_s0, bz_s1, dz_s, nI_litS, nI_add, pk_mul, pk_sub, nI_leI, nI_ltI, nI_eq, ng_lt, ng_le, lt_ng, le_ng, eq_ng, ng_eq, ng_ngE, ng_ngL, ng_ngl, sub1_lt, sub1_ng, eq_self, if_pos, if_neg, if_true, if_false, Nat.zero_add, Nat.add_zero, f_X9_cell, rw_k g t, hR, m25]
  unfold f_X9_wasWith
  refine q_bd (a := (nI (waS R p q dr), g)) ?_ ?_
  · refine q_lp (fun r => (nI (waS R p q r), nI r, g)) dr (fun r hrr => ?_) ?_ (by omega) rfl
    · obtain ⟨m, hm⟩ := hr r hrr
      have m5 := hm.2.1
      have a1 := waS_1 (R := R) (p := p) (q := q) r
      rw [waS_s hm]
      generalize waS R p q r = a at *
      dsimp only
      refine q_call c25 (q_if_f (nI_ge hrr (by omega)) ?_)
      have hone : ∀ y, y = some (.inl (nI 1, nI (r + 1), g) : (Int32 × Int32 × G) ⊕ (Int32 × G)) → a = 1 → ∀ (r11 : Int32), bd ((if nI a = 0 then bd ((if r11 = (-1 : Int32) then some (.inl (g)) else bd2 (f_X9_otherOf (nI t) r11 (nI p) g) fun r20 g21 => if r20 = nI q then some (.inr (.inl (nI r, g21))) else some (.inl (g21)) : Option ((G) ⊕ ((Int32 × G) ⊕ ((Int32 × Int32 × G) ⊕ (Int32 × G)))))) fun s23m => (match s23m with | .inl s18 => (some (.inr (.inl ((0 : Int32), (nI r + (1 : Int32)), s18)))) | .inr y => some y) else some (.inl (nI r, g)) : Option ((Int32 × G) ⊕ ((Int32 × Int32 × G) ⊕ (Int32 × G))))) (fun s24m => (match s24m with | .inl s15 => (some (.inl ((1 : Int32), (s15.1 + (1 : Int32)), s15.2))) | .inr y => some y)) = y := by
        intro y hy ha r11
        subst ha
        rw [hy]
        exact q_bd (a := .inl (nI r, g)) (q_if_f (by decide) rfl) (by dsimp only; rw [nI_1]; rfl)
      rcases hm.who (np := np) (mk := mk) (p := p) ht (by omega) hp with ⟨q1, q2⟩ | ⟨k, hk, q1, q2, q3⟩
      · rw [itK_none (fun k hk a => waK_out (q1 k hk) a)]
        refine q_call (q2 g hR) ?_
        by_cases az : a = 0
        · subst az
          exact q_bd (a := .inr (.inl (nI 0, nI r + 1, g))) (q_if_t rfl (q_bd (a := .inl g) (q_if_t rfl rfl) rfl)) (by dsimp only; rw [nI_1])
        · have : a = 1 := by omega
          subst this
          exact hone _ rfl rfl _
      · rw [itK_one hk (fun i hi hne a => waK_out (q2 i hi hne) a)]
        refine q_call (q3 g hR) ?_
        obtain ⟨-, -, w, hw, ew, eb⟩ := hm.pk hin h24 hk
        have hmax : ∀ x, x = (if (R (50 + (5 * r + k)) = nI p ∧ R (80 + (5 * r + k)) = nI q) ∨ (R (50 + (5 * r + k)) = nI q ∧ R (80 + (5 * r + k)) = nI p) then 1 else a) → a = 1 → x = 1 := by
          intro x hx ha
          subst ha
          rw [hx]
          split <;> rfl
        have oth : ∃ z : Int32, f_X9_otherOf (nI t) (nI (5 * r + k)) (nI p) g = some (z, g) ∧ (z = nI q ↔ ((R (50 + (5 * r + k)) = nI p ∧ R (80 + (5 * r + k)) = nI q) ∨ (R (50 + (5 * r + k)) = nI q ∧ R (80 + (5 * r + k)) = nI p))) := by
          by_cases hwp : w = p
          · subst hwp
            refine ⟨R (80 + (5 * r + k)), by simp (disch := omega) only [bd2_s, bd_s, wr_s, ck_s, bz_s0, bz_s1, dz_s, nI_litS, nI_add, pk_mul, pk_sub, nI_leI, nI_ltI, nI_eq, ng_lt, ng_le, lt_ng, le_ng, eq_ng, ng_eq, ng_ngE, ng_ngL, ng_ngl, sub1_lt, sub1_ng, eq_self, if_pos, if_neg, if_true, if_false, Nat.zero_add, Nat.add_zero, f_X9_otherOf, f_X9_cell, rw_k g t, hR, ew], ?_⟩
            constructor
            · intro z; exact Or.inl ⟨ew, z⟩
            · rintro (z | z)
              · exact z.2
              · have := nI_inj (by omega) (by omega) (ew.symm.trans z.1)
                omega
          · have hbp : R (80 + (5 * r + k)) = nI p := by
              rcases q1 with z | z
              · exact absurd (nI_inj (by omega) (by omega) (ew.symm.trans z)) hwp
              · exact z
            refine ⟨R (50 + (5 * r + k)), by simp (disch := omega) only [bd2_s, bd_s, wr_s, ck_s, bz_s0, bz_s1, dz_s, nI_litS, nI_add, pk_mul, pk_sub, nI_leI, nI_ltI, nI_eq, ng_lt, ng_le, lt_ng, le_ng, eq_ng, ng_eq, ng_ngE, ng_ngL, ng_ngl, sub1_lt, sub1_ng, eq_self, if_pos, if_neg, if_true, if_false, Nat.zero_add, Nat.add_zero, f_X9_otherOf, f_X9_cell, rw_k g t, hR, ew, hwp], ?_⟩
            constructor
            · intro z; exact Or.inr ⟨z, hbp⟩
            · rintro (z | z)
              · exact absurd (nI_inj (by omega) (by omega) (ew.symm.trans z.1)) hwp
              · exact z.1
        obtain ⟨z, ez, hz'⟩ := oth
        unfold waK
        by_cases az : a = 0
        · subst az
          by_cases hit : z = nI q
          · rw [if_pos (hz'.mp hit)]
            exact q_bd (a := .inl (nI r, g)) (q_if_t rfl (q_bd (a := .inr (.inl (nI r, g))) (q_if_f (nI_nneg (by omega) (by decide)) (q_call ez (q_if_t hit rfl))) rfl)) (by dsimp only; rw [nI_1]; rfl)
          · rw [if_neg (fun y => hit (hz'.mpr y))]
            exact q_bd (a := .inr (.inl (nI 0, nI r + 1, g))) (q_if_t rfl (q_bd (a := .inl g) (q_if_f (nI_nneg (by omega) (by decide)) (q_call ez (q_if_f hit rfl))) rfl)) (by dsimp only; rw [nI_1])
        · have ha1 : a = 1 := by omega
          rw [hmax _ rfl ha1]
          exact hone _ rfl ha1 _
    · dsimp only
      refine q_call c25 (q_if_t (Int32.le_refl _) ?_)
      rfl
  · refine q_bz ?_ rfl
    have a1 := waS_1 (R := R) (p := p) (q := q) dr
    have : waS R p q dr = 0 ∨ waS R p q dr = 1 := by omega
    rcases this with e | e
    · rw [e]; exact Or.inl rfl
    · rw [e]; exact Or.inr rfl
