/-! Sums: class (tally) and model (sumOf). -/
abbrev Q4 : Type := Int32 × Int32 × Int32 × Int32
def fst1 (x : Int32) (a : Q4) : Q4 := (a.1 + x, a.2.1 + nI 1, if a.2.1 = nI 0 then x else if x < a.2.2.1 then x else a.2.2.1, if a.2.1 = nI 0 then x else if a.2.2.2 < x then x else a.2.2.2)
def gw (what : Nat) (o x own : Int32) (a : Q4) : Q4 := if what < 3 then fst1 x a else if what = 3 then (a.1 + (if o = nI 2 then nI 1 else nI 0), a.2) else if what = 4 then (a.1 + (if x = own then wh o else nI 0), a.2) else a
def gb (what : Nat) (o x own : Int32) (a : Q4) : Q4 := if what < 3 then fst1 x a else if what = 3 then (a.1 + (if o = nI 0 then nI 1 else nI 0), a.2) else if what = 4 then (a.1 + (if x = own then bh o else nI 0), a.2) else (a.1 + (if o = nI 0 ∨ o = nI 1 ∨ o = nI 2 then nI 1 else nI 0), a.2)
def act {α : Type} (R : Nat → Int32) (p r k : Nat) (fw fb : α → α) (a : α) : α := if R (80 + (5 * r + k)) = nI 99 then a else if R (50 + (5 * r + k)) = nI p then fw a else if R (80 + (5 * r + k)) = nI p then fb a else a
theorem act_out {α : Type} {R : Nat → Int32} {p r k : Nat} {fw fb : α → α} (h : R (50 + (5 * r + k)) ≠ nI p ∧ R (80 + (5 * r + k)) ≠ nI p) (a : α) : act R p r k fw fb a = a := by
  unfold act
  rw [if_neg h.1, if_neg h.2]
  split <;> rfl
def sqK (R : Nat → Int32) (o : Nat → Int32) (pt : Nat → Int32) (what p r k : Nat) (a : Q4) : Q4 := act R p r k (gw what (o (5 * r + k)) (pt (R (80 + (5 * r + k))).toNatClampNeg) (pt p)) (gb what (o (5 * r + k)) (pt (R (50 + (5 * r + k))).toNatClampNeg) (pt p)) a
theorem sqK_out {R : Nat → Int32} {o : Nat → Int32} {pt : Nat → Int32} {what p r k : Nat} (h : R (50 + (5 * r + k)) ≠ nI p ∧ R (80 + (5 * r + k)) ≠ nI p) (a : Q4) : sqK R o pt what p r k a = a := act_out h a
def SQ (R : Nat → Int32) (o : Nat → Int32) (pt : Nat → Int32) (what p dr : Nat) : Q4 := itK (fun r a => itK (fun k a => sqK R o pt what p r k a) (mm R r) a) dr (nI 0, nI 0, nI 0, nI 0)
def smQ (what : Nat) (a : Q4) : Int32 := if what = 2 then (if nI 3 ≤ a.2.1 then a.1 - a.2.2.1 - a.2.2.2 else nI 0) else a.1
def smS (R : Nat → Int32) (o : Nat → Int32) (pt : Nat → Int32) (what p dr : Nat) : Int32 := smQ what (SQ R o pt what p dr)
theorem in_02 {x : Int32} {g : G} : f_X9_in x (nI 0) (nI 2) g = some (if x = nI 0 ∨ x = nI 1 ∨ x = nI 2 then nI 1 else nI 0, g) := by
  rcases i32_split x with ⟨j, hj, rfl⟩ | ⟨j, hj0, hj, rfl⟩
  · by_cases h : j ≤ 2
    · rw [if_pos (by
        have : j = 0 ∨ j = 1 ∨ j = 2 := by omega
        rcases this with rfl | rfl | rfl
        · exact Or.inl rfl
        · exact Or.inr (Or.inl rfl)
        · exact Or.inr (Or.inr rfl))]
      simp (disch := omega) only [bd2_s, bd_s, wr_s, ck_s, bz_s0, bz_s1, dz_s, nI_litS, nI_add, pk_mul, pk_sub, nI_leI, nI_ltI, nI_eq, ng_lt, ng_le, lt_ng, le_ng, eq_ng, ng_eq, ng_ngE, ng_ngL, ng_ngl, sub1_lt, sub1_ng, eq_self, if_pos, if_neg, if_true, if_false, Nat.zero_add, Nat.add_zero, f_X9_in]
    · rw [if_neg (by
        rw [nI_eq (by omega) (by omega), nI_eq (by omega) (by omega), nI_eq (by omega) (by omega)]
        omega)]
      simp (disch := omega) only [bd2_s, bd_s, wr_s, ck_s, bz_s0, bz_s1, dz_s, nI_litS, nI_add, pk_mul, pk_sub, nI_leI, nI_ltI, nI_eq, ng_lt, ng_le, lt_ng, le_ng, eq_ng, ng_eq, ng_ngE, ng_ngL, ng_ngl, sub1_lt, sub1_ng, eq_self, if_pos, if_neg, if_true, if_false, Nat.zero_add, Nat.add_zero, f_X9_in]
  · rw [if_neg (by
      rw [ng_eq (by omega) hj0 hj, ng_eq (by omega) hj0 hj, ng_eq (by omega) hj0 hj]
      simp only [or_self, not_false_eq_true])]
    simp (disch := omega) only [bd2_s, bd_s, wr_s, ck_s, bz_s0, bz_s1, dz_s, nI_litS, nI_add, pk_mul, pk_sub, nI_leI, nI_ltI, nI_eq, ng_lt, ng_le, lt_ng, le_ng, eq_ng, ng_eq, ng_ngE, ng_ngL, ng_ngl, sub1_lt, sub1_ng, eq_self, if_pos, if_neg, if_true, if_false, Nat.zero_add, Nat.add_zero, f_X9_in]
theorem m_sum12 {a1 a2 a3 a4 x : Int32} {g : G} : (bd ((if a2 = 0 then some (.inl (a2, a4)) else if a3 ≤ x then bd ((if a2 = 0 then some (.inl (a2)) else if x ≤ a4 then some (.inr (.inr (((a1 + x), (a2 + (1 : Int32)), a3, a4, g)))) else some (.inl (a2)) : Option ((Int32) ⊕ ((Int32 × Int32) ⊕ (Int32 × Int32 × Int32 × Int32 × G))))) fun s80m => (match s80m with | .inl s77 => (some (.inr (((a1 + x), (s77 + (1 : Int32)), a3, x, g)))) | .inr y => some y) else some (.inl (a2, a4)) : Option ((Int32 × Int32) ⊕ (Int32 × Int32 × Int32 × Int32 × G)))) fun s81m => (match s81m with | .inl s68 => (bd ((if s68.1 = 0 then some (.inl (s68.1)) else if x ≤ s68.2 then some (.inr (((a1 + x), (s68.1 + (1 : Int32)), x, s68.2, g))) else some (.inl (s68.1)) : Option ((Int32) ⊕ (Int32 × Int32 × Int32 × Int32 × G)))) fun s73m => (match s73m with | .inl s70 => (some (((a1 + x), (s70 + (1 : Int32)), x, x, g))) | .inr y => some y)) | .inr y => some y)) = some ((fst1 x (a1, a2, a3, a4)).1, (fst1 x (a1, a2, a3, a4)).2.1, (fst1 x (a1, a2, a3, a4)).2.2.1, (fst1 x (a1, a2, a3, a4)).2.2.2, g) := by
  unfold fst1
  by_cases n0 : a2 = nI 0
  · simp (disch := omega) only [bd2_s, bd_s, wr_s, ck_s, bz_s0, bz_s1, dz_s, nI_litS, nI_add, pk_mul, pk_sub, nI_leI, nI_ltI, nI_eq, ng_lt, ng_le, lt_ng, le_ng, eq_ng, ng_eq, ng_ngE, ng_ngL, ng_ngl, sub1_lt, sub1_ng, eq_self, if_pos, if_neg, if_true, if_false, Nat.zero_add, Nat.add_zero, n0]
  · by_cases hl : x < a3
    · have hl' : ¬ a3 ≤ x := Int32.not_le.mpr hl
      by_cases hm : a4 < x
      · have hm' : ¬ x ≤ a4 := Int32.not_le.mpr hm
        simp (disch := omega) only [bd2_s, bd_s, wr_s, ck_s, bz_s0, bz_s1, dz_s, nI_litS, nI_add, pk_mul, pk_sub, nI_leI, nI_ltI, nI_eq, ng_lt, ng_le, lt_ng, le_ng, eq_ng, ng_eq, ng_ngE, ng_ngL, ng_ngl, sub1_lt, sub1_ng, eq_self, if_pos, if_neg, if_true, if_false, Nat.zero_add, Nat.add_zero, n0, hl, hl', hm, hm']
      · have hm' : x ≤ a4 := Int32.not_lt.mp hm
        simp (disch := omega) only [bd2_s, bd_s, wr_s, ck_s, bz_s0, bz_s1, dz_s, nI_litS, nI_add, pk_mul, pk_sub, nI_leI, nI_ltI, nI_eq, ng_lt, ng_le, lt_ng, le_ng, eq_ng, ng_eq, ng_ngE, ng_ngL, ng_ngl, sub1_lt, sub1_ng, eq_self, if_pos, if_neg, if_true, if_false, Nat.zero_add, Nat.add_zero, n0, hl, hl', hm, hm']
    · have hl' : a3 ≤ x := Int32.not_lt.mp hl
      by_cases hm : a4 < x
      · have hm' : ¬ x ≤ a4 := Int32.not_le.mpr hm
        simp (disch := omega) only [bd2_s, bd_s, wr_s, ck_s, bz_s0, bz_s1, dz_s, nI_litS, nI_add, pk_mul, pk_sub, nI_leI, nI_ltI, nI_eq, ng_lt, ng_le, lt_ng, le_ng, eq_ng, ng_eq, ng_ngE, ng_ngL, ng_ngl, sub1_lt, sub1_ng, eq_self, if_pos, if_neg, if_true, if_false, Nat.zero_add, Nat.add_zero, n0, hl, hl', hm, hm']
      · have hm' : x ≤ a4 := Int32.not_lt.mp hm
        simp (disch := omega) only [bd2_s, bd_s, wr_s, ck_s, bz_s0, bz_s1, dz_s, nI_litS, nI_add, pk_mul, pk_sub, nI_leI, nI_ltI, nI_eq, ng_lt, ng_le, lt_ng, le_ng, eq_ng, ng_eq, ng_ngE, ng_ngL, ng_ngl, sub1_lt, sub1_ng, eq_self, if_pos, if_neg, if_true, if_false, Nat.zero_add, Nat.add_zero, n0, hl, hl', hm, hm']
theorem m_sumOf {t np n dr p what : Nat} {mk : Nat → Int32} {F : Nat → Nat → Int32} {R : Nat → Int32} {d W : Int32} {o : Nat → Int32} {g : G} (ht : t < 4) (hp : p < 24) (h24 : np ≤ 24) (hw5 : 1 ≤ what ∧ what ≤ 5) (hR : rowT g t = R) (hin : T_in np mk F R n) (hrd : T_rounds F R n dr) (ho : ∀ c, c < 30 → f_X9_outcomeOf (nI t) (nI c) d W g = some (o c, g)) : f_X9_sumOf (nI t) (nI p) (nI what) d W g = some (smS R o (fun q => ptS R d o q dr) what p dr, g) := by
  have hpt : ∀ q, q < 24 → f_X9_pointsOf (nI t) (nI q) d W g = some (ptS R d o q dr, g) := fun q hq => m_pointsOf ht hq h24 hR hin hrd ho
  obtain ⟨d6, c2, m25, hr, hz⟩ := hrd
  unfold f_X9_sumOf
  refine q_call (hpt p hp) ?_
  unfold smS
  generalize hpt' : (fun q => ptS R d o q dr) = pt
  have hpt : ∀ q, q < 24 → f_X9_pointsOf (nI t) (nI q) d W g = some (pt q, g) := fun q hq => by rw [← hpt']; exact hpt q hq
  have hptp : ptS R d o p dr = pt p := by rw [← hpt']
  rw [hptp]
  have c25 : f_X9_cell (nI t) 25 g = some (nI dr, g) := by simp (disch := omega) only [bd2_s, bd_s, wr_s, ck_s, bz_s0, bz_s1, dz_s, nI_litS, nI_add, pk_mul, pk_sub, nI_leI, nI_ltI, nI_eq, ng_lt, ng_le, lt_ng, le_ng, eq_ng, ng_eq, ng_ngE, ng_ngL, ng_ngl, sub1_lt, sub1_ng, eq_self, if_pos, if_neg, if_true, if_false, Nat.zero_add, Nat.add_zero, f_X9_cell, rw_k g t, hR, m25]
  refine q_bd (a := ((SQ R o pt what p dr).1, (SQ R o pt what p dr).2.1, (SQ R o pt what p dr).2.2.1, (SQ R o pt what p dr).2.2.2, g)) ?_ ?_
  · refine q_lp (fun r => ((SQ R o pt what p r).1, (SQ R o pt what p r).2.1, (SQ R o pt what p r).2.2.1, (SQ R o pt what p r).2.2.2, nI r, g)) dr (fun r hrr => ?_) ?_ (by omega) rfl
    · obtain ⟨m, hm⟩ := hr r hrr
      have m5 := hm.2.1
      have hs : SQ R o pt what p (r + 1) = itK (fun k a => sqK R o pt what p r k a) m (SQ R o pt what p r) := by
        show itK _ (mm R r) _ = _
        rw [hm.mmE]
        rfl
      rw [hs]
      generalize SQ R o pt what p r = a
      obtain ⟨a1, a2, a3, a4⟩ := a
      dsimp only
      refine q_call c25 ?_
      refine q_if_f (nI_ge hrr (by omega)) ?_
      rcases hm.who (np := np) (mk := mk) (p := p) ht (by omega) hp with ⟨q1, q2⟩ | ⟨k, hk, q1, q2, q3⟩
      · rw [itK_none (fun k hk a => sqK_out (q1 k hk) a)]
        refine q_call (q2 g hR) ?_
        refine q_bd (q_if_t rfl rfl) ?_
        rw [← nI_1 r]
      · rw [itK_one hk (fun i hi hne a => sqK_out (q2 i hi hne) a)]
        refine q_call (q3 g hR) ?_
        have o' := ho (5 * r + k) (by omega)
        obtain ⟨-, -, w, hw, ew, eb⟩ := hm.pk hin h24 hk
        rcases eb with eb | ⟨b, hb, eb, hne⟩
        · refine q_bd (a := (a1, a2, a3, a4, g)) ?_ ?_
          · refine q_if_f (nI_nneg (by omega) (by decide)) ?_
            refine q_call (v := nI 1) (g' := g) (by simp (disch := omega) only [bd2_s, bd_s, wr_s, ck_s, bz_s0, bz_s1, dz_s, nI_litS, nI_add, pk_mul, pk_sub, nI_leI, nI_ltI, nI_eq, ng_lt, ng_le, lt_ng, le_ng, eq_ng, ng_eq, ng_ngE, ng_ngL, ng_ngl, sub1_lt, sub1_ng, eq_self, if_pos, if_neg, if_true, if_false, Nat.zero_add, Nat.add_zero, f_X9_isWithNobody, f_X9_cell, rw_k g t, hR, eb]) ?_
            rfl
          · unfold sqK act
            rw [if_pos eb, ← nI_1 r]
        · have wn : f_X9_isWithNobody (nI t) (nI (5 * r + k)) g = some (nI 0, g) := by simp (disch := omega) only [bd2_s, bd_s, wr_s, ck_s, bz_s0, bz_s1, dz_s, nI_litS, nI_add, pk_mul, pk_sub, nI_leI, nI_ltI, nI_eq, ng_lt, ng_le, lt_ng, le_ng, eq_ng, ng_eq, ng_ngE, ng_ngL, ng_ngl, sub1_lt, sub1_ng, eq_self, if_pos, if_neg, if_true, if_false, Nat.zero_add, Nat.add_zero, f_X9_isWithNobody, f_X9_cell, rw_k g t, hR, eb]
          have c50 : f_X9_cell (nI t) (50 + nI (5 * r + k)) g = some (nI w, g) := by simp (disch := omega) only [bd2_s, bd_s, wr_s, ck_s, bz_s0, bz_s1, dz_s, nI_litS, nI_add, pk_mul, pk_sub, nI_leI, nI_ltI, nI_eq, ng_lt, ng_le, lt_ng, le_ng, eq_ng, ng_eq, ng_ngE, ng_ngL, ng_ngl, sub1_lt, sub1_ng, eq_self, if_pos, if_neg, if_true, if_false, Nat.zero_add, Nat.add_zero, f_X9_cell, rw_k g t, hR, ew]
          have clw : (nI w).toNatClampNeg = w := nI_clamp (by omega)
          have clb : (nI b).toNatClampNeg = b := nI_clamp (by omega)
          have pw := hpt w (by omega)
          have pb := hpt b (by omega)
          by_cases hwp : w = p
          · subst hwp
            have oth : f_X9_otherOf (nI t) (nI (5 * r + k)) (nI w) g = some (nI b, g) := by simp (disch := omega) only [bd2_s, bd_s, wr_s, ck_s, bz_s0, bz_s1, dz_s, nI_litS, nI_add, pk_mul, pk_sub, nI_leI, nI_ltI, nI_eq, ng_lt, ng_le, lt_ng, le_ng, eq_ng, ng_eq, ng_ngE, ng_ngL, ng_ngl, sub1_lt, sub1_ng, eq_self, if_pos, if_neg, if_true, if_false, Nat.zero_add, Nat.add_zero, f_X9_otherOf, f_X9_cell, rw_k g t, hR, ew, eb]
            have hval : sqK R o pt what w r k (a1, a2, a3, a4) = gw what (o (5 * r + k)) (pt b) (pt w) (a1, a2, a3, a4) := by
              unfold sqK act
              rw [ew, eb, clb, if_neg (nI_ne (by omega) (by decide) (by omega)), if_pos rfl]
            rw [hval]
            generalize o (5 * r + k) = oc at o'
            generalize hA : gw what oc (pt b) (pt w) (a1, a2, a3, a4) = A
            refine q_bd (a := (A.1, A.2.1, A.2.2.1, A.2.2.2, g)) ?_ (by rw [← nI_1 r])
            refine q_if_f (nI_nneg (by omega) (by decide)) ?_
            refine q_call wn ?_
            refine q_if_t rfl ?_
            refine q_call c50 ?_
            refine q_bd (a := nI 1) (q_if_t rfl rfl) ?_
            refine q_call o' ?_
            refine q_call oth ?_
            refine q_call pb ?_
            subst hA
            unfold gw
            by_cases w3 : what < 3
            · rw [if_pos w3]
              refine q_if_f (by rw [l_3, nI_leI (by omega) (by omega)]; omega) ?_
              exact m_sum12
            · rw [if_neg w3]
              refine q_if_t (by rw [l_3, nI_leI (by omega) (by omega)]; omega) ?_
              by_cases e3 : what = 3
              · subst e3
                by_cases e2 : oc = nI 2
                · simp (disch := omega) only [bd2_s, bd_s, wr_s, ck_s, bz_s0, bz_s1, dz_s, nI_litS, nI_add, pk_mul, pk_sub, nI_leI, nI_ltI, nI_eq, ng_lt, ng_le, lt_ng, le_ng, eq_ng, ng_eq, ng_ngE, ng_ngL, ng_ngl, sub1_lt, sub1_ng, eq_self, if_pos, if_neg, if_true, if_false, Nat.zero_add, Nat.add_zero, e2]
                · simp (disch := omega) only [bd2_s, bd_s, wr_s, ck_s, bz_s0, bz_s1, dz_s, nI_litS, nI_add, pk_mul, pk_sub, nI_leI, nI_ltI, nI_eq, ng_lt, ng_le, lt_ng, le_ng, eq_ng, ng_eq, ng_ngE, ng_ngL, ng_ngl, sub1_lt, sub1_ng, eq_self, if_pos, if_neg, if_true, if_false, Nat.zero_add, Nat.add_zero, e2]
              · by_cases e4 : what = 4
                · subst e4
                  by_cases e2 : pt b = pt w
                  · simp (disch := omega) only [bd2_s, bd_s, wr_s, ck_s, bz_s0, bz_s1, dz_s, nI_litS, nI_add, pk_mul, pk_sub, nI_leI, nI_ltI, nI_eq, ng_lt, ng_le, lt_ng, le_ng, eq_ng, ng_eq, ng_ngE, ng_ngL, ng_ngl, sub1_lt, sub1_ng, eq_self, if_pos, if_neg, if_true, if_false, Nat.zero_add, Nat.add_zero, e2, m_wh]
                  · simp (disch := omega) only [bd2_s, bd_s, wr_s, ck_s, bz_s0, bz_s1, dz_s, nI_litS, nI_add, pk_mul, pk_sub, nI_leI, nI_ltI, nI_eq, ng_lt, ng_le, lt_ng, le_ng, eq_ng, ng_eq, ng_ngE, ng_ngL, ng_ngl, sub1_lt, sub1_ng, eq_self, if_pos, if_neg, if_true, if_false, Nat.zero_add, Nat.add_zero, e2, m_wh]
                · have e5 : what = 5 := by omega
                  subst e5
                  simp (disch := omega) only [bd2_s, bd_s, wr_s, ck_s, bz_s0, bz_s1, dz_s, nI_litS, nI_add, pk_mul, pk_sub, nI_leI, nI_ltI, nI_eq, ng_lt, ng_le, lt_ng, le_ng, eq_ng, ng_eq, ng_ngE, ng_ngL, ng_ngl, sub1_lt, sub1_ng, eq_self, if_pos, if_neg, if_true, if_false, Nat.zero_add, Nat.add_zero, i32_a0]
          · have hbp : b = p := by
              rcases q1 with q | q
              · exact absurd (nI_inj (by omega) (by omega) (ew.symm.trans q)) hwp
              · exact nI_inj (by omega) (by omega) (eb.symm.trans q)
            subst hbp
            have oth : f_X9_otherOf (nI t) (nI (5 * r + k)) (nI b) g = some (nI w, g) := by simp (disch := omega) only [bd2_s, bd_s, wr_s, ck_s, bz_s0, bz_s1, dz_s, nI_litS, nI_add, pk_mul, pk_sub, nI_leI, nI_ltI, nI_eq, ng_lt, ng_le, lt_ng, le_ng, eq_ng, ng_eq, ng_ngE, ng_ngL, ng_ngl, sub1_lt, sub1_ng, eq_self, if_pos, if_neg, if_true, if_false, Nat.zero_add, Nat.add_zero, f_X9_otherOf, f_X9_cell, rw_k g t, hR, ew, eb, hwp]
            have hval : sqK R o pt what b r k (a1, a2, a3, a4) = gb what (o (5 * r + k)) (pt w) (pt b) (a1, a2, a3, a4) := by
              unfold sqK act
              rw [ew, eb, clw, if_neg (nI_ne (by omega) (by decide) (by omega)), if_neg (nI_ne (by omega) (by omega) hwp), if_pos rfl]
            rw [hval]
            generalize o (5 * r + k) = oc at o'
            generalize hA : gb what oc (pt w) (pt b) (a1, a2, a3, a4) = A
            refine q_bd (a := (A.1, A.2.1, A.2.2.1, A.2.2.2, g)) ?_ (by rw [← nI_1 r])
            refine q_if_f (nI_nneg (by omega) (by decide)) ?_
            refine q_call wn ?_
            refine q_if_t rfl ?_
            refine q_call c50 ?_
            refine q_bd (a := nI 0) (q_if_f (nI_ne (by omega) (by omega) hwp) rfl) ?_
            refine q_call o' ?_
            refine q_call oth ?_
            refine q_call pw ?_
            subst hA
            unfold gb
            by_cases w3 : what < 3
            · rw [if_pos w3]
              refine q_if_f (by rw [l_3, nI_leI (by omega) (by omega)]; omega) ?_
              exact m_sum12
            · rw [if_neg w3]
              refine q_if_t (by rw [l_3, nI_leI (by omega) (by omega)]; omega) ?_
              by_cases e3 : what = 3
              · subst e3
                by_cases e2 : oc = nI 0
                · simp (disch := omega) only [bd2_s, bd_s, wr_s, ck_s, bz_s0, bz_s1, dz_s, nI_litS, nI_add, pk_mul, pk_sub, nI_leI, nI_ltI, nI_eq, ng_lt, ng_le, lt_ng, le_ng, eq_ng, ng_eq, ng_ngE, ng_ngL, ng_ngl, sub1_lt, sub1_ng, eq_self, if_pos, if_neg, if_true, if_false, Nat.zero_add, Nat.add_zero, e2]
                · simp (disch := omega) only [bd2_s, bd_s, wr_s, ck_s, bz_s0, bz_s1, dz_s, nI_litS, nI_add, pk_mul, pk_sub, nI_leI, nI_ltI, nI_eq, ng_lt, ng_le, lt_ng, le_ng, eq_ng, ng_eq, ng_ngE, ng_ngL, ng_ngl, sub1_lt, sub1_ng, eq_self, if_pos, if_neg, if_true, if_false, Nat.zero_add, Nat.add_zero, e2]
              · by_cases e4 : what = 4
                · subst e4
                  by_cases e2 : pt w = pt b
                  · simp (disch := omega) only [bd2_s, bd_s, wr_s, ck_s, bz_s0, bz_s1, dz_s, nI_litS, nI_add, pk_mul, pk_sub, nI_leI, nI_ltI, nI_eq, ng_lt, ng_le, lt_ng, le_ng, eq_ng, ng_eq, ng_ngE, ng_ngL, ng_ngl, sub1_lt, sub1_ng, eq_self, if_pos, if_neg, if_true, if_false, Nat.zero_add, Nat.add_zero, e2, m_bh]
                  · simp (disch := omega) only [bd2_s, bd_s, wr_s, ck_s, bz_s0, bz_s1, dz_s, nI_litS, nI_add, pk_mul, pk_sub, nI_leI, nI_ltI, nI_eq, ng_lt, ng_le, lt_ng, le_ng, eq_ng, ng_eq, ng_ngE, ng_ngL, ng_ngl, sub1_lt, sub1_ng, eq_self, if_pos, if_neg, if_true, if_false, Nat.zero_add, Nat.add_zero, e2, m_bh]
                · have e5 : what = 5 := by omega
                  subst e5
                  by_cases e2 : oc = nI 0 ∨ oc = nI 1 ∨ oc = nI 2
                  · simp (disch := omega) only [bd2_s, bd_s, wr_s, ck_s, bz_s0, bz_s1, dz_s, nI_litS, nI_add, pk_mul, pk_sub, nI_leI, nI_ltI, nI_eq, ng_lt, ng_le, lt_ng, le_ng, eq_ng, ng_eq, ng_ngE, ng_ngL, ng_ngl, sub1_lt, sub1_ng, eq_self, if_pos, if_neg, if_true, if_false, Nat.zero_add, Nat.add_zero, in_02, e2]
                  · simp (disch := omega) only [bd2_s, bd_s, wr_s, ck_s, bz_s0, bz_s1, dz_s, nI_litS, nI_add, pk_mul, pk_sub, nI_leI, nI_ltI, nI_eq, ng_lt, ng_le, lt_ng, le_ng, eq_ng, ng_eq, ng_ngE, ng_ngL, ng_ngl, sub1_lt, sub1_ng, eq_self, if_pos, if_neg, if_true, if_false, Nat.zero_add, Nat.add_zero, in_02, e2, i32_a0]
    · dsimp only
      refine q_call c25 ?_
      refine q_if_t (Int32.le_refl _) ?_
      rfl
  · unfold smQ
    by_cases e2 : what = 2
    · subst e2
      by_cases h3 : nI 3 ≤ (SQ R o pt 2 p dr).2.1
      · simp (disch := omega) only [bd2_s, bd_s, wr_s, ck_s, bz_s0, bz_s1, dz_s, nI_litS, nI_add, pk_mul, pk_sub, nI_leI, nI_ltI, nI_eq, ng_lt, ng_le, lt_ng, le_ng, eq_ng, ng_eq, ng_ngE, ng_ngL, ng_ngl, sub1_lt, sub1_ng, eq_self, if_pos, if_neg, if_true, if_false, Nat.zero_add, Nat.add_zero, h3]
      · simp (disch := omega) only [bd2_s, bd_s, wr_s, ck_s, bz_s0, bz_s1, dz_s, nI_litS, nI_add, pk_mul, pk_sub, nI_leI, nI_ltI, nI_eq, ng_lt, ng_le, lt_ng, le_ng, eq_ng, ng_eq, ng_ngE, ng_ngL, ng_ngl, sub1_lt, sub1_ng, eq_self, if_pos, if_neg, if_true, if_false, Nat.zero_add, Nat.add_zero, h3]
    · simp (disch := omega) only [bd2_s, bd_s, wr_s, ck_s, bz_s0, bz_s1, dz_s, nI_litS, nI_add, pk_mul, pk_sub, nI_leI, nI_ltI, nI_eq, ng_lt, ng_le, lt_ng, le_ng, eq_ng, ng_eq, ng_ngE, ng_ngL, ng_ngl, sub1_lt, sub1_ng, eq_self, if_pos, if_neg, if_true, if_false, Nat.zero_add, Nat.add_zero, e2]
