/-! Sums of the class: tally, amountOf. -/
theorem up2_same {g : G} {a k : Nat} : up2 g a k (g a k) = g := by
  funext b
  by_cases h : b = a
  · subst h
    rw [up2_eq]
    funext j
    by_cases hj : j = k
    · subst hj; rw [upd_eq]
    · rw [upd_ne hj]
  · exact up2_ne h
def adF (g : G) (p : Nat) (x : Int32) : G := up2 (up2 (up2 (up2 g 22 p (if g 20 p = nI 0 then x else if x < g 22 p then x else g 22 p)) 23 p (if g 20 p = nI 0 then x else if g 23 p < x then x else g 23 p)) 21 p (g 21 p + x)) 20 p (g 20 p + nI 1)
theorem c_addFoe {p : Nat} {x : Int32} {g : G} (hp : p < 24) : f_X6_addFoe (nI p) x g = some (nI 0, adF g p x) := by
  unfold adF
  by_cases n0 : g 20 p = nI 0
  · simp (disch := omega) only [bd2_s, bd_s, wr_s, ck_s, bz_s0, bz_s1, dz_s, nI_litS, nI_add, pk_mul, pk_sub, nI_leI, nI_ltI, nI_eq, ng_lt, ng_le, lt_ng, le_ng, eq_ng, ng_eq, ng_ngE, ng_ngL, ng_ngl, sub1_lt, sub1_ng, eq_self, if_pos, if_neg, if_true, if_false, Nat.zero_add, Nat.add_zero, f_X6_addFoe, n0, up2_ne]
  · by_cases h1 : x < g 22 p
    · by_cases h2 : g 23 p < x
      · simp (disch := omega) only [bd2_s, bd_s, wr_s, ck_s, bz_s0, bz_s1, dz_s, nI_litS, nI_add, pk_mul, pk_sub, nI_leI, nI_ltI, nI_eq, ng_lt, ng_le, lt_ng, le_ng, eq_ng, ng_eq, ng_ngE, ng_ngL, ng_ngl, sub1_lt, sub1_ng, eq_self, if_pos, if_neg, if_true, if_false, Nat.zero_add, Nat.add_zero, f_X6_addFoe, n0, up2_ne, f_J9_min_7cf53, f_J9_max_7cf53, h1, h2]
      · simp (disch := omega) only [bd2_s, bd_s, wr_s, ck_s, bz_s0, bz_s1, dz_s, nI_litS, nI_add, pk_mul, pk_sub, nI_leI, nI_ltI, nI_eq, ng_lt, ng_le, lt_ng, le_ng, eq_ng, ng_eq, ng_ngE, ng_ngL, ng_ngl, sub1_lt, sub1_ng, eq_self, if_pos, if_neg, if_true, if_false, Nat.zero_add, Nat.add_zero, f_X6_addFoe, n0, up2_ne, f_J9_min_7cf53, f_J9_max_7cf53, h1, h2]
    · by_cases h2 : g 23 p < x
      · simp (disch := omega) only [bd2_s, bd_s, wr_s, ck_s, bz_s0, bz_s1, dz_s, nI_litS, nI_add, pk_mul, pk_sub, nI_leI, nI_ltI, nI_eq, ng_lt, ng_le, lt_ng, le_ng, eq_ng, ng_eq, ng_ngE, ng_ngL, ng_ngl, sub1_lt, sub1_ng, eq_self, if_pos, if_neg, if_true, if_false, Nat.zero_add, Nat.add_zero, f_X6_addFoe, n0, up2_ne, f_J9_min_7cf53, f_J9_max_7cf53, h1, h2]
      · simp (disch := omega) only [bd2_s, bd_s, wr_s, ck_s, bz_s0, bz_s1, dz_s, nI_litS, nI_add, pk_mul, pk_sub, nI_leI, nI_ltI, nI_eq, ng_lt, ng_le, lt_ng, le_ng, eq_ng, ng_eq, ng_ngE, ng_ngL, ng_ngl, sub1_lt, sub1_ng, eq_self, if_pos, if_neg, if_true, if_false, Nat.zero_add, Nat.add_zero, f_X6_addFoe, n0, up2_ne, f_J9_min_7cf53, f_J9_max_7cf53, h1, h2]
theorem adF_ne {g : G} {p a : Nat} {x : Int32} (h : ¬ (20 ≤ a ∧ a ≤ 23)) : adF g p x a = g a := by
  unfold adF
  simp (disch := omega) only [up2_ne]
def tp1 (s : G) (w b : Nat) : G := adF (adF s w (s 19 b)) b (s 19 w)
def tp2 (s : G) (w : Nat) (o : Int32) : G := up2 s 24 w (s 24 w + (if o = nI 2 then nI 1 else nI 0))
def tp3 (s : G) (b : Nat) (o : Int32) : G := up2 s 24 b (s 24 b + (if o = nI 0 then nI 1 else nI 0))
def tp4 (s : G) (w b : Nat) (o : Int32) : G := up2 s 25 w (s 25 w + (if s 19 b = s 19 w then wh o else nI 0))
def tp5 (s : G) (w b : Nat) (o : Int32) : G := up2 s 25 b (s 25 b + (if s 19 w = s 19 b then bh o else nI 0))
def tp6 (s : G) (b : Nat) (o : Int32) : G := up2 s 26 b (s 26 b + (if o = nI 0 ∨ o = nI 1 ∨ o = nI 2 then nI 1 else nI 0))
def tpE (s : G) (w b : Nat) (o : Int32) : G := tp6 (tp5 (tp4 (tp3 (tp2 (tp1 s w b) w o) b o) w b o) w b o) b o
theorem c_isPlayed {o : Int32} {g : G} : f_X6_isPlayed o g = some (if o = nI 0 ∨ o = nI 1 ∨ o = nI 2 then nI 1 else nI 0, g) := by
  show (if o = nI 0 then some (nI 1, g) else if o = nI 1 then some (nI 1, g) else if o = nI 2 then some (nI 1, g) else some (nI 0, g)) = _
  by_cases h0 : o = nI 0
  · rw [if_pos h0, if_pos (Or.inl h0)]
  · by_cases h1 : o = nI 1
    · rw [if_neg h0, if_pos h1, if_pos (Or.inr (Or.inl h1))]
    · by_cases h2 : o = nI 2
      · rw [if_neg h0, if_neg h1, if_pos h2, if_pos (Or.inr (Or.inr h2))]
      · rw [if_neg h0, if_neg h1, if_neg h2, if_neg (fun q => q.elim h0 (fun q => q.elim h1 h2))]
theorem c_tallyPair {w b : Nat} {o : Int32} {s : G} (hw : w < 24) (hb : b < 24) : f_X6_tallyPair (nI w) (nI b) o s = some (nI 0, tpE s w b o) := by
  have a1 := c_addFoe (p := w) (x := s 19 b) (g := s) hw
  have r1 : adF s w (s 19 b) 19 = s 19 := adF_ne (by omega)
  have a2 := c_addFoe (p := b) (x := s 19 w) (g := adF s w (s 19 b)) hb
  unfold f_X6_tallyPair
  refine q_ck b rfl hb (by decide) ?_
  refine q_call a1 ?_
  refine q_ck w rfl hw (by decide) ?_
  rw [r1]
  refine q_call a2 ?_
  show bd _ _ = some (nI 0, tp6 (tp5 (tp4 (tp3 (tp2 (tp1 s w b) w o) b o) w b o) w b o) b o)
  show bd (if o = 2 then ck (nI w) 24 fun j39 => ck (nI w) 24 fun j40 => wr (up2 (tp1 s w b) 24 j40 (tp1 s w b 24 j39 + 1)) fun g41 => some g41 else some (tp1 s w b)) _ = _
  generalize tp1 s w b = s1
  refine q_bd (a := tp2 s1 w o) ?_ ?_
  · unfold tp2
    by_cases h : o = nI 2
    · simp (disch := omega) only [bd2_s, bd_s, wr_s, ck_s, bz_s0, bz_s1, dz_s, nI_litS, nI_add, pk_mul, pk_sub, nI_leI, nI_ltI, nI_eq, ng_lt, ng_le, lt_ng, le_ng, eq_ng, ng_eq, ng_ngE, ng_ngL, ng_ngl, sub1_lt, sub1_ng, eq_self, if_pos, if_neg, if_true, if_false, Nat.zero_add, Nat.add_zero, h]
    · simp (disch := omega) only [bd2_s, bd_s, wr_s, ck_s, bz_s0, bz_s1, dz_s, nI_litS, nI_add, pk_mul, pk_sub, nI_leI, nI_ltI, nI_eq, ng_lt, ng_le, lt_ng, le_ng, eq_ng, ng_eq, ng_ngE, ng_ngL, ng_ngl, sub1_lt, sub1_ng, eq_self, if_pos, if_neg, if_true, if_false, Nat.zero_add, Nat.add_zero, h, i32_a0, up2_same]
  generalize tp2 s1 w o = s2
  refine q_bd (a := tp3 s2 b o) ?_ ?_
  · unfold tp3
    by_cases h : o = nI 0
    · simp (disch := omega) only [bd2_s, bd_s, wr_s, ck_s, bz_s0, bz_s1, dz_s, nI_litS, nI_add, pk_mul, pk_sub, nI_leI, nI_ltI, nI_eq, ng_lt, ng_le, lt_ng, le_ng, eq_ng, ng_eq, ng_ngE, ng_ngL, ng_ngl, sub1_lt, sub1_ng, eq_self, if_pos, if_neg, if_true, if_false, Nat.zero_add, Nat.add_zero, h]
    · simp (disch := omega) only [bd2_s, bd_s, wr_s, ck_s, bz_s0, bz_s1, dz_s, nI_litS, nI_add, pk_mul, pk_sub, nI_leI, nI_ltI, nI_eq, ng_lt, ng_le, lt_ng, le_ng, eq_ng, ng_eq, ng_ngE, ng_ngL, ng_ngl, sub1_lt, sub1_ng, eq_self, if_pos, if_neg, if_true, if_false, Nat.zero_add, Nat.add_zero, h, i32_a0, up2_same]
  generalize tp3 s2 b o = s3
  refine q_ck w rfl hw (by decide) ?_
  refine q_ck b rfl hb (by decide) ?_
  refine q_bd (a := tp5 (tp4 s3 w b o) w b o) ?_ ?_
  · have e4 : tp4 s3 w b o 19 = s3 19 := up2_ne (by decide)
    unfold tp5
    rw [e4]
    unfold tp4
    by_cases h : s3 19 w = s3 19 b
    · have h' : s3 19 b = s3 19 w := h.symm
      simp (disch := omega) only [bd2_s, bd_s, wr_s, ck_s, bz_s0, bz_s1, dz_s, nI_litS, nI_add, pk_mul, pk_sub, nI_leI, nI_ltI, nI_eq, ng_lt, ng_le, lt_ng, le_ng, eq_ng, ng_eq, ng_ngE, ng_ngL, ng_ngl, sub1_lt, sub1_ng, eq_self, if_pos, if_neg, if_true, if_false, Nat.zero_add, Nat.add_zero, h, c_wh, c_bh]
    · have h' : ¬ s3 19 b = s3 19 w := fun q => h q.symm
      simp (disch := omega) only [bd2_s, bd_s, wr_s, ck_s, bz_s0, bz_s1, dz_s, nI_litS, nI_add, pk_mul, pk_sub, nI_leI, nI_ltI, nI_eq, ng_lt, ng_le, lt_ng, le_ng, eq_ng, ng_eq, ng_ngE, ng_ngL, ng_ngl, sub1_lt, sub1_ng, eq_self, if_pos, if_neg, if_true, if_false, Nat.zero_add, Nat.add_zero, h, h', i32_a0, up2_same]
  generalize tp5 (tp4 s3 w b o) w b o = s5
  refine q_call c_isPlayed ?_
  unfold tp6
  by_cases h : o = nI 0 ∨ o = nI 1 ∨ o = nI 2
  · simp (disch := omega) only [bd2_s, bd_s, wr_s, ck_s, bz_s0, bz_s1, dz_s, nI_litS, nI_add, pk_mul, pk_sub, nI_leI, nI_ltI, nI_eq, ng_lt, ng_le, lt_ng, le_ng, eq_ng, ng_eq, ng_ngE, ng_ngL, ng_ngl, sub1_lt, sub1_ng, eq_self, if_pos, if_neg, if_true, if_false, Nat.zero_add, Nat.add_zero, h]
  · simp (disch := omega) only [bd2_s, bd_s, wr_s, ck_s, bz_s0, bz_s1, dz_s, nI_litS, nI_add, pk_mul, pk_sub, nI_leI, nI_ltI, nI_eq, ng_lt, ng_le, lt_ng, le_ng, eq_ng, ng_eq, ng_ngE, ng_ngL, ng_ngl, sub1_lt, sub1_ng, eq_self, if_pos, if_neg, if_true, if_false, Nat.zero_add, Nat.add_zero, h, i32_a0, up2_same]
theorem tpE_ne {s : G} {w b a : Nat} {o : Int32} (h : ¬ (20 ≤ a ∧ a ≤ 26)) : tpE s w b o a = s a := by
  unfold tpE tp6 tp5 tp4 tp3 tp2 tp1
  simp (disch := omega) only [up2_ne, adF_ne]
/-- what tally has told of p -/
def TL (s : G) (p : Nat) (a1 a3 a4 a5 : Q4) : Prop := s 20 p = a1.2.1 ∧ s 21 p = a1.1 ∧ (a1.2.1 = nI 0 ∨ (s 22 p = a1.2.2.1 ∧ s 23 p = a1.2.2.2)) ∧ s 24 p = a3.1 ∧ s 25 p = a4.1 ∧ s 26 p = a5.1
theorem TL.off {s : G} {w b p : Nat} {o : Int32} {a1 a3 a4 a5 : Q4} (h : TL s p a1 a3 a4 a5) (h1 : p ≠ w) (h2 : p ≠ b) : TL (tpE s w b o) p a1 a3 a4 a5 := by
  have e : ∀ a, tpE s w b o a p = s a p := by
    intro a
    unfold tpE tp6 tp5 tp4 tp3 tp2 tp1 adF
    by_cases c0 : a = 20
    · subst c0
      simp (disch := omega) only [up2_ne, up2_eq, upd_ne]
    by_cases c1 : a = 21
    · subst c1
      simp (disch := omega) only [up2_ne, up2_eq, upd_ne]
    by_cases c2 : a = 22
    · subst c2
      simp (disch := omega) only [up2_ne, up2_eq, upd_ne]
    by_cases c3 : a = 23
    · subst c3
      simp (disch := omega) only [up2_ne, up2_eq, upd_ne]
    by_cases c4 : a = 24
    · subst c4
      simp (disch := omega) only [up2_ne, up2_eq, upd_ne]
    by_cases c5 : a = 25
    · subst c5
      simp (disch := omega) only [up2_ne, up2_eq, upd_ne]
    by_cases c6 : a = 26
    · subst c6
      simp (disch := omega) only [up2_ne, up2_eq, upd_ne]
    simp (disch := omega) only [up2_ne]
  unfold TL
  rw [e, e, e, e, e, e, e]
  exact h
theorem TL.w {s : G} {w b : Nat} {o x : Int32} {a1 a3 a4 a5 : Q4} (h : TL s w a1 a3 a4 a5) (hne : b ≠ w) (hx : s 19 b = x) {own : Int32} (ho : s 19 w = own) : TL (tpE s w b o) w (gw 1 o x own a1) (gw 3 o x own a3) (gw 4 o x own a4) (gw 5 o x own a5) := by
  obtain ⟨h1, h2, h3, h4, h5, h6⟩ := h
  subst hx
  subst ho
  unfold TL tpE tp6 tp5 tp4 tp3 tp2 tp1 adF gw fst1
  simp (disch := omega) only [up2_ne, up2_eq, upd_ne, upd_eq, if_pos, if_neg, if_true, if_false, eq_self, h1, h2, h4, h5, h6]
  refine ⟨trivial, trivial, Or.inr ?_, trivial, trivial, trivial⟩
  by_cases n0 : a1.2.1 = nI 0
  · simp (disch := omega) only [if_pos, if_true, n0]
    exact ⟨trivial, trivial⟩
  · rcases h3 with h3 | ⟨h3, h3'⟩
    · exact absurd h3 n0
    · simp (disch := omega) only [if_neg, if_false, n0, h3, h3']
      exact ⟨trivial, trivial⟩
theorem TL.b {s : G} {w b : Nat} {o x : Int32} {a1 a3 a4 a5 : Q4} (h : TL s b a1 a3 a4 a5) (hne : b ≠ w) (hx : s 19 w = x) {own : Int32} (ho : s 19 b = own) : TL (tpE s w b o) b (gb 1 o x own a1) (gb 3 o x own a3) (gb 4 o x own a4) (gb 5 o x own a5) := by
  obtain ⟨h1, h2, h3, h4, h5, h6⟩ := h
  subst hx
  subst ho
  unfold TL tpE tp6 tp5 tp4 tp3 tp2 tp1 adF gb fst1
  simp (disch := omega) only [up2_ne, up2_eq, upd_ne, upd_eq, if_pos, if_neg, if_true, if_false, eq_self, h1, h2, h4, h5, h6]
  refine ⟨trivial, trivial, Or.inr ?_, trivial, trivial, trivial⟩
  by_cases n0 : a1.2.1 = nI 0
  · simp (disch := omega) only [if_pos, if_true, n0]
    exact ⟨trivial, trivial⟩
  · rcases h3 with h3 | ⟨h3, h3'⟩
    · exact absurd h3 n0
    · simp (disch := omega) only [if_neg, if_false, n0, h3, h3']
      exact ⟨trivial, trivial⟩
abbrev TLQ (R : Nat → Int32) (o pt : Nat → Int32) (s : G) (p r k : Nat) : Prop := TL s p (itK (fun k a => sqK R o pt 1 p r k a) k (SQ R o pt 1 p r)) (itK (fun k a => sqK R o pt 3 p r k a) k (SQ R o pt 3 p r)) (itK (fun k a => sqK R o pt 4 p r k a) k (SQ R o pt 4 p r)) (itK (fun k a => sqK R o pt 5 p r k a) k (SQ R o pt 5 p r))
abbrev TLR (R : Nat → Int32) (o pt : Nat → Int32) (s : G) (p r : Nat) : Prop := TL s p (SQ R o pt 1 p r) (SQ R o pt 3 p r) (SQ R o pt 4 p r) (SQ R o pt 5 p r)
theorem sqK_nob {R : Nat → Int32} {o : Nat → Int32} {pt : Nat → Int32} {what p r k : Nat} (h : R (80 + (5 * r + k)) = nI 99) (a : Q4) : sqK R o pt what p r k a = a := by
  unfold sqK act
  rw [if_pos h]
theorem sqK_w {R : Nat → Int32} {o : Nat → Int32} {pt : Nat → Int32} {what w b r k : Nat} (hw : w < 24) (hb : b < 24) (ew : R (50 + (5 * r + k)) = nI w) (eb : R (80 + (5 * r + k)) = nI b) (a : Q4) : sqK R o pt what w r k a = gw what (o (5 * r + k)) (pt b) (pt w) a := by
  unfold sqK act
  rw [ew, eb, if_neg (nI_ne (by omega) (by decide) (by omega)), if_pos rfl, nI_clamp (by omega)]
theorem sqK_b {R : Nat → Int32} {o : Nat → Int32} {pt : Nat → Int32} {what w b r k : Nat} (hw : w < 24) (hb : b < 24) (hne : b ≠ w) (ew : R (50 + (5 * r + k)) = nI w) (eb : R (80 + (5 * r + k)) = nI b) (a : Q4) : sqK R o pt what b r k a = gb what (o (5 * r + k)) (pt w) (pt b) a := by
  unfold sqK act
  rw [ew, eb, if_neg (nI_ne (by omega) (by decide) (by omega)), if_neg (nI_ne (by omega) (by omega) (Ne.symm hne)), if_pos rfl, nI_clamp (by omega)]
theorem c_tally {t np n dr : Nat} {mk : Nat → Int32} {o pt : Nat → Int32} {g : G} (ht : t < 4) (h24 : np ≤ 24) (hin : T_in np mk (blkT g t) (rowT g t) n) (hrd : T_rounds (blkT g t) (rowT g t) n dr) (ho : ∀ c, c < 30 → g 17 c = o c) (hp : ∀ p, p < 24 → g 19 p = pt p) : Ev (f_X6_tally (47 + 28 * t) g) (fun q => (∀ a, ¬ (20 ≤ a ∧ a ≤ 26) → q.2 a = g a) ∧ ∀ p, p < 24 → TLR (rowT g t) o pt q.2 p dr) := by
  obtain ⟨d6, c2, m25, hr, hz⟩ := hrd
  unfold f_X6_tally
  rw [j_fill (by decide)]
  refine ev_call rfl ?_
  rw [j_fill (by decide)]
  refine ev_call rfl ?_
  rw [j_fill (by decide)]
  refine ev_call rfl ?_
  rw [j_fill (by decide)]
  refine ev_call rfl ?_
  rw [j_fill (by decide)]
  refine ev_call rfl ?_
  refine ev_bd ?_
  refine ev_lp (I := fun r s => s.1 = nI r ∧ (∀ a, ¬ (20 ≤ a ∧ a ≤ 26) → s.2 a = g a) ∧ ∀ p, p < 24 → TLR (rowT g t) o pt s.2 p r) dr ?_ ?_ 2000 0 _ (Nat.zero_le _) (by omega) ⟨rfl, fun a ha => ?_, fun p hp => ?_⟩
  · rintro r ⟨x, s⟩ hrr ⟨rfl, h1, h2⟩
    dsimp only at h1 h2
    have c2' : s (47 + 28 * t) 2 = nI dr := by rw [h1 _ (by omega)]; exact c2
    dsimp only
    refine ev_f (by rw [c2']; exact nI_ge hrr (by omega)) ?_
    obtain ⟨m, hm⟩ := hr r hrr
    have m5 := hm.2.1
    have e5 := hm.2.2.2.2.1
    refine ev_bd ?_
    refine ev_lp (I := fun k s' => s'.1 = nI k ∧ (∀ a, ¬ (20 ≤ a ∧ a ≤ 26) → s'.2 a = g a) ∧ ∀ p, p < 24 → TLQ (rowT g t) o pt s'.2 p r k) m ?_ ?_ 2000 0 _ (Nat.zero_le _) (by omega) ⟨rfl, h1, h2⟩
    · rintro k ⟨x, s'⟩ hk ⟨rfl, i1, i2⟩
      dsimp only at i1 i2
      obtain ⟨f7, f8, w, hw, ew, eb⟩ := hm.pk hin h24 hk
      have e5' : s' (47 + 28 * t + 5) r = nI m := by rw [i1 _ (by omega), bk_j g t 5 (by decide)]; exact e5
      have f7' : s' (47 + 28 * t + 7) (5 * r + k) = nI w := by rw [i1 _ (by omega), bk_j g t 7 (by decide), f7, ew]
      have f8' : s' (47 + 28 * t + 8) (5 * r + k) = rowT g t (80 + (5 * r + k)) := by rw [i1 _ (by omega), bk_j g t 8 (by decide), f8]
      have o' : s' 17 (5 * r + k) = o (5 * r + k) := by rw [i1 17 (by decide)]; exact ho _ (by omega)
      have p' : ∀ q, q < 24 → s' 19 q = pt q := fun q hq => by rw [i1 19 (by decide)]; exact hp q hq
      have hcomm : r * 5 + k = 5 * r + k := by omega
      rcases eb with eb | ⟨b, hb, eb, hne⟩
      · rw [eb] at f8'
        refine Ev.of (a := .inl (nI (k + 1), s')) (by simp (disch := omega) only [bd2_s, bd_s, wr_s, ck_s, bz_s0, bz_s1, dz_s, nI_litS, nI_add, pk_mul, pk_sub, nI_leI, nI_ltI, nI_eq, ng_lt, ng_le, lt_ng, le_ng, eq_ng, ng_eq, ng_ngE, ng_ngL, ng_ngl, sub1_lt, sub1_ng, eq_self, if_pos, if_neg, if_true, if_false, Nat.zero_add, Nat.add_zero, e5', hcomm, f8']) ⟨rfl, i1, fun p hp => ?_⟩
        have q := i2 p hp
        unfold TLQ at q ⊢
        rw [itK, itK, itK, itK, sqK_nob eb, sqK_nob eb, sqK_nob eb, sqK_nob eb]
        exact q
      · rw [eb] at f8'
        have hcall := c_tallyPair (w := w) (b := b) (o := o (5 * r + k)) (s := s') (by omega) (by omega)
        refine Ev.of (a := .inl (nI (k + 1), tpE s' w b (o (5 * r + k)))) (by simp (disch := omega) only [bd2_s, bd_s, wr_s, ck_s, bz_s0, bz_s1, dz_s, nI_litS, nI_add, pk_mul, pk_sub, nI_leI, nI_ltI, nI_eq, ng_lt, ng_le, lt_ng, le_ng, eq_ng, ng_eq, ng_ngE, ng_ngL, ng_ngl, sub1_lt, sub1_ng, eq_self, if_pos, if_neg, if_true, if_false, Nat.zero_add, Nat.add_zero, e5', hcomm, f8', f7', o', hcall]) ⟨rfl, fun a ha => (tpE_ne ha).trans (i1 a ha), fun p hp => ?_⟩
        have q := i2 p hp
        unfold TLQ at q ⊢
        rw [itK, itK, itK, itK]
        by_cases hwp : p = w
        · subst hwp
          rw [sqK_w (by omega) (by omega) ew eb, sqK_w (by omega) (by omega) ew eb, sqK_w (by omega) (by omega) ew eb, sqK_w (by omega) (by omega) ew eb]
          exact q.w hne (p' b (by omega)) (p' p (by omega))
        · by_cases hbp : p = b
          · subst hbp
            rw [sqK_b (by omega) (by omega) hne ew eb, sqK_b (by omega) (by omega) hne ew eb, sqK_b (by omega) (by omega) hne ew eb, sqK_b (by omega) (by omega) hne ew eb]
            exact q.b hne (p' w (by omega)) (p' p (by omega))
          · have hout : rowT g t (50 + (5 * r + k)) ≠ nI p ∧ rowT g t (80 + (5 * r + k)) ≠ nI p := ⟨by rw [ew]; exact nI_ne (by omega) (by omega) (Ne.symm hwp), by rw [eb]; exact nI_ne (by omega) (by omega) (Ne.symm hbp)⟩
            rw [sqK_out hout, sqK_out hout, sqK_out hout, sqK_out hout]
            exact q.off hwp hbp
    · rintro ⟨x, s'⟩ ⟨rfl, i1, i2⟩
      dsimp only at i1 i2
      have e5' : s' (47 + 28 * t + 5) r = nI m := by rw [i1 _ (by omega), bk_j g t 5 (by decide)]; exact e5
      refine Ev.of (a := .inr s') (by simp (disch := omega) only [bd2_s, bd_s, wr_s, ck_s, bz_s0, bz_s1, dz_s, nI_litS, nI_add, pk_mul, pk_sub, nI_leI, nI_ltI, nI_eq, ng_lt, ng_le, lt_ng, le_ng, eq_ng, ng_eq, ng_ngE, ng_ngL, ng_ngl, sub1_lt, sub1_ng, eq_self, if_pos, if_neg, if_true, if_false, Nat.zero_add, Nat.add_zero, e5']) ?_
      refine ev_some ⟨nI_1 r, i1, fun p hp => ?_⟩
      have hs : ∀ what, SQ (rowT g t) o pt what p (r + 1) = itK (fun k a => sqK (rowT g t) o pt what p r k a) m (SQ (rowT g t) o pt what p r) := by
        intro what
        show itK _ (mm (rowT g t) r) _ = _
        rw [hm.mmE]
        rfl
      show TLR _ _ _ s' p (r + 1)
      unfold TLR
      rw [hs, hs, hs, hs]
      exact i2 p hp
  · rintro ⟨x, s⟩ ⟨rfl, h1, h2⟩
    dsimp only at h1 h2
    have c2' : s (47 + 28 * t) 2 = nI dr := by rw [h1 _ (by omega)]; exact c2
    exact Ev.of (a := .inr s) (by simp (disch := omega) only [bd2_s, bd_s, wr_s, ck_s, bz_s0, bz_s1, dz_s, nI_litS, nI_add, pk_mul, pk_sub, nI_leI, nI_ltI, nI_eq, ng_lt, ng_le, lt_ng, le_ng, eq_ng, ng_eq, ng_ngE, ng_ngL, ng_ngl, sub1_lt, sub1_ng, eq_self, if_pos, if_neg, if_true, if_false, Nat.zero_add, Nat.add_zero, c2']) (ev_some ⟨h1, h2⟩)
  · dsimp only
    simp (disch := omega) only [fl_ne]
  · unfold TLR TL
    simp (disch := omega) only [fl_ne, fl_in]
    exact ⟨rfl, rfl, Or.inl rfl, rfl, rfl, rfl⟩
theorem SQ_2 {R : Nat → Int32} {o pt : Nat → Int32} {p dr : Nat} : SQ R o pt 2 p dr = SQ R o pt 1 p dr := rfl
theorem c_amountOf {R : Nat → Int32} {o pt : Nat → Int32} {p dr what : Nat} {s : G} (hp : p < 24) (hw : 1 ≤ what ∧ what ≤ 5) (h : TLR R o pt s p dr) : f_X6_amountOf (nI what) (nI p) s = some (smS R o pt what p dr, s) := by
  obtain ⟨h1, h2, h3, h4, h5, h6⟩ := h
  unfold smS smQ
  have : what = 1 ∨ what = 2 ∨ what = 3 ∨ what = 4 ∨ what = 5 := by omega
  rcases this with rfl | rfl | rfl | rfl | rfl
  · simp (disch := omega) only [bd2_s, bd_s, wr_s, ck_s, bz_s0, bz_s1, dz_s, nI_litS, nI_add, pk_mul, pk_sub, nI_leI, nI_ltI, nI_eq, ng_lt, ng_le, lt_ng, le_ng, eq_ng, ng_eq, ng_ngE, ng_ngL, ng_ngl, sub1_lt, sub1_ng, eq_self, if_pos, if_neg, if_true, if_false, Nat.zero_add, Nat.add_zero, f_X6_amountOf, h2]
  · rw [SQ_2]
    by_cases hc : nI 3 ≤ (SQ R o pt 1 p dr).2.1
    · rcases h3 with h3 | ⟨h3, h3'⟩
      · rw [h3] at hc
        exact absurd hc (by decide)
      · simp (disch := omega) only [bd2_s, bd_s, wr_s, ck_s, bz_s0, bz_s1, dz_s, nI_litS, nI_add, pk_mul, pk_sub, nI_leI, nI_ltI, nI_eq, ng_lt, ng_le, lt_ng, le_ng, eq_ng, ng_eq, ng_ngE, ng_ngL, ng_ngl, sub1_lt, sub1_ng, eq_self, if_pos, if_neg, if_true, if_false, Nat.zero_add, Nat.add_zero, f_X6_amountOf, h1, h2, h3, h3', hc]
    · simp (disch := omega) only [bd2_s, bd_s, wr_s, ck_s, bz_s0, bz_s1, dz_s, nI_litS, nI_add, pk_mul, pk_sub, nI_leI, nI_ltI, nI_eq, ng_lt, ng_le, lt_ng, le_ng, eq_ng, ng_eq, ng_ngE, ng_ngL, ng_ngl, sub1_lt, sub1_ng, eq_self, if_pos, if_neg, if_true, if_false, Nat.zero_add, Nat.add_zero, f_X6_amountOf, h1, hc]
  · simp (disch := omega) only [bd2_s, bd_s, wr_s, ck_s, bz_s0, bz_s1, dz_s, nI_litS, nI_add, pk_mul, pk_sub, nI_leI, nI_ltI, nI_eq, ng_lt, ng_le, lt_ng, le_ng, eq_ng, ng_eq, ng_ngE, ng_ngL, ng_ngl, sub1_lt, sub1_ng, eq_self, if_pos, if_neg, if_true, if_false, Nat.zero_add, Nat.add_zero, f_X6_amountOf, h4]
  · simp (disch := omega) only [bd2_s, bd_s, wr_s, ck_s, bz_s0, bz_s1, dz_s, nI_litS, nI_add, pk_mul, pk_sub, nI_leI, nI_ltI, nI_eq, ng_lt, ng_le, lt_ng, le_ng, eq_ng, ng_eq, ng_ngE, ng_ngL, ng_ngl, sub1_lt, sub1_ng, eq_self, if_pos, if_neg, if_true, if_false, Nat.zero_add, Nat.add_zero, f_X6_amountOf, h5]
  · simp (disch := omega) only [bd2_s, bd_s, wr_s, ck_s, bz_s0, bz_s1, dz_s, nI_litS, nI_add, pk_mul, pk_sub, nI_leI, nI_ltI, nI_eq, ng_lt, ng_le, lt_ng, le_ng, eq_ng, ng_eq, ng_ngE, ng_ngL, ng_ngl, sub1_lt, sub1_ng, eq_self, if_pos, if_neg, if_true, if_false, Nat.zero_add, Nat.add_zero, f_X6_amountOf, h6]
