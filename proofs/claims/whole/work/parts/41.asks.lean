/-! The calls that ask for a table: points, sum, place, standing, why. -/
abbrev oc (R : Nat → Int32) (d W : Int32) (e : Nat) (c : Nat) : Int32 := ouS R d (enS R W c e)
abbrev PT (R : Nat → Int32) (d : Int32) (o : Nat → Int32) (dr p : Nat) : Int32 := ptS R d o p dr
abbrev SM (R : Nat → Int32) (d : Int32) (o : Nat → Int32) (dr w p : Nat) : Int32 := smS R o (fun q => ptS R d o q dr) w p dr
abbrev cm (R : Nat → Int32) (i : Nat) : Nat := (R (1 + i)).toNatClampNeg
abbrev sr0 (R : Nat → Int32) (i : Nat) : Nat := (R (20 + i)).toNatClampNeg
theorem T_sum.at {F : Nat → Nat → Int32} {R : Nat → Int32} (h : T_sum F R) {i : Nat} (h1 : 1 ≤ i) (h4 : i ≤ 4) : sr0 R i ≤ 5 ∧ F 3 i = nI (sr0 R i) ∧ R (20 + i) = nI (sr0 R i) := by
  obtain ⟨q, w, w5, e⟩ := h.2 (i - 1) (by omega)
  rw [show i - 1 + 1 = i from by omega, show 21 + (i - 1) = 20 + i from by omega] at q
  rw [show 21 + (i - 1) = 20 + i from by omega] at e
  have c : sr0 R i = w := by
    unfold sr0
    rw [e, nI_clamp (by omega)]
  rw [c]
  exact ⟨w5, q.trans e, e⟩
theorem T_in.at {np n : Nat} {mk : Nat → Int32} {F : Nat → Nat → Int32} {R : Nat → Int32} (h : T_in np mk F R n) (h24 : np ≤ 24) {i : Nat} (hi : i < n) : cm R i < np ∧ F 1 i = nI (cm R i) ∧ R (1 + i) = nI (cm R i) := by
  obtain ⟨q, p, hp, e, -⟩ := h.2.2.2.1 i hi
  have c : cm R i = p := by
    unfold cm
    rw [e, nI_clamp (by omega)]
  rw [c]
  exact ⟨hp, q.trans e, e⟩
/-- tournament t, told -/
def TT (g : G) (np t n dr e : Nat) : Prop := np ≤ 24 ∧ t < 4 ∧ T_in np (g 161) (blkT g t) (rowT g t) n ∧ T_sum (blkT g t) (rowT g t) ∧ T_rounds (blkT g t) (rowT g t) n dr ∧ T_entries (blkT g t) (rowT g t) dr e
theorem TT.cg {g g' : G} {np t n dr e : Nat} (h : TT g np t n dr e) (e1 : g' 161 = g 161) (e2 : g' 165 = g 165) (e3 : ∀ a, 47 + 28 * t ≤ a → a < 61 + 28 * t → g' a = g a) : TT g' np t n dr e := by
  obtain ⟨h1, h2, h3⟩ := h
  refine ⟨h1, h2, ?_⟩
  rw [e1, rowT_ne e2, blkT_ne (fun j hj => e3 _ (by omega) (by omega))]
  exact h3
theorem TT.scr {g g' : G} {np t n dr e : Nat} (h : TT g np t n dr e) (s : Scr g g') : TT g' np t n dr e := h.cg (s.1 161 (by omega) (by omega) (by omega)) (s.1 165 (by omega) (by omega) (by omega)) (fun a q1 q2 => s.1 a (by omega) (by have := h.2.1; omega) (by have := h.2.1; omega))
theorem TT.cw {g : G} {np t n dr e : Nat} (h : TT g np t n dr e) : CW t n (cm (rowT g t)) g := by
  obtain ⟨h24, ht, hin, -⟩ := h
  refine ⟨hin.1, hin.2.1, fun i hi => ?_⟩
  obtain ⟨q1, q2, q3⟩ := hin.at h24 hi
  exact ⟨by omega, by rw [bk_j g t 1 (by decide)]; exact q2⟩
theorem TT.mw {g : G} {np t n dr e : Nat} (h : TT g np t n dr e) : MW t n (cm (rowT g t)) g := by
  obtain ⟨h24, ht, hin, -⟩ := h
  refine ⟨hin.1, hin.2.2.1, fun i hi => ?_⟩
  obtain ⟨q1, q2, q3⟩ := hin.at h24 hi
  exact ⟨by omega, q3⟩
theorem TT.mt {g : G} {np t n dr e : Nat} (h : TT g np t n dr e) {d W : Int32} {o : Nat → Int32} (ho : ∀ c, c < 30 → f_X9_outcomeOf (nI t) (nI c) d W g = some (o c, g)) : MT t (sr0 (rowT g t)) (PT (rowT g t) d o dr) (SM (rowT g t) d o dr) d W g := by
  obtain ⟨h24, ht, hin, hsm, hrd, hen⟩ := h
  refine ⟨fun p hp => m_pointsOf ht hp h24 rfl hin hrd ho, fun p w hp hw => m_sumOf ht hp h24 hw rfl hin hrd ho, fun i h1 h4 => ?_⟩
  obtain ⟨q1, q2, q3⟩ := hsm.at h1 h4
  exact ⟨q1, q3⟩
theorem TT.ct {g : G} {np t n dr e : Nat} (h : TT g np t n dr e) {d : Int32} {o : Nat → Int32} (hp : ∀ p, p < 24 → g 19 p = PT (rowT g t) d o dr p) (hl : ∀ p, p < 24 → TLR (rowT g t) o (fun q => ptS (rowT g t) d o q dr) g p dr) : CT t (sr0 (rowT g t)) (PT (rowT g t) d o dr) (SM (rowT g t) d o dr) g := by
  obtain ⟨h24, ht, hin, hsm, hrd, hen⟩ := h
  refine ⟨hp, fun p w hp hw => c_amountOf hp hw (hl p hp), fun i h1 h4 => ?_⟩
  obtain ⟨q1, q2, q3⟩ := hsm.at h1 h4
  exact ⟨q1, by rw [bk_j g t 3 (by decide)]; exact q2⟩
/-- reading and scoring -/
theorem TT.score {g : G} {np t n dr e : Nat} (h : TT g np t n dr e) {d W : Int32} {β : Type} {k : Int32 → G → Option β} {Q : β → Prop} (hk : ∀ r s, (∀ a, ¬ (16 ≤ a ∧ a ≤ 19) → s a = g a) → (∀ c, c < 30 → s 17 c = oc (rowT g t) d W e c) → (∀ p, p < 24 → s 19 p = PT (rowT g t) d (oc (rowT g t) d W e) dr p) → Ev (k r s) Q) : Ev (bd2 (f_X6_read (47 + 28 * t) d W g) fun r3 g4 => bd2 (f_X6_score (47 + 28 * t) d g4) k) Q := by
  have h0 := h
  obtain ⟨h24, ht, hin, hsm, hrd, hen⟩ := h
  refine ev_bd2 ((c_read ht hrd.1 hen).imp ?_)
  rintro ⟨r1, s1⟩ ⟨x1, x2, x3⟩
  dsimp only at x1 x2 x3 ⊢
  have h1 : TT s1 np t n dr e := h0.cg (x1 _ (by omega) (by omega)) (x1 _ (by omega) (by omega)) (fun a q1 q2 => x1 a (by omega) (by omega))
  have hR : rowT s1 t = rowT g t := rowT_ne (x1 _ (by omega) (by omega))
  obtain ⟨-, -, hin1, hsm1, hrd1, hen1⟩ := h1
  refine ev_bd2 ((c_score (d := d) (o := oc (rowT g t) d W e) ht h24 hin1 hrd1 x3).imp ?_)
  rintro ⟨r2, s2⟩ ⟨y1, y2⟩
  dsimp only at y1 y2 ⊢
  rw [hR] at y2
  exact hk r2 s2 (fun a ha => (y1 a (by omega)).trans (x1 a (by omega) (by omega))) (fun c hc => by rw [y1 17 (by omega)]; exact x3 c hc) y2
theorem TT.table {g : G} {np t n dr e : Nat} (h : TT g np t n dr e) {d W : Int32} : Ev (f_X8_makeTable (nI t) d W g) (fun q => (∀ a, ¬ (16 ≤ a ∧ a ≤ 26) → q.2 a = g a) ∧ CT t (sr0 (rowT g t)) (PT (rowT g t) d (oc (rowT g t) d W e) dr) (SM (rowT g t) d (oc (rowT g t) d W e) dr) q.2 ∧ CW t n (cm (rowT g t)) q.2) := by
  have ht := h.2.1
  have h24 := h.1
  unfold f_X8_makeTable
  refine ev_ck t rfl ht (by decide) ?_
  refine ev_wr ?_
  refine h.score (fun r s x1 x2 x3 => ?_)
  have h1 : TT s np t n dr e := h.cg (x1 _ (by omega)) (x1 _ (by omega)) (fun a q1 q2 => x1 a (by omega))
  have hR : rowT s t = rowT g t := rowT_ne (x1 _ (by omega))
  obtain ⟨-, -, hin1, hsm1, hrd1, hen1⟩ := h1
  refine ev_bd2 ((c_tally (o := oc (rowT g t) d W e) (pt := fun q => ptS (rowT g t) d (oc (rowT g t) d W e) q dr) ht h24 hin1 hrd1 x2 x3).imp ?_)
  rintro ⟨r2, s2⟩ ⟨y1, y2⟩
  dsimp only at y1 y2 ⊢
  have h2 : TT s2 np t n dr e := h.cg ((y1 _ (by omega)).trans (x1 _ (by omega))) ((y1 _ (by omega)).trans (x1 _ (by omega))) (fun a q1 q2 => (y1 a (by omega)).trans (x1 a (by omega)))
  have hR2 : rowT s2 t = rowT g t := (rowT_ne (y1 _ (by omega))).trans hR
  refine ev_some ⟨fun a ha => (y1 a (by omega)).trans (x1 a (by omega)), ?_, ?_⟩
  · rw [hR] at y2
    have c := h2.ct (d := d) (o := oc (rowT g t) d W e) (by rw [hR2]; intro p hp; rw [y1 19 (by omega)]; exact x3 p hp) (by rw [hR2]; exact y2)
    rw [hR2] at c
    exact c
  · have c := h2.cw
    rw [hR2] at c
    exact c
/-- may a player be asked for? -/
theorem ask_cases {g : G} (hI : Inv g) (a1 a2 a3 a4 : Int32) :
    (∃ x, (x = -nI 2 ∨ x = -nI 3) ∧ (∀ g', (∀ a, a ≠ 1 → a ≠ 2 → g' a = g a) → f_X8_refuseAsking a1 a2 a3 a4 g' = some (x, g')) ∧ ∀ g', g' 159 3 = g 159 3 → g' 159 8 = g 159 8 → g' 165 = g 165 → f_X9_refused a1 a2 a3 a4 g' = some (x, g')) ∨
    ∃ np t p d W n dr e k : Nat, a1 = nI t ∧ a2 = nI p ∧ a3 = nI d ∧ a4 = nI W ∧ p < np ∧ d < 2 ^ 31 ∧ W < 2 ^ 31 ∧ TT g np t n dr e ∧ k < n ∧ rowT g t (1 + k) = nI p ∧ g 159 3 = nI np ∧ (∃ w, (w = 0 ∨ w = 1) ∧ blkT g t 2 p = nI (w + 1)) ∧ (∀ g', (∀ a, a ≠ 1 → a ≠ 2 → g' a = g a) → f_X8_refuseAsking a1 a2 a3 a4 g' = some (nI 0, g')) ∧ ∀ g', g' 159 3 = g 159 3 → g' 159 8 = g 159 8 → g' 165 = g 165 → f_X9_refused a1 a2 a3 a4 g' = some (nI 0, g') := by
  obtain ⟨np, nt, h24, h4, e1, e2, ec, em, es, hP, hT⟩ := hI.pre
  have bad : (∀ g', (∀ a, a ≠ 1 → a ≠ 2 → g' a = g a) → f_X8_refuseAsking a1 a2 a3 a4 g' = some (-nI 2, g')) → (∀ g', g' 159 3 = g 159 3 → g' 159 8 = g 159 8 → g' 165 = g 165 → f_X9_refused a1 a2 a3 a4 g' = some (-nI 2, g')) → (∃ x, (x = -nI 2 ∨ x = -nI 3) ∧ (∀ g', (∀ a, a ≠ 1 → a ≠ 2 → g' a = g a) → f_X8_refuseAsking a1 a2 a3 a4 g' = some (x, g')) ∧ ∀ g', g' 159 3 = g 159 3 → g' 159 8 = g 159 8 → g' 165 = g 165 → f_X9_refused a1 a2 a3 a4 g' = some (x, g')) := fun x y => ⟨_, Or.inl rfl, x, y⟩
  rcases i32_split a1 with ⟨t, ht, rfl⟩ | ⟨t, ht0, ht, rfl⟩
  · by_cases htn : t < nt
    · rcases i32_split a2 with ⟨p, hp, rfl⟩ | ⟨p, hp0, hp, rfl⟩
      · by_cases hpn : p < np
        · rcases i32_split a3 with ⟨d, hd, rfl⟩ | ⟨d, hd0, hd, rfl⟩
          · rcases i32_split a4 with ⟨W, hW, rfl⟩ | ⟨W, hW0, hW, rfl⟩
            · obtain ⟨n, dr, e, q0, hin, hsm, hrd, hen⟩ := hT t htn
              rcases hin.who (p := p) (by omega) (by omega) with ⟨w1, w2⟩ | ⟨k, w, hk, hw, r1, r2, w1, w2⟩
              · refine Or.inl ⟨-nI 3, Or.inr rfl, fun g' c => ?_, fun g' c1 c2 c3 => ?_⟩
                · have c0 := c 0 (by omega) (by omega)
                  have c3 := c 3 (by omega) (by omega)
                  have c2 : g' (47 + 28 * t + 2) p = nI 0 := by rw [c _ (by omega) (by omega), bk_j g t 2 (by decide)]; exact w1
                  simp (disch := omega) only [bd2_s, bd_s, wr_s, ck_s, bz_s0, bz_s1, dz_s, nI_litS, nI_add, pk_mul, pk_sub, nI_leI, nI_ltI, nI_eq, ng_lt, ng_le, lt_ng, le_ng, eq_ng, ng_eq, ng_ngE, ng_ngL, ng_ngl, sub1_lt, sub1_ng, eq_self, if_pos, if_neg, if_true, if_false, Nat.zero_add, Nat.add_zero, f_X8_isTournament, f_X5_has, e1, ec, f_X8_refuseAsking, f_X7_hasIn, c0, c3, c2]
                · have w3 := w2 g' (rowT_ne c3)
                  simp (disch := omega) only [bd2_s, bd_s, wr_s, ck_s, bz_s0, bz_s1, dz_s, nI_litS, nI_add, pk_mul, pk_sub, nI_leI, nI_ltI, nI_eq, ng_lt, ng_le, lt_ng, le_ng, eq_ng, ng_eq, ng_ngE, ng_ngL, ng_ngl, sub1_lt, sub1_ng, eq_self, if_pos, if_neg, if_true, if_false, Nat.zero_add, Nat.add_zero, f_X9_isTournament, f_X9_isPlayer, f_X9_in, e2, em, f_X9_refused, c1, c2, w3]
              · refine Or.inr ⟨np, t, p, d, W, n, dr, e, k, rfl, rfl, rfl, rfl, hpn, hd, hW, ⟨h24, by omega, hin, hsm, hrd, hen⟩, hk, r1, e2, ⟨w, hw, w1⟩, fun g' c => ?_, fun g' c1 c2 c3 => ?_⟩
                · have c0 := c 0 (by omega) (by omega)
                  have c3 := c 3 (by omega) (by omega)
                  have c2 : g' (47 + 28 * t + 2) p = nI (w + 1) := by rw [c _ (by omega) (by omega), bk_j g t 2 (by decide)]; exact w1
                  simp (disch := omega) only [bd2_s, bd_s, wr_s, ck_s, bz_s0, bz_s1, dz_s, nI_litS, nI_add, pk_mul, pk_sub, nI_leI, nI_ltI, nI_eq, ng_lt, ng_le, lt_ng, le_ng, eq_ng, ng_eq, ng_ngE, ng_ngL, ng_ngl, sub1_lt, sub1_ng, eq_self, if_pos, if_neg, if_true, if_false, Nat.zero_add, Nat.add_zero, f_X8_isTournament, f_X5_has, e1, ec, f_X8_refuseAsking, f_X7_hasIn, c0, c3, c2]
                · have w3 := w2 g' (rowT_ne c3)
                  have := hin.1
                  simp (disch := omega) only [bd2_s, bd_s, wr_s, ck_s, bz_s0, bz_s1, dz_s, nI_litS, nI_add, pk_mul, pk_sub, nI_leI, nI_ltI, nI_eq, ng_lt, ng_le, lt_ng, le_ng, eq_ng, ng_eq, ng_ngE, ng_ngL, ng_ngl, sub1_lt, sub1_ng, eq_self, if_pos, if_neg, if_true, if_false, Nat.zero_add, Nat.add_zero, f_X9_isTournament, f_X9_isPlayer, f_X9_in, e2, em, f_X9_refused, c1, c2, w3]
            · refine Or.inl (bad (fun g' c => ?_) (fun g' c1 c2 c3 => ?_))
              · have c0 := c 0 (by omega) (by omega)
                have c3 := c 3 (by omega) (by omega)
                simp (disch := omega) only [bd2_s, bd_s, wr_s, ck_s, bz_s0, bz_s1, dz_s, nI_litS, nI_add, pk_mul, pk_sub, nI_leI, nI_ltI, nI_eq, ng_lt, ng_le, lt_ng, le_ng, eq_ng, ng_eq, ng_ngE, ng_ngL, ng_ngl, sub1_lt, sub1_ng, eq_self, if_pos, if_neg, if_true, if_false, Nat.zero_add, Nat.add_zero, f_X8_isTournament, f_X5_has, e1, ec, f_X8_refuseAsking, c0, c3]
              · simp (disch := omega) only [bd2_s, bd_s, wr_s, ck_s, bz_s0, bz_s1, dz_s, nI_litS, nI_add, pk_mul, pk_sub, nI_leI, nI_ltI, nI_eq, ng_lt, ng_le, lt_ng, le_ng, eq_ng, ng_eq, ng_ngE, ng_ngL, ng_ngl, sub1_lt, sub1_ng, eq_self, if_pos, if_neg, if_true, if_false, Nat.zero_add, Nat.add_zero, f_X9_isTournament, f_X9_isPlayer, f_X9_in, e2, em, f_X9_refused, c1, c2]
          · refine Or.inl (bad (fun g' c => ?_) (fun g' c1 c2 c3 => ?_))
            · have c0 := c 0 (by omega) (by omega)
              have c3 := c 3 (by omega) (by omega)
              simp (disch := omega) only [bd2_s, bd_s, wr_s, ck_s, bz_s0, bz_s1, dz_s, nI_litS, nI_add, pk_mul, pk_sub, nI_leI, nI_ltI, nI_eq, ng_lt, ng_le, lt_ng, le_ng, eq_ng, ng_eq, ng_ngE, ng_ngL, ng_ngl, sub1_lt, sub1_ng, eq_self, if_pos, if_neg, if_true, if_false, Nat.zero_add, Nat.add_zero, f_X8_isTournament, f_X5_has, e1, ec, f_X8_refuseAsking, c0, c3]
            · simp (disch := omega) only [bd2_s, bd_s, wr_s, ck_s, bz_s0, bz_s1, dz_s, nI_litS, nI_add, pk_mul, pk_sub, nI_leI, nI_ltI, nI_eq, ng_lt, ng_le, lt_ng, le_ng, eq_ng, ng_eq, ng_ngE, ng_ngL, ng_ngl, sub1_lt, sub1_ng, eq_self, if_pos, if_neg, if_true, if_false, Nat.zero_add, Nat.add_zero, f_X9_isTournament, f_X9_isPlayer, f_X9_in, e2, em, f_X9_refused, c1, c2]
        · refine Or.inl (bad (fun g' c => ?_) (fun g' c1 c2 c3 => ?_))
          · have c0 := c 0 (by omega) (by omega)
            have c3 := c 3 (by omega) (by omega)
            simp (disch := omega) only [bd2_s, bd_s, wr_s, ck_s, bz_s0, bz_s1, dz_s, nI_litS, nI_add, pk_mul, pk_sub, nI_leI, nI_ltI, nI_eq, ng_lt, ng_le, lt_ng, le_ng, eq_ng, ng_eq, ng_ngE, ng_ngL, ng_ngl, sub1_lt, sub1_ng, eq_self, if_pos, if_neg, if_true, if_false, Nat.zero_add, Nat.add_zero, f_X8_isTournament, f_X5_has, e1, ec, f_X8_refuseAsking, c0, c3]
          · simp (disch := omega) only [bd2_s, bd_s, wr_s, ck_s, bz_s0, bz_s1, dz_s, nI_litS, nI_add, pk_mul, pk_sub, nI_leI, nI_ltI, nI_eq, ng_lt, ng_le, lt_ng, le_ng, eq_ng, ng_eq, ng_ngE, ng_ngL, ng_ngl, sub1_lt, sub1_ng, eq_self, if_pos, if_neg, if_true, if_false, Nat.zero_add, Nat.add_zero, f_X9_isTournament, f_X9_isPlayer, f_X9_in, e2, em, f_X9_refused, c1, c2]
      · refine Or.inl (bad (fun g' c => ?_) (fun g' c1 c2 c3 => ?_))
        · have c0 := c 0 (by omega) (by omega)
          have c3 := c 3 (by omega) (by omega)
          simp (disch := omega) only [bd2_s, bd_s, wr_s, ck_s, bz_s0, bz_s1, dz_s, nI_litS, nI_add, pk_mul, pk_sub, nI_leI, nI_ltI, nI_eq, ng_lt, ng_le, lt_ng, le_ng, eq_ng, ng_eq, ng_ngE, ng_ngL, ng_ngl, sub1_lt, sub1_ng, eq_self, if_pos, if_neg, if_true, if_false, Nat.zero_add, Nat.add_zero, f_X8_isTournament, f_X5_has, e1, ec, f_X8_refuseAsking, c0, c3]
        · simp (disch := omega) only [bd2_s, bd_s, wr_s, ck_s, bz_s0, bz_s1, dz_s, nI_litS, nI_add, pk_mul, pk_sub, nI_leI, nI_ltI, nI_eq, ng_lt, ng_le, lt_ng, le_ng, eq_ng, ng_eq, ng_ngE, ng_ngL, ng_ngl, sub1_lt, sub1_ng, eq_self, if_pos, if_neg, if_true, if_false, Nat.zero_add, Nat.add_zero, f_X9_isTournament, f_X9_isPlayer, f_X9_in, e2, em, f_X9_refused, c1, c2]
    · refine Or.inl (bad (fun g' c => ?_) (fun g' c1 c2 c3 => ?_))
      · have c0 := c 0 (by omega) (by omega)
        simp (disch := omega) only [bd2_s, bd_s, wr_s, ck_s, bz_s0, bz_s1, dz_s, nI_litS, nI_add, pk_mul, pk_sub, nI_leI, nI_ltI, nI_eq, ng_lt, ng_le, lt_ng, le_ng, eq_ng, ng_eq, ng_ngE, ng_ngL, ng_ngl, sub1_lt, sub1_ng, eq_self, if_pos, if_neg, if_true, if_false, Nat.zero_add, Nat.add_zero, f_X8_isTournament, f_X5_has, e1, ec, f_X8_refuseAsking, c0]
      · simp (disch := omega) only [bd2_s, bd_s, wr_s, ck_s, bz_s0, bz_s1, dz_s, nI_litS, nI_add, pk_mul, pk_sub, nI_leI, nI_ltI, nI_eq, ng_lt, ng_le, lt_ng, le_ng, eq_ng, ng_eq, ng_ngE, ng_ngL, ng_ngl, sub1_lt, sub1_ng, eq_self, if_pos, if_neg, if_true, if_false, Nat.zero_add, Nat.add_zero, f_X9_isTournament, f_X9_isPlayer, f_X9_in, e2, em, f_X9_refused, c1, c2]
  · refine Or.inl (bad (fun g' c => ?_) (fun g' c1 c2 c3 => ?_))
    · have c0 := c 0 (by omega) (by omega)
      simp (disch := omega) only [bd2_s, bd_s, wr_s, ck_s, bz_s0, bz_s1, dz_s, nI_litS, nI_add, pk_mul, pk_sub, nI_leI, nI_ltI, nI_eq, ng_lt, ng_le, lt_ng, le_ng, eq_ng, ng_eq, ng_ngE, ng_ngL, ng_ngl, sub1_lt, sub1_ng, eq_self, if_pos, if_neg, if_true, if_false, Nat.zero_add, Nat.add_zero, f_X8_isTournament, f_X5_has, e1, ec, f_X8_refuseAsking, c0]
    · simp (disch := omega) only [bd2_s, bd_s, wr_s, ck_s, bz_s0, bz_s1, dz_s, nI_litS, nI_add, pk_mul, pk_sub, nI_leI, nI_ltI, nI_eq, ng_lt, ng_le, lt_ng, le_ng, eq_ng, ng_eq, ng_ngE, ng_ngL, ng_ngl, sub1_lt, sub1_ng, eq_self, if_pos, if_neg, if_true, if_false, Nat.zero_add, Nat.add_zero, f_X9_isTournament, f_X9_isPlayer, f_X9_in, e2, em, f_X9_refused, c1, c2]
theorem Scr.of {g s : G} (x : ∀ a, ¬ (16 ≤ a ∧ a ≤ 26) → s a = g a) : Scr g s := ⟨fun a q1 q2 q3 => x a (by omega), fun k _ => by rw [x 159 (by omega)]⟩
theorem TT.oc {g : G} {np t n dr e : Nat} (h : TT g np t n dr e) (h25 : g 159 25 = 0) {d W : Int32} : ∀ c, c < 30 → f_X9_outcomeOf (nI t) (nI c) d W g = some (oc (rowT g t) d W e c, g) := fun c hc => m_outcomeOf h.2.1 h.2.2.2.2.2 h25
/-- the same answer of both, in a call that changes nothing but scratch -/
theorem sp_same {x : Option (Int32 × G)} {k9 : G → Option (Int32 × G)} {g : G} (hI : Inv g) {r : Int32} (h8 : Ev x (fun q => q.1 = r ∧ Scr g q.2)) (h9 : ∀ s, Scr g s → ∃ s', k9 s = some (r, s') ∧ Scr s s') : ∃ r g1 g2, x = some (r, g1) ∧ k9 g1 = some (r, g2) ∧ Inv g2 := by
  obtain ⟨⟨r', s⟩, e, rfl, q⟩ := h8
  obtain ⟨s', e9, q9⟩ := h9 s q
  exact ⟨r', s, s', e, e9, (hI.scr q).scr q9⟩
theorem Inv.h25 {g : G} (h : Inv g) : g 159 25 = 0 := h.2.2.2.2.2.2
theorem Scr.m3 {g s : G} (h : Scr g s) : s 159 3 = g 159 3 := h.2 3 (by omega)
theorem Scr.m8 {g s : G} (h : Scr g s) : s 159 8 = g 159 8 := h.2 8 (by omega)
theorem Scr.m25 {g s : G} (h : Scr g s) : s 159 25 = g 159 25 := h.2 25 (by omega)
theorem Scr.m165 {g s : G} (h : Scr g s) : s 165 = g 165 := h.1 165 (by omega) (by omega) (by omega)
theorem sp_points : Sp4 Inv f_X8_points f_X9_points := by
  refine Sp4.to (fun a1 a2 a3 a4 g hI => ?_)
  rcases ask_cases hI a1 a2 a3 a4 with ⟨x, hx, x8, x9⟩ | ⟨np, t, p, d, W, n, dr, e, k, rfl, rfl, rfl, rfl, hp, hd, hW, hT, hk, hkp, enp, hst, x8, x9⟩
  · have y8 := x8 g (fun _ _ _ => rfl)
    have y9 := x9 g rfl rfl rfl
    refine ⟨x, g, g, ?_, ?_, hI⟩
    · rcases hx with rfl | rfl
      · simp (disch := omega) only [bd2_s, bd_s, wr_s, ck_s, bz_s0, bz_s1, dz_s, nI_litS, nI_add, pk_mul, pk_sub, nI_leI, nI_ltI, nI_eq, ng_lt, ng_le, lt_ng, le_ng, eq_ng, ng_eq, ng_ngE, ng_ngL, ng_ngl, sub1_lt, sub1_ng, eq_self, if_pos, if_neg, if_true, if_false, Nat.zero_add, Nat.add_zero, f_X8_points, y8]
      · simp (disch := omega) only [bd2_s, bd_s, wr_s, ck_s, bz_s0, bz_s1, dz_s, nI_litS, nI_add, pk_mul, pk_sub, nI_leI, nI_ltI, nI_eq, ng_lt, ng_le, lt_ng, le_ng, eq_ng, ng_eq, ng_ngE, ng_ngL, ng_ngl, sub1_lt, sub1_ng, eq_self, if_pos, if_neg, if_true, if_false, Nat.zero_add, Nat.add_zero, f_X8_points, y8]
    · rcases hx with rfl | rfl
      · simp (disch := omega) only [bd2_s, bd_s, wr_s, ck_s, bz_s0, bz_s1, dz_s, nI_litS, nI_add, pk_mul, pk_sub, nI_leI, nI_ltI, nI_eq, ng_lt, ng_le, lt_ng, le_ng, eq_ng, ng_eq, ng_ngE, ng_ngL, ng_ngl, sub1_lt, sub1_ng, eq_self, if_pos, if_neg, if_true, if_false, Nat.zero_add, Nat.add_zero, f_X9_points, y9]
      · simp (disch := omega) only [bd2_s, bd_s, wr_s, ck_s, bz_s0, bz_s1, dz_s, nI_litS, nI_add, pk_mul, pk_sub, nI_leI, nI_ltI, nI_eq, ng_lt, ng_le, lt_ng, le_ng, eq_ng, ng_eq, ng_ngE, ng_ngL, ng_ngl, sub1_lt, sub1_ng, eq_self, if_pos, if_neg, if_true, if_false, Nat.zero_add, Nat.add_zero, f_X9_points, y9]
  · have h24 := hT.1
    refine sp_same hI (r := PT (rowT g t) (nI d) (oc (rowT g t) (nI d) (nI W) e) dr p) ?_ (fun s hs => ⟨s, ?_, Scr.rfl⟩)
    · have y8 := x8 g (fun _ _ _ => rfl)
      unfold f_X8_points
      refine ev_call y8 ?_
      refine ev_t rfl ?_
      refine ev_ck t rfl hT.2.1 (by decide) ?_
      refine ev_wr ?_
      refine hT.score (fun r s z1 z2 z3 => ?_)
      refine ev_ck p rfl (by omega) (by decide) ?_
      exact ev_some ⟨z3 p (by omega), Scr.of (fun a ha => z1 a (by omega))⟩
    · have hT' := hT.scr hs
      have y9 := x9 s hs.m3 hs.m8 hs.m165
      have m := (hT'.mt (hT'.oc (hs.m25.trans hI.h25)) (d := nI d) (W := nI W)).1 p (by omega)
      rw [hs.row] at m
      simp (disch := omega) only [bd2_s, bd_s, wr_s, ck_s, bz_s0, bz_s1, dz_s, nI_litS, nI_add, pk_mul, pk_sub, nI_leI, nI_ltI, nI_eq, ng_lt, ng_le, lt_ng, le_ng, eq_ng, ng_eq, ng_ngE, ng_ngL, ng_ngl, sub1_lt, sub1_ng, eq_self, if_pos, if_neg, if_true, if_false, Nat.zero_add, Nat.add_zero, f_X9_points, y9, m]
theorem Sp5.to {Inv : G → Prop} {f8 f9 : Int32 → Int32 → Int32 → Int32 → Int32 → G → Option (Int32 × G)} (h : ∀ a b c d e g, Inv g → ∃ r g1 g2, f8 a b c d e g = some (r, g1) ∧ f9 a b c d e g1 = some (r, g2) ∧ Inv g2) : Sp5 Inv f8 f9 := h
theorem sp_sum : Sp5 Inv f_X8_sum f_X9_sum := by
  refine Sp5.to (fun a1 a2 a3 a4 a5 g hI => ?_)
  by_cases hw : ∃ w, 1 ≤ w ∧ w ≤ 5 ∧ a3 = nI w
  · obtain ⟨w, w1, w5, rfl⟩ := hw
    rcases ask_cases hI a1 a2 a4 a5 with ⟨x, hx, x8, x9⟩ | ⟨np, t, p, d, W, n, dr, e, k, rfl, rfl, rfl, rfl, hp, hd, hW, hT, hk, hkp, enp, hst, x8, x9⟩
    · have y8 := x8 g (fun _ _ _ => rfl)
      have y9 := x9 g rfl rfl rfl
      refine ⟨x, g, g, ?_, ?_, hI⟩
      · rcases hx with rfl | rfl
        · simp (disch := omega) only [bd2_s, bd_s, wr_s, ck_s, bz_s0, bz_s1, dz_s, nI_litS, nI_add, pk_mul, pk_sub, nI_leI, nI_ltI, nI_eq, ng_lt, ng_le, lt_ng, le_ng, eq_ng, ng_eq, ng_ngE, ng_ngL, ng_ngl, sub1_lt, sub1_ng, eq_self, if_pos, if_neg, if_true, if_false, Nat.zero_add, Nat.add_zero, f_X8_sum, y8]
        · simp (disch := omega) only [bd2_s, bd_s, wr_s, ck_s, bz_s0, bz_s1, dz_s, nI_litS, nI_add, pk_mul, pk_sub, nI_leI, nI_ltI, nI_eq, ng_lt, ng_le, lt_ng, le_ng, eq_ng, ng_eq, ng_ngE, ng_ngL, ng_ngl, sub1_lt, sub1_ng, eq_self, if_pos, if_neg, if_true, if_false, Nat.zero_add, Nat.add_zero, f_X8_sum, y8]
      · rcases hx with rfl | rfl
        · simp (disch := omega) only [bd2_s, bd_s, wr_s, ck_s, bz_s0, bz_s1, dz_s, nI_litS, nI_add, pk_mul, pk_sub, nI_leI, nI_ltI, nI_eq, ng_lt, ng_le, lt_ng, le_ng, eq_ng, ng_eq, ng_ngE, ng_ngL, ng_ngl, sub1_lt, sub1_ng, eq_self, if_pos, if_neg, if_true, if_false, Nat.zero_add, Nat.add_zero, f_X9_sum, y9]
        · simp (disch := omega) only [bd2_s, bd_s, wr_s, ck_s, bz_s0, bz_s1, dz_s, nI_litS, nI_add, pk_mul, pk_sub, nI_leI, nI_ltI, nI_eq, ng_lt, ng_le, lt_ng, le_ng, eq_ng, ng_eq, ng_ngE, ng_ngL, ng_ngl, sub1_lt, sub1_ng, eq_self, if_pos, if_neg, if_true, if_false, Nat.zero_add, Nat.add_zero, f_X9_sum, f_X9_in, y9]
    · have h24 := hT.1
      refine sp_same hI (r := SM (rowT g t) (nI d) (oc (rowT g t) (nI d) (nI W) e) dr w p) ?_ (fun s hs => ⟨s, ?_, Scr.rfl⟩)
      · have y8 := x8 g (fun _ _ _ => rfl)
        unfold f_X8_sum
        refine ev_f (by rw [l_1, nI_ltI (by omega) (by omega)]; omega) ?_
        refine ev_t (by rw [l_5, nI_leI (by omega) (by omega)]; omega) ?_
        refine ev_call y8 ?_
        refine ev_t rfl ?_
        refine ev_bd2 (hT.table.imp ?_)
        rintro ⟨r, s⟩ ⟨z1, z2, z3⟩
        dsimp only at z1 z2 z3 ⊢
        refine ev_call (z2.2.1 p w (by omega) ⟨w1, w5⟩) ?_
        exact ev_some ⟨rfl, Scr.of z1⟩
      · have hT' := hT.scr hs
        have y9 := x9 s hs.m3 hs.m8 hs.m165
        have m := (hT'.mt (hT'.oc (hs.m25.trans hI.h25)) (d := nI d) (W := nI W)).2.1 p w (by omega) ⟨w1, w5⟩
        rw [hs.row] at m
        simp (disch := omega) only [bd2_s, bd_s, wr_s, ck_s, bz_s0, bz_s1, dz_s, nI_litS, nI_add, pk_mul, pk_sub, nI_leI, nI_ltI, nI_eq, ng_lt, ng_le, lt_ng, le_ng, eq_ng, ng_eq, ng_ngE, ng_ngL, ng_ngl, sub1_lt, sub1_ng, eq_self, if_pos, if_neg, if_true, if_false, Nat.zero_add, Nat.add_zero, f_X9_sum, f_X9_in, y9, m]
  · have hw' : (∃ j, j = 0 ∧ a3 = nI j) ∨ (∃ j, 5 < j ∧ j < 2 ^ 31 ∧ a3 = nI j) ∨ ∃ j, 0 < j ∧ j ≤ 2 ^ 31 ∧ a3 = -nI j := by
      rcases i32_split a3 with ⟨j, hj, rfl⟩ | h
      · by_cases j0 : j = 0
        · exact Or.inl ⟨j, j0, rfl⟩
        · refine Or.inr (Or.inl ⟨j, ?_, hj, rfl⟩)
          by_cases j5 : j ≤ 5
          · exact absurd ⟨j, by omega, j5, rfl⟩ hw
          · omega
      · exact Or.inr (Or.inr h)
    have m : f_X9_in a3 1 5 g = some (nI 0, g) := by
      rcases hw' with ⟨j, rfl, rfl⟩ | ⟨j, h1, h2, rfl⟩ | ⟨j, h1, h2, rfl⟩
      · simp (disch := omega) only [bd2_s, bd_s, wr_s, ck_s, bz_s0, bz_s1, dz_s, nI_litS, nI_add, pk_mul, pk_sub, nI_leI, nI_ltI, nI_eq, ng_lt, ng_le, lt_ng, le_ng, eq_ng, ng_eq, ng_ngE, ng_ngL, ng_ngl, sub1_lt, sub1_ng, eq_self, if_pos, if_neg, if_true, if_false, Nat.zero_add, Nat.add_zero, f_X9_in]
      · simp (disch := omega) only [bd2_s, bd_s, wr_s, ck_s, bz_s0, bz_s1, dz_s, nI_litS, nI_add, pk_mul, pk_sub, nI_leI, nI_ltI, nI_eq, ng_lt, ng_le, lt_ng, le_ng, eq_ng, ng_eq, ng_ngE, ng_ngL, ng_ngl, sub1_lt, sub1_ng, eq_self, if_pos, if_neg, if_true, if_false, Nat.zero_add, Nat.add_zero, f_X9_in]
      · simp (disch := omega) only [bd2_s, bd_s, wr_s, ck_s, bz_s0, bz_s1, dz_s, nI_litS, nI_add, pk_mul, pk_sub, nI_leI, nI_ltI, nI_eq, ng_lt, ng_le, lt_ng, le_ng, eq_ng, ng_eq, ng_ngE, ng_ngL, ng_ngl, sub1_lt, sub1_ng, eq_self, if_pos, if_neg, if_true, if_false, Nat.zero_add, Nat.add_zero, f_X9_in]
    refine ⟨-nI 2, g, g, ?_, ?_, hI⟩
    · rcases hw' with ⟨j, rfl, rfl⟩ | ⟨j, h1, h2, rfl⟩ | ⟨j, h1, h2, rfl⟩
      · simp (disch := omega) only [bd2_s, bd_s, wr_s, ck_s, bz_s0, bz_s1, dz_s, nI_litS, nI_add, pk_mul, pk_sub, nI_leI, nI_ltI, nI_eq, ng_lt, ng_le, lt_ng, le_ng, eq_ng, ng_eq, ng_ngE, ng_ngL, ng_ngl, sub1_lt, sub1_ng, eq_self, if_pos, if_neg, if_true, if_false, Nat.zero_add, Nat.add_zero, f_X8_sum]
      · simp (disch := omega) only [bd2_s, bd_s, wr_s, ck_s, bz_s0, bz_s1, dz_s, nI_litS, nI_add, pk_mul, pk_sub, nI_leI, nI_ltI, nI_eq, ng_lt, ng_le, lt_ng, le_ng, eq_ng, ng_eq, ng_ngE, ng_ngL, ng_ngl, sub1_lt, sub1_ng, eq_self, if_pos, if_neg, if_true, if_false, Nat.zero_add, Nat.add_zero, f_X8_sum]
      · simp (disch := omega) only [bd2_s, bd_s, wr_s, ck_s, bz_s0, bz_s1, dz_s, nI_litS, nI_add, pk_mul, pk_sub, nI_leI, nI_ltI, nI_eq, ng_lt, ng_le, lt_ng, le_ng, eq_ng, ng_eq, ng_ngE, ng_ngL, ng_ngl, sub1_lt, sub1_ng, eq_self, if_pos, if_neg, if_true, if_false, Nat.zero_add, Nat.add_zero, f_X8_sum]
    · rcases ask_cases hI a1 a2 a4 a5 with ⟨x, hx, x8, x9⟩ | ⟨np, t, p, d, W, n, dr, e, k, -, -, -, -, -, -, -, -, -, -, -, -, -, x9⟩
      · have y9 := x9 g rfl rfl rfl
        unfold f_X9_sum
        refine q_call y9 ?_
        rcases hx with rfl | rfl
        · rfl
        · refine q_if_f (by decide) ?_
          refine q_call m ?_
          rfl
      · have y9 := x9 g rfl rfl rfl
        unfold f_X9_sum
        refine q_call y9 ?_
        refine q_if_f (by decide) ?_
        refine q_call m ?_
        rfl
theorem sp_place : Sp4 Inv f_X8_place f_X9_place := by
  refine Sp4.to (fun a1 a2 a3 a4 g hI => ?_)
  rcases ask_cases hI a1 a2 a3 a4 with ⟨x, hx, x8, x9⟩ | ⟨np, t, p, d, W, n, dr, e, k, rfl, rfl, rfl, rfl, hp, hd, hW, hT, hk, hkp, enp, hst, x8, x9⟩
  · have y8 := x8 g (fun _ _ _ => rfl)
    have y9 := x9 g rfl rfl rfl
    refine ⟨x, g, g, ?_, ?_, hI⟩
    · rcases hx with rfl | rfl
      · simp (disch := omega) only [bd2_s, bd_s, wr_s, ck_s, bz_s0, bz_s1, dz_s, nI_litS, nI_add, pk_mul, pk_sub, nI_leI, nI_ltI, nI_eq, ng_lt, ng_le, lt_ng, le_ng, eq_ng, ng_eq, ng_ngE, ng_ngL, ng_ngl, sub1_lt, sub1_ng, eq_self, if_pos, if_neg, if_true, if_false, Nat.zero_add, Nat.add_zero, f_X8_place, y8]
      · simp (disch := omega) only [bd2_s, bd_s, wr_s, ck_s, bz_s0, bz_s1, dz_s, nI_litS, nI_add, pk_mul, pk_sub, nI_leI, nI_ltI, nI_eq, ng_lt, ng_le, lt_ng, le_ng, eq_ng, ng_eq, ng_ngE, ng_ngL, ng_ngl, sub1_lt, sub1_ng, eq_self, if_pos, if_neg, if_true, if_false, Nat.zero_add, Nat.add_zero, f_X8_place, y8]
    · rcases hx with rfl | rfl
      · simp (disch := omega) only [bd2_s, bd_s, wr_s, ck_s, bz_s0, bz_s1, dz_s, nI_litS, nI_add, pk_mul, pk_sub, nI_leI, nI_ltI, nI_eq, ng_lt, ng_le, lt_ng, le_ng, eq_ng, ng_eq, ng_ngE, ng_ngL, ng_ngl, sub1_lt, sub1_ng, eq_self, if_pos, if_neg, if_true, if_false, Nat.zero_add, Nat.add_zero, f_X9_place, y9]
      · simp (disch := omega) only [bd2_s, bd_s, wr_s, ck_s, bz_s0, bz_s1, dz_s, nI_litS, nI_add, pk_mul, pk_sub, nI_leI, nI_ltI, nI_eq, ng_lt, ng_le, lt_ng, le_ng, eq_ng, ng_eq, ng_ngE, ng_ngL, ng_ngl, sub1_lt, sub1_ng, eq_self, if_pos, if_neg, if_true, if_false, Nat.zero_add, Nat.add_zero, f_X9_place, y9]
  · have h24 := hT.1
    have ht := hT.2.1
    refine sp_same hI (r := ahN (pV (sr0 (rowT g t)) (PT (rowT g t) (nI d) (oc (rowT g t) (nI d) (nI W) e) dr) (SM (rowT g t) (nI d) (oc (rowT g t) (nI d) (nI W) e) dr)) (cm (rowT g t)) p n + nI 1) ?_ (fun s hs => ⟨s, ?_, Scr.rfl⟩)
    · have y8 := x8 g (fun _ _ _ => rfl)
      unfold f_X8_place
      refine ev_call y8 ?_
      refine ev_t rfl ?_
      refine ev_bd2 (hT.table.imp ?_)
      rintro ⟨r, s⟩ ⟨z1, z2, z3⟩
      dsimp only at z1 z2 z3 ⊢
      refine ev_ck t rfl hT.2.1 (by decide) ?_
      refine ev_wr ?_
      refine ev_call (c_aheadOf (by omega) z2 z3) ?_
      exact ev_some ⟨rfl, Scr.of z1⟩
    · have hT' := hT.scr hs
      have y9 := x9 s hs.m3 hs.m8 hs.m165
      have m := m_ahead (p := p) ht (by omega) (hT'.mt (hT'.oc (hs.m25.trans hI.h25)) (d := nI d) (W := nI W)) hT'.mw
      rw [hs.row] at m
      simp (disch := omega) only [bd2_s, bd_s, wr_s, ck_s, bz_s0, bz_s1, dz_s, nI_litS, nI_add, pk_mul, pk_sub, nI_leI, nI_ltI, nI_eq, ng_lt, ng_le, lt_ng, le_ng, eq_ng, ng_eq, ng_ngE, ng_ngL, ng_ngl, sub1_lt, sub1_ng, eq_self, if_pos, if_neg, if_true, if_false, Nat.zero_add, Nat.add_zero, f_X9_place, y9, m]
theorem sp_why : Sp5 Inv f_X8_why f_X9_why := by
  refine Sp5.to (fun a1 a2 a3 a4 a5 g hI => ?_)
  rcases ask_cases hI a1 a2 a4 a5 with ⟨x, hx, x8, x9⟩ | ⟨np, t, p, d, W, n, dr, e, k, rfl, rfl, rfl, rfl, hp, hd, hW, hT, hk, hkp, enp, hst, x8, x9⟩
  · have y8 := x8 g (fun _ _ _ => rfl)
    have y9 := x9 g rfl rfl rfl
    have : ∃ y, (y = -nI 2 ∨ y = -nI 3 ∨ y = nI 0) ∧ f_X8_refuseAsking a1 a3 a4 a5 g = some (y, g) ∧ f_X9_refused a1 a3 a4 a5 g = some (y, g) := by
      rcases ask_cases hI a1 a3 a4 a5 with ⟨y, hy, z8, z9⟩ | ⟨np, t, p, d, W, n, dr, e, k, -, -, -, -, -, -, -, -, -, -, -, -, z8, z9⟩
      · exact ⟨y, hy.elim Or.inl (fun q => Or.inr (Or.inl q)), z8 g (fun _ _ _ => rfl), z9 g rfl rfl rfl⟩
      · exact ⟨nI 0, Or.inr (Or.inr rfl), z8 g (fun _ _ _ => rfl), z9 g rfl rfl rfl⟩
    obtain ⟨y, hy, z8, z9⟩ := this
    refine ⟨if x = -nI 2 ∨ y = -nI 2 then -nI 2 else -nI 3, g, g, ?_, ?_, hI⟩
    · unfold f_X8_why
      refine q_call y8 ?_
      refine q_call z8 ?_
      rcases hx with rfl | rfl <;> rcases hy with rfl | rfl | rfl <;> rfl
    · unfold f_X9_why
      refine q_call y9 ?_
      refine q_call z9 ?_
      rcases hx with rfl | rfl <;> rcases hy with rfl | rfl | rfl <;> rfl
  · have h24 := hT.1
    have ht := hT.2.1
    have y8 := x8 g (fun _ _ _ => rfl)
    have y9 := x9 g rfl rfl rfl
    rcases ask_cases hI (nI t) a3 (nI d) (nI W) with ⟨y, hy, z8, z9⟩ | ⟨np', t', p', d', W', n', dr', e', k', et, rfl, ed, eW, hp', hd', hW', hT2, hk', hkp', enp', hst', z8, z9⟩
    · have z8 := z8 g (fun _ _ _ => rfl)
      have z9 := z9 g rfl rfl rfl
      refine ⟨y, g, g, ?_, ?_, hI⟩
      · unfold f_X8_why
        refine q_call y8 ?_
        refine q_call z8 ?_
        rcases hy with rfl | rfl <;> rfl
      · unfold f_X9_why
        refine q_call y9 ?_
        refine q_call z9 ?_
        rcases hy with rfl | rfl <;> rfl
    · have h24' := hT2.1
      refine sp_same hI (r := prS (pV (sr0 (rowT g t)) (PT (rowT g t) (nI d) (oc (rowT g t) (nI d) (nI W) e) dr) (SM (rowT g t) (nI d) (oc (rowT g t) (nI d) (nI W) e) dr)) p p') ?_ (fun s hs => ⟨s, ?_, Scr.rfl⟩)
      · have z8 := z8 g (fun _ _ _ => rfl)
        unfold f_X8_why
        refine ev_call y8 ?_
        refine ev_call z8 ?_
        refine ev_f (by decide) ?_
        refine ev_f (by decide) ?_
        refine ev_t rfl ?_
        refine ev_t rfl ?_
        refine ev_bd2 (hT.table.imp ?_)
        rintro ⟨r, s⟩ ⟨z1, z2, z3⟩
        dsimp only at z1 z2 z3 ⊢
        refine ev_ck t rfl hT.2.1 (by decide) ?_
        refine ev_wr ?_
        refine ev_call (c_parting (by omega) (by omega) z2) ?_
        exact ev_some ⟨rfl, Scr.of z1⟩
      · have hT' := hT.scr hs
        have y9 := x9 s hs.m3 hs.m8 hs.m165
        have z9 := z9 s hs.m3 hs.m8 hs.m165
        have m := m_parting (a := p) (b := p') ht (by omega) (by omega) (hT'.mt (hT'.oc (hs.m25.trans hI.h25)) (d := nI d) (W := nI W))
        rw [hs.row] at m
        unfold f_X9_why
        refine q_call y9 ?_
        refine q_call z9 ?_
        refine q_if_f (by decide) ?_
        refine q_if_f (by decide) ?_
        refine q_if_t rfl ?_
        refine q_if_t rfl ?_
        refine q_call m ?_
        rfl
