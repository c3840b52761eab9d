/-! Writing the round: the model. -/
theorem m_lay {t k : Nat} {v : Int32} {g : G} (ht : t < 4) (hk : k < 412) : f_X9_lay (nI t) (nI k) v g = some (nI 0, up2 g 165 (412 * t + k) v) := by
  simp (disch := omega) only [bd2_s, bd_s, wr_s, ck_s, bz_s0, bz_s1, dz_s, nI_litS, nI_add, pk_mul, pk_sub, nI_leI, nI_ltI, nI_eq, ng_lt, ng_le, lt_ng, le_ng, eq_ng, ng_eq, ng_ngE, ng_ngL, ng_ngl, sub1_lt, sub1_ng, eq_self, if_pos, if_neg, if_true, if_false, Nat.zero_add, Nat.add_zero, f_X9_lay]
/-- R' has the old rounds of R -/
def Rold (dr : Nat) (R R' : Nat → Int32) : Prop := (∀ k, k < 26 → R' k = R k) ∧ ∀ r, r < dr → R' (26 + r) = R (26 + r) ∧ R' (32 + r) = R (32 + r) ∧ R' (38 + r) = R (38 + r) ∧ R' (44 + r) = R (44 + r) ∧ ∀ k, k < 5 → R' (50 + (5 * r + k)) = R (50 + (5 * r + k)) ∧ R' (80 + (5 * r + k)) = R (80 + (5 * r + k))
theorem T_round.cgr {F : Nat → Nat → Int32} {R R' : Nat → Int32} {n r m : Nat} (h : T_round F R n r m) (e1 : ∀ i, i < n → R' (1 + i) = R (1 + i)) (e2 : R' (26 + r) = R (26 + r)) (e3 : R' (32 + r) = R (32 + r)) (e4 : R' (38 + r) = R (38 + r)) (e5 : R' (44 + r) = R (44 + r)) (e6 : ∀ k, k < 5 → R' (50 + (5 * r + k)) = R (50 + (5 * r + k)) ∧ R' (80 + (5 * r + k)) = R (80 + (5 * r + k))) : T_round F R' n r m := by
  obtain ⟨h1, h2, h3, h4, h5, h6, h7, h8, h9, h10, h11, h12, h13⟩ := h
  refine ⟨h1, h2, by rw [e2]; exact h3, by rw [e2]; exact h4, h5, by rw [e3]; exact h6, by rw [e4]; exact h7, by rw [e4, e5]; exact h8, fun k hk => ?_, fun k k' hk hk' => ?_, fun k k' hk hk' => ?_, fun k k' hk hk' => ?_, fun k hk hk' => ?_⟩
  · rw [(e6 k (by omega)).1, (e6 k (by omega)).2]
    obtain ⟨a1, a2, ⟨i, a3, a4⟩, a5⟩ := h9 k hk
    refine ⟨a1, a2, ⟨i, a3, by rw [e1 i a3]; exact a4⟩, ?_⟩
    rcases a5 with z | ⟨j, z1, z2⟩
    · exact Or.inl z
    · exact Or.inr ⟨j, z1, by rw [e1 j z1]; exact z2⟩
  · rw [(e6 k (by omega)).1, (e6 k' (by omega)).1]; exact h10 k k' hk hk'
  · rw [(e6 k (by omega)).1, (e6 k' (by omega)).2]; exact h11 k k' hk hk'
  · rw [(e6 k (by omega)).2, (e6 k' (by omega)).2]; exact h12 k k' hk hk'
  · rw [(e6 k (by omega)).1, (e6 k (by omega)).2]; exact h13 k hk hk'
theorem T_rndW.cgr {F : Nat → Nat → Int32} {R R' : Nat → Int32} {n dr : Nat} (h : T_rndW F R n dr) (n10 : n ≤ 10) (e : Rold dr R R') : T_rndW F R' n dr := by
  obtain ⟨h1, h2, h3, h4, -⟩ := h
  refine ⟨h1, h2, (e.1 25 (by omega)).trans h3, fun r hr => ?_, trivial⟩
  obtain ⟨m, hm⟩ := h4 r hr
  obtain ⟨a1, a2, a3, a4, a5⟩ := e.2 r hr
  exact ⟨m, hm.cgr (fun i hi => e.1 _ (by omega)) a1 a2 a3 a4 a5⟩
theorem T_in.cgr {np n dr : Nat} {mk : Nat → Int32} {F : Nat → Nat → Int32} {R R' : Nat → Int32} (h : T_in np mk F R n) (e : Rold dr R R') : T_in np mk F R' n := h.cg rfl rfl rfl (fun k hk => e.1 k (by omega))
theorem itK_cg2 {α : Type} {f f' : Nat → α → α} {m m' : Nat} (hm : m' = m) (h : ∀ k, k < m → ∀ a, f' k a = f k a) (a : α) : itK f' m' a = itK f m a := by
  subst hm
  exact itK_cg h a
theorem hcS_cgr {F : Nat → Nat → Int32} {R R' : Nat → Int32} {n dr p : Nat} (h : T_rndW F R n dr) (e : Rold dr R R') : hcS R' p dr = hcS R p dr := by
  unfold hcS
  refine itK_cg (fun r hr a => ?_) _
  obtain ⟨m, hm⟩ := h.2.2.2.1 r hr
  have m5 := hm.2.1
  obtain ⟨a1, a2, a3, a4, a5⟩ := e.2 r hr
  refine itK_cg2 (by unfold mm; rw [a2]) (fun k hk a => ?_) a
  rw [hm.mmE] at hk
  unfold hcK act
  rw [(a5 k (by omega)).1, (a5 k (by omega)).2]
theorem waS_cgr {F : Nat → Nat → Int32} {R R' : Nat → Int32} {n dr p q : Nat} (h : T_rndW F R n dr) (e : Rold dr R R') : waS R' p q dr = waS R p q dr := by
  unfold waS
  refine itK_cg (fun r hr a => ?_) _
  obtain ⟨m, hm⟩ := h.2.2.2.1 r hr
  have m5 := hm.2.1
  obtain ⟨a1, a2, a3, a4, a5⟩ := e.2 r hr
  refine itK_cg2 (by unfold mm; rw [a2]) (fun k hk a => ?_) a
  rw [hm.mmE] at hk
  unfold waK
  rw [(a5 k (by omega)).1, (a5 k (by omega)).2]
theorem bs_mkF {s : Nat → Bool} {M : Nat} (h : ∀ k, s k = true → k < M) : bs (mkS s M) = s := by
  funext k
  by_cases hk : k < M
  · exact bs_mk s M k hk
  · rw [bs_hi (mk_lt s M) (by omega)]
    cases z : s k with
    | false => rfl
    | true => exact absurd (h k z) hk
theorem rmS_c {M : Nat} {c : Nat → Nat → Nat} {al : Nat → Nat} {a : Nat} : ∀ b, a ≤ b → (∀ y, a ≤ y → y < b → ¬ pf M c al y = true) → rmS M c al b = rmS M c al a := by
  intro b
  induction b with
  | zero =>
    intro h _
    have : a = 0 := by omega
    subst this; rfl
  | succ b ih =>
    intro h hn
    by_cases e : a = b + 1
    · subst e; rfl
    · rw [rmS, if_neg (show ¬ rmS M c al b b = true from hn b (by omega) (by omega))]
      exact ih (by omega) (fun y y1 y2 => hn y y1 (by omega))
def xxK (M : Nat) (c : Nat → Nat → Nat) (al : Nat → Nat) (k : Nat) : Nat := if k < cn (pf M c al) M then wf (pf M c al) M k else M
theorem xx_0 {M : Nat} {c : Nat → Nat → Nat} {al : Nat → Nat} : rmS M c al (xxK M c al 0) = fsM M := by
  have e : rmS M c al 0 = fsM M := rfl
  rw [← e]
  refine rmS_c _ (Nat.zero_le _) (fun y _ hy hp => ?_)
  unfold xxK at hy
  by_cases h : 0 < cn (pf M c al) M
  · rw [if_pos h] at hy
    obtain ⟨o1, o2, o3⟩ := wf_ok (pf M c al) h
    have := cn_lt (pf M c al) hy hp
    omega
  · rw [if_neg h] at hy
    have := cn_lt (pf M c al) hy hp
    omega
theorem xx_s {M : Nat} {c : Nat → Nat → Nat} {al : Nat → Nat} {k : Nat} (h : k < cn (pf M c al) M) : rmS M c al (xxK M c al (k + 1)) = rmS M c al (wf (pf M c al) M k + 1) := by
  obtain ⟨o1, o2, o3⟩ := wf_ok (pf M c al) h
  have hle : ∀ z, z = xxK M c al (k + 1) → wf (pf M c al) M k + 1 ≤ z ∧ ∀ y, y < z → pf M c al y = true → cn (pf M c al) y < k + 1 ∧ y < M := by
    intro z hz
    unfold xxK at hz
    by_cases h2 : k + 1 < cn (pf M c al) M
    · rw [if_pos h2] at hz
      obtain ⟨p1, p2, p3⟩ := wf_ok (pf M c al) h2
      rw [← hz] at p1 p2 p3
      refine ⟨?_, fun y hy hp => ?_⟩
      · rcases Nat.lt_or_ge (wf (pf M c al) M k) z with q | q
        · exact q
        · have := cn_le (pf M c al) q
          omega
      · have := cn_lt (pf M c al) hy hp
        omega
    · rw [if_neg h2] at hz
      refine ⟨by omega, fun y hy hp => ?_⟩
      have := cn_lt (pf M c al) (show y < M by omega) hp
      omega
  obtain ⟨h1, h2⟩ := hle _ rfl
  refine rmS_c _ h1 (fun y y1 y2 hp => ?_)
  have q1 := (h2 y y2 hp).1
  have q2 := cn_le (pf M c al) (show wf (pf M c al) M k + 1 ≤ y from y1)
  rw [cn, if_pos o2] at q2
  omega
theorem mk_zero {s : Nat → Bool} : ∀ M, (∀ k, k < M → s k = false) → mkS s M = 0 := by
  intro M
  induction M with
  | zero => intro _; rfl
  | succ M ih =>
    intro h
    rw [mkS, ih (fun k hk => h k (by omega)), h M (by omega), if_neg (by decide)]
theorem rowT_up2 {g : G} {t k j : Nat} {v : Int32} (hk : k < 412) : rowT (up2 g 165 (412 * t + k) v) t j = if j = k then v else rowT g t j := by
  rw [rowT_set hk]
  by_cases e : j = k
  · rw [if_pos e, upd_pos e]
  · rw [if_neg e, upd_ne e]
theorem m_pairUp {t np n dr M cost : Nat} {day : Int32} {R : Nat → Int32} {pp vv : Nat → Nat} {who : Nat → Nat} {mk : Nat → Int32} {F : Nat → Nat → Int32} {g : G} (h : Msrc t np n dr M R pp vv who mk F g) (M10 : M ≤ 10) (M2 : 2 ≤ M) (d5 : dr < 6) {hh : Nat → H4} {ww : Nat → Nat → Nat} {w9 : Nat → Nat} (ehh : hh = fun x => hcS R (who x) dr) (eww : ww = fun x y => waS R (who x) (who y) dr) (hc : ∀ i j, i < j → j < M → cC pp vv hh ww i j ≤ 4000000) (ha : ∀ i, i < M → aC M pp w9 i ≤ 4000000) (h178 : g 178 (2 ^ M - 1) = nI cost) (hcost : cost < 2 ^ 31) (h179 : ∀ S, 0 < S → S < 2 ^ M → g 179 S = nI (opt M (cC pp vv hh ww) (aC M pp w9) (bs S)).2) : Ev (f_X9_pairUp (nI t) day g) (fun q => (∀ a, a ≠ 159 → a ≠ 165 → q.2 a = g a) ∧ (∀ k, ¬ (31 ≤ k ∧ k ≤ 34) → q.2 159 k = g 159 k) ∧ (∀ k, ¬ (412 * t ≤ k ∧ k < 412 * t + 412) → q.2 165 k = g 165 k) ∧ rowT q.2 t 25 = nI (dr + 1) ∧ rowT q.2 t (26 + dr) = day ∧ rowT q.2 t (32 + dr) = nI (cn (pf M (cC pp vv hh ww) (aC M pp w9)) M) ∧ rowT q.2 t (38 + dr) = nI cost ∧ rowT q.2 t (44 + dr) = nI cost / 1000000 ∧ (∀ y, y < M → pf M (cC pp vv hh ww) (aC M pp w9) y = true → rowT q.2 t (50 + (5 * dr + cn (pf M (cC pp vv hh ww) (aC M pp w9)) y)) = nI (wPl who (fun x y => if tuC hh x y < stC hh x y then 1 else 0) (wy M (cC pp vv hh ww) (aC M pp w9)) y) ∧ rowT q.2 t (80 + (5 * dr + cn (pf M (cC pp vv hh ww) (aC M pp w9)) y)) = nI (bPl who (fun x y => if tuC hh x y < stC hh x y then 1 else 0) (wy M (cC pp vv hh ww) (aC M pp w9)) y)) ∧ ∀ k, k ≠ 25 → k ≠ 26 + dr → k ≠ 32 + dr → k ≠ 38 + dr → k ≠ 44 + dr → ¬ (50 + 5 * dr ≤ k ∧ k < 50 + 5 * dr + cn (pf M (cC pp vv hh ww) (aC M pp w9)) M) → ¬ (80 + 5 * dr ≤ k ∧ k < 80 + 5 * dr + cn (pf M (cC pp vv hh ww) (aC M pp w9)) M) → rowT q.2 t k = R k) := by
  have h0 := h
  obtain ⟨ht, h24, hin, hrd, hR, h30, hP, hne⟩ := h
  have hC : M * 4000000 < 2147483647 := by omega
  have hpw := pow_le M10
  have hpp := Nat.two_pow_pos M
  have hpp2 : 2 ≤ 2 ^ M := by
    have := Nat.pow_le_pow_right (n := 2) (by omega) (show 1 ≤ M by omega)
    omega
  have bnd : ∀ x y, x < y → y < M → stC hh x y ≤ 2000080 ∧ tuC hh x y ≤ 2000080 ∧ baC pp vv ww x y ≤ 1100000 := by
    intro x y hxy hy
    obtain ⟨-, -, -, u4, -, u6⟩ := hP x (by omega)
    obtain ⟨-, -, -, v4, -, v6⟩ := hP y hy
    have := cC_bd (pp := pp) (vv := vv) (hh := hh) (ww := ww) (x := x) (y := y) u6 v6 u4 v4 (by rw [eww]; exact waS_1 dr)
    exact this.2
  generalize hcc : cC pp vv hh ww = c at *
  generalize haa : aC M pp w9 = al at *
  have mn := pairs_n hc ha hC M10 M2
  have d6 := hrd.1
  have m25 := hrd.2.2.1
  have c25 : f_X9_cell (nI t) 25 g = some (nI dr, g) := by simp (disch := omega) only [bd2_s, bd_s, wr_s, ck_s, bz_s0, bz_s1, dz_s, nI_litS, nI_add, pk_mul, pk_sub, nI_leI, nI_ltI, nI_eq, ng_lt, ng_le, lt_ng, le_ng, eq_ng, ng_eq, ng_ngE, ng_ngL, ng_ngl, sub1_lt, sub1_ng, eq_self, if_pos, if_neg, if_true, if_false, Nat.zero_add, Nat.add_zero, f_X9_cell, rw_k g t, hR, m25]
  unfold f_X9_pairUp
  refine ev_call c25 ?_
  rw [h30, sh_1 M10]
  refine ev_ck (2 ^ M - 1) (by rw [l_1, pk_sub (by omega)]) (by omega) (by decide) ?_
  refine ev_wr ?_
  refine ev_bd ?_
  rw [show nI (2 ^ M) - 1 = nI (2 ^ M - 1) from by rw [l_1, pk_sub (by omega)]]
  refine Ev.imp (P := fun q : Int32 × G => q.1 = nI (cn (pf M c al) M) ∧ (∀ a, a ≠ 159 → a ≠ 165 → q.2 a = g a) ∧ (∀ k, ¬ (31 ≤ k ∧ k ≤ 34) → q.2 159 k = g 159 k) ∧ q.2 159 31 = nI cost / 1000000 ∧ (∀ k, ¬ (412 * t ≤ k ∧ k < 412 * t + 412) → q.2 165 k = g 165 k) ∧ (∀ y, y < M → pf M c al y = true → rowT q.2 t (50 + (5 * dr + cn (pf M c al) y)) = nI (wPl who (fun x y => if tuC hh x y < stC hh x y then 1 else 0) (wy M c al) y) ∧ rowT q.2 t (80 + (5 * dr + cn (pf M c al) y)) = nI (bPl who (fun x y => if tuC hh x y < stC hh x y then 1 else 0) (wy M c al) y)) ∧ ∀ k, ¬ (50 + 5 * dr ≤ k ∧ k < 50 + 5 * dr + cn (pf M c al) M) → ¬ (80 + 5 * dr ≤ k ∧ k < 80 + 5 * dr + cn (pf M c al) M) → rowT q.2 t k = R k) ?_ ?_
  · refine ev_lp (I := fun κ st => st.1 = nI (mkS (rmS M c al (xxK M c al κ)) M) ∧ st.2.1 = nI κ ∧ (∀ a, a ≠ 159 → a ≠ 165 → st.2.2 a = g a) ∧ (∀ k, ¬ (31 ≤ k ∧ k ≤ 34) → st.2.2 159 k = g 159 k) ∧ st.2.2 159 31 = nI cost / 1000000 ∧ (∀ k, ¬ (412 * t ≤ k ∧ k < 412 * t + 412) → st.2.2 165 k = g 165 k) ∧ (∀ y, y < M → pf M c al y = true → cn (pf M c al) y < κ → rowT st.2.2 t (50 + (5 * dr + cn (pf M c al) y)) = nI (wPl who (fun x y => if tuC hh x y < stC hh x y then 1 else 0) (wy M c al) y) ∧ rowT st.2.2 t (80 + (5 * dr + cn (pf M c al) y)) = nI (bPl who (fun x y => if tuC hh x y < stC hh x y then 1 else 0) (wy M c al) y)) ∧ ∀ k, ¬ (50 + 5 * dr ≤ k ∧ k < 50 + 5 * dr + κ) → ¬ (80 + 5 * dr ≤ k ∧ k < 80 + 5 * dr + κ) → rowT st.2.2 t k = R k) (cn (pf M c al) M) ?_ ?_ 2000 0 _ (Nat.zero_le _) (by omega) ⟨?_, rfl, fun a a1 a2 => up2_ne a1, fun k hk => ?_, ?_, fun k hk => ?_, fun y _ _ q => absurd q (Nat.not_lt_zero _), fun k _ _ => ?_⟩
    · rintro κ ⟨z1, z2, s⟩ hκ ⟨rfl, rfl, i1, i2, i3, i4, i5, i6⟩
      dsimp only at i1 i2 i3 i4 i5 i6
      obtain ⟨o1, o2, o3⟩ := wf_ok (pf M c al) hκ
      have exx : xxK M c al κ = wf (pf M c al) M κ := if_pos hκ
      rw [exx, xx_s hκ]
      generalize hx : wf (pf M c al) M κ = x at *
      obtain ⟨p1, p2, p3, p4⟩ := pf_ok hc ha hC M10 o1 o2
      obtain ⟨r1, r2, -⟩ := rmS_ok hc ha hC M10 x (by omega)
      have hbs : bs (mkS (rmS M c al x) M) = rmS M c al x := bs_mkF r2
      have hlt := mk_lt (rmS M c al x) M
      have hsx : rmS M c al x x = true := o2
      have hmx := mk_rm hsx M o1
      have p2x := Nat.two_pow_pos x
      have S0 : 0 < mkS (rmS M c al x) M := by omega
      have hlow := low_lp M10 hlt S0
      rw [hbs, p1] at hlow
      have v179 : s 179 (mkS (rmS M c al x) M) = nI (wy M c al x) := by
        rw [i1 179 (by decide) (by decide), h179 _ S0 hlt, hbs, p3]
      have s175 : ∀ x, x < M → s 175 x = nI (who x) := fun x hx => by rw [i1 175 (by decide) (by decide)]; exact (hP x hx).2.1
      have k50 : (50 : Int32) + ((5 : Int32) * nI dr + nI κ) = nI (50 + (5 * dr + κ)) := by rw [l_5, l_50, pk_mul, nI_add, nI_add]
      have k80 : (80 : Int32) + ((5 : Int32) * nI dr + nI κ) = nI (80 + (5 * dr + κ)) := by rw [l_5, l_80, pk_mul, nI_add, nI_add]
      -- how a step ends
      have put : ∀ (S' : Nat) (s5 : G) (bb : Option ((Int32 × Int32 × G) ⊕ (Int32 × G))), S' = mkS (rmS M c al (x + 1)) M → (∀ a, a ≠ 159 → s5 a = s a) → (∀ k, k ≠ 32 → k ≠ 33 → k ≠ 34 → s5 159 k = s 159 k) → bb = some (.inl (nI S', nI (κ + 1), up2 (up2 s5 165 (412 * t + (50 + (5 * dr + κ))) (nI (wPl who (fun x y => if tuC hh x y < stC hh x y then 1 else 0) (wy M c al) x))) 165 (412 * t + (80 + (5 * dr + κ))) (nI (bPl who (fun x y => if tuC hh x y < stC hh x y then 1 else 0) (wy M c al) x)))) → Ev bb (Sum.elim (fun st => st.1 = nI (mkS (rmS M c al (x + 1)) M) ∧ st.2.1 = nI (κ + 1) ∧ (∀ a, a ≠ 159 → a ≠ 165 → st.2.2 a = g a) ∧ (∀ k, ¬ (31 ≤ k ∧ k ≤ 34) → st.2.2 159 k = g 159 k) ∧ st.2.2 159 31 = nI cost / 1000000 ∧ (∀ k, ¬ (412 * t ≤ k ∧ k < 412 * t + 412) → st.2.2 165 k = g 165 k) ∧ (∀ y, y < M → pf M c al y = true → cn (pf M c al) y < κ + 1 → rowT st.2.2 t (50 + (5 * dr + cn (pf M c al) y)) = nI (wPl who (fun x y => if tuC hh x y < stC hh x y then 1 else 0) (wy M c al) y) ∧ rowT st.2.2 t (80 + (5 * dr + cn (pf M c al) y)) = nI (bPl who (fun x y => if tuC hh x y < stC hh x y then 1 else 0) (wy M c al) y)) ∧ ∀ k, ¬ (50 + 5 * dr ≤ k ∧ k < 50 + 5 * dr + (κ + 1)) → ¬ (80 + 5 * dr ≤ k ∧ k < 80 + 5 * dr + (κ + 1)) → rowT st.2.2 t k = R k) (fun q => q.1 = nI (cn (pf M c al) M) ∧ (∀ a, a ≠ 159 → a ≠ 165 → q.2 a = g a) ∧ (∀ k, ¬ (31 ≤ k ∧ k ≤ 34) → q.2 159 k = g 159 k) ∧ q.2 159 31 = nI cost / 1000000 ∧ (∀ k, ¬ (412 * t ≤ k ∧ k < 412 * t + 412) → q.2 165 k = g 165 k) ∧ (∀ y, y < M → pf M c al y = true → rowT q.2 t (50 + (5 * dr + cn (pf M c al) y)) = nI (wPl who (fun x y => if tuC hh x y < stC hh x y then 1 else 0) (wy M c al) y) ∧ rowT q.2 t (80 + (5 * dr + cn (pf M c al) y)) = nI (bPl who (fun x y => if tuC hh x y < stC hh x y then 1 else 0) (wy M c al) y)) ∧ ∀ k, ¬ (50 + 5 * dr ≤ k ∧ k < 50 + 5 * dr + cn (pf M c al) M) → ¬ (80 + 5 * dr ≤ k ∧ k < 80 + 5 * dr + cn (pf M c al) M) → rowT q.2 t k = R k)) := by
        intro S' s5 bb hS' f1 f2 hbb
        have row5 : rowT s5 t = rowT s t := rowT_ne (f1 165 (by decide))
        refine Ev.of hbb ⟨by rw [hS'], rfl, fun a a1 a2 => ?_, fun k hk => ?_, ?_, fun k hk => ?_, fun y hy py hcy => ?_, fun k q1 q2 => ?_⟩
        · dsimp only
          rw [up2_ne a2, up2_ne a2, f1 a a1]; exact i1 a a1 a2
        · dsimp only
          rw [up2_ne (by decide), up2_ne (by decide), f2 k (by omega) (by omega) (by omega)]; exact i2 k hk
        · dsimp only
          rw [up2_ne (by decide), up2_ne (by decide), f2 31 (by decide) (by decide) (by decide)]; exact i3
        · dsimp only
          rw [up2_eq, upd_ne (by omega), up2_eq, upd_ne (by omega), f1 165 (by decide)]; exact i4 k hk
        · dsimp only
          rw [rowT_up2 (by omega), rowT_up2 (by omega), rowT_up2 (by omega), rowT_up2 (by omega), row5]
          by_cases e : y = x
          · subst e
            rw [o3, if_neg (by omega), if_pos rfl, if_pos rfl]
            exact ⟨rfl, rfl⟩
          · have hcn : cn (pf M c al) y ≠ κ := fun q => e (cn_inj _ py o2 (q.trans o3.symm))
            rw [if_neg (by omega), if_neg (by omega), if_neg (by omega), if_neg (by omega)]
            exact i5 y hy py (by omega)
        · dsimp only
          rw [rowT_up2 (by omega), rowT_up2 (by omega), row5, if_neg (by omega), if_neg (by omega)]
          exact i6 k (by omega) (by omega)
      have sh10 : ∀ z, z ≤ 10 → (1 : Int32) <<< (nI z &&& 31) = nI (2 ^ z) := fun z hz => sh_1 hz
      dsimp only
      refine ev_f (by rw [l_0, nI_leI (by omega) (by omega)]; omega) ?_
      refine ev_bd (Ev.of hlow ?_)
      refine ev_ck (mkS (rmS M c al x) M) rfl (by omega) (by decide) ?_
      rcases p4 with ⟨w10, er⟩ | ⟨xlt, wM, rwy, er, -⟩
      · -- with nobody
        have hS' : mkS (rmS M c al x) M - (2 ^ x + 0) = mkS (rmS M c al (x + 1)) M := by rw [er]; omega
        refine put _ s _ hS' (fun _ _ => rfl) (fun _ _ _ _ => rfl) ?_
        refine q_bd (a := .inl (nI (mkS (rmS M c al x) M), nI κ, s)) (q_if_t (by rw [v179, w10]; rfl) rfl) ?_
        dsimp only
        refine q_bd (a := nI 0) (q_if_t (by rw [v179, w10]; rfl) rfl) ?_
        refine q_bd (a := nI (who x)) (q_if_f (by decide) (q_ck x rfl (by omega) (by decide) (by rw [s175 x o1]))) ?_
        rw [k50]
        refine q_call (m_lay ht (by omega)) ?_
        refine q_bd (a := nI 99) (q_if_t (by rw [v179, w10]; rfl) rfl) ?_
        rw [k80]
        refine q_call (m_lay ht (by omega)) ?_
        rw [sh10 x (by omega), nI_add, pk_sub (by omega), nI_1]
        unfold wPl bPl
        rw [if_pos w10, if_pos w10]
      · -- with somebody
        generalize hy : wy M c al x = y at *
        have p2y := Nat.two_pow_pos y
        have hmy := mk_rm (s := rm (rmS M c al x) x) (i := y) (by rw [rm_ne (by omega)]; exact rwy) M wM
        have hS' : mkS (rmS M c al x) M - (2 ^ x + 2 ^ y) = mkS (rmS M c al (x + 1)) M := by rw [er]; omega
        have y10 : ¬ y = 10 := by omega
        have e10 : ¬ s 179 (mkS (rmS M c al x) M) = 10 := by rw [v179]; exact nI_ne (b := 10) (by omega) (by omega) y10
        -- the costs, over the row as it now is
        have hold : Rold dr R (rowT s t) := ⟨fun k hk => i6 k (by omega) (by omega), fun r hr => ⟨i6 _ (by omega) (by omega), i6 _ (by omega) (by omega), i6 _ (by omega) (by omega), i6 _ (by omega) (by omega), fun k hk => ⟨i6 _ (by omega) (by omega), i6 _ (by omega) (by omega)⟩⟩⟩
        have hms : Msrc t np n dr M (rowT s t) pp vv who mk F s := by
          refine ⟨ht, h24, hin.cgr hold, hrd.cgr hin.1 hold, rfl, (i2 30 (by decide)).trans h30, ?_, hne⟩
          rw [i1 175 (by decide) (by decide), i1 176 (by decide) (by decide), i1 177 (by decide) (by decide)]
          exact hP
        have eh : (fun x => hcS (rowT s t) (who x) dr) = hh := by rw [ehh]; funext z; exact hcS_cgr hrd hold
        have ew : (fun x y => waS (rowT s t) (who x) (who y) dr) = ww := by rw [eww]; funext z z'; exact waS_cgr hrd hold
        obtain ⟨⟨q1, s1⟩, e1, u1, u2, u3⟩ := m_costOf hms M10 xlt wM 1 (by omega)
        dsimp only at u1 u2 u3
        have hms1 := hms.cg (fun a a1 a2 => u2 a a1) u3
        obtain ⟨⟨q2, s2⟩, e2, v1, v2, v3⟩ := m_costOf hms1 M10 xlt wM 0 (by omega)
        dsimp only at v1 v2 v3
        rw [if_pos rfl, eh, ew] at u1
        rw [if_neg (by decide), eh, ew] at v1
        subst u1
        subst v1
        obtain ⟨bs1, bs2, bs3⟩ := bnd x y xlt wM
        have fr : ∀ a, a ≠ 159 → s2 a = s a := fun a ha => (v2 a ha).trans (u2 a ha)
        have s2175 : ∀ x, x < M → s2 175 x = nI (who x) := fun x hx => by rw [fr 175 (by decide)]; exact s175 x hx
        refine put _ s2 _ hS' fr (fun k k1 k2 k3 => (v3 k k1 k2 k3).trans (u3 k k1 k2 k3)) ?_
        have e1' : f_X9_costOf (nI t) (nI x) (s 179 (mkS (rmS M c al x) M)) 1 s = some (nI (baC pp vv ww x y + stC hh x y), s1) := by rw [v179]; exact e1
        have e2' : f_X9_costOf (nI t) (nI x) (s 179 (mkS (rmS M c al x) M)) 0 s1 = some (nI (baC pp vv ww x y + tuC hh x y), s2) := by rw [v179]; exact e2
        by_cases tu : tuC hh x y < stC hh x y
        · refine q_bd (a := .inr (.inl (nI (mkS (rmS M c al x) M - (2 ^ x + 2 ^ y)), nI (κ + 1), up2 (up2 s2 165 (412 * t + (50 + (5 * dr + κ))) (nI (wPl who (fun x y => if tuC hh x y < stC hh x y then 1 else 0) (wy M c al) x))) 165 (412 * t + (80 + (5 * dr + κ))) (nI (bPl who (fun x y => if tuC hh x y < stC hh x y then 1 else 0) (wy M c al) x))))) ?_ rfl
          refine q_if_f e10 ?_
          refine q_call e1' ?_
          refine q_call e2' ?_
          refine q_if_t (nI_lt (by omega) (by omega)) ?_
          refine q_bd (a := nI (2 ^ y)) (q_if_f e10 (by rw [v179, sh10 y (by omega)])) ?_
          refine q_bd (a := nI (who y)) (q_if_t rfl (q_ck y v179 (by omega) (by decide) (by rw [s2175 y wM]))) ?_
          rw [k50]
          refine q_call (m_lay ht (by omega)) ?_
          refine q_bd (a := nI (who x)) (q_if_f e10 (q_if_t rfl (q_ck x rfl (by omega) (by decide) (by rw [up2_ne (by decide), s2175 x o1])))) ?_
          rw [k80]
          refine q_call (m_lay ht (by omega)) ?_
          rw [sh10 x (by omega), nI_add, pk_sub (by omega), nI_1]
          unfold wPl bPl
          have tn1 : (fun x y => if tuC hh x y < stC hh x y then 1 else 0) x y = 1 := if_pos tu
          rw [hy, if_neg y10, if_neg y10, if_pos tn1, if_pos tn1]
        · refine q_bd (a := .inl (nI (mkS (rmS M c al x) M), nI κ, s2)) ?_ ?_
          · refine q_if_f e10 ?_
            refine q_call e1' ?_
            refine q_call e2' ?_
            exact q_if_f (nI_nlt (by omega) (by omega)) rfl
          · dsimp only
            refine q_bd (a := nI (2 ^ y)) (q_if_f e10 (by rw [v179, sh10 y (by omega)])) ?_
            refine q_bd (a := nI (who x)) (q_if_f (by decide) (q_ck x rfl (by omega) (by decide) (by rw [s2175 x o1]))) ?_
            rw [k50]
            refine q_call (m_lay ht (by omega)) ?_
            refine q_bd (a := nI (who y)) (q_if_f e10 (q_if_f (by decide) (q_ck y v179 (by omega) (by decide) (by rw [up2_ne (by decide), s2175 y wM])))) ?_
            rw [k80]
            refine q_call (m_lay ht (by omega)) ?_
            rw [sh10 x (by omega), nI_add, pk_sub (by omega), nI_1]
            unfold wPl bPl
            have tn0 : ¬ (fun x y => if tuC hh x y < stC hh x y then 1 else 0) x y = 1 := by
              show ¬ (if tuC hh x y < stC hh x y then 1 else 0) = 1
              rw [if_neg tu]
              decide
            rw [hy, if_neg y10, if_neg y10, if_neg tn0, if_neg tn0]
    · rintro ⟨z1, z2, s⟩ ⟨rfl, rfl, i1, i2, i3, i4, i5, i6⟩
      dsimp only at i1 i2 i3 i4 i5 i6
      have exx : xxK M c al (cn (pf M c al) M) = M := if_neg (Nat.lt_irrefl _)
      obtain ⟨r1, -⟩ := rmS_ok hc ha hC M10 M (Nat.le_refl M)
      have hz : mkS (rmS M c al (xxK M c al (cn (pf M c al) M))) M = 0 := by rw [exx]; exact mk_zero M r1
      refine Ev.of (a := .inr (nI (cn (pf M c al) M), s)) ?_ ⟨rfl, i1, i2, i3, i4, fun y hy py => i5 y hy py (cn_lt _ hy py), i6⟩
      dsimp only
      rw [hz]
      exact q_if_t (by decide) rfl
    · dsimp only
      rw [xx_0, ← bs_fs, mk_bs, Nat.mod_eq_of_lt (by omega)]
    · dsimp only
      rw [up2_eq, upd_ne (by omega)]
    · dsimp only
      rw [up2_eq, upd_eq, h178]
    · dsimp only
      rw [up2_ne (by decide)]
    · dsimp only
      rw [rowT_up (by decide), hR]
  · rintro ⟨mm', s⟩ ⟨rfl, i1, i2, i3, i4, i5, i6⟩
    dsimp only at i1 i2 i3 i4 i5 i6
    have k26 : (26 : Int32) + nI dr = nI (26 + dr) := by rw [show (26 : Int32) = nI 26 from rfl, nI_add]
    have k32 : (32 : Int32) + nI dr = nI (32 + dr) := by rw [show (32 : Int32) = nI 32 from rfl, nI_add]
    have k38 : (38 : Int32) + nI dr = nI (38 + dr) := by rw [show (38 : Int32) = nI 38 from rfl, nI_add]
    have k44 : (44 : Int32) + nI dr = nI (44 + dr) := by rw [show (44 : Int32) = nI 44 from rfl, nI_add]
    rw [k26, k32, k38, k44, nI_1, h178]
    refine ev_call (m_lay ht (by omega)) ?_
    refine ev_call (m_lay ht (by omega)) ?_
    refine ev_call (m_lay ht (by omega)) ?_
    rw [show up2 (up2 (up2 s 165 (412 * t + (26 + dr)) day) 165 (412 * t + (32 + dr)) (nI (cn (pf M c al) M))) 165 (412 * t + (38 + dr)) (nI cost) 159 31 = nI cost / 1000000 from by rw [up2_ne (by decide), up2_ne (by decide), up2_ne (by decide)]; exact i3]
    refine ev_call (m_lay ht (by omega)) ?_
    refine ev_call (m_lay (k := 25) ht (by omega)) ?_
    have rr : ∀ j, rowT (up2 (up2 (up2 (up2 (up2 s 165 (412 * t + (26 + dr)) day) 165 (412 * t + (32 + dr)) (nI (cn (pf M c al) M))) 165 (412 * t + (38 + dr)) (nI cost)) 165 (412 * t + (44 + dr)) (nI cost / 1000000)) 165 (412 * t + 25) (nI (dr + 1))) t j = if j = 25 then nI (dr + 1) else if j = 44 + dr then nI cost / 1000000 else if j = 38 + dr then nI cost else if j = 32 + dr then nI (cn (pf M c al) M) else if j = 26 + dr then day else rowT s t j := by
      intro j
      rw [rowT_up2 (by omega), rowT_up2 (by omega), rowT_up2 (by omega), rowT_up2 (by omega), rowT_up2 (by omega)]
    refine ev_some ⟨fun a a1 a2 => ?_, fun k hk => ?_, fun k hk => ?_, ?_, ?_, ?_, ?_, ?_, fun y hy py => ?_, fun k k1 k2 k3 k4 k5 k6 k7 => ?_⟩
    · dsimp only
      rw [up2_ne a2, up2_ne a2, up2_ne a2, up2_ne a2, up2_ne a2]; exact i1 a a1 a2
    · dsimp only
      rw [up2_ne (by decide), up2_ne (by decide), up2_ne (by decide), up2_ne (by decide), up2_ne (by decide)]; exact i2 k hk
    · dsimp only
      rw [up2_eq, upd_ne (by omega), up2_eq, upd_ne (by omega), up2_eq, upd_ne (by omega), up2_eq, upd_ne (by omega), up2_eq, upd_ne (by omega)]; exact i4 k hk
    · dsimp only
      rw [rr, if_pos rfl]
    · dsimp only
      rw [rr, if_neg (by omega), if_neg (by omega), if_neg (by omega), if_neg (by omega), if_pos rfl]
    · dsimp only
      rw [rr, if_neg (by omega), if_neg (by omega), if_neg (by omega), if_pos rfl]
    · dsimp only
      rw [rr, if_neg (by omega), if_neg (by omega), if_pos rfl]
    · dsimp only
      rw [rr, if_neg (by omega), if_pos rfl]
    · dsimp only
      have := cn_lt (pf M c al) hy py
      rw [rr, rr, if_neg (by omega), if_neg (by omega), if_neg (by omega), if_neg (by omega), if_neg (by omega), if_neg (by omega), if_neg (by omega), if_neg (by omega), if_neg (by omega), if_neg (by omega)]
      exact i5 y hy py
    · dsimp only
      rw [rr, if_neg k1, if_neg k5, if_neg k4, if_neg k3, if_neg k2]
      exact i6 k k6 k7
