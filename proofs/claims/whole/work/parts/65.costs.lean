/-! The model's costs. -/
def Msrc (t np n dr M : Nat) (R : Nat → Int32) (pp vv : Nat → Nat) (who : Nat → Nat) (mk : Nat → Int32) (F : Nat → Nat → Int32) (g : G) : Prop := t < 4 ∧ np ≤ 24 ∧ T_in np mk F R n ∧ T_rndW F R n dr ∧ rowT g t = R ∧ g 159 30 = nI M ∧ (∀ x, x < M → who x < 24 ∧ g 175 x = nI (who x) ∧ g 176 x = nI (vv x) ∧ vv x ≤ 3025 ∧ g 177 x = nI (pp x) ∧ pp x ≤ 12) ∧ ∀ x y, x < M → y < M → x ≠ y → who x ≠ who y
theorem Msrc.cg {t np n dr M : Nat} {R : Nat → Int32} {pp vv : Nat → Nat} {who : Nat → Nat} {mk : Nat → Int32} {F : Nat → Nat → Int32} {g s : G} (h : Msrc t np n dr M R pp vv who mk F g) (x : ∀ a, a ≠ 159 → a ≠ 180 → s a = g a) (y : ∀ k, k ≠ 32 → k ≠ 33 → k ≠ 34 → s 159 k = g 159 k) : Msrc t np n dr M R pp vv who mk F s := by
  obtain ⟨h1, h2, h3, h4, h5, h6, h7, h8⟩ := h
  refine ⟨h1, h2, h3, h4, (rowT_ne (x 165 (by decide) (by decide))).trans h5, (y 30 (by decide) (by decide) (by decide)).trans h6, ?_, h8⟩
  rw [x 175 (by decide) (by decide), x 176 (by decide) (by decide), x 177 (by decide) (by decide)]
  exact h7
theorem m_costOf {t np n dr M x y : Nat} {R : Nat → Int32} {pp vv : Nat → Nat} {who : Nat → Nat} {mk : Nat → Int32} {F : Nat → Nat → Int32} {g : G} (h : Msrc t np n dr M R pp vv who mk F g) (M10 : M ≤ 10) (hxy : x < y) (hy : y < M) (b : Nat) (hb : b ≤ 1) : Ev (f_X9_costOf (nI t) (nI x) (nI y) (nI b) g) (fun q => q.1 = nI (baC pp vv (fun x y => waS R (who x) (who y) dr) x y + (if b = 1 then stC (fun x => hcS R (who x) dr) x y else tuC (fun x => hcS R (who x) dr) x y)) ∧ (∀ a, a ≠ 159 → q.2 a = g a) ∧ ∀ k, k ≠ 32 → k ≠ 33 → k ≠ 34 → q.2 159 k = g 159 k) := by
  have h0 := h
  obtain ⟨ht, h24, hin, hrd, hR, h30, hP, hne⟩ := h
  obtain ⟨a1, a2, a3, a4, a5, a6⟩ := hP x (by omega)
  obtain ⟨b1, b2, b3, b4, b5, b6⟩ := hP y hy
  have wa := m_wasWith (g := g) (p := who x) (q := who y) ht a1 (Or.inl ⟨b1, (hne x y (by omega) hy (by omega)).symm⟩) h24 hR hin hrd
  have wa1 := waS_1 (R := R) (p := who x) (q := who y) dr
  unfold f_X9_costOf
  refine ev_ck x rfl (by omega) (by decide) ?_
  refine ev_ck y rfl (by omega) (by decide) ?_
  refine ev_ck x rfl (by omega) (by decide) ?_
  refine ev_ck y rfl (by omega) (by decide) ?_
  rw [a3, b3, a5, b5, sq_eq]
  have s6 : (if 0 ≤ (nI (vv x) - nI (vv y)) then some ((nI (vv x) - nI (vv y))) else some ((-(nI (vv x) - nI (vv y)))) : Option Int32) = some (nI (dif (vv x) (vv y))) := by
    rcases abs_eq (a := vv x) (b := vv y) (by omega) (by omega) with ⟨q1, q2⟩ | ⟨q1, q2⟩
    · rw [if_pos q1, q2]
    · rw [if_neg q1, q2]
  refine ev_bd (Ev.of s6 ?_)
  refine ev_ck x rfl (by omega) (by decide) ?_
  refine ev_ck y rfl (by omega) (by decide) ?_
  rw [a2, b2]
  refine ev_call wa ?_
  have s12 : (if nI (waS R (who x) (who y) dr) = 0 then some ((0 : Int32)) else some ((1000000 : Int32)) : Option Int32) = some (nI (1000000 * waS R (who x) (who y) dr)) := by
    have : waS R (who x) (who y) dr = 0 ∨ waS R (who x) (who y) dr = 1 := by omega
    rcases this with e | e
    · rw [e]; rfl
    · rw [e]; rfl
  refine ev_bd (Ev.of s12 ?_)
  refine ev_ck x rfl (by omega) (by decide) ?_
  rw [a2]
  have hd : dif (vv x) (vv y) ≤ 3025 := by unfold dif; omega
  have sum : ∀ p q : Nat, nI (sq2 (pp x) (pp y)) + nI (dif (vv x) (vv y)) / 10 + nI (1000000 * waS R (who x) (who y) dr) + nI p + nI q = nI (baC pp vv (fun x y => waS R (who x) (who y) dr) x y + (p + q)) := by
    intro p q
    rw [l_10, pk_div (by omega) (by omega) (by omega), nI_add, nI_add, nI_add, nI_add]
    congr 1
    dsimp only [baC]
    omega
  have two : ∀ (c1 c2 : Nat) (z1 z2 : Int32), (c1 = 1 ∧ c2 = 2 ∨ c1 = 2 ∧ c2 = 1) → z1 = (if c1 = 1 then nI 1 else nI 0) → z2 = (if c2 = 1 then nI 1 else nI 0) → ∃ r1 s1 r2 s2, f_X9_colourCost (nI t) (nI (who x)) z1 g = some (r1, s1) ∧ r1 = nI (cpN (hcS R (who x) dr) c1) ∧ f_X9_colourCost (nI t) (nI (who y)) z2 s1 = some (r2, s2) ∧ r2 = nI (cpN (hcS R (who y) dr) c2) ∧ s1 175 y = nI (who y) ∧ (∀ a, a ≠ 159 → s2 a = g a) ∧ ∀ k, k ≠ 32 → k ≠ 33 → k ≠ 34 → s2 159 k = g 159 k := by
    rintro c1 c2 z1 z2 hc rfl rfl
    obtain ⟨⟨r1, s1⟩, e1, u1, u2, u3⟩ := m_colourCost (g := g) (p := who x) (col := c1) ht a1 h24 hR hin hrd (by omega)
    dsimp only at u1 u2 u3
    obtain ⟨⟨r2, s2⟩, e2, v1, v2, v3⟩ := m_colourCost (g := s1) (p := who y) (col := c2) ht b1 h24 ((rowT_ne (u2 165 (by decide))).trans hR) hin hrd (by omega)
    dsimp only at v1 v2 v3
    exact ⟨r1, s1, r2, s2, e1, u1, e2, v1, by rw [u2 175 (by decide)]; exact b2, fun a ha => (v2 a ha).trans (u2 a ha), fun k k1 k2 k3 => (v3 k k1 k2 k3).trans (u3 k k1 k2 k3)⟩
  have : b = 0 ∨ b = 1 := by omega
  rcases this with rfl | rfl
  · obtain ⟨r1, s1, r2, s2, e1, rfl, e2, rfl, e3, f1, f2⟩ := two 2 1 (nI 0) (nI 1) (Or.inr ⟨rfl, rfl⟩) rfl rfl
    refine ev_call e1 ?_
    refine ev_ck y rfl (by omega) (by decide) ?_
    refine ev_t rfl ?_
    rw [e3]
    refine ev_call e2 ?_
    rw [sum]
    exact ev_some ⟨by rw [if_neg (by decide)]; rfl, f1, f2⟩
  · obtain ⟨r1, s1, r2, s2, e1, rfl, e2, rfl, e3, f1, f2⟩ := two 1 2 (nI 1) (nI 0) (Or.inl ⟨rfl, rfl⟩) rfl rfl
    refine ev_call e1 ?_
    refine ev_ck y rfl (by omega) (by decide) ?_
    refine ev_f (by decide) ?_
    rw [e3]
    refine ev_call e2 ?_
    rw [sum]
    exact ev_some ⟨by rw [if_pos rfl]; rfl, f1, f2⟩
theorem m_costAlone {t np n dr M x : Nat} {R : Nat → Int32} {pp vv : Nat → Nat} {who : Nat → Nat} {mk : Nat → Int32} {F : Nat → Nat → Int32} {g : G} (h : Msrc t np n dr M R pp vv who mk F g) (M10 : M ≤ 10) (hx : x < M) : f_X9_costAlone (nI t) (nI x) g = some (nI (aC M pp (fun x => waS R (who x) 99 dr) x), g) := by
  obtain ⟨ht, h24, hin, hrd, hR, h30, hP, hne⟩ := h
  obtain ⟨a1, a2, a3, a4, a5, a6⟩ := hP x hx
  obtain ⟨-, -, -, -, b5, b6⟩ := hP 0 (by omega)
  have wa := m_wasWith (g := g) (p := who x) (q := 99) ht a1 (Or.inr rfl) h24 hR hin hrd
  have wa1 := waS_1 (R := R) (p := who x) (q := 99) dr
  have m0 : mnI pp 1 = pp 0 := by
    rw [mnI, if_pos]
    rw [mnI]
    omega
  unfold f_X9_costAlone
  refine q_ck 0 rfl (by omega) (by decide) ?_
  refine q_bd (a := nI (mnI pp M)) ?_ ?_
  · refine q_lp (fun i => (nI (mnI pp (i + 1)), nI (i + 1))) (M - 1) (fun i hi => ?_) ?_ (by omega) ?_
    · obtain ⟨-, -, -, -, c5, c6⟩ := hP (i + 1) (by omega)
      have hm := mn_le pp (i + 1)
      dsimp only
      refine q_if_f (by rw [h30]; exact nI_ge (by omega) (by omega)) ?_
      refine q_ck (i + 1) rfl (by omega) (by decide) ?_
      have s10 : (if nI (mnI pp (i + 1)) ≤ (g 177 (i + 1)) then some (nI (mnI pp (i + 1))) else ck (nI (i + 1)) 10 fun j12 => some ((g 177 j12)) : Option Int32) = some (nI (mnI pp (i + 1 + 1))) := by
        rw [show mnI pp (i + 1 + 1) = if pp (i + 1) < mnI pp (i + 1) then pp (i + 1) else mnI pp (i + 1) from rfl]
        by_cases q : pp (i + 1) < mnI pp (i + 1)
        · rw [if_pos q]
          exact q_if_f (by rw [c5]; exact nI_ge q (by omega)) (q_ck (i + 1) rfl (by omega) (by decide) (by rw [c5]))
        · rw [if_neg q]
          exact q_if_t (by rw [c5]; exact nI_le (by omega) (by omega)) rfl
      refine q_bd s10 ?_
      rw [nI_1]
    · dsimp only
      rw [show M - 1 + 1 = M from by omega]
      exact q_if_t (by rw [h30]; exact Int32.le_refl _) rfl
    · rw [b5, m0]
      rfl
  · refine q_ck x rfl (by omega) (by decide) ?_
    refine q_ck x rfl (by omega) (by decide) ?_
    rw [a2]
    refine q_call wa ?_
    rw [a5, sq_eq]
    show _ = some (nI (sq2 (pp x) (mnI pp M) + 1000000 * waS R (who x) 99 dr), g)
    have : waS R (who x) 99 dr = 0 ∨ waS R (who x) 99 dr = 1 := by omega
    rcases this with e | e
    · rw [e]
      refine q_if_t rfl ?_
      rw [l_0, nI_add]
    · rw [e]
      refine q_if_f (by decide) ?_
      rw [l_1000000, nI_add]
theorem m_costs {t np n dr M : Nat} {R : Nat → Int32} {pp vv : Nat → Nat} {who : Nat → Nat} {mk : Nat → Int32} {F : Nat → Nat → Int32} {g : G} (h : Msrc t np n dr M R pp vv who mk F g) (M10 : M ≤ 10) : Ev (lp (fun (s3 : Int32 × G) => (if (s3.2 159 30) ≤ s3.1 then some (.inr (s3.2)) else bd (lp (fun (s9 : Int32 × G) => (if (s9.2 159 30) ≤ s9.1 then some (.inr (s9.2)) else bd2 (f_X9_costOf (nI t) s3.1 s9.1 (1 : Int32) s9.2) fun r13 g14 => bd2 (f_X9_costOf (nI t) s3.1 s9.1 (0 : Int32) g14) fun r15 g16 => bd ((if r15 < r13 then some (r15) else some (r13) : Option (Int32))) fun (s18 : Int32) => ck (((10 : Int32) * s3.1) + s9.1) 100 fun j19 => wr (up2 g16 180 j19 s18) fun g20 => some (.inl ((s9.1 + (1 : Int32)), g20)) : Option ((Int32 × G) ⊕ (G)))) 2000 ((s3.1 + (1 : Int32)), s3.2)) fun (s11 : G) => bd2 (f_X9_costAlone (nI t) s3.1 s11) fun r24 g25 => ck ((11 : Int32) * s3.1) 100 fun j26 => wr (up2 g25 180 j26 r24) fun g27 => some (.inl ((s3.1 + (1 : Int32)), g27)) : Option ((Int32 × G) ⊕ (G)))) 2000 ((0 : Int32), g)) (fun s => (∀ a, a ≠ 159 → a ≠ 180 → s a = g a) ∧ (∀ k, k ≠ 32 → k ≠ 33 → k ≠ 34 → s 159 k = g 159 k) ∧ (∀ i j, i < j → j < M → s 180 (10 * i + j) = nI (cC pp vv (fun x => hcS R (who x) dr) (fun x y => waS R (who x) (who y) dr) i j)) ∧ ∀ i, i < M → s 180 (11 * i) = nI (aC M pp (fun x => waS R (who x) 99 dr) i)) := by
  have h30 := h.2.2.2.2.2.1
  have hP := h.2.2.2.2.2.2.1
  refine ev_lp (I := fun x s => s.1 = nI x ∧ (∀ a, a ≠ 159 → a ≠ 180 → s.2 a = g a) ∧ (∀ k, k ≠ 32 → k ≠ 33 → k ≠ 34 → s.2 159 k = g 159 k) ∧ (∀ i j, i < j → j < M → i < x → s.2 180 (10 * i + j) = nI (cC pp vv (fun x => hcS R (who x) dr) (fun x y => waS R (who x) (who y) dr) i j)) ∧ ∀ i, i < x → s.2 180 (11 * i) = nI (aC M pp (fun x => waS R (who x) 99 dr) i)) M ?_ ?_ 2000 0 _ (Nat.zero_le _) (by omega) ⟨rfl, fun _ _ _ => rfl, fun _ _ _ _ => rfl, fun i j _ _ q => absurd q (Nat.not_lt_zero i), fun i q => absurd q (Nat.not_lt_zero i)⟩
  · rintro x ⟨z, s⟩ hx ⟨rfl, i1, i2, i3, i4⟩
    dsimp only at i1 i2 i3 i4
    have s30 : s 159 30 = nI M := (i2 30 (by decide) (by decide) (by decide)).trans h30
    dsimp only
    refine ev_f (by rw [s30]; exact nI_ge hx (by omega)) ?_
    refine ev_bd ?_
    refine ev_lp (I := fun k s' => s'.1 = nI (x + 1 + k) ∧ (∀ a, a ≠ 159 → a ≠ 180 → s'.2 a = g a) ∧ (∀ k, k ≠ 32 → k ≠ 33 → k ≠ 34 → s'.2 159 k = g 159 k) ∧ (∀ i j, i < j → j < M → (i < x ∨ (i = x ∧ j < x + 1 + k)) → s'.2 180 (10 * i + j) = nI (cC pp vv (fun x => hcS R (who x) dr) (fun x y => waS R (who x) (who y) dr) i j)) ∧ ∀ i, i < x → s'.2 180 (11 * i) = nI (aC M pp (fun x => waS R (who x) 99 dr) i)) (M - (x + 1)) ?_ ?_ 2000 0 _ (Nat.zero_le _) (by omega) ⟨nI_1 x, i1, i2, fun i j hij hj q => i3 i j hij hj (by omega), i4⟩
    · rintro k ⟨z, s'⟩ hk ⟨rfl, j1, j2, j3, j4⟩
      dsimp only at j1 j2 j3 j4
      have hyM : x + 1 + k < M := by omega
      have hs' := h.cg j1 j2
      have t30 := hs'.2.2.2.2.2.1
      obtain ⟨-, -, -, u4, -, u6⟩ := hP x hx
      obtain ⟨-, -, -, v4, -, v6⟩ := hP _ hyM
      generalize hy : x + 1 + k = y at *
      have ij : (10 : Int32) * nI x + nI y = nI (10 * x + y) := by rw [l_10, pk_mul, nI_add]
      obtain ⟨⟨r1, s1⟩, e1, p1, p2, p3⟩ := m_costOf hs' M10 (show x < y by omega) hyM 1 (by omega)
      dsimp only at p1 p2 p3
      have hs1 := hs'.cg (fun a a1 a2 => p2 a a1) p3
      obtain ⟨⟨r2, s2⟩, e2, q1, q2, q3⟩ := m_costOf hs1 M10 (show x < y by omega) hyM 0 (by omega)
      dsimp only at q1 q2 q3
      rw [if_pos rfl] at p1
      rw [if_neg (by decide)] at q1
      subst p1
      subst q1
      obtain ⟨k1, k2, k3, k4⟩ := cC_bd (pp := pp) (vv := vv) (hh := fun x => hcS R (who x) dr) (ww := fun x y => waS R (who x) (who y) dr) (x := x) (y := y) u6 v6 u4 v4 (waS_1 dr)
      have s18 : (if nI (baC pp vv (fun x y => waS R (who x) (who y) dr) x y + tuC (fun x => hcS R (who x) dr) x y) < nI (baC pp vv (fun x y => waS R (who x) (who y) dr) x y + stC (fun x => hcS R (who x) dr) x y) then some (nI (baC pp vv (fun x y => waS R (who x) (who y) dr) x y + tuC (fun x => hcS R (who x) dr) x y)) else some (nI (baC pp vv (fun x y => waS R (who x) (who y) dr) x y + stC (fun x => hcS R (who x) dr) x y)) : Option Int32) = some (nI (cC pp vv (fun x => hcS R (who x) dr) (fun x y => waS R (who x) (who y) dr) x y)) := by
        unfold cC
        by_cases q : tuC (fun x => hcS R (who x) dr) x y < stC (fun x => hcS R (who x) dr) x y
        · rw [if_pos q]
          exact q_if_t (nI_lt (by omega) (by omega)) rfl
        · rw [if_neg q]
          exact q_if_f (nI_nlt (by omega) (by omega)) rfl
      refine Ev.of (a := .inl (nI (y + 1), up2 s2 180 (10 * x + y) (nI (cC pp vv (fun x => hcS R (who x) dr) (fun x y => waS R (who x) (who y) dr) x y)))) ?_ ⟨by rw [show x + 1 + (k + 1) = y + 1 from by omega], fun a a1 a2 => ?_, fun k k1 k2 k3 => ?_, fun i j hij hj q => ?_, fun i hi => ?_⟩
      · dsimp only
        refine q_if_f (by rw [t30]; exact nI_ge hyM (by omega)) ?_
        refine q_call e1 ?_
        refine q_call e2 ?_
        refine q_bd s18 ?_
        refine q_ck (10 * x + y) ij (by omega) (by decide) ?_
        refine q_wr ?_
        rw [nI_1]
      · dsimp only
        rw [up2_ne a2, q2 a a1, p2 a a1]; exact j1 a a1 a2
      · dsimp only
        rw [up2_ne (by decide), q3 k k1 k2 k3, p3 k k1 k2 k3]; exact j2 k k1 k2 k3
      · dsimp only
        rw [up2_eq]
        by_cases e : i = x ∧ j = y
        · obtain ⟨rfl, rfl⟩ := e
          rw [upd_eq]
        · rw [upd_ne (by omega), q2 180 (by decide), p2 180 (by decide)]
          exact j3 i j hij hj (by omega)
      · dsimp only
        rw [up2_eq, upd_ne (by omega), q2 180 (by decide), p2 180 (by decide)]
        exact j4 i hi
    · rintro ⟨z, s'⟩ ⟨rfl, j1, j2, j3, j4⟩
      dsimp only at j1 j2 j3 j4
      rw [show x + 1 + (M - (x + 1)) = M from by omega] at j3 ⊢
      have hs' := h.cg j1 j2
      have t30 := hs'.2.2.2.2.2.1
      refine Ev.of (a := .inr s') (q_if_t (by show s' 159 30 ≤ nI M; rw [t30]; exact Int32.le_refl _) rfl) ?_
      have ca := m_costAlone hs' M10 hx
      have ij : (11 : Int32) * nI x = nI (11 * x) := by rw [show (11 : Int32) = nI 11 from rfl, pk_mul]
      refine ev_call ca ?_
      refine ev_ck (11 * x) ij (by omega) (by decide) ?_
      refine ev_wr ?_
      refine ev_some ⟨nI_1 x, fun a a1 a2 => ?_, fun k k1 k2 k3 => ?_, fun i j hij hj q => ?_, fun i hi => ?_⟩
      · dsimp only
        rw [up2_ne a2]; exact j1 a a1 a2
      · dsimp only
        rw [up2_ne (by decide)]; exact j2 k k1 k2 k3
      · dsimp only
        rw [up2_eq, upd_ne (by omega)]; exact j3 i j hij hj (by omega)
      · dsimp only
        rw [up2_eq]
        by_cases e : i = x
        · subst e; rw [upd_eq]
        · rw [upd_ne (by omega)]; exact j4 i (by omega)
  · rintro ⟨z, s⟩ ⟨rfl, i1, i2, i3, i4⟩
    dsimp only at i1 i2 i3 i4
    have s30 : s 159 30 = nI M := (i2 30 (by decide) (by decide) (by decide)).trans h30
    exact Ev.of (a := .inr s) (q_if_t (by show s 159 30 ≤ nI M; rw [s30]; exact Int32.le_refl _) rfl) ⟨i1, i2, fun i j hij hj => i3 i j hij hj (by omega), i4⟩
