/-! The call run. -/
abbrev bg8 (s : G) : G := up2 (fl8 0 (-1) (-1) s) 45 3 0
abbrev bg9 (s : G) : G := up2 (fl9 0 (-1) (-1) s) 159 24 0
abbrev B1 (s : G) : Option (Int32 × G) := bd2 (f_X9_keep (up2 s 159 2 0)) fun _ s => some (0, bg9 s)
theorem lw9_B1 : Lw9 B1 := by
  intro b x x' h
  refine rl_bd2 (S := W9 b) (ww_X9_keep (h.up (by decide) trivial trivial rfl)) (fun r s s' h => ?_)
  exact rl_some ⟨rfl, (((h.up (by decide) trivial trivial rfl).up (by decide) trivial trivial rfl).up (by decide) trivial trivial rfl).up (by decide) trivial trivial rfl⟩
theorem lw8_restore : Lw8 f_X8_restore := fun _ _ _ h => ww_X8_restore h
theorem bg8_ne {s : G} {a : Nat} (h : a ≠ 45) : bg8 s a = s a := by
  unfold bg8 fl8
  rw [up2_ne h, up2_ne h, up2_ne h, up2_ne h]
theorem bg9_ne {s : G} {a : Nat} (h : a ≠ 159) : bg9 s a = s a := by
  unfold bg9 fl9
  rw [up2_ne h, up2_ne h, up2_ne h, up2_ne h]
theorem bg8_45 {s : G} : bg8 s 45 = upd (upd (upd (upd (s 45) 0 0) 1 (-1)) 2 (-1)) 3 0 := by
  unfold bg8 fl8
  rw [up2_eq, up2_eq, up2_eq, up2_eq]
theorem bg9_159 {s : G} : bg9 s 159 = upd (upd (upd (upd (s 159) 21 0) 22 (-1)) 23 (-1)) 24 0 := by
  unfold bg9 fl9
  rw [up2_eq, up2_eq, up2_eq, up2_eq]
theorem bg9_k {s : G} {k : Nat} (h : ¬ (21 ≤ k ∧ k ≤ 24)) : bg9 s 159 k = s 159 k := by
  rw [bg9_159, upd_ne (by omega), upd_ne (by omega), upd_ne (by omega), upd_ne (by omega)]
theorem Inv.begun {g : G} (h : Inv g) : Inv (bg9 (bg8 g)) := by
  refine h.rp (fun k k1 _ _ k4 => ?_) (fun k hk => ?_) ⟨rfl, rfl, rfl, rfl⟩ (fun p hp => ?_)
  · rw [bg9_ne k4, bg8_ne k1]
  · rw [bg9_k hk, bg8_ne (by decide)]
  · exact (h.2.2.1 p hp).1
theorem T_in.mk {np n : Nat} {mk mk' : Nat → Int32} {F : Nat → Nat → Int32} {R : Nat → Int32} (h : T_in np mk F R n) (e : ∀ p, p < np → mk' p = mk p) : T_in np mk' F R n := by
  obtain ⟨h1, h2, h3, h4, h5⟩ := h
  refine ⟨h1, h2, h3, fun k hk => ?_, h5⟩
  obtain ⟨q1, p, hp, q2, q3⟩ := h4 k hk
  exact ⟨q1, p, hp, q2, by rw [e p hp]; exact q3⟩
theorem J_pl.of {g g' : G} {np : Nat} (h : J_pl g) (h24 : np ≤ 24) (e : g 3 4 = nI np) (e1 : g' 3 4 = nI np) (e2 : g' 159 3 = nI np) (x : ∀ p, p < np → g' 4 p = g 4 p ∧ g' 5 p = g 5 p ∧ g' 6 p = g 6 p) (x7 : ∀ k, k < 4 * np → g' 7 k = g 7 k) (y : ∀ p, p < 24 → g' 161 p = g 161 p ∧ g' 162 p = g 162 p ∧ g' 163 p = g 163 p) (y7 : ∀ k, k < 96 → g' 164 k = g 164 k) : J_pl g' := by
  obtain ⟨np', q1, q2, q3, q4⟩ := h
  have : np' = np := nI_inj (by omega) (by omega) (q2.symm.trans e)
  subst this
  refine ⟨np', h24, e1, e2, fun p hp => ?_⟩
  obtain ⟨a1, a2, a3⟩ := x p hp
  obtain ⟨b1, b2, b3⟩ := y p (by omega)
  obtain ⟨c1, c2, c3, c4, c5, c6⟩ := q4 p hp
  rw [a1, a2, a3, b1, b2, b3]
  refine ⟨c1, c2, c3, c4, c5, ?_⟩
  rcases c6 with c6 | ⟨m, m4, c6, c7⟩
  · exact Or.inl c6
  · refine Or.inr ⟨m, m4, c6, fun k hk => ?_⟩
    rw [x7 _ (by omega), y7 _ (by omega)]
    obtain ⟨d1, d2⟩ := c7 k hk
    refine ⟨d1, ?_⟩
    rcases d2 with d2 | ⟨w, hw, d2, d3⟩
    · exact Or.inl d2
    · exact Or.inr ⟨w, hw, d2, by rw [(y w (by omega)).1]; exact d3⟩
theorem B1_inv {s c : G} (h : B1 s = some (0, c)) : ∃ r k, f_X9_keep (up2 s 159 2 0) = some (r, k) ∧ bg9 k = c := by
  unfold B1 at h
  obtain ⟨r, k, e1, e2⟩ := bd2_some h
  exact ⟨r, k, e1, (Prod.mk.inj (Option.some.inj e2)).2⟩
theorem sp_run : Sp1 Inv f_X8_run f_X9_run := by
  refine Sp1.of (fun a1 g hI => ?_)
  have hc := hI.clear
  rcases i32_cases a1 4 (by decide) with hb | ⟨P, hPl, rfl⟩
  · refine ⟨-2, up2 g 1 1 0, up2 (up2 g 1 1 0) 159 2 0, ?_, ?_, hc⟩
    · unfold f_X8_run
      refine q_call (v := 0) (g' := up2 g 1 1 0) rfl ?_
      refine q_call (v := 0) (g' := up2 g 1 1 0) ?_ (q_if_t rfl rfl)
      unfold f_X8_isPlan
      by_cases z : a1 < 0
      · exact q_if_t z rfl
      · refine q_if_f z (q_if_t ?_ rfl)
        rcases hb with hb | hb
        · exact absurd hb z
        · exact hb
    · unfold f_X9_run
      refine q_wr ?_
      refine q_call (v := 0) (g' := up2 (up2 g 1 1 0) 159 2 0) ?_ (q_if_t rfl rfl)
      unfold f_X9_in
      by_cases z : a1 < 0
      · exact q_if_t z rfl
      · refine q_if_f z (q_if_t ?_ rfl)
        rcases hb with hb | hb
        · exact absurd hb z
        · rcases i32_split a1 with ⟨j, hj, e⟩ | ⟨j, hj0, hj, e⟩
          · rw [e, nI_leI (by decide) hj] at hb
            rw [e, l_3, nI_ltI (by decide) hj]
            omega
          · rw [e, le_ng (by decide) hj0 hj] at hb
            exact hb.elim
  -- the plan is one of the four
  have u8 : ∀ s : G, f_X8_isPlan (nI P) s = some (1, s) := by
    intro s
    unfold f_X8_isPlan
    exact q_if_f (nI_lt0 (by omega)) (q_if_f (by rw [l_4]; exact nI_ge (by omega) (by omega)) rfl)
  have u9 : ∀ s : G, f_X9_in (nI P) 0 3 s = some (1, s) := by
    intro s
    unfold f_X9_in
    exact q_if_f (nI_lt0 (by omega)) (q_if_f (by rw [l_3, nI_ltI (by decide) (by omega)]; omega) rfl)
  obtain ⟨np, nt, h24, h4, e1, e2, ec, em, es, hP, hT⟩ := hI.pre
  -- saving
  obtain ⟨⟨r7, s7⟩, es7, y0, y1, y2, y3, y4, y5, y6, y7⟩ := c_save (np := np) (nt := nt) (mk := g 161) (R := rowT g) (g := up2 g 1 1 0) h24 h4 e1 ec (fun t ht => by
    obtain ⟨n, dr, e, q0, hin, hsm, hrd, hen⟩ := hT t ht
    rw [show bkA 47 (up2 g 1 1 0) t = bkA 47 g t from bkA_eq (fun j hj => up2_ne (by omega))]
    exact ⟨n, dr, e, hin, hsm, hrd, hen⟩)
  dsimp only at y0 y1 y2 y3 y4 y5 y6 y7
  subst y0
  have s7g : ∀ a, ¬ cB a → ¬ (8 ≤ a ∧ a ≤ 12) → a ≠ 0 → a ≠ 1 → s7 a = g a := fun a n1 n2 n3 n4 => (y1 a n1 n2 n3).trans (up2_ne n4)
  -- keeping
  obtain ⟨⟨rk, k1⟩, ek1, w0, w1, w2, w3, w4, w5, w6, w7⟩ := mr_keep (g := up2 (bg8 s7) 159 2 0)
  dsimp only at w0 w1 w2 w3 w4 w5 w6 w7
  have hB1 : B1 (bg8 s7) = some (0, bg9 k1) := q_call ek1 rfl
  have kg : ∀ a, 159 < a → ¬ (166 ≤ a ∧ a ≤ 170) → bg9 k1 a = g a := fun a n1 n2 => by
    rw [bg9_ne (by omega), w1 a n2 (by omega), up2_ne (by omega), bg8_ne (by omega)]
    exact s7g a (by omega) (by omega) (by omega) (by omega)
  have kc : ∀ a, a < 159 → bg9 k1 a = bg8 s7 a := fun a n1 => by
    rw [bg9_ne (by omega), w1 a (by omega) (by omega), up2_ne (by omega)]
  have kc' : ∀ a, a < 159 → a ≠ 45 → bg9 k1 a = s7 a := fun a n1 n2 => (kc a n1).trans (bg8_ne n2)
  have s159 : bg8 s7 159 = g 159 := by
    rw [bg8_ne (by decide)]
    exact s7g 159 (by omega) (by omega) (by omega) (by omega)
  have k159 : ∀ k, k ≠ 11 → k ≠ 16 → k1 159 k = upd (g 159) 2 0 k := fun k n1 n2 => by rw [w2 k n1 n2, up2_eq, s159]
  have m159 : ∀ k, k ≠ 11 → k ≠ 16 → k ≠ 2 → ¬ (21 ≤ k ∧ k ≤ 24) → bg9 k1 159 k = g 159 k := fun k n1 n2 n3 n4 => by rw [bg9_k n4, k159 k n1 n2, upd_ne n3]
  have m0 : ∀ k, k ≠ 13 → bg9 k1 0 k = g 0 k := fun k hk => by
    rw [kc' 0 (by decide) (by decide), y2 k hk]
    rfl
  have rows : ∀ t, rowT (bg9 k1) t = rowT g t := fun t => rowT_ne (kg 165 (by decide) (by omega))
  have hI1 : Inv (bg9 k1) := by
    refine hc.begun.cg (fun a ha => ?_) ?_ (fun k hk => ?_) ?_
    · by_cases a45 : a = 45
      · subst a45
        rw [kc 45 (by decide), bg9_ne (s := bg8 (up2 (up2 g 1 1 0) 159 2 0)) (by decide), bg8_45, bg8_45, up2_ne (by decide), y1 45 (by omega) (by omega) (by omega)]
      · rw [bg9_ne (s := bg8 (up2 (up2 g 1 1 0) 159 2 0)) (by omega), bg8_ne a45, up2_ne (by omega)]
        by_cases lt : a < 159
        · rw [kc' a lt a45]
          exact y1 a (by omega) (by omega) (by omega)
        · rw [kg a (by omega) (by omega), up2_ne (by omega)]
    · rw [m0 11 (by decide)]
      rfl
    · by_cases z : 21 ≤ k ∧ k ≤ 24
      · rw [bg9_159, bg9_159]
        rcases (show k = 21 ∨ k = 22 ∨ k = 23 ∨ k = 24 by omega) with rfl | rfl | rfl | rfl
        · rfl
        · rfl
        · rfl
        · rfl
      · rw [bg9_k z, bg9_k z, k159 k (by omega) (by omega), bg8_ne (by decide), up2_eq]
        rfl
    · refine ⟨np, nt, (m159 3 (by decide) (by decide) (by decide) (by omega)).trans e2, h24, h4, (m0 12 (by decide)).trans ec, (m159 8 (by decide) (by decide) (by decide) (by omega)).trans em, ?_, fun t ht => ?_⟩
      · rw [m0 14 (by decide), m159 10 (by decide) (by decide) (by decide) (by omega)]; exact es
      · rw [kg 161 (by decide) (by omega), rows t, show blkT (bg9 k1) t = blkT g t from blkT_ne (fun j hj => by rw [kc' _ (by omega) (by omega)]; exact s7g _ (by omega) (by omega) (by omega) (by omega))]
        exact hT t ht
  have hD1 : DN (bg9 k1) := by
    refine ⟨0, by decide, ?_⟩
    rw [kc 45 (by decide), bg8_45]
    rfl
  -- the steps
  obtain ⟨r, c2', m2, hr, h8, h9, hm2, -⟩ := run_ok 12 P (by omega) hPl _ hI1 hD1
  obtain ⟨c2, k2, k3⟩ := seqq hB1 h8 lw8_run lw9_B1
  rcases hr with rfl | rfl
  rotate_left
  · -- done whole
    obtain ⟨rk2, kk, f1, f2⟩ := B1_inv k3
    refine ⟨1, c2, m2, ?_, ?_, hm2⟩
    · unfold f_X8_run
      refine q_call (v := 0) (g' := up2 g 1 1 0) rfl ?_
      refine q_call (u8 _) (q_if_f (by decide) ?_)
      refine q_call es7 ?_
      refine q_call (v := 0) (g' := bg8 s7) rfl ?_
      exact q_call k2 (q_if_f (by decide) rfl)
    · unfold f_X9_run
      refine q_wr ?_
      refine q_call (u9 _) (q_if_f (by decide) ?_)
      refine q_call f1 ?_
      refine q_call (v := 0) (g' := fl9 0 (-1) (-1) kk) rfl ?_
      refine q_wr ?_
      rw [show up2 (fl9 0 (-1) (-1) kk) 159 24 0 = c2' from f2]
      exact q_call h9 (q_if_f (by decide) rfl)
  · -- not at all
    obtain ⟨⟨rq, cq⟩, eq, -, t1⟩ := kk_X8_runSteps (b := (nt, bg9 k1)) 12 rfl (g := bg9 k1) (g' := bg9 k1) ⟨fun _ _ => rfl, fun _ _ => rfl, fun _ _ => rfl, rfl, fun _ _ => rfl, Or.inr ⟨h4, by rw [m0 12 (by decide), ec]; exact nI_le (Nat.le_refl _) (by omega)⟩⟩ _ h8
    rw [h8] at eq
    have : c2' = cq := congrArg Prod.snd (Option.some.inj eq)
    subst this
    obtain ⟨-, t2, t3, t4, t5, -⟩ := t1
    dsimp only at t2 t3 t4 t5
    obtain ⟨⟨rq', mq⟩, eq', -, v1⟩ := l_X9_goes (b := c2') 12 rfl (S9.of (fun _ _ => rfl)) _ h9
    rw [h9] at eq'
    have : m2 = mq := congrArg Prod.snd (Option.some.inj eq')
    subst this
    obtain ⟨-, v2, v3, v4, v5⟩ := v1
    dsimp only at v2 v3 v4 v5
    have msv : ∀ a, sv8 a → m2 a = s7 a := fun a ha => by
      rw [v2 a (by omega), t3 a ha]
      exact kc' a (by omega) (by omega)
    have mkp : ∀ a, 166 ≤ a → a ≤ 170 → m2 a = k1 a := fun a q1 q2 => by
      rw [v3 a q1 q2, t2 a (by omega), bg9_ne (by omega)]
    -- the class takes back
    obtain ⟨⟨r3, c3v⟩, e3v, z0, z1, z2, z3, z4, z5, z6, z7, z8⟩ := c_restore (np := np) (nt := nt) (mk := g 161) (R := rowT g) (g := m2) h24 h4 (by rw [msv 8 (by omega)]; exact y4) (by rw [v2 0 (by decide), t4, kc' 0 (by decide) (by decide)]; exact y3) (fun t ht => by
      rw [show bkA 61 m2 t = bkA 61 s7 t from bkA_eq (fun j hj => msv _ (by omega))]
      exact y7 t ht)
    dsimp only at z0 z1 z2 z3 z4 z5 z6 z7 z8
    subst z0
    -- the model takes back
    obtain ⟨⟨r4, m3⟩, e4, x0, x1, x2, x3, x4, x5, x6, x7⟩ := mr_back (g := c3v)
    dsimp only at x0 x1 x2 x3 x4 x5 x6 x7
    obtain ⟨c3', n1, n2⟩ := seqq h9 e3v lw8_restore lw9_goes
    obtain ⟨c3, n3, n4⟩ := seqq k3 n1 lw8_restore lw9_B1
    obtain ⟨rk2, kk, f1, f2⟩ := B1_inv n4
    refine ⟨-6, c3, m3, ?_, ?_, ?_⟩
    · unfold f_X8_run
      refine q_call (v := 0) (g' := up2 g 1 1 0) rfl ?_
      refine q_call (u8 _) (q_if_f (by decide) ?_)
      refine q_call es7 ?_
      refine q_call (v := 0) (g' := bg8 s7) rfl ?_
      exact q_call k2 (q_if_t rfl (q_call n3 rfl))
    · unfold f_X9_run
      refine q_wr ?_
      refine q_call (u9 _) (q_if_f (by decide) ?_)
      refine q_call f1 ?_
      refine q_call (v := 0) (g' := fl9 0 (-1) (-1) kk) rfl ?_
      refine q_wr ?_
      rw [show up2 (fl9 0 (-1) (-1) kk) 159 24 0 = c3' from f2]
      exact q_call n2 (q_if_t rfl (q_call e4 rfl))
    · have a3 : ∀ a, ¬ cA a → ¬ (3 ≤ a ∧ a ≤ 7) → a ≠ 0 → ¬ (161 ≤ a ∧ a ≤ 165) → a ≠ 159 → m3 a = m2 a := fun a p1 p2 p3 p4 p5 => (x1 a p4 p5).trans (z1 a p1 p2 p3)
      have b3 : ∀ k, k ≠ 3 → k ≠ 8 → m3 159 k = m2 159 k := fun k p1 p2 => by rw [x2 k p1 p2, z1 159 (by omega) (by omega) (by omega)]
      have c0 : ∀ k, k ≠ 12 → m3 0 k = m2 0 k := fun k p1 => by rw [x1 0 (by omega) (by omega)]; exact z2 k p1
      have d0 : ∀ a, a < 159 → m3 a = c3v a := fun a ha => x1 a (by omega) (by omega)
      have kp : ∀ a, 166 ≤ a → a ≤ 170 → c3v a = k1 a := fun a p1 p2 => (z1 a (by omega) (by omega) (by omega)).trans (mkp a p1 p2)
      have ks : ∀ a, 161 ≤ a → a ≤ 165 → up2 (bg8 s7) 159 2 0 a = g a := fun a p1 p2 => by
        rw [up2_ne (by omega), bg8_ne (by omega)]
        exact s7g a (by omega) (by omega) (by omega) (by omega)
      have k11 : c3v 159 11 = nI np := by
        rw [z1 159 (by omega) (by omega) (by omega), v4, t2 159 (by decide), bg9_k (by omega), w3, up2_eq, upd_ne (by decide), s159]
        exact e2
      have k16 : c3v 159 16 = nI nt := by
        rw [z1 159 (by omega) (by omega) (by omega), v5, t2 159 (by decide), bg9_k (by omega), w4, up2_eq, upd_ne (by decide), s159]
        exact em
      have g161 : ∀ p, p < 24 → m3 161 p = g 161 p ∧ m3 162 p = g 162 p ∧ m3 163 p = g 163 p := by
        intro p hp
        obtain ⟨p1, p2, p3⟩ := x5 p hp
        obtain ⟨q1, q2, q3⟩ := w5 p hp
        rw [kp 166 (by decide) (by decide), q1, ks 161 (by decide) (by decide)] at p1
        rw [kp 167 (by decide) (by decide), q2, ks 162 (by decide) (by decide)] at p2
        rw [kp 168 (by decide) (by decide), q3, ks 163 (by decide) (by decide)] at p3
        exact ⟨p1, p2, p3⟩
      have g164 : ∀ k, k < 96 → m3 164 k = g 164 k := fun k hk => by rw [x6 k hk, kp 169 (by decide) (by decide), w6 k hk, ks 164 (by decide) (by decide)]
      have g165 : ∀ k, k < 1648 → m3 165 k = g 165 k := fun k hk => by rw [x7 k hk, kp 170 (by decide) (by decide), w7 k hk, ks 165 (by decide) (by decide)]
      obtain ⟨i1, i2, i3, i4, i5, i6, i7⟩ := hm2
      refine ⟨?_, i2.cg (a3 1 (by omega) (by omega) (by omega) (by omega) (by omega)) (a3 2 (by omega) (by omega) (by omega) (by omega) (by omega)) (b3 2 (by decide) (by decide)) (b3 0 (by decide) (by decide)) (a3 160 (by omega) (by omega) (by omega) (by omega) (by omega)), i3.cg (a3 42 (by omega) (by omega) (by omega) (by omega) (by omega)) (a3 43 (by omega) (by omega) (by omega) (by omega) (by omega)) (a3 44 (by omega) (by omega) (by omega) (by omega) (by omega)) (a3 171 (by omega) (by omega) (by omega) (by omega) (by omega)) (a3 172 (by omega) (by omega) (by omega) (by omega) (by omega)) (a3 173 (by omega) (by omega) (by omega) (by omega) (by omega)), i4.cg (a3 45 (by omega) (by omega) (by omega) (by omega) (by omega)) (fun k q1 q2 => b3 k (by omega) (by omega)), i5.cg (c0 11 (by decide)) (a3 46 (by omega) (by omega) (by omega) (by omega) (by omega)) (b3 42 (by decide) (by decide)) (a3 184 (by omega) (by omega) (by omega) (by omega) (by omega)), ?_, (b3 25 (by decide) (by decide)).trans i7⟩
      · refine hI.1.of h24 e1 (by rw [d0 3 (by decide)]; exact z4) (by rw [x3]; exact k11) (fun p hp => ?_) (fun k hk => ?_) g161 g164
        · rw [d0 4 (by decide), d0 5 (by decide), d0 6 (by decide)]
          obtain ⟨p1, p2, p3⟩ := z5 p hp
          obtain ⟨q1, q2, q3⟩ := y5 p hp
          rw [msv 9 (by omega), q1] at p1
          rw [msv 10 (by omega), q2] at p2
          rw [msv 11 (by omega), q3] at p3
          exact ⟨p1, p2, p3⟩
        · rw [d0 7 (by decide), z6 k hk, msv 12 (by omega), y6 k hk]
          rfl
      · obtain ⟨np2, nt2, -, -, -, -, -, j4, -⟩ := i6
        refine ⟨np, nt, by rw [x3]; exact k11, h24, h4, by rw [d0 0 (by decide)]; exact z3, by rw [x4]; exact k16, by rw [c0 14 (by decide), b3 10 (by decide) (by decide)]; exact j4, fun t ht => ?_⟩
        have hrow : rowT m3 t = rowT g t := by
          funext k
          unfold rowT
          by_cases hk : k < 412
          · rw [if_pos hk, if_pos hk]; exact g165 _ (by omega)
          · rw [if_neg hk, if_neg hk]
        have hblk : blkT m3 t = bkA 47 c3v t := bkA_eq (D := 47) (s := m3) (t := t) (fun j hj => d0 _ (by omega))
        obtain ⟨n, dr, e, hin, hsm, hrd, hen⟩ := z7 t ht
        rw [hrow, hblk]
        refine ⟨n, dr, e, ?_, hin.mk (fun p hp => (g161 p (by omega)).1), hsm, hrd, hen⟩
        obtain ⟨-, -, -, q0, -⟩ := hT t ht
        have : m2 (47 + 28 * t) 0 = g (47 + 28 * t) 0 := by
          rw [v2 _ (by omega), t5 t ht, kc' _ (by omega) (by omega)]
          rw [s7g _ (by omega) (by omega) (by omega) (by omega)]
        show c3v (47 + 28 * t) 0 = rowT g t 411
        rw [z8 t (by omega), this]
        exact q0
