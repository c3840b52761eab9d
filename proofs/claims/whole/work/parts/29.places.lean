/-! The calls places, held, seat. -/
theorem Sp2.of {Inv : G → Prop} {f8 f9 : Int32 → Int32 → G → Option (Int32 × G)} (h : ∀ a b g, Inv g → Ev (f8 a b g) (fun q => Ev (f9 a b q.2) (fun q' => q'.1 = q.1 ∧ Inv q'.2))) : Sp2 Inv f8 f9 := by
  intro a b g hI
  obtain ⟨⟨r, g1⟩, h1, ⟨r', g2⟩, h2, h3, h4⟩ := h a b g hI
  have h3 : r' = r := h3
  subst h3
  exact ⟨r', g1, g2, h1, h2, h4⟩
theorem c_setPlaces {p m : Nat} {g : G} (hp : p < 24) (hm : m ≤ 4) : Ev (f_X5_setPlaces (nI p) (nI m) g) (fun q => (∀ a, a ≠ 6 → a ≠ 7 → q.2 a = g a) ∧ q.2 6 = upd (g 6) p (nI m) ∧ (∀ i, i < m → q.2 7 (4 * p + i) = -1) ∧ ∀ j, j < 4 * p ∨ 4 * p + 4 ≤ j → q.2 7 j = g 7 j) := by
  unfold f_X5_setPlaces
  refine ev_ck p rfl hp (by decide) (ev_wr ?_)
  refine ev_bd ?_
  refine ev_lp (I := fun k s => s.1 = nI k ∧ (∀ a, a ≠ 7 → s.2 a = up2 g 6 p (nI m) a) ∧ (∀ i, i < k → s.2 7 (4 * p + i) = -1) ∧ ∀ j, j < 4 * p ∨ 4 * p + 4 ≤ j → s.2 7 j = g 7 j) m ?_ ?_ 2000 0 _ (Nat.zero_le _) (by omega) ⟨rfl, fun a _ => rfl, fun i hi => absurd hi (Nat.not_lt_zero i), fun j _ => rfl⟩
  · rintro k ⟨x, s⟩ hk ⟨rfl, h1, h2, h3⟩
    refine ev_f (nI_ge hk (by omega)) ?_
    refine ev_ck (4 * p + k) (fifteen rfl) (by omega) (by decide) (ev_wr (ev_some ?_))
    refine ⟨by show nI k + 1 = nI (k + 1); exact nI_1 k, fun a ha => ?_, fun i hi => ?_, fun j hj => ?_⟩
    · show up2 s 7 (4 * p + k) (-1) a = _
      rw [up2_ne ha]
      exact h1 a ha
    · show up2 s 7 (4 * p + k) (-1) 7 (4 * p + i) = -1
      by_cases e : i = k
      · subst e
        exact up2_at _ _ _ _
      · rw [up2_at_ne (by omega)]
        exact h2 i (by omega)
    · show up2 s 7 (4 * p + k) (-1) 7 j = _
      rw [up2_at_ne (by omega)]
      exact h3 j hj
  · rintro ⟨x, s⟩ ⟨rfl, h1, h2, h3⟩
    refine ev_t (nI_le (Nat.le_refl m) (by omega)) (ev_some ?_)
    refine ev_some ⟨fun a h6 h7 => ?_, ?_, h2, h3⟩
    · show s a = g a
      exact (h1 a h7).trans (up2_ne h6)
    · show s 6 = _
      exact (h1 6 (by decide)).trans (up2_eq _ _ _ _)
theorem m_setPlaces {p : Nat} {x : Int32} {g : G} (hp : p < 24) : Ev (lp (fun (s12 : Int32 × G) => (if (4 : Int32) ≤ s12.1 then some (.inr (s12.2)) else ck (((4 : Int32) * nI p) + s12.1) 96 fun j16 => wr (up2 s12.2 164 j16 (-1 : Int32)) fun g17 => some (.inl ((s12.1 + (1 : Int32)), g17)) : Option ((Int32 × G) ⊕ (G)))) 2000 ((0 : Int32), up2 g 163 p x)) (fun q => (∀ a, a ≠ 163 → a ≠ 164 → q a = g a) ∧ q 163 = upd (g 163) p x ∧ (∀ i, i < 4 → q 164 (4 * p + i) = -1) ∧ ∀ j, j < 4 * p ∨ 4 * p + 4 ≤ j → q 164 j = g 164 j) := by
  refine ev_lp (I := fun k s => s.1 = nI k ∧ (∀ a, a ≠ 164 → s.2 a = up2 g 163 p x a) ∧ (∀ i, i < k → s.2 164 (4 * p + i) = -1) ∧ ∀ j, j < 4 * p ∨ 4 * p + 4 ≤ j → s.2 164 j = g 164 j) 4 ?_ ?_ 2000 0 _ (Nat.zero_le _) (by omega) ⟨rfl, fun a _ => rfl, fun i hi => absurd hi (Nat.not_lt_zero i), fun j _ => rfl⟩
  · rintro k ⟨y, s⟩ hk ⟨rfl, h1, h2, h3⟩
    refine ev_f (by show ¬ nI 4 ≤ nI k; exact nI_ge hk (by omega)) ?_
    refine ev_ck (4 * p + k) (fifteen' rfl) (by omega) (by decide) (ev_wr (ev_some ?_))
    refine ⟨by show nI k + 1 = nI (k + 1); exact nI_1 k, fun a ha => ?_, fun i hi => ?_, fun j hj => ?_⟩
    · show up2 s 164 (4 * p + k) (-1) a = _
      rw [up2_ne ha]
      exact h1 a ha
    · show up2 s 164 (4 * p + k) (-1) 164 (4 * p + i) = -1
      by_cases e : i = k
      · subst e
        exact up2_at _ _ _ _
      · rw [up2_at_ne (by omega)]
        exact h2 i (by omega)
    · show up2 s 164 (4 * p + k) (-1) 164 j = _
      rw [up2_at_ne (by omega)]
      exact h3 j hj
  · rintro ⟨y, s⟩ ⟨rfl, h1, h2, h3⟩
    refine ev_t (by show nI 4 ≤ nI 4; exact nI_le (Nat.le_refl 4) (by omega)) (ev_some ?_)
    refine ⟨fun a h6 h7 => ?_, ?_, h2, h3⟩
    · show s a = g a
      exact (h1 a h7).trans (up2_ne h6)
    · show s 163 = _
      exact (h1 163 (by decide)).trans (up2_eq _ _ _ _)
theorem inv_places {p m np : Nat} {g g1 g2 : G} (hI : Inv g) (e0 : g 159 3 = nI np) (hn : np ≤ 24) (hp : p < np) (hm : m ≤ 4)
    (c1 : ∀ a, a ≠ 6 → a ≠ 7 → g1 a = g a) (c2 : g1 6 = upd (g 6) p (nI m)) (c3 : ∀ i, i < m → g1 7 (4 * p + i) = -1) (c4 : ∀ j, j < 4 * p ∨ 4 * p + 4 ≤ j → g1 7 j = g 7 j)
    (d1 : ∀ a, a ≠ 163 → a ≠ 164 → g2 a = g1 a) (d2 : g2 163 = upd (g1 163) p (nI m)) (d3 : ∀ i, i < 4 → g2 164 (4 * p + i) = -1) (d4 : ∀ j, j < 4 * p ∨ 4 * p + 4 ≤ j → g2 164 j = g1 164 j) : Inv g2 := by
  obtain ⟨⟨np0, h1, h2, h3, h4⟩, i2, i3, i4, i5, i6, i7⟩ := hI
  have hnp : np0 = np := nI_inj (by omega) (by omega) (h3.symm.trans e0)
  subst hnp
  have x : ∀ a, a ≠ 6 → a ≠ 7 → a ≠ 163 → a ≠ 164 → g2 a = g a := fun a q1 q2 q3 q4 => (d1 a q3 q4).trans (c1 a q1 q2)
  have x159 := x 159 (by decide) (by decide) (by decide) (by decide)
  refine ⟨⟨np0, h1, by rw [x 3 (by decide) (by decide) (by decide) (by decide)]; exact h2, by rw [x159]; exact h3, fun q hq => ?_⟩, i2.cg (x 1 (by decide) (by decide) (by decide) (by decide)) (x 2 (by decide) (by decide) (by decide) (by decide)) (by rw [x159]) (by rw [x159]) (x 160 (by decide) (by decide) (by decide) (by decide)), i3.cg (x 42 (by decide) (by decide) (by decide) (by decide)) (x 43 (by decide) (by decide) (by decide) (by decide)) (x 44 (by decide) (by decide) (by decide) (by decide)) (x 171 (by decide) (by decide) (by decide) (by decide)) (x 172 (by decide) (by decide) (by decide) (by decide)) (x 173 (by decide) (by decide) (by decide) (by decide)), i4.cg (x 45 (by decide) (by decide) (by decide) (by decide)) (fun k _ _ => by rw [x159]), i5.cg (by rw [x 0 (by decide) (by decide) (by decide) (by decide)]) (x 46 (by decide) (by decide) (by decide) (by decide)) (by rw [x159]) (x 184 (by decide) (by decide) (by decide) (by decide)), i6.off (by rw [x159]) (by rw [x 0 (by decide) (by decide) (by decide) (by decide)]) (by rw [x159]) (by rw [x 0 (by decide) (by decide) (by decide) (by decide)]) (by rw [x159]) (x 161 (by decide) (by decide) (by decide) (by decide)) (x 165 (by decide) (by decide) (by decide) (by decide)) (fun a q1 q2 => x a (by omega) (by omega) (by omega) (by omega)), by rw [x159]; exact i7⟩
  obtain ⟨q1, q2, q3, q4, q5, q6⟩ := h4 q hq
  have y6 : g2 6 = upd (g 6) p (nI m) := by rw [d1 6 (by decide) (by decide), c2]
  have y163 : g2 163 = upd (g 163) p (nI m) := by rw [d2, c1 163 (by decide) (by decide)]
  have y7 : g2 7 = g1 7 := d1 7 (by decide) (by decide)
  have y164 : ∀ j, j < 4 * p ∨ 4 * p + 4 ≤ j → g2 164 j = g 164 j := fun j hj => by rw [d4 j hj, c1 164 (by decide) (by decide)]
  rw [x 4 (by decide) (by decide) (by decide) (by decide), x 5 (by decide) (by decide) (by decide) (by decide), x 161 (by decide) (by decide) (by decide) (by decide), x 162 (by decide) (by decide) (by decide) (by decide), y6, y163, y7]
  refine ⟨q1, q2, ?_, q4, q5, ?_⟩
  · by_cases e : q = p
    · subst e; rw [upd_eq, upd_eq]
    · rw [upd_ne e, upd_ne e]; exact q3
  · by_cases e : q = p
    · subst e
      rw [upd_eq]
      exact Or.inr ⟨m, hm, rfl, fun k hk => ⟨by rw [c3 k hk, d3 k (by omega)], Or.inl (d3 k (by omega))⟩⟩
    · rw [upd_ne e]
      rcases q6 with q6 | ⟨m', r1, r2, r3⟩
      · exact Or.inl q6
      · refine Or.inr ⟨m', r1, r2, fun k hk => ?_⟩
        rw [c4 _ (by omega), y164 _ (by omega)]
        exact r3 k hk
theorem sp_places : Sp2 Inv f_X8_places f_X9_places := by
  refine Sp2.of (fun a1 a2 g hI => ?_)
  obtain ⟨np, n24, e1, e2, hRc, hRm, hq, hw⟩ := hI.1.rw
  obtain ⟨hLc, hLm⟩ := hI.2.1.lc
  rcases i32_cases a1 np (by omega) with h | ⟨p, hp, rfl⟩
  · refine Ev.of (a := (-2, g)) ?_ (Ev.of (a := (-2, g)) ?_ ⟨rfl, hI⟩)
    · unfold f_X8_places
      exact q_call (c_has_0 e1 h) (q_if_t rfl rfl)
    · unfold f_X9_places
      exact q_call (m_is_0 e2 n24 h) (q_if_t rfl rfl)
  · by_cases h4 : a2 ≤ 4
    · by_cases h3 : g 161 p = 3
      · have h3c : g 4 p = 3 := by rw [(hq p hp).1]; exact h3
        by_cases h0 : (0 : Int32) ≤ a2
        · obtain ⟨m, hm, rfl⟩ : ∃ m : Nat, m < 5 ∧ a2 = nI m := by
            rcases i32_cases a2 5 (by decide) with (h | h) | h
            · exact absurd h0 (Int32.not_le.mpr h)
            · exfalso
              have q1 := Int32.le_iff_toInt_le.mp h
              have q2 := Int32.le_iff_toInt_le.mp h4
              have q3 : (nI 5).toInt = 5 := by decide
              have q4 : (4 : Int32).toInt = 4 := by decide
              omega
            · exact h
          unfold f_X8_places
          refine ev_call (c_has_1 e1 hp n24) (ev_f (by decide) (ev_t h4 ?_))
          refine ev_call (c_isTeam (by omega)) ?_
          rw [if_pos h3c]
          refine ev_f (by decide) (ev_t h0 ?_)
          refine ev_bd2 (Ev.imp (c_setPlaces (p := p) (m := m) (by omega) (by omega)) ?_)
          rintro ⟨r, g1⟩ ⟨c1, c2, c3, c4⟩
          refine ev_some ?_
          unfold f_X9_places
          have y : g1 159 = g 159 := c1 159 (by decide) (by decide)
          refine ev_call (m_is_1 (by show g1 159 3 = nI np; rw [y]; exact e2) hp n24) (ev_f (by decide) (ev_t h4 ?_))
          refine ev_ck p rfl (by omega) (by decide) ?_
          refine ev_t (by show g1 161 p = 3; exact (congrFun (c1 161 (by decide) (by decide)) p).trans h3) (ev_t h0 ?_)
          refine ev_ck p rfl (by omega) (by decide) (ev_wr ?_)
          refine ev_bd (Ev.imp (m_setPlaces (p := p) (by omega)) ?_)
          rintro g2 ⟨d1, d2, d3, d4⟩
          exact ev_some ⟨rfl, inv_places hI e2 n24 hp (by omega) c1 c2 c3 c4 d1 d2 d3 d4⟩
        · refine Ev.of (a := (-5, cE [] 5 g)) ?_ (Ev.of (a := (-5, mE [] 5 (cE [] 5 g))) ?_ ⟨rfl, hI.eff _ _⟩)
          · unfold f_X8_places
            refine q_call (c_has_1 e1 hp n24) (q_if_f (by decide) (q_if_t h4 ?_))
            refine q_call (c_isTeam (by omega)) ?_
            rw [if_pos h3c]
            refine q_if_f (by decide) (q_if_f h0 ?_)
            exact q_call (c_met (by decide)) rfl
          · unfold f_X9_places
            refine q_call (m_is_1 (g := cE [] 5 g) e2 hp n24) (q_if_f (by decide) (q_if_t h4 ?_))
            refine q_ck p rfl (by omega) (by decide) (q_if_t h3 (q_if_f h0 ?_))
            exact q_call (m_meets (by decide)) rfl
      · have h3c : ¬ g 4 p = 3 := by rw [(hq p hp).1]; exact h3
        refine Ev.of (a := (-5, cE [] 3 g)) ?_ (Ev.of (a := (-5, mE [] 3 (cE [] 3 g))) ?_ ⟨rfl, hI.eff _ _⟩)
        · unfold f_X8_places
          refine q_call (c_has_1 e1 hp n24) (q_if_f (by decide) (q_if_t h4 ?_))
          refine q_call (c_isTeam (by omega)) ?_
          rw [if_neg h3c]
          refine q_if_t rfl ?_
          exact q_call (c_met (by decide)) rfl
        · unfold f_X9_places
          refine q_call (m_is_1 (g := cE [] 3 g) e2 hp n24) (q_if_f (by decide) (q_if_t h4 ?_))
          refine q_ck p rfl (by omega) (by decide) (q_if_f h3 ?_)
          exact q_call (m_meets (by decide)) rfl
    · refine Ev.of (a := (-2, g)) ?_ (Ev.of (a := (-2, g)) ?_ ⟨rfl, hI⟩)
      · unfold f_X8_places
        exact q_call (c_has_1 e1 hp n24) (q_if_f (by decide) (q_if_f h4 rfl))
      · unfold f_X9_places
        exact q_call (m_is_1 e2 hp n24) (q_if_f (by decide) (q_if_f h4 rfl))
