/-! The round is added. -/
theorem T_rounds.add {np n dr M m cost : Nat} {d : Nat} {mk : Nat → Int32} {F F' : Nat → Nat → Int32} {R R' : Nat → Int32} {p : Nat → Bool} {W B : Nat → Nat} (hin : T_in np mk F R n) (hrd : T_rounds F R n dr) (d5 : dr < 6) (hd : d < 2 ^ 31) (hm : cn p M = m) (m1 : 1 ≤ m) (m5 : m ≤ 5)
    (f2 : F' 0 2 = nI (dr + 1)) (f4 : F' 4 dr = nI d) (f5 : F' 5 dr = nI m) (f6 : F' 6 dr = nI cost) (fo : ∀ j k, 4 ≤ j → j ≤ 6 → k ≠ dr → F' j k = F j k) (fp : ∀ j k, 7 ≤ j → j ≤ 8 → k < 5 * dr → F' j k = F j k) (fq : ∀ y, y < M → p y = true → F' 7 (5 * dr + cn p y) = nI (W y) ∧ F' 8 (5 * dr + cn p y) = nI (B y))
    (r25 : R' 25 = nI (dr + 1)) (r26 : R' (26 + dr) = nI d) (r32 : R' (32 + dr) = nI m) (r38 : R' (38 + dr) = nI cost) (r44 : R' (44 + dr) = nI cost / 1000000) (rq : ∀ y, y < M → p y = true → R' (50 + (5 * dr + cn p y)) = nI (W y) ∧ R' (80 + (5 * dr + cn p y)) = nI (B y)) (ro : ∀ k, k ≠ 25 → k ≠ 26 + dr → k ≠ 32 + dr → k ≠ 38 + dr → k ≠ 44 + dr → ¬ (50 + 5 * dr ≤ k ∧ k < 50 + 5 * dr + m) → ¬ (80 + 5 * dr ≤ k ∧ k < 80 + 5 * dr + m) → R' k = R k)
    (wi : ∀ y, y < M → p y = true → W y < 24 ∧ (∃ i, i < n ∧ R (1 + i) = nI (W y)) ∧ (B y = 99 ∨ (B y < 24 ∧ ∃ i, i < n ∧ R (1 + i) = nI (B y)))) (dd : ∀ y y', y < M → y' < M → p y = true → p y' = true → (W y = W y' → y = y') ∧ W y ≠ B y' ∧ (B y = B y' → B y ≠ 99 → y = y')) : T_rounds F' R' n (dr + 1) := by
  have n10 := hin.1
  obtain ⟨h1, h2, h3, h4, h5⟩ := hrd
  refine ⟨by omega, f2, r25, fun r hr => ?_, fun r hr1 hr2 => ?_⟩
  · by_cases e : r = dr
    · subst e
      refine ⟨m, m1, m5, f4.trans r26.symm, ?_, f5, r32, f6.trans r38.symm, r44.trans (by rw [r38]), fun k hk => ?_, fun k k' hk hk' q => ?_, fun k k' hk hk' q => ?_, fun k k' hk hk' q q99 => ?_, fun k hk hk' => ?_⟩
      · rw [r26]; exact nI_pos' hd
      · obtain ⟨o1, o2, o3⟩ := wf_ok p (N := M) (i := k) (by omega)
        have a1 := fq _ o1 o2
        have a2 := rq _ o1 o2
        obtain ⟨b1, ⟨i, hi, ei⟩, b3⟩ := wi _ o1 o2
        rw [o3] at a1 a2
        rw [a1.1, a1.2, a2.1, a2.2]
        refine ⟨rfl, rfl, ⟨i, hi, by rw [ro _ (by omega) (by omega) (by omega) (by omega) (by omega) (by omega) (by omega), ei]⟩, ?_⟩
        rcases b3 with z | ⟨-, j, hj, ej⟩
        · left; rw [z]; rfl
        · exact Or.inr ⟨j, hj, by rw [ro _ (by omega) (by omega) (by omega) (by omega) (by omega) (by omega) (by omega), ej]⟩
      · obtain ⟨o1, o2, o3⟩ := wf_ok p (N := M) (i := k) (by omega)
        obtain ⟨p1, p2, p3⟩ := wf_ok p (N := M) (i := k') (by omega)
        have a1 := rq _ o1 o2
        have a2 := rq _ p1 p2
        obtain ⟨b1, -⟩ := wi _ o1 o2
        obtain ⟨c1, -⟩ := wi _ p1 p2
        rw [o3] at a1
        rw [p3] at a2
        rw [a1.1, a2.1] at q
        have := (dd _ _ o1 p1 o2 p2).1 (nI_inj (by omega) (by omega) q)
        rw [← o3, ← p3, this]
      · obtain ⟨o1, o2, o3⟩ := wf_ok p (N := M) (i := k) (by omega)
        obtain ⟨p1, p2, p3⟩ := wf_ok p (N := M) (i := k') (by omega)
        have a1 := rq _ o1 o2
        have a2 := rq _ p1 p2
        obtain ⟨b1, -⟩ := wi _ o1 o2
        obtain ⟨-, -, c3⟩ := wi _ p1 p2
        rw [o3] at a1
        rw [p3] at a2
        rw [a1.1, a2.2] at q
        exact (dd _ _ o1 p1 o2 p2).2.1 (nI_inj (by omega) (by rcases c3 with z | z <;> omega) q)
      · obtain ⟨o1, o2, o3⟩ := wf_ok p (N := M) (i := k) (by omega)
        obtain ⟨p1, p2, p3⟩ := wf_ok p (N := M) (i := k') (by omega)
        have a1 := rq _ o1 o2
        have a2 := rq _ p1 p2
        obtain ⟨-, -, b3⟩ := wi _ o1 o2
        obtain ⟨-, -, c3⟩ := wi _ p1 p2
        rw [o3] at a1
        rw [p3] at a2
        rw [a1.2] at q99
        rw [a1.2, a2.2] at q
        have := (dd _ _ o1 p1 o2 p2).2.2 (nI_inj (by rcases b3 with z | z <;> omega) (by rcases c3 with z | z <;> omega) q) (fun z => q99 (by rw [z]; rfl))
        rw [← o3, ← p3, this]
      · have := (h5 r (Nat.le_refl _) d5).2.2.2.2 k hk'
        rw [ro _ (by omega) (by omega) (by omega) (by omega) (by omega) (by omega) (by omega), ro _ (by omega) (by omega) (by omega) (by omega) (by omega) (by omega) (by omega)]
        exact this
    · obtain ⟨m', hm'⟩ := h4 r (by omega)
      have m5' := hm'.2.1
      refine ⟨m', ?_⟩
      have q := hm'.cgr (R' := R') (fun i hi => ro _ (by omega) (by omega) (by omega) (by omega) (by omega) (by omega) (by omega)) (ro _ (by omega) (by omega) (by omega) (by omega) (by omega) (by omega) (by omega)) (ro _ (by omega) (by omega) (by omega) (by omega) (by omega) (by omega) (by omega)) (ro _ (by omega) (by omega) (by omega) (by omega) (by omega) (by omega) (by omega)) (ro _ (by omega) (by omega) (by omega) (by omega) (by omega) (by omega) (by omega)) (fun k hk => ⟨ro _ (by omega) (by omega) (by omega) (by omega) (by omega) (by omega) (by omega), ro _ (by omega) (by omega) (by omega) (by omega) (by omega) (by omega) (by omega)⟩)
      obtain ⟨a1, a2, a3, a4, a5, a6, a7, a8, a9, a10⟩ := q
      refine ⟨a1, a2, (fo 4 r (by omega) (by omega) e).trans a3, a4, (fo 5 r (by omega) (by omega) e).trans a5, a6, (fo 6 r (by omega) (by omega) e).trans a7, a8, fun k hk => ?_, a10⟩
      rw [fp 7 _ (by omega) (by omega) (by omega), fp 8 _ (by omega) (by omega) (by omega)]
      exact a9 k hk
  · have z := h5 r (by omega) hr2
    refine ⟨?_, ?_, ?_, ?_, fun k hk => ⟨?_, ?_⟩⟩
    · rw [ro _ (by omega) (by omega) (by omega) (by omega) (by omega) (by omega) (by omega)]; exact z.1
    · rw [ro _ (by omega) (by omega) (by omega) (by omega) (by omega) (by omega) (by omega)]; exact z.2.1
    · rw [ro _ (by omega) (by omega) (by omega) (by omega) (by omega) (by omega) (by omega)]; exact z.2.2.1
    · rw [ro _ (by omega) (by omega) (by omega) (by omega) (by omega) (by omega) (by omega)]; exact z.2.2.2.1
    · rw [ro _ (by omega) (by omega) (by omega) (by omega) (by omega) (by omega) (by omega)]; exact (z.2.2.2.2 k hk).1
    · rw [ro _ (by omega) (by omega) (by omega) (by omega) (by omega) (by omega) (by omega)]; exact (z.2.2.2.2 k hk).2
theorem T_entries.add {dr e : Nat} {F F' : Nat → Nat → Int32} {R R' : Nat → Int32} (h : T_entries F R dr e) (d5 : dr < 6) (e0 : F' 0 3 = F 0 3) (ee : ∀ j, 9 ≤ j → j ≤ 13 → F' j = F j) (e32 : ∀ r, r < dr → R' (32 + r) = R (32 + r)) (e80 : ∀ r k, r < dr → k < 5 → R' (80 + (5 * r + k)) = R (80 + (5 * r + k))) (eR : ∀ k, 110 ≤ k → k < 411 → R' k = R k) : T_entries F' R' (dr + 1) e := by
  obtain ⟨h1, h2, h3, h4, h5⟩ := h
  refine ⟨h1, e0.trans h2, (eR 110 (by omega) (by omega)).trans h3, fun x hx => ?_, fun x x1 x2 => ?_⟩
  · obtain ⟨⟨r, k, m, a1, a2, a3, a4, a5, a6⟩, b1, b2, b3, b4, b5, b6, b7, b8⟩ := h4 x hx
    unfold T_entry
    rw [ee 9 (by omega) (by omega), ee 10 (by omega) (by omega), ee 11 (by omega) (by omega), ee 12 (by omega) (by omega), ee 13 (by omega) (by omega), eR (111 + x) (by omega) (by omega), eR (171 + x) (by omega) (by omega), eR (231 + x) (by omega) (by omega), eR (291 + x) (by omega) (by omega), eR (351 + x) (by omega) (by omega)]
    exact ⟨⟨r, k, m, by omega, a2, a3, (e32 r a1).trans a4, a5, by rw [e80 r k a1 (by omega)]; exact a6⟩, b1, b2, b3, b4, b5, b6, b7, b8⟩
  · rw [eR (111 + x) (by omega) (by omega), eR (171 + x) (by omega) (by omega), eR (231 + x) (by omega) (by omega), eR (291 + x) (by omega) (by omega), eR (351 + x) (by omega) (by omega)]
    exact h5 x x1 x2
/-- the points of those who are drawn -/
theorem m_pts {t M d : Nat} {g : G} {who : Nat → Nat} {P : Nat → Int32} (M10 : M ≤ 10) (h30 : g 159 30 = nI M) (hwho : ∀ i, i < M → who i < 24 ∧ g 175 i = nI (who i)) (hP : ∀ s : G, (∀ a, a ≠ 177 → s a = g a) → ∀ p, p < 24 → f_X9_pointsOf (nI t) (nI p) (nI d) (nI d) s = some (P p, s)) : Ev (lp (fun (s20 : Int32 × G) => (if (s20.2 159 30) ≤ s20.1 then some (.inr (s20.2)) else ck s20.1 10 fun j24 => bd2 (f_X9_pointsOf (nI t) (s20.2 175 j24) (nI d) (nI d) s20.2) fun r25 g26 => ck s20.1 10 fun j27 => wr (up2 g26 177 j27 r25) fun g28 => some (.inl ((s20.1 + (1 : Int32)), g28)) : Option ((Int32 × G) ⊕ (G)))) 2000 ((0 : Int32), g)) (fun s => (∀ a, a ≠ 177 → s a = g a) ∧ ∀ i, i < M → s 177 i = P (who i)) := by
  refine ev_lp (I := fun i s => s.1 = nI i ∧ (∀ a, a ≠ 177 → s.2 a = g a) ∧ ∀ j, j < i → s.2 177 j = P (who j)) M ?_ ?_ 2000 0 _ (Nat.zero_le _) (by omega) ⟨rfl, fun _ _ => rfl, fun j hj => absurd hj (Nat.not_lt_zero j)⟩
  · rintro i ⟨x, s⟩ hi ⟨rfl, h1, h2⟩
    dsimp only at h1 h2
    obtain ⟨w1, w2⟩ := hwho i hi
    have s30 : s 159 30 = nI M := by rw [h1 159 (by decide)]; exact h30
    have s175 : s 175 i = nI (who i) := by rw [h1 175 (by decide)]; exact w2
    have hp := hP s h1 _ w1
    refine Ev.of (a := .inl (nI (i + 1), up2 s 177 i (P (who i)))) ?_ ⟨rfl, fun a ha => ?_, fun j hj => ?_⟩
    · dsimp only
      refine q_if_f (by rw [s30]; exact nI_ge hi (by omega)) ?_
      refine q_ck i rfl (by omega) (by decide) ?_
      rw [s175]
      refine q_call hp ?_
      refine q_ck i rfl (by omega) (by decide) ?_
      refine q_wr ?_
      rw [nI_1]
    · dsimp only
      rw [up2_ne ha]; exact h1 a ha
    · dsimp only
      rw [up2_eq]
      by_cases e : j = i
      · subst e; rw [upd_eq]
      · rw [upd_ne e]; exact h2 j (by omega)
  · rintro ⟨x, s⟩ ⟨rfl, h1, h2⟩
    dsimp only at h1 h2
    have s30 : s 159 30 = nI M := by rw [h1 159 (by decide)]; exact h30
    exact Ev.of (a := .inr s) (q_if_t (by show s 159 30 ≤ nI M; rw [s30]; exact Int32.le_refl _) rfl) ⟨h1, h2⟩
/-- the pairs are of different ones, who are in -/
theorem prs_ok {M C : Nat} {c : Nat → Nat → Nat} {al : Nat → Nat} {who : Nat → Nat} {tn : Nat → Nat → Nat} (hc : ∀ i j, i < j → j < M → c i j ≤ C) (ha : ∀ i, i < M → al i ≤ C) (hC : M * C < 2147483647) (M10 : M ≤ 10) (w24 : ∀ x, x < M → who x < 24) (hne : ∀ x y, x < M → y < M → who x = who y → x = y) {I : Nat → Prop} (hI : ∀ x, x < M → I (who x)) : (∀ y, y < M → pf M c al y = true → wPl who tn (wy M c al) y < 24 ∧ I (wPl who tn (wy M c al) y) ∧ (bPl who tn (wy M c al) y = 99 ∨ (bPl who tn (wy M c al) y < 24 ∧ I (bPl who tn (wy M c al) y)))) ∧ ∀ y y', y < M → y' < M → pf M c al y = true → pf M c al y' = true → (wPl who tn (wy M c al) y = wPl who tn (wy M c al) y' → y = y') ∧ wPl who tn (wy M c al) y ≠ bPl who tn (wy M c al) y' ∧ (bPl who tn (wy M c al) y = bPl who tn (wy M c al) y' → bPl who tn (wy M c al) y ≠ 99 → y = y') := by
  -- each pair: spots a and b, b may be nobody
  have sp : ∀ y, y < M → pf M c al y = true → ∃ a b, wPl who tn (wy M c al) y = who a ∧ a < M ∧ ((b = 10 ∧ bPl who tn (wy M c al) y = 99 ∧ a = y ∧ wy M c al y = 10) ∨ (b < M ∧ bPl who tn (wy M c al) y = who b ∧ wy M c al y ≠ 10 ∧ wy M c al y < M ∧ y < wy M c al y ∧ ((a = y ∧ b = wy M c al y) ∨ (a = wy M c al y ∧ b = y)))) := by
    intro y hy py
    obtain ⟨-, -, -, h⟩ := pf_ok hc ha hC M10 hy py
    unfold wPl bPl
    rcases h with ⟨w10, -⟩ | ⟨k1, k2, -⟩
    · exact ⟨y, 10, by rw [if_pos w10], hy, Or.inl ⟨rfl, by rw [if_pos w10], rfl, w10⟩⟩
    · have n10 : ¬ wy M c al y = 10 := by omega
      rw [if_neg n10, if_neg n10]
      by_cases t1 : tn y (wy M c al y) = 1
      · rw [if_pos t1, if_pos t1]
        exact ⟨wy M c al y, y, rfl, k2, Or.inr ⟨hy, rfl, n10, k2, k1, Or.inr ⟨rfl, rfl⟩⟩⟩
      · rw [if_neg t1, if_neg t1]
        exact ⟨y, wy M c al y, rfl, hy, Or.inr ⟨k2, rfl, n10, k2, k1, Or.inl ⟨rfl, rfl⟩⟩⟩
  refine ⟨fun y hy py => ?_, fun y y' hy hy' py py' => ?_⟩
  · obtain ⟨a, b, e1, a1, h⟩ := sp y hy py
    rw [e1]
    refine ⟨w24 a a1, hI a a1, ?_⟩
    rcases h with ⟨-, z, -⟩ | ⟨z1, z2, -⟩
    · exact Or.inl z
    · rw [z2]; exact Or.inr ⟨w24 b z1, hI b z1⟩
  · obtain ⟨a, b, e1, a1, h⟩ := sp y hy py
    obtain ⟨a', b', e1', a1', h'⟩ := sp y' hy' py'
    have dis : wy M c al y ≠ 10 → wy M c al y ≠ y' ∧ (wy M c al y = wy M c al y' → y = y') := fun q => wy_dis hc ha hC M10 hy hy' py py' q
    have dis' : wy M c al y' ≠ 10 → wy M c al y' ≠ y ∧ (wy M c al y' = wy M c al y → y' = y) := fun q => wy_dis hc ha hC M10 hy' hy py' py q
    rw [e1, e1']
    refine ⟨fun q => ?_, fun q => ?_, fun q q99 => ?_⟩
    · have q := hne _ _ a1 a1' q
      rcases h with ⟨z1, z2, z3, z4⟩ | ⟨z1, z2, z3, z4, z5, z6⟩
      · rcases h' with ⟨y1, y2, y3, y4⟩ | ⟨y1, y2, y3, y4, y5, y6⟩
        · omega
        · have := dis' y3
          omega
      · have d1 := dis z3
        rcases h' with ⟨y1, y2, y3, y4⟩ | ⟨y1, y2, y3, y4, y5, y6⟩
        · omega
        · have d2 := dis' y3
          rcases z6 with ⟨s1, s2⟩ | ⟨s1, s2⟩ <;> rcases y6 with ⟨u1, u2⟩ | ⟨u1, u2⟩
          · omega
          · omega
          · omega
          · exact d1.2 (by omega)
    · rcases h' with ⟨y1, y2, y3, y4⟩ | ⟨y1, y2, y3, y4, y5, y6⟩
      · rw [y2] at q
        have := w24 a a1
        omega
      · rw [y2] at q
        have q := hne _ _ a1 y1 q
        have d2 := dis' y3
        rcases h with ⟨z1, z2, z3, z4⟩ | ⟨z1, z2, z3, z4, z5, z6⟩
        · rcases y6 with ⟨u1, u2⟩ | ⟨u1, u2⟩
          · omega
          · -- y = y'
            have : y = y' := by omega
            subst this
            omega
        · have d1 := dis z3
          rcases z6 with ⟨s1, s2⟩ | ⟨s1, s2⟩ <;> rcases y6 with ⟨u1, u2⟩ | ⟨u1, u2⟩
          · omega
          · have : y = y' := by omega
            subst this
            obtain ⟨a0, b0, f1, -, f2⟩ := sp y hy py
            have : wPl who tn (wy M c al) y = bPl who tn (wy M c al) y := by rw [e1, y2, q]
            rw [e1] at e1'
            have := hne _ _ a1 a1' e1'
            omega
          · have := d1.2 (by omega)
            subst this
            rw [e1] at e1'
            have := hne _ _ a1 a1' e1'
            omega
          · omega
    · rcases h with ⟨z1, z2, z3, z4⟩ | ⟨z1, z2, z3, z4, z5, z6⟩
      · exact absurd z2 q99
      · rcases h' with ⟨y1, y2, y3, y4⟩ | ⟨y1, y2, y3, y4, y5, y6⟩
        · rw [z2, y2] at q
          have := w24 b z1
          omega
        · rw [z2, y2] at q
          have q := hne _ _ z1 y1 q
          have d1 := dis z3
          have d2 := dis' y3
          rcases z6 with ⟨s1, s2⟩ | ⟨s1, s2⟩ <;> rcases y6 with ⟨u1, u2⟩ | ⟨u1, u2⟩
          · exact d1.2 (by omega)
          · omega
          · omega
          · omega
