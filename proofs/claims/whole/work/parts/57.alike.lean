/-! The call alike: rows and blocks. -/
theorem i32_cancel {a b : Int32} (h : a + 1 = b + 1) : a = b := by
  have := congrArg (fun x => x - 1) h
  rw [Int32.add_sub_cancel, Int32.add_sub_cancel] at this
  exact this
theorem T_entry.b13 {F : Nat → Nat → Int32} {R : Nat → Int32} {dr x : Nat} (h : T_entry F R dr x) : R (351 + x) = F 13 x + 1 := by
  rcases h.2.2.2.2.2.2.2.2 with ⟨a, b⟩ | ⟨a, b⟩
  · rw [a, b]; rfl
  · exact b
/-- the status of who came as k-th -/
theorem T_in.st {np n k p : Nat} {mk : Nat → Int32} {F : Nat → Nat → Int32} {R : Nat → Int32} (h : T_in np mk F R n) (hk : k < n) (hp : p < 24) (e : R (1 + k) = nI p) : F 2 p = R (11 + k) + 1 := by
  rcases h.2.2.2.2.2.2.2 p hp with ⟨-, z⟩ | ⟨j, hj, ej, z⟩
  · exact absurd e (z k hk)
  · have : j = k := h.2.2.2.2.1 j k hj hk (ej.trans e.symm)
    subst this
    exact z
theorem like_row {np n dr e n' dr' e' : Nat} {mk : Nat → Int32} {F F' : Nat → Nat → Int32} {R R' : Nat → Int32} (h24 : np ≤ 24) (hin : T_in np mk F R n) (hsm : T_sum F R) (hrd : T_rounds F R n dr) (hen : T_entries F R dr e) (hin' : T_in np mk F' R' n') (hsm' : T_sum F' R') (hrd' : T_rounds F' R' n' dr') (hen' : T_entries F' R' dr' e') (h : LkC n dr e F F') : ∀ k, k < 411 → R k = R' k := by
  obtain ⟨⟨c1, c2, c3⟩, b1, b2, b3, ⟨b4, b5, b6⟩, b7, b9, b10, b11, b12, b13⟩ := h
  have n10 := hin.1
  have n10' := hin'.1
  have d6 := hrd.1
  have d6' := hrd'.1
  have e60 := hen.1
  have e60' := hen'.1
  have en : n' = n := nI_inj (by omega) (by omega) (hin'.2.1.symm.trans (c1.symm.trans hin.2.1))
  have ed : dr' = dr := nI_inj (by omega) (by omega) (hrd'.2.1.symm.trans (c2.symm.trans hrd.2.1))
  have ee : e' = e := nI_inj (by omega) (by omega) (hen'.2.1.symm.trans (c3.symm.trans hen.2.1))
  subst en
  subst ed
  subst ee
  have r1 : ∀ i, i < n' → R (1 + i) = R' (1 + i) := fun i hi => (hin.2.2.2.1 i hi).1.symm.trans ((b1 i hi).trans (hin'.2.2.2.1 i hi).1)
  have rnd : ∀ r, r < dr' → ∃ m, T_round F R n' r m ∧ T_round F' R' n' r m := by
    intro r hr
    obtain ⟨m, hm⟩ := hrd.2.2.2.1 r hr
    obtain ⟨m', hm'⟩ := hrd'.2.2.2.1 r hr
    have : m' = m := nI_inj (by have := hm'.2.1; omega) (by have := hm.2.1; omega) (hm'.2.2.2.2.1.symm.trans ((b5 r hr).symm.trans hm.2.2.2.2.1))
    subst this
    exact ⟨m', hm, hm'⟩
  intro k hk
  by_cases k0 : k = 0
  · subst k0
    rw [hin.2.2.1, hin'.2.2.1]
  by_cases k10 : k < 11
  · obtain ⟨i, rfl⟩ : ∃ i, k = 1 + i := ⟨k - 1, by omega⟩
    by_cases hi : i < n'
    · exact r1 i hi
    · rw [(hin.2.2.2.2.2.2.1 i (by omega) (by omega)).1, (hin'.2.2.2.2.2.2.1 i (by omega) (by omega)).1]
  by_cases k20 : k < 21
  · obtain ⟨i, rfl⟩ : ∃ i, k = 11 + i := ⟨k - 11, by omega⟩
    by_cases hi : i < n'
    · obtain ⟨-, p, hp, ep, -⟩ := hin.2.2.2.1 i hi
      have s1 := hin.st hi (show p < 24 by omega) ep
      have s2 := hin'.st hi (show p < 24 by omega) ((r1 i hi).symm.trans ep)
      refine i32_cancel ?_
      rw [← s1, ← s2, b2 p (by omega)]
    · rw [(hin.2.2.2.2.2.2.1 i (by omega) (by omega)).2, (hin'.2.2.2.2.2.2.1 i (by omega) (by omega)).2]
  by_cases k24 : k < 25
  · obtain ⟨i, rfl⟩ : ∃ i, k = 21 + i := ⟨k - 21, by omega⟩
    rw [← (hsm.2 i (by omega)).1, ← (hsm'.2 i (by omega)).1, b3 (i + 1) (by omega)]
  by_cases k25 : k = 25
  · subst k25
    rw [hrd.2.2.1, hrd'.2.2.1]
  by_cases k31 : k < 32
  · obtain ⟨r, rfl⟩ : ∃ r, k = 26 + r := ⟨k - 26, by omega⟩
    by_cases hr : r < dr'
    · obtain ⟨m, hm, hm'⟩ := rnd r hr
      rw [← hm.2.2.1, ← hm'.2.2.1, b4 r hr]
    · rw [(hrd.2.2.2.2 r (by omega) (by omega)).1, (hrd'.2.2.2.2 r (by omega) (by omega)).1]
  by_cases k37 : k < 38
  · obtain ⟨r, rfl⟩ : ∃ r, k = 32 + r := ⟨k - 32, by omega⟩
    by_cases hr : r < dr'
    · obtain ⟨m, hm, hm'⟩ := rnd r hr
      rw [hm.2.2.2.2.2.1, hm'.2.2.2.2.2.1]
    · rw [(hrd.2.2.2.2 r (by omega) (by omega)).2.1, (hrd'.2.2.2.2 r (by omega) (by omega)).2.1]
  have r38 : ∀ r, r < 6 → R (38 + r) = R' (38 + r) := by
    intro r h6
    by_cases hr : r < dr'
    · obtain ⟨m, hm, hm'⟩ := rnd r hr
      rw [← hm.2.2.2.2.2.2.1, ← hm'.2.2.2.2.2.2.1, b6 r hr]
    · rw [(hrd.2.2.2.2 r (by omega) (by omega)).2.2.1, (hrd'.2.2.2.2 r (by omega) (by omega)).2.2.1]
  by_cases k43 : k < 44
  · obtain ⟨r, rfl⟩ : ∃ r, k = 38 + r := ⟨k - 38, by omega⟩
    exact r38 r (by omega)
  by_cases k49 : k < 50
  · obtain ⟨r, rfl⟩ : ∃ r, k = 44 + r := ⟨k - 44, by omega⟩
    by_cases hr : r < dr'
    · obtain ⟨m, hm, hm'⟩ := rnd r hr
      rw [hm.2.2.2.2.2.2.2.1, hm'.2.2.2.2.2.2.2.1, r38 r (by omega)]
    · rw [(hrd.2.2.2.2 r (by omega) (by omega)).2.2.2.1, (hrd'.2.2.2.2 r (by omega) (by omega)).2.2.2.1]
  by_cases k79 : k < 80
  · obtain ⟨r, i, hr6, hi5, rfl⟩ : ∃ r i, r < 6 ∧ i < 5 ∧ k = 50 + (5 * r + i) := ⟨(k - 50) / 5, (k - 50) % 5, by omega, by omega, by omega⟩
    by_cases hr : r < dr'
    · obtain ⟨m, hm, hm'⟩ := rnd r hr
      by_cases hi : i < m
      · rw [← (hm.2.2.2.2.2.2.2.2.1 i hi).1, ← (hm'.2.2.2.2.2.2.2.2.1 i hi).1]
        exact (b7 r hr m hm.2.2.2.2.1 hm.2.1).1 i hi
      · rw [(hm.2.2.2.2.2.2.2.2.2.2.2.2 i (by omega) hi5).1, (hm'.2.2.2.2.2.2.2.2.2.2.2.2 i (by omega) hi5).1]
    · rw [((hrd.2.2.2.2 r (by omega) (by omega)).2.2.2.2 i hi5).1, ((hrd'.2.2.2.2 r (by omega) (by omega)).2.2.2.2 i hi5).1]
  by_cases k109 : k < 110
  · obtain ⟨r, i, hr6, hi5, rfl⟩ : ∃ r i, r < 6 ∧ i < 5 ∧ k = 80 + (5 * r + i) := ⟨(k - 80) / 5, (k - 80) % 5, by omega, by omega, by omega⟩
    by_cases hr : r < dr'
    · obtain ⟨m, hm, hm'⟩ := rnd r hr
      by_cases hi : i < m
      · rw [← (hm.2.2.2.2.2.2.2.2.1 i hi).2.1, ← (hm'.2.2.2.2.2.2.2.2.1 i hi).2.1]
        exact (b7 r hr m hm.2.2.2.2.1 hm.2.1).2 i hi
      · rw [(hm.2.2.2.2.2.2.2.2.2.2.2.2 i (by omega) hi5).2, (hm'.2.2.2.2.2.2.2.2.2.2.2.2 i (by omega) hi5).2]
    · rw [((hrd.2.2.2.2 r (by omega) (by omega)).2.2.2.2 i hi5).2, ((hrd'.2.2.2.2 r (by omega) (by omega)).2.2.2.2 i hi5).2]
  by_cases k110 : k = 110
  · subst k110
    rw [hen.2.2.1, hen'.2.2.1]
  by_cases k170 : k < 171
  · obtain ⟨x, rfl⟩ : ∃ x, k = 111 + x := ⟨k - 111, by omega⟩
    by_cases hx : x < e'
    · rw [← (hen.2.2.2.1 x hx).2.1, ← (hen'.2.2.2.1 x hx).2.1, b9 x hx]
    · rw [(hen.2.2.2.2 x (by omega) (by omega)).1, (hen'.2.2.2.2 x (by omega) (by omega)).1]
  by_cases k230 : k < 231
  · obtain ⟨x, rfl⟩ : ∃ x, k = 171 + x := ⟨k - 171, by omega⟩
    by_cases hx : x < e'
    · rw [← (hen.2.2.2.1 x hx).2.2.1, ← (hen'.2.2.2.1 x hx).2.2.1, b10 x hx]
    · rw [(hen.2.2.2.2 x (by omega) (by omega)).2.1, (hen'.2.2.2.2 x (by omega) (by omega)).2.1]
  by_cases k290 : k < 291
  · obtain ⟨x, rfl⟩ : ∃ x, k = 231 + x := ⟨k - 231, by omega⟩
    by_cases hx : x < e'
    · rw [← (hen.2.2.2.1 x hx).2.2.2.2.1, ← (hen'.2.2.2.1 x hx).2.2.2.2.1, b11 x hx]
    · rw [(hen.2.2.2.2 x (by omega) (by omega)).2.2.1, (hen'.2.2.2.2 x (by omega) (by omega)).2.2.1]
  by_cases k350 : k < 351
  · obtain ⟨x, rfl⟩ : ∃ x, k = 291 + x := ⟨k - 291, by omega⟩
    by_cases hx : x < e'
    · rw [← (hen.2.2.2.1 x hx).2.2.2.2.2.2.1, ← (hen'.2.2.2.1 x hx).2.2.2.2.2.2.1, b12 x hx]
    · rw [(hen.2.2.2.2 x (by omega) (by omega)).2.2.2.1, (hen'.2.2.2.2 x (by omega) (by omega)).2.2.2.1]
  · obtain ⟨x, rfl⟩ : ∃ x, k = 351 + x := ⟨k - 351, by omega⟩
    by_cases hx : x < e'
    · rw [(hen.2.2.2.1 x hx).b13, (hen'.2.2.2.1 x hx).b13, b13 x hx]
    · rw [(hen.2.2.2.2 x (by omega) (by omega)).2.2.2.2, (hen'.2.2.2.2 x (by omega) (by omega)).2.2.2.2]
theorem like_blk {np n dr e n' dr' e' : Nat} {mk : Nat → Int32} {F F' : Nat → Nat → Int32} {R R' : Nat → Int32} (h24 : np ≤ 24) (hin : T_in np mk F R n) (hsm : T_sum F R) (hrd : T_rounds F R n dr) (hen : T_entries F R dr e) (hin' : T_in np mk F' R' n') (hsm' : T_sum F' R') (hrd' : T_rounds F' R' n' dr') (hen' : T_entries F' R' dr' e') (h : ∀ k, k < 411 → R k = R' k) : LkC n dr e F F' := by
  have n10 := hin.1
  have n10' := hin'.1
  have d6 := hrd.1
  have d6' := hrd'.1
  have e60 := hen.1
  have e60' := hen'.1
  have en : n' = n := nI_inj (by omega) (by omega) (hin'.2.2.1.symm.trans ((h 0 (by omega)).symm.trans hin.2.2.1))
  have ed : dr' = dr := nI_inj (by omega) (by omega) (hrd'.2.2.1.symm.trans ((h 25 (by omega)).symm.trans hrd.2.2.1))
  have ee : e' = e := nI_inj (by omega) (by omega) (hen'.2.2.1.symm.trans ((h 110 (by omega)).symm.trans hen.2.2.1))
  subst en
  subst ed
  subst ee
  have rnd : ∀ r, r < dr' → ∃ m, T_round F R n' r m ∧ T_round F' R' n' r m := by
    intro r hr
    obtain ⟨m, hm⟩ := hrd.2.2.2.1 r hr
    obtain ⟨m', hm'⟩ := hrd'.2.2.2.1 r hr
    have : m' = m := nI_inj (by have := hm'.2.1; omega) (by have := hm.2.1; omega) (hm'.2.2.2.2.2.1.symm.trans ((h (32 + r) (by omega)).symm.trans hm.2.2.2.2.2.1))
    subst this
    exact ⟨m', hm, hm'⟩
  refine ⟨⟨hin.2.1.trans hin'.2.1.symm, hrd.2.1.trans hrd'.2.1.symm, hen.2.1.trans hen'.2.1.symm⟩, fun k hk => ?_, fun p hp => ?_, fun k hk => ?_, ⟨fun r hr => ?_, fun r hr => ?_, fun r hr => ?_⟩, fun r hr m em m5 => ?_, fun x hx => ?_, fun x hx => ?_, fun x hx => ?_, fun x hx => ?_, fun x hx => ?_⟩
  · rw [(hin.2.2.2.1 k hk).1, (hin'.2.2.2.1 k hk).1, h _ (by omega)]
  · rcases hin.2.2.2.2.2.2.2 p hp with ⟨z1, z2⟩ | ⟨j, hj, ej, z⟩
    · rcases hin'.2.2.2.2.2.2.2 p hp with ⟨y1, y2⟩ | ⟨j, hj, ej, y⟩
      · rw [z1, y1]
      · exact absurd ((h (1 + j) (by omega)).trans ej) (z2 j hj)
    · have y := hin'.st hj hp ((h (1 + j) (by omega)).symm.trans ej)
      rw [z, y, h (11 + j) (by omega)]
  · by_cases k0 : k = 0
    · subst k0
      rw [hsm.1, hsm'.1]
    · have e1 := (hsm.2 (k - 1) (by omega)).1
      have e2 := (hsm'.2 (k - 1) (by omega)).1
      rw [show k - 1 + 1 = k from by omega] at e1 e2
      rw [e1, e2, h _ (by omega)]
  · obtain ⟨m, hm, hm'⟩ := rnd r hr
    rw [hm.2.2.1, hm'.2.2.1, h _ (by omega)]
  · obtain ⟨m, hm, hm'⟩ := rnd r hr
    rw [hm.2.2.2.2.1, hm'.2.2.2.2.1]
  · obtain ⟨m, hm, hm'⟩ := rnd r hr
    rw [hm.2.2.2.2.2.2.1, hm'.2.2.2.2.2.2.1, h _ (by omega)]
  · obtain ⟨m', hm, hm'⟩ := rnd r hr
    have : m' = m := nI_inj (by have := hm.2.1; omega) (by omega) (hm.2.2.2.2.1.symm.trans em)
    subst this
    refine ⟨fun i hi => ?_, fun i hi => ?_⟩
    · rw [(hm.2.2.2.2.2.2.2.2.1 i hi).1, (hm'.2.2.2.2.2.2.2.2.1 i hi).1, h _ (by omega)]
    · rw [(hm.2.2.2.2.2.2.2.2.1 i hi).2.1, (hm'.2.2.2.2.2.2.2.2.1 i hi).2.1, h _ (by omega)]
  · rw [(hen.2.2.2.1 x hx).2.1, (hen'.2.2.2.1 x hx).2.1, h _ (by omega)]
  · rw [(hen.2.2.2.1 x hx).2.2.1, (hen'.2.2.2.1 x hx).2.2.1, h _ (by omega)]
  · rw [(hen.2.2.2.1 x hx).2.2.2.2.1, (hen'.2.2.2.1 x hx).2.2.2.2.1, h _ (by omega)]
  · rw [(hen.2.2.2.1 x hx).2.2.2.2.2.2.1, (hen'.2.2.2.1 x hx).2.2.2.2.2.2.1, h _ (by omega)]
  · refine i32_cancel ?_
    rw [← (hen.2.2.2.1 x hx).b13, ← (hen'.2.2.2.1 x hx).b13, h _ (by omega)]
def feq (R R' : Nat → Int32) : Nat → Int32
  | 0 => nI 1
  | i + 1 => if feq R R' i = nI 0 then nI 0 else if R i = R' i then nI 1 else nI 0
theorem feq_ok (R R' : Nat → Int32) (n : Nat) : (feq R R' n = nI 1 ∧ ∀ k, k < n → R k = R' k) ∨ (feq R R' n = nI 0 ∧ ¬ ∀ k, k < n → R k = R' k) := by
  induction n with
  | zero => exact Or.inl ⟨rfl, fun k hk => absurd hk (Nat.not_lt_zero k)⟩
  | succ n ih =>
    rw [feq]
    rcases ih with ⟨e, h⟩ | ⟨e, h⟩
    · rw [e, if_neg (by decide)]
      by_cases q : R n = R' n
      · rw [if_pos q]
        refine Or.inl ⟨rfl, fun k hk => ?_⟩
        by_cases z : k = n
        · subst z; exact q
        · exact h k (by omega)
      · rw [if_neg q]
        exact Or.inr ⟨rfl, fun hh => q (hh n (by omega))⟩
    · rw [e, if_pos rfl]
      exact Or.inr ⟨rfl, fun hh => h (fun k hk => hh k (by omega))⟩
theorem sp_alike : Sp2 Inv f_X8_alike f_X9_alike := by
  refine Sp2.to (fun a1 a2 g hI => ?_)
  obtain ⟨np, nt, h24, h4, e1, e2, ec, em, es, hP, hT⟩ := hI.pre
  rcases c_isT (a := a1) (s := g) h4 ec with ⟨q, hno⟩ | ⟨t, htn, rfl, q⟩
  · refine ⟨-nI 2, g, g, ?_, ?_, hI⟩
    · unfold f_X8_alike
      exact q_call q (q_if_t rfl rfl)
    · rcases m_isT (a := a1) (s := g) h4 em with ⟨q', -⟩ | ⟨t, htn, e, -⟩
      · unfold f_X9_alike
        exact q_call q' (q_if_t rfl rfl)
      · exact absurd e (hno t htn)
  · have mq : f_X9_isTournament (nI t) g = some (nI 1, g) := by
      rcases m_isT (a := nI t) (s := g) h4 em with ⟨-, q'⟩ | ⟨-, -, -, q'⟩
      · exact absurd rfl (q' t htn)
      · exact q'
    rcases c_isT (a := a2) (s := g) h4 ec with ⟨p, hno⟩ | ⟨u, hun, rfl, p⟩
    · refine ⟨-nI 2, g, g, ?_, ?_, hI⟩
      · unfold f_X8_alike
        exact q_call q (q_if_f (by decide) (q_call p (q_if_t rfl rfl)))
      · rcases m_isT (a := a2) (s := g) h4 em with ⟨q', -⟩ | ⟨t, htn, e, -⟩
        · unfold f_X9_alike
          exact q_call mq (q_if_f (by decide) (q_call q' (q_if_t rfl rfl)))
        · exact absurd e (hno t htn)
    · have mp : f_X9_isTournament (nI u) g = some (nI 1, g) := by
        rcases m_isT (a := nI u) (s := g) h4 em with ⟨-, q'⟩ | ⟨-, -, -, q'⟩
        · exact absurd rfl (q' u hun)
        · exact q'
      obtain ⟨n, dr, e, q0, hin, hsm, hrd, hen⟩ := hT t htn
      obtain ⟨n', dr', e', q0', hin', hsm', hrd', hen'⟩ := hT u hun
      have hF : LkC n dr e (fun j => g (47 + 28 * t + j)) (fun j => g (47 + 28 * u + j)) ↔ LkC n dr e (blkT g t) (blkT g u) := by
        have x : ∀ (t : Nat) j, j < 14 → blkT g t j = g (47 + 28 * t + j) := fun t j hj => blkT_get hj
        unfold LkC
        simp only [x t _ (show 0 < 14 by decide), x t _ (show 1 < 14 by decide), x t _ (show 2 < 14 by decide), x t _ (show 3 < 14 by decide), x t _ (show 4 < 14 by decide), x t _ (show 5 < 14 by decide), x t _ (show 6 < 14 by decide), x t _ (show 7 < 14 by decide), x t _ (show 8 < 14 by decide), x t _ (show 9 < 14 by decide), x t _ (show 10 < 14 by decide), x t _ (show 11 < 14 by decide), x t _ (show 12 < 14 by decide), x t _ (show 13 < 14 by decide), x u _ (show 0 < 14 by decide), x u _ (show 1 < 14 by decide), x u _ (show 2 < 14 by decide), x u _ (show 3 < 14 by decide), x u _ (show 4 < 14 by decide), x u _ (show 5 < 14 by decide), x u _ (show 6 < 14 by decide), x u _ (show 7 < 14 by decide), x u _ (show 8 < 14 by decide), x u _ (show 9 < 14 by decide), x u _ (show 10 < 14 by decide), x u _ (show 11 < 14 by decide), x u _ (show 12 < 14 by decide), x u _ (show 13 < 14 by decide)]
      have cl := c_isLike (t0 := 47 + 28 * t) (t1 := 47 + 28 * u) (g := g) hin.1 hin.2.1 hrd.1 hrd.2.1 hen.1 hen.2.1 (fun r hr => by
        obtain ⟨m, hm⟩ := hrd.2.2.2.1 r hr
        exact ⟨m, hm.2.1, by rw [bk_j g t 5 (by decide)]; exact hm.2.2.2.2.1⟩)
      have ml : lp (fun (s10 : Int32 × Int32 × G) => (if (411 : Int32) ≤ s10.2.1 then some (.inr (s10.1, s10.2.2)) else bd ((if s10.1 = 0 then some (.inl (s10.2.1, s10.2.2)) else bd2 (f_X9_cell (nI t) s10.2.1 s10.2.2) fun r19 g20 => bd2 (f_X9_cell (nI u) s10.2.1 g20) fun r21 g22 => if r19 = r21 then some (.inr (.inl ((1 : Int32), (s10.2.1 + (1 : Int32)), g22))) else some (.inl (s10.2.1, g22)) : Option ((Int32 × G) ⊕ ((Int32 × Int32 × G) ⊕ (Int32 × G))))) fun s24m => (match s24m with | .inl s17 => (some (.inl ((0 : Int32), (s17.1 + (1 : Int32)), s17.2))) | .inr y => some y) : Option ((Int32 × Int32 × G) ⊕ (Int32 × G)))) 2000 ((1 : Int32), (0 : Int32), g) = some (feq (rowT g t) (rowT g u) 411, g) := by
        refine q_lp (fun i => (feq (rowT g t) (rowT g u) i, nI i, g)) 411 (fun i hi => ?_) ?_ (by omega) rfl
        · have c1 : f_X9_cell (nI t) (nI i) g = some (rowT g t i, g) := by simp (disch := omega) only [bd2_s, bd_s, wr_s, ck_s, bz_s0, bz_s1, dz_s, nI_litS, nI_add, pk_mul, pk_sub, nI_leI, nI_ltI, nI_eq, ng_lt, ng_le, lt_ng, le_ng, eq_ng, ng_eq, ng_ngE, ng_ngL, ng_ngl, sub1_lt, sub1_ng, eq_self, if_pos, if_neg, if_true, if_false, Nat.zero_add, Nat.add_zero, f_X9_cell, rw_k g t]
          have c2 : f_X9_cell (nI u) (nI i) g = some (rowT g u i, g) := by simp (disch := omega) only [bd2_s, bd_s, wr_s, ck_s, bz_s0, bz_s1, dz_s, nI_litS, nI_add, pk_mul, pk_sub, nI_leI, nI_ltI, nI_eq, ng_lt, ng_le, lt_ng, le_ng, eq_ng, ng_eq, ng_ngE, ng_ngL, ng_ngl, sub1_lt, sub1_ng, eq_self, if_pos, if_neg, if_true, if_false, Nat.zero_add, Nat.add_zero, f_X9_cell, rw_k g u]
          rw [feq]
          dsimp only
          refine q_if_f (by rw [l_411]; exact nI_ge hi (by omega)) ?_
          by_cases f0 : feq (rowT g t) (rowT g u) i = nI 0
          · rw [if_pos f0]
            exact q_bd (a := .inl (nI i, g)) (q_if_t f0 rfl) (by dsimp only; rw [nI_1]; rfl)
          · rw [if_neg f0]
            by_cases ee : rowT g t i = rowT g u i
            · rw [if_pos ee]
              exact q_bd (a := .inr (.inl (nI 1, nI i + 1, g))) (q_if_f f0 (q_call c1 (q_call c2 (q_if_t ee rfl)))) (by dsimp only; rw [nI_1])
            · rw [if_neg ee]
              exact q_bd (a := .inl (nI i, g)) (q_if_f f0 (q_call c1 (q_call c2 (q_if_f ee rfl)))) (by dsimp only; rw [nI_1]; rfl)
        · generalize feq (rowT g t) (rowT g u) 411 = z
          refine q_if_t ?_ rfl
          rw [l_411]
          exact Int32.le_refl _
      have c8 : ∀ x : Int32, (x = nI 0 ∨ x = nI 1) → f_X7_isLike (47 + 28 * t) (47 + 28 * u) g = some (x, g) → f_X8_alike (nI t) (nI u) g = some (x, g) := by
        intro x hx hl
        unfold f_X8_alike
        refine q_call q (q_if_f (by decide) ?_)
        refine q_call p (q_if_f (by decide) ?_)
        refine q_ck t rfl (by omega) (by decide) ?_
        refine q_wr ?_
        refine q_ck u rfl (by omega) (by decide) ?_
        refine q_wr ?_
        refine q_call hl ?_
        rcases hx with rfl | rfl <;> rfl
      have c9 : ∀ x : Int32, (x = nI 0 ∨ x = nI 1) → feq (rowT g t) (rowT g u) 411 = x → f_X9_alike (nI t) (nI u) g = some (x, g) := by
        intro x hx hl
        unfold f_X9_alike
        refine q_call mq (q_if_f (by decide) ?_)
        refine q_call mp (q_if_f (by decide) ?_)
        refine q_bd ml ?_
        rw [hl]
        rcases hx with rfl | rfl <;> rfl
      rcases feq_ok (rowT g t) (rowT g u) 411 with ⟨e9, h9⟩ | ⟨e9, h9⟩
      · have hl := like_blk h24 hin hsm hrd hen hin' hsm' hrd' hen' h9
        rcases cl with ⟨e8, -⟩ | ⟨-, h8⟩
        · exact ⟨nI 1, g, g, c8 _ (Or.inr rfl) e8, c9 _ (Or.inr rfl) e9, hI⟩
        · exact absurd (hF.mpr hl) h8
      · rcases cl with ⟨-, h8⟩ | ⟨e8, -⟩
        · exact absurd (like_row h24 hin hsm hrd hen hin' hsm' hrd' hen' (hF.mp h8)) h9
        · exact ⟨nI 0, g, g, c8 _ (Or.inl rfl) e8, c9 _ (Or.inl rfl) e9, hI⟩
