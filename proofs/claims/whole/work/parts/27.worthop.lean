/-! The calls worth and stepOf. -/
theorem cE_159 {tr : List Int32} {f : Int32} {g : G} {k : Nat} {v : Int32} : up2 (cE tr f g) 159 k v = cE tr f (up2 g 159 k v) := by
  funext b
  by_cases h9 : b = 159
  · subst h9
    rw [up2_eq, cE_off (by decide) (by decide), cE_off (by decide) (by decide), up2_eq]
  · rw [up2_ne h9]
    by_cases h2 : b = 2
    · subst h2; rfl
    · by_cases h1 : b = 1
      · subst h1; rfl
      · rw [cE_off h1 h2, cE_off h1 h2, up2_ne h9]
theorem c_ask_0 {a : Int32} {np : Nat} {g : G} (e : g 3 4 = nI np) (h : a < 0 ∨ nI np ≤ a) : f_X8_askWorth a g = some (-2, g) := by
  unfold f_X8_askWorth
  exact q_call (c_has_0 e h) (q_if_t rfl rfl)
theorem c_ask_1 {p np : Nat} {g : G} (e : g 3 4 = nI np) (hR : RW np (g 4) (g 5) (g 6) (g 7)) (hp : p < np) (hL : Lc g) : f_X8_askWorth (nI p) g = some ((woE (g 4) (g 5) (g 6) (g 7) p).2.1, cE (woE (g 4) (g 5) (g 6) (g 7) p).1 (woE (g 4) (g 5) (g 6) (g 7) p).2.2 g) := by
  unfold f_X8_askWorth
  refine q_call (c_has_1 e hp hR.1) ?_
  refine q_if_f (by decide) ?_
  exact q_call (c_worthFor hR hp hL) rfl
theorem sp_worth : Sp1 Inv f_X8_worth f_X9_worth := by
  intro a g hI
  have hc := hI.clear
  obtain ⟨np, n24, e1, e2, hRc, hRm, hq, hw⟩ := hI.1.rw
  have hLc : Lc (up2 g 1 1 0) := ⟨0, by decide, rfl⟩
  rcases i32_cases a np (by omega) with h | ⟨p, hp, rfl⟩
  · refine ⟨-2, up2 g 1 1 0, up2 (up2 g 1 1 0) 159 2 0, ?_, ?_, hc⟩
    · unfold f_X8_worth f_X1_clear
      refine q_call (q_wr rfl) ?_
      exact q_call (c_ask_0 (g := up2 g 1 1 0) e1 h) rfl
    · unfold f_X9_worth
      refine q_wr ?_
      refine q_call (m_is_0 (g := up2 (up2 g 1 1 0) 159 2 0) e2 n24 h) ?_
      exact q_if_t rfl rfl
  · have hcl := c_ask_1 (g := up2 g 1 1 0) e1 hRc hp hLc
    refine ⟨(woE (g 4) (g 5) (g 6) (g 7) p).2.1, cE (woE (g 4) (g 5) (g 6) (g 7) p).1 (woE (g 4) (g 5) (g 6) (g 7) p).2.2 (up2 g 1 1 0), mE (woE (g 4) (g 5) (g 6) (g 7) p).1 (woE (g 4) (g 5) (g 6) (g 7) p).2.2 (cE (woE (g 4) (g 5) (g 6) (g 7) p).1 (woE (g 4) (g 5) (g 6) (g 7) p).2.2 (up2 (up2 g 1 1 0) 159 2 0)), ?_, ?_, hc.eff _ _⟩
    · unfold f_X8_worth f_X1_clear
      refine q_call (q_wr rfl) ?_
      exact q_call hcl rfl
    · unfold f_X9_worth
      refine q_wr ?_
      rw [cE_159, hw p hp]
      generalize hE : cE (woE (g 161) (g 162) (g 163) (g 164) p).1 (woE (g 161) (g 162) (g 163) (g 164) p).2.2 (up2 (up2 g 1 1 0) 159 2 0) = G1
      have x1 : ∀ a, a ≠ 1 → a ≠ 2 → a ≠ 159 → G1 a = g a := by
        intro a h1 h2 h3
        rw [← hE, cE_off h1 h2, up2_ne h3, up2_ne h1]
      have x2 : G1 159 3 = nI np := by rw [← hE, cE_off (by decide) (by decide)]; exact e2
      have x3 : Lm G1 := ⟨0, by decide, by rw [← hE, cE_off (by decide) (by decide)]; rfl⟩
      have x4 : RW np (G1 161) (G1 162) (G1 163) (G1 164) := by
        rw [x1 161 (by decide) (by decide) (by decide), x1 162 (by decide) (by decide) (by decide), x1 163 (by decide) (by decide) (by decide), x1 164 (by decide) (by decide) (by decide)]
        exact hRm
      refine q_call (m_is_1 x2 hp n24) ?_
      refine q_if_f (by decide) ?_
      refine q_call (m_worthOf x4 hp x3) ?_
      rw [x1 161 (by decide) (by decide) (by decide), x1 162 (by decide) (by decide) (by decide), x1 163 (by decide) (by decide) (by decide), x1 164 (by decide) (by decide) (by decide)]
/-- a step: bodies, answer, finding -/
def stE (kd : Nat → Int32) (p : Nat) : List Int32 × Int32 × Int32 := if kd p = 0 ∨ kd p = 1 then ([20], 20, 0) else if kd p = 2 then ([22, 20], 40, 0) else if kd p = 3 then ([23], 10, 0) else ([], -5, 3)
theorem c_stepFor {p : Nat} {g : G} (hp : p < 24) (hL : Lc g) : f_X5_stepFor (nI p) g = some ((stE (g 4) p).2.1, cE (stE (g 4) p).1 (stE (g 4) p).2.2 g) := by
  unfold f_X5_stepFor
  refine q_ck p rfl hp (by decide) ?_
  by_cases h0 : g 4 p = 0
  · have e : stE (g 4) p = ([20], 20, 0) := if_pos (Or.inl h0)
    rw [e]
    refine q_if_t h0 ?_
    exact q_call (c_write hL) rfl
  · refine q_if_f h0 ?_
    by_cases h1 : g 4 p = 1
    · have e : stE (g 4) p = ([20], 20, 0) := if_pos (Or.inr h1)
      rw [e]
      refine q_if_t h1 ?_
      exact q_call (c_write hL) rfl
    · refine q_if_f h1 ?_
      by_cases h2 : g 4 p = 2
      · have e : stE (g 4) p = ([22, 20], 40, 0) := by unfold stE; rw [if_neg (by rintro (q | q) <;> contradiction), if_pos h2]
        rw [e]
        refine q_if_t h2 ?_
        refine q_call (c_write hL) ?_
        refine q_call (c_write hL.cE) ?_
        rw [cE_cE]
        rfl
      · refine q_if_f h2 ?_
        by_cases h3 : g 4 p = 3
        · have e : stE (g 4) p = ([23], 10, 0) := by unfold stE; rw [if_neg (by rintro (q | q) <;> contradiction), if_neg h2, if_pos h3]
          rw [e]
          refine q_if_t h3 ?_
          exact q_call (c_write hL) rfl
        · have e : stE (g 4) p = ([], -5, 3) := by unfold stE; rw [if_neg (by rintro (q | q) <;> contradiction), if_neg h2, if_neg h3]
          rw [e]
          refine q_if_f h3 ?_
          exact q_call (c_met (by decide)) rfl
theorem m_stepFor {p : Nat} {g : G} (hp : p < 24) (hL : Lm g) (hk : g 161 p = 0 ∨ g 161 p = 1 ∨ g 161 p = 2 ∨ g 161 p = 3) : f_X9_stepFor (nI p) g = some ((stE (g 161) p).2.1, mE (stE (g 161) p).1 0 g) := by
  unfold f_X9_stepFor
  refine q_ck p rfl hp (by decide) ?_
  have k01 : g 161 p = 0 ∨ g 161 p = 1 → (if (g 161 p) = (3 : Int32) then bd2 (f_X9_began (23 : Int32) g) fun r14 g15 => some (((10 : Int32), g15)) else ck (nI p) 24 fun j3 => bd ((if (g 161 j3) = (2 : Int32) then bd2 (f_X9_began (22 : Int32) g) fun r11 g12 => some (g12) else some (g) : Option (G))) fun (s5 : G) => bd2 (f_X9_began (20 : Int32) s5) fun r6 g7 => ck (nI p) 24 fun j8 => if (g7 161 j8) = (2 : Int32) then some (((40 : Int32), g7)) else some (((20 : Int32), g7))) = some ((stE (g 161) p).2.1, mE (stE (g 161) p).1 0 g) := by
    intro h
    have e : stE (g 161) p = ([20], 20, 0) := if_pos h
    rw [e]
    have h2 : ¬ g 161 p = 2 := by rcases h with h | h <;> rw [h] <;> decide
    have h3 : ¬ g 161 p = 3 := by rcases h with h | h <;> rw [h] <;> decide
    refine q_if_f h3 ?_
    refine q_ck p rfl hp (by decide) ?_
    refine q_bd (q_if_f h2 rfl) ?_
    refine q_call (m_began hL) ?_
    refine q_ck p rfl hp (by decide) ?_
    exact q_if_f h2 rfl
  rcases hk with h | h | h | h
  · exact k01 (Or.inl h)
  · exact k01 (Or.inr h)
  · have e : stE (g 161) p = ([22, 20], 40, 0) := by unfold stE; rw [if_neg (by rw [h]; decide), if_pos h]
    rw [e]
    refine q_if_f (by rw [h]; decide) ?_
    refine q_ck p rfl hp (by decide) ?_
    refine q_bd (q_if_t h (q_call (m_began hL) rfl)) ?_
    refine q_call (m_began hL.mE) ?_
    refine q_ck p rfl hp (by decide) ?_
    rw [mE_mE]
    exact q_if_t h rfl
  · have e : stE (g 161) p = ([23], 10, 0) := by unfold stE; rw [if_neg (by rw [h]; decide), if_neg (by rw [h]; decide), if_pos h]
    rw [e]
    refine q_if_t h ?_
    exact q_call (m_began hL) rfl
theorem kd_cases {x : Int32} (h : ∃ k, k ≤ 4 ∧ x = nI k) : x = 0 ∨ x = 1 ∨ x = 2 ∨ x = 3 ∨ x = 4 := by
  obtain ⟨c, hc, rfl⟩ := h
  rcases (show c = 0 ∨ c = 1 ∨ c = 2 ∨ c = 3 ∨ c = 4 by omega) with rfl | rfl | rfl | rfl | rfl
  · exact Or.inl rfl
  · exact Or.inr (Or.inl rfl)
  · exact Or.inr (Or.inr (Or.inl rfl))
  · exact Or.inr (Or.inr (Or.inr (Or.inl rfl)))
  · exact Or.inr (Or.inr (Or.inr (Or.inr rfl)))
theorem sp_stepOf : Sp1 Inv f_X8_stepOf f_X9_stepOf := by
  intro a g hI
  have hc := hI.clear
  obtain ⟨np, n24, e1, e2, hRc, hRm, hq, hw⟩ := hI.1.rw
  have hLc : Lc (up2 g 1 1 0) := ⟨0, by decide, rfl⟩
  rcases i32_cases a np (by omega) with h | ⟨p, hp, rfl⟩
  · refine ⟨-2, up2 g 1 1 0, up2 (up2 g 1 1 0) 159 2 0, ?_, ?_, hc⟩
    · unfold f_X8_stepOf f_X1_clear
      refine q_call (q_wr rfl) ?_
      refine q_call (c_has_0 (g := up2 g 1 1 0) e1 h) ?_
      exact q_if_t rfl rfl
    · unfold f_X9_stepOf
      refine q_wr ?_
      refine q_call (m_is_0 (g := up2 (up2 g 1 1 0) 159 2 0) e2 n24 h) ?_
      exact q_if_t rfl rfl
  · have hcl := c_stepFor (p := p) (g := up2 g 1 1 0) (by omega) hLc
    have hst : stE (g 4) p = stE (g 161) p := by unfold stE; rw [(hq p hp).1]
    refine ⟨(stE (g 4) p).2.1, cE (stE (g 4) p).1 (stE (g 4) p).2.2 (up2 g 1 1 0), mE (stE (g 4) p).1 (stE (g 4) p).2.2 (cE (stE (g 4) p).1 (stE (g 4) p).2.2 (up2 (up2 g 1 1 0) 159 2 0)), ?_, ?_, hc.eff _ _⟩
    · unfold f_X8_stepOf f_X1_clear
      refine q_call (q_wr rfl) ?_
      refine q_call (c_has_1 (g := up2 g 1 1 0) e1 hp n24) ?_
      refine q_if_f (by decide) ?_
      exact q_call hcl rfl
    · unfold f_X9_stepOf
      refine q_wr ?_
      rw [cE_159, hst]
      generalize hE : cE (stE (g 161) p).1 (stE (g 161) p).2.2 (up2 (up2 g 1 1 0) 159 2 0) = G1
      have x1 : G1 161 = g 161 := by rw [← hE, cE_off (by decide) (by decide)]; rfl
      have x2 : G1 159 3 = nI np := by rw [← hE, cE_off (by decide) (by decide)]; exact e2
      have x3 : Lm G1 := ⟨0, by decide, by rw [← hE, cE_off (by decide) (by decide)]; rfl⟩
      refine q_call (m_is_1 x2 hp n24) ?_
      refine q_if_f (by decide) ?_
      refine q_ck p rfl (by omega) (by decide) ?_
      by_cases h4 : g 161 p = 4
      · refine q_if_t (by rw [x1]; exact h4) ?_
        have e : stE (g 161) p = ([], -5, 3) := by unfold stE; rw [if_neg (by rw [h4]; decide), if_neg (by rw [h4]; decide), if_neg (by rw [h4]; decide)]
        rw [e]
        exact q_call (m_meets (by decide)) rfl
      · refine q_if_f (by rw [x1]; exact h4) ?_
        have hk := kd_cases (hRm.2 p hp).1
        have hk : g 161 p = 0 ∨ g 161 p = 1 ∨ g 161 p = 2 ∨ g 161 p = 3 := by
          rcases hk with h | h | h | h | h
          · exact Or.inl h
          · exact Or.inr (Or.inl h)
          · exact Or.inr (Or.inr (Or.inl h))
          · exact Or.inr (Or.inr (Or.inr h))
          · exact absurd h h4
        have ez : (stE (g 161) p).2.2 = 0 := by
          unfold stE
          rcases hk with h | h | h | h
          · rw [if_pos (Or.inl h)]
          · rw [if_pos (Or.inr h)]
          · rw [if_neg (by rw [h]; decide), if_pos h]
          · rw [if_neg (by rw [h]; decide), if_neg (by rw [h]; decide), if_pos h]
        refine q_call (m_stepFor (by omega) x3 (by rw [x1]; exact hk)) ?_
        rw [x1, ez]
