/-! The class keeps to its cells. (written by gen/locgen.py) -/
theorem l_X5_add {b : Nat × G} {a1 a2 a1' a2' : Int32} (e_a1 : a1 = a1') (e_a2 : a2 = a2') {g g' : G} (h0 : S8 b g g') : Rl (f_X5_add a1 a2 g) (f_X5_add a1' a2' g') (Q8 b) := by
  subst e_a1
  subst e_a2
  unfold f_X5_add
  refine rl_if (by rw [h0.rd (a := 3) (by omega)]) ?_ ?_
  ·
    refine rl_ck (by rw [h0.rd (a := 3) (by omega)]) (fun j_1 hj_2 => ?_)
    refine rl_wr (Q := S8 b) (h0.up (by omega) (by omega) (by omega) rfl) (fun s_3 s_3' h_4 => ?_)
    refine rl_ck (by rw [h_4.rd (a := 3) (by omega)]) (fun j_5 hj_6 => ?_)
    refine rl_wr (Q := S8 b) (h_4.up (by omega) (by omega) (by omega) rfl) (fun s_7 s_7' h_8 => ?_)
    refine rl_ck (by rw [h_8.rd (a := 3) (by omega)]) (fun j_9 hj_10 => ?_)
    refine rl_wr (Q := S8 b) (h_8.up (by omega) (by omega) (by omega) rfl) (fun s_11 s_11' h_12 => ?_)
    refine rl_wr (Q := S8 b) (h_12.up (by omega) (by omega) (by omega) (by rw [h_12.rd (a := 3) (by omega)])) (fun s_13 s_13' h_14 => ?_)
    exact rl_some ⟨(by (try dsimp only) <;> rw [h_14.rd (a := 3) (by omega)]), h_14⟩
  ·
    exact rl_some ⟨rfl, h0⟩
theorem l_X8_player {b : Nat × G} {a1 a2 a1' a2' : Int32} (e_a1 : a1 = a1') (e_a2 : a2 = a2') {g g' : G} (h0 : S8 b g g') : Rl (f_X8_player a1 a2 g) (f_X8_player a1' a2' g') (Q8 b) := by
  subst e_a1
  subst e_a2
  unfold f_X8_player
  refine rl_if Iff.rfl ?_ ?_
  ·
    exact rl_some ⟨rfl, h0⟩
  ·
    refine rl_if Iff.rfl ?_ ?_
    ·
      exact rl_some ⟨rfl, h0⟩
    ·
      refine rl_if Iff.rfl ?_ ?_
      ·
        exact rl_some ⟨rfl, h0⟩
      ·
        refine rl_if Iff.rfl ?_ ?_
        ·
          refine rl_bd2 (S := S8 b) (l_X5_add (rfl : a1 = _) (rfl : a2 = _) h0) (fun r_1 s_2 s_2' h_3 => ?_)
          exact rl_some ⟨rfl, h_3⟩
        ·
          exact rl_some ⟨rfl, h0⟩
theorem l_X5_has {b : Nat × G} {a1 a1' : Int32} (e_a1 : a1 = a1') {g g' : G} (h0 : S8 b g g') : Rl (f_X5_has a1 g) (f_X5_has a1' g') (Q8 b) := by
  subst e_a1
  unfold f_X5_has
  refine rl_if Iff.rfl ?_ ?_
  ·
    exact rl_some ⟨rfl, h0⟩
  ·
    refine rl_if (by rw [h0.rd (a := 3) (by omega)]) ?_ ?_
    ·
      exact rl_some ⟨rfl, h0⟩
    ·
      exact rl_some ⟨rfl, h0⟩
theorem l_X5_isTeam {b : Nat × G} {a1 a1' : Int32} (e_a1 : a1 = a1') {g g' : G} (h0 : S8 b g g') : Rl (f_X5_isTeam a1 g) (f_X5_isTeam a1' g') (Q8 b) := by
  subst e_a1
  unfold f_X5_isTeam
  refine rl_ck rfl (fun j_1 hj_2 => ?_)
  refine rl_if (by rw [h0.rd (a := 4) (by omega)]) ?_ ?_
  ·
    exact rl_some ⟨rfl, h0⟩
  ·
    exact rl_some ⟨rfl, h0⟩
theorem l_X1_met {b : Nat × G} {a1 a1' : Int32} (e_a1 : a1 = a1') {g g' : G} (h0 : S8 b g g') : Rl (f_X1_met a1 g) (f_X1_met a1' g') (Q8 b) := by
  subst e_a1
  unfold f_X1_met
  refine rl_wr (Q := S8 b) (h0.up (by omega) (by omega) (by omega) rfl) (fun s_1 s_1' h_2 => ?_)
  exact rl_some ⟨rfl, h_2⟩
theorem l_X5_setPlaces {b : Nat × G} {a1 a2 a1' a2' : Int32} (e_a1 : a1 = a1') (e_a2 : a2 = a2') {g g' : G} (h0 : S8 b g g') : Rl (f_X5_setPlaces a1 a2 g) (f_X5_setPlaces a1' a2' g') (Q8 b) := by
  subst e_a1
  subst e_a2
  unfold f_X5_setPlaces
  refine rl_ck rfl (fun j_1 hj_2 => ?_)
  refine rl_wr (Q := S8 b) (h0.up (by omega) (by omega) (by omega) rfl) (fun s_3 s_3' h_4 => ?_)
  refine rl_bd (P1 := (fun (x x' : G) => S8 b x x')) ?_ ?_
  ·
    refine rl_lp (I := (fun (x x' : Int32 × G) => x.1 = x'.1 ∧ S8 b x.2 x'.2)) ?_ ⟨rfl, h_4⟩
    rintro ⟨x_5, s_6⟩ ⟨_, s_6'⟩ ⟨rfl, h_7⟩
    replace h_7 : S8 b s_6 s_6' := h_7
    try dsimp only
    refine rl_if Iff.rfl ?_ ?_
    ·
      exact rl_some (SumR.r h_7)
    ·
      refine rl_ck rfl (fun j_8 hj_9 => ?_)
      refine rl_wr (Q := S8 b) (h_7.up (by omega) (by omega) (by omega) rfl) (fun s_10 s_10' h_11 => ?_)
      exact rl_some (SumR.l ⟨rfl, h_11⟩)
  ·
    rintro s_12 s_12' h_13
    replace h_13 : S8 b s_12 s_12' := h_13
    try dsimp only
    exact rl_some ⟨rfl, h_13⟩
theorem l_X8_places {b : Nat × G} {a1 a2 a1' a2' : Int32} (e_a1 : a1 = a1') (e_a2 : a2 = a2') {g g' : G} (h0 : S8 b g g') : Rl (f_X8_places a1 a2 g) (f_X8_places a1' a2' g') (Q8 b) := by
  subst e_a1
  subst e_a2
  unfold f_X8_places
  refine rl_bd2 (S := S8 b) (l_X5_has (rfl : a1 = _) h0) (fun r_1 s_2 s_2' h_3 => ?_)
  refine rl_if Iff.rfl ?_ ?_
  ·
    exact rl_some ⟨rfl, h_3⟩
  ·
    refine rl_if Iff.rfl ?_ ?_
    ·
      refine rl_bd2 (S := S8 b) (l_X5_isTeam (rfl : a1 = _) h_3) (fun r_4 s_5 s_5' h_6 => ?_)
      refine rl_if Iff.rfl ?_ ?_
      ·
        refine rl_bd2 (S := S8 b) (l_X1_met (rfl : (3 : Int32) = _) h_6) (fun r_7 s_8 s_8' h_9 => ?_)
        exact rl_some ⟨rfl, h_9⟩
      ·
        refine rl_if Iff.rfl ?_ ?_
        ·
          refine rl_bd2 (S := S8 b) (l_X5_setPlaces (rfl : a1 = _) (rfl : a2 = _) h_6) (fun r_10 s_11 s_11' h_12 => ?_)
          exact rl_some ⟨rfl, h_12⟩
        ·
          refine rl_bd2 (S := S8 b) (l_X1_met (rfl : (5 : Int32) = _) h_6) (fun r_13 s_14 s_14' h_15 => ?_)
          exact rl_some ⟨rfl, h_15⟩
    ·
      exact rl_some ⟨rfl, h_3⟩
theorem l_X5_chairOf {b : Nat × G} {a1 a2 a1' a2' : Int32} (e_a1 : a1 = a1') (e_a2 : a2 = a2') {g g' : G} (h0 : S8 b g g') : Rl (f_X5_chairOf a1 a2 g) (f_X5_chairOf a1' a2' g') (Q8 b) := by
  subst e_a1
  subst e_a2
  unfold f_X5_chairOf
  refine rl_ck rfl (fun j_1 hj_2 => ?_)
  refine rl_if (by rw [h0.rd (a := 6) (by omega)]) ?_ ?_
  ·
    refine rl_bd2 (S := S8 b) (l_X1_met (rfl : (1 : Int32) = _) h0) (fun r_3 s_4 s_4' h_5 => ?_)
    exact rl_some ⟨rfl, h_5⟩
  ·
    refine rl_bd (P1 := (SumR (fun _ _ => True) (fun (x x' : Int32 × G) => x.1 = x'.1 ∧ S8 b x.2 x'.2))) ?_ ?_
    ·
      refine rl_if Iff.rfl ?_ ?_
      ·
        exact rl_some (SumR.l trivial)
      ·
        refine rl_ck rfl (fun j_6 hj_7 => ?_)
        refine rl_if (by rw [h0.rd (a := 6) (by omega)]) ?_ ?_
        ·
          exact rl_some (SumR.r ⟨rfl, h0⟩)
        ·
          exact rl_some (SumR.l trivial)
    ·
      rintro (_ | y) (_ | y') hq
      ·
        try dsimp only
        refine rl_bd2 (S := S8 b) (l_X1_met (rfl : (2 : Int32) = _) h0) (fun r_8 s_9 s_9' h_10 => ?_)
        exact rl_some ⟨rfl, h_10⟩
      · exact hq.elim
      · exact hq.elim
      · exact rl_some hq
theorem l_X8_seat {b : Nat × G} {a1 a2 a3 a1' a2' a3' : Int32} (e_a1 : a1 = a1') (e_a2 : a2 = a2') (e_a3 : a3 = a3') {g g' : G} (h0 : S8 b g g') : Rl (f_X8_seat a1 a2 a3 g) (f_X8_seat a1' a2' a3' g') (Q8 b) := by
  subst e_a1
  subst e_a2
  subst e_a3
  unfold f_X8_seat
  refine rl_bd2 (S := S8 b) (l_X5_has (rfl : a1 = _) h0) (fun r_1 s_2 s_2' h_3 => ?_)
  refine rl_if Iff.rfl ?_ ?_
  ·
    exact rl_some ⟨rfl, h_3⟩
  ·
    refine rl_bd (P1 := (SumR (fun (x x' : G) => S8 b x x') (fun (x x' : Int32 × G) => x.1 = x'.1 ∧ S8 b x.2 x'.2))) ?_ ?_
    ·
      refine rl_if Iff.rfl ?_ ?_
      ·
        exact rl_some (SumR.l h_3)
      ·
        refine rl_bd2 (S := S8 b) (l_X5_has (rfl : a3 = _) h_3) (fun r_4 s_5 s_5' h_6 => ?_)
        refine rl_if Iff.rfl ?_ ?_
        ·
          exact rl_some (SumR.r ⟨rfl, h_6⟩)
        ·
          exact rl_some (SumR.l h_6)
    ·
      rintro (s_7 | y) (s_7' | y') hq
      ·
        have h_8 := hq
        replace h_8 : S8 b s_7 s_7' := h_8
        try dsimp only
        refine rl_bd2 (S := S8 b) (l_X5_isTeam (rfl : a1 = _) h_8) (fun r_9 s_10 s_10' h_11 => ?_)
        refine rl_bd (P1 := (SumR (fun (x x' : G) => S8 b x x') (fun (x x' : Int32 × G) => x.1 = x'.1 ∧ S8 b x.2 x'.2))) ?_ ?_
        ·
          refine rl_if Iff.rfl ?_ ?_
          ·
            exact rl_some (SumR.l h_11)
          ·
            refine rl_bd (P1 := (SumR (fun (x x' : G) => S8 b x x') (SumR (fun (x x' : G) => S8 b x x') (fun (x x' : Int32 × G) => x.1 = x'.1 ∧ S8 b x.2 x'.2)))) ?_ ?_
            ·
              refine rl_if Iff.rfl ?_ ?_
              ·
                exact rl_some (SumR.l h_11)
              ·
                refine rl_bd2 (S := S8 b) (l_X5_isTeam (rfl : a3 = _) h_11) (fun r_12 s_13 s_13' h_14 => ?_)
                refine rl_if Iff.rfl ?_ ?_
                ·
                  exact rl_some (SumR.l h_14)
                ·
                  exact rl_some (SumR.r (SumR.l h_14))
            ·
              rintro (s_15 | y) (s_15' | y') hq
              ·
                have h_16 := hq
                replace h_16 : S8 b s_15 s_15' := h_16
                try dsimp only
                refine rl_bd2 (S := S8 b) (l_X5_chairOf (rfl : a1 = _) (rfl : a2 = _) h_16) (fun r_17 s_18 s_18' h_19 => ?_)
                refine rl_if Iff.rfl ?_ ?_
                ·
                  refine rl_ck rfl (fun j_20 hj_21 => ?_)
                  refine rl_wr (Q := S8 b) (h_19.up (by omega) (by omega) (by omega) rfl) (fun s_22 s_22' h_23 => ?_)
                  exact rl_some (SumR.r ⟨rfl, h_23⟩)
                ·
                  exact rl_some (SumR.r ⟨rfl, h_19⟩)
              · exact hq.elim
              · exact hq.elim
              · exact rl_some hq
        ·
          rintro (s_24 | y) (s_24' | y') hq
          ·
            have h_25 := hq
            replace h_25 : S8 b s_24 s_24' := h_25
            try dsimp only
            refine rl_bd2 (S := S8 b) (l_X1_met (rfl : (3 : Int32) = _) h_25) (fun r_26 s_27 s_27' h_28 => ?_)
            exact rl_some ⟨rfl, h_28⟩
          · exact hq.elim
          · exact hq.elim
          · exact rl_some hq
      · exact hq.elim
      · exact hq.elim
      · exact rl_some hq
theorem l_X7_clear {b : Nat × G} {t : Nat} (h_t0 : t = 47 ∨ t = 75 ∨ t = 103 ∨ t = 131) {g g' : G} (h0 : S8 b g g') : Rl (f_X7_clear t g) (f_X7_clear t g') (Q8 b) := by
  unfold f_X7_clear
  refine rl_wr (Q := S8 b) (h0.up (by omega) (by omega) (by omega) rfl) (fun s_1 s_1' h_2 => ?_)
  refine rl_wr (Q := S8 b) (h_2.up (by omega) (by omega) (by omega) rfl) (fun s_3 s_3' h_4 => ?_)
  refine rl_wr (Q := S8 b) (h_4.up (by omega) (by omega) (by omega) rfl) (fun s_5 s_5' h_6 => ?_)
  refine rl_bd2 (S := S8 b) (l_J7_fill_53178 (a := (t + 2)) (by omega) (by omega) (by omega) (n := 24) (by omega) (rfl : (0 : Int32) = _) h_6) (fun r_7 s_8 s_8' h_9 => ?_)
  refine rl_bd2 (S := S8 b) (l_J7_fill_53178 (a := (t + 3)) (by omega) (by omega) (by omega) (n := 5) (by omega) (rfl : (0 : Int32) = _) h_9) (fun r_10 s_11 s_11' h_12 => ?_)
  exact rl_some ⟨rfl, h_12⟩
theorem l_X8_tournament {b : Nat × G}  {g g' : G} (h0 : S8 b g g') : Rl (f_X8_tournament  g) (f_X8_tournament  g') (Q8 b) := by
  unfold f_X8_tournament
  refine rl_if (by rw [h0.rd (a := 0) (by omega)]) ?_ ?_
  ·
    refine rl_ck (by rw [h0.rd (a := 0) (by omega)]) (fun j_1 hj_2 => ?_)
    refine rl_wrN ?_
    refine rl_bd2 (S := S8 b) (l_X7_clear (t := (47 + 28 * j_1)) (by omega) h0) (fun r_3 s_4 s_4' h_5 => ?_)
    refine rl_bd2 (S := S8 b) (l_X8_openNext  h_5) (fun r_6 s_7 s_7' h_8 => ?_)
    exact rl_some ⟨rfl, h_8⟩
  ·
    exact rl_some ⟨rfl, h0⟩
theorem l_X8_isTournament {b : Nat × G} {a1 a1' : Int32} (e_a1 : a1 = a1') {g g' : G} (h0 : S8 b g g') : Rl (f_X8_isTournament a1 g) (f_X8_isTournament a1' g') (Q8 b) := by
  subst e_a1
  unfold f_X8_isTournament
  refine rl_if Iff.rfl ?_ ?_
  ·
    exact rl_some ⟨rfl, h0⟩
  ·
    refine rl_if (by rw [h0.rd (a := 0) (by omega)]) ?_ ?_
    ·
      exact rl_some ⟨rfl, h0⟩
    ·
      exact rl_some ⟨rfl, h0⟩
theorem l_X7_hasIn {b : Nat × G} {a1 a1' : Int32} {t : Nat} (h_t0 : t = 47 ∨ t = 75 ∨ t = 103 ∨ t = 131) (e_a1 : a1 = a1') {g g' : G} (h0 : S8 b g g') : Rl (f_X7_hasIn t a1 g) (f_X7_hasIn t a1' g') (Q8 b) := by
  subst e_a1
  unfold f_X7_hasIn
  refine rl_ck rfl (fun j_1 hj_2 => ?_)
  refine rl_if (by rw [h0.rd (a := (t + 2)) (by omega)]) ?_ ?_
  ·
    exact rl_some ⟨rfl, h0⟩
  ·
    exact rl_some ⟨rfl, h0⟩
theorem l_X5_isRated {b : Nat × G} {a1 a1' : Int32} (e_a1 : a1 = a1') {g g' : G} (h0 : S8 b g g') : Rl (f_X5_isRated a1 g) (f_X5_isRated a1' g') (Q8 b) := by
  subst e_a1
  unfold f_X5_isRated
  refine rl_ck rfl (fun j_1 hj_2 => ?_)
  refine rl_if (by rw [h0.rd (a := 4) (by omega)]) ?_ ?_
  ·
    exact rl_some ⟨rfl, h0⟩
  ·
    exact rl_some ⟨rfl, h0⟩
theorem l_X7_letIn {b : Nat × G} {a1 a1' : Int32} {t : Nat} (h_t0 : t = 47 ∨ t = 75 ∨ t = 103 ∨ t = 131) (e_a1 : a1 = a1') {g g' : G} (h0 : S8 b g g') : Rl (f_X7_letIn t a1 g) (f_X7_letIn t a1' g') (Q8 b) := by
  subst e_a1
  unfold f_X7_letIn
  refine rl_ck rfl (fun j_1 hj_2 => ?_)
  refine rl_wr (Q := S8 b) (h0.up (by omega) (by omega) (by omega) rfl) (fun s_3 s_3' h_4 => ?_)
  refine rl_ck (by rw [h_4.rd (a := t) (by omega)]) (fun j_5 hj_6 => ?_)
  refine rl_wr (Q := S8 b) (h_4.up (by omega) (by omega) (by omega) rfl) (fun s_7 s_7' h_8 => ?_)
  refine rl_wr (Q := S8 b) (h_8.up (by omega) (by omega) (by omega) (by rw [h_8.rd (a := t) (by omega)])) (fun s_9 s_9' h_10 => ?_)
  exact rl_some ⟨(by (try dsimp only) <;> rw [h_10.rd (a := t) (by omega)]), h_10⟩
theorem l_X8_enter {b : Nat × G} {a1 a2 a1' a2' : Int32} (e_a1 : a1 = a1') (e_a2 : a2 = a2') {g g' : G} (h0 : S8 b g g') : Rl (f_X8_enter a1 a2 g) (f_X8_enter a1' a2' g') (Q8 b) := by
  subst e_a1
  subst e_a2
  unfold f_X8_enter
  refine rl_bd2 (S := S8 b) (l_X8_isTournament (rfl : a1 = _) h0) (fun r_1 s_2 s_2' h_3 => ?_)
  refine rl_if Iff.rfl ?_ ?_
  ·
    exact rl_some ⟨rfl, h_3⟩
  ·
    refine rl_bd2 (S := S8 b) (l_X5_has (rfl : a2 = _) h_3) (fun r_4 s_5 s_5' h_6 => ?_)
    refine rl_if Iff.rfl ?_ ?_
    ·
      exact rl_some ⟨rfl, h_6⟩
    ·
      refine rl_ck rfl (fun j_7 hj_8 => ?_)
      refine rl_wrN ?_
      refine rl_bd2 (S := S8 b) (l_X7_hasIn (t := (47 + 28 * j_7)) (by omega) (rfl : a2 = _) h_6) (fun r_9 s_10 s_10' h_11 => ?_)
      refine rl_if Iff.rfl ?_ ?_
      ·
        refine rl_if (by rw [h_11.rd (a := (47 + 28 * j_7)) (by omega)]) ?_ ?_
        ·
          refine rl_if (by rw [h_11.rd (a := (47 + 28 * j_7)) (by omega)]) ?_ ?_
          ·
            refine rl_bd2 (S := S8 b) (l_X5_isRated (rfl : a2 = _) h_11) (fun r_12 s_13 s_13' h_14 => ?_)
            refine rl_if Iff.rfl ?_ ?_
            ·
              refine rl_bd2 (S := S8 b) (l_X1_met (rfl : (3 : Int32) = _) h_14) (fun r_15 s_16 s_16' h_17 => ?_)
              exact rl_some ⟨rfl, h_17⟩
            ·
              refine rl_bd2 (S := S8 b) (l_X7_letIn (t := (47 + 28 * j_7)) (by omega) (rfl : a2 = _) h_14) (fun r_18 s_19 s_19' h_20 => ?_)
              exact rl_some ⟨rfl, h_20⟩
          ·
            exact rl_some ⟨rfl, h_11⟩
        ·
          exact rl_some ⟨rfl, h_11⟩
      ·
        exact rl_some ⟨rfl, h_11⟩
theorem l_X8_withdraw {b : Nat × G} {a1 a2 a1' a2' : Int32} (e_a1 : a1 = a1') (e_a2 : a2 = a2') {g g' : G} (h0 : S8 b g g') : Rl (f_X8_withdraw a1 a2 g) (f_X8_withdraw a1' a2' g') (Q8 b) := by
  subst e_a1
  subst e_a2
  unfold f_X8_withdraw
  refine rl_bd2 (S := S8 b) (l_X8_isTournament (rfl : a1 = _) h0) (fun r_1 s_2 s_2' h_3 => ?_)
  refine rl_if Iff.rfl ?_ ?_
  ·
    exact rl_some ⟨rfl, h_3⟩
  ·
    refine rl_bd2 (S := S8 b) (l_X5_has (rfl : a2 = _) h_3) (fun r_4 s_5 s_5' h_6 => ?_)
    refine rl_if Iff.rfl ?_ ?_
    ·
      exact rl_some ⟨rfl, h_6⟩
    ·
      refine rl_ck rfl (fun j_7 hj_8 => ?_)
      refine rl_wrN ?_
      refine rl_ck rfl (fun j_9 hj_10 => ?_)
      refine rl_if (by rw [h_6.rd (a := ((47 + 28 * j_7) + 2)) (by omega)]) ?_ ?_
      ·
        refine rl_ck rfl (fun j_11 hj_12 => ?_)
        refine rl_wr (Q := S8 b) (h_6.up (by omega) (by omega) (by omega) rfl) (fun s_13 s_13' h_14 => ?_)
        exact rl_some ⟨rfl, h_14⟩
      ·
        exact rl_some ⟨rfl, h_6⟩
theorem l_X7_latestDay {b : Nat × G} {t : Nat} (h_t0 : t = 47 ∨ t = 75 ∨ t = 103 ∨ t = 131) {g g' : G} (h0 : S8 b g g') : Rl (f_X7_latestDay t g) (f_X7_latestDay t g') (Q8 b) := by
  unfold f_X7_latestDay
  refine rl_if (by rw [h0.rd (a := t) (by omega)]) ?_ ?_
  ·
    exact rl_some ⟨rfl, h0⟩
  ·
    refine rl_ck (by rw [h0.rd (a := t) (by omega)]) (fun j_1 hj_2 => ?_)
    exact rl_some ⟨(by (try dsimp only) <;> rw [h0.rd (a := (t + 4)) (by omega)]), h0⟩
theorem l_X0_gather {b : Nat × G} {t : Nat} (h_t1 : t = 47 ∨ t = 75 ∨ t = 103 ∨ t = 131) {g g' : G} (h0 : S8 b g g') : Rl (f_X0_gather t g) (f_X0_gather t g') (Q8 b) := by
  unfold f_X0_gather
  refine rl_wr (Q := S8 b) (h0.up (by omega) (by omega) (by omega) rfl) (fun s_1 s_1' h_2 => ?_)
  refine rl_bd (P1 := (fun (x x' : G) => S8 b x x')) ?_ ?_
  ·
    refine rl_lp (I := (fun (x x' : Int32 × G) => x.1 = x'.1 ∧ S8 b x.2 x'.2)) ?_ ⟨rfl, h_2⟩
    rintro ⟨x_3, s_4⟩ ⟨_, s_4'⟩ ⟨rfl, h_5⟩
    replace h_5 : S8 b s_4 s_4' := h_5
    try dsimp only
    refine rl_if Iff.rfl ?_ ?_
    ·
      exact rl_some (SumR.r h_5)
    ·
      refine rl_ck rfl (fun j_6 hj_7 => ?_)
      refine rl_wr (Q := S8 b) (h_5.up (by omega) (by omega) (by omega) rfl) (fun s_8 s_8' h_9 => ?_)
      refine rl_ck rfl (fun j_10 hj_11 => ?_)
      refine rl_bd (P1 := (fun (x x' : G) => S8 b x x')) ?_ ?_
      ·
        refine rl_if (by rw [h_9.rd (a := (t + 2)) (by omega)]) ?_ ?_
        ·
          refine rl_if (by rw [h_9.rd (a := 27) (by omega)]) ?_ ?_
          ·
            exact rl_some h_9
          ·
            refine rl_ck rfl (fun j_12 hj_13 => ?_)
            refine rl_wr (Q := S8 b) (h_9.up (by omega) (by omega) (by omega) (by rw [h_9.rd (a := 27) (by omega)])) (fun s_14 s_14' h_15 => ?_)
            refine rl_ck (by rw [h_15.rd (a := 27) (by omega)]) (fun j_16 hj_17 => ?_)
            refine rl_wr (Q := S8 b) (h_15.up (by omega) (by omega) (by omega) rfl) (fun s_18 s_18' h_19 => ?_)
            refine rl_wr (Q := S8 b) (h_19.up (by omega) (by omega) (by omega) (by rw [h_19.rd (a := 27) (by omega)])) (fun s_20 s_20' h_21 => ?_)
            exact rl_some h_21
        ·
          exact rl_some h_9
      ·
        rintro s_22 s_22' h_23
        replace h_23 : S8 b s_22 s_22' := h_23
        try dsimp only
        exact rl_some (SumR.l ⟨rfl, h_23⟩)
  ·
    rintro s_24 s_24' h_25
    replace h_25 : S8 b s_24 s_24' := h_25
    try dsimp only
    exact rl_some ⟨(by (try dsimp only) <;> rw [h_25.rd (a := 27) (by omega)]), h_25⟩
theorem l_X1_write {b : Nat × G} {a1 a1' : Int32} (e_a1 : a1 = a1') {g g' : G} (h0 : S8 b g g') : Rl (f_X1_write a1 g) (f_X1_write a1' g') (Q8 b) := by
  subst e_a1
  unfold f_X1_write
  refine rl_if (by rw [h0.rd (a := 1) (by omega)]) ?_ ?_
  ·
    exact rl_some ⟨rfl, h0⟩
  ·
    refine rl_ck (by rw [h0.rd (a := 1) (by omega)]) (fun j_1 hj_2 => ?_)
    refine rl_wr (Q := S8 b) (h0.up (by omega) (by omega) (by omega) rfl) (fun s_3 s_3' h_4 => ?_)
    refine rl_wr (Q := S8 b) (h_4.up (by omega) (by omega) (by omega) (by rw [h_4.rd (a := 1) (by omega)])) (fun s_5 s_5' h_6 => ?_)
    exact rl_some ⟨rfl, h_6⟩
theorem l_J9_min_7cf53 {b : Nat × G} {a0 a1 a0' a1' : Int32} (e_a0 : a0 = a0') (e_a1 : a1 = a1') {g g' : G} (h0 : S8 b g g') : Rl (f_J9_min_7cf53 a0 a1 g) (f_J9_min_7cf53 a0' a1' g') (Q8 b) := by
  subst e_a0
  subst e_a1
  unfold f_J9_min_7cf53
  refine rl_if Iff.rfl ?_ ?_
  ·
    exact rl_some ⟨rfl, h0⟩
  ·
    exact rl_some ⟨rfl, h0⟩
theorem l_X5_soloWorth {b : Nat × G} {a1 a1' : Int32} (e_a1 : a1 = a1') {g g' : G} (h0 : S8 b g g') : Rl (f_X5_soloWorth a1 g) (f_X5_soloWorth a1' g') (Q8 b) := by
  subst e_a1
  unfold f_X5_soloWorth
  refine rl_ck rfl (fun j_1 hj_2 => ?_)
  refine rl_if (by rw [h0.rd (a := 4) (by omega)]) ?_ ?_
  ·
    refine rl_bd2 (S := S8 b) (l_X1_write (rfl : (10 : Int32) = _) h0) (fun r_3 s_4 s_4' h_5 => ?_)
    refine rl_ck rfl (fun j_6 hj_7 => ?_)
    exact rl_some ⟨(by (try dsimp only) <;> rw [h_5.rd (a := 5) (by omega)]), h_5⟩
  ·
    refine rl_if (by rw [h0.rd (a := 4) (by omega)]) ?_ ?_
    ·
      refine rl_bd2 (S := S8 b) (l_X1_write (rfl : (11 : Int32) = _) h0) (fun r_8 s_9 s_9' h_10 => ?_)
      refine rl_ck rfl (fun j_11 hj_12 => ?_)
      refine rl_bd2 (S := S8 b) (l_J9_min_7cf53 (by rw [h_10.rd (a := 5) (by omega)]) (rfl : (1500 : Int32) = _) h_10) (fun r_13 s_14 s_14' h_15 => ?_)
      exact rl_some ⟨rfl, h_15⟩
    ·
      refine rl_if (by rw [h0.rd (a := 4) (by omega)]) ?_ ?_
      ·
        refine rl_bd2 (S := S8 b) (l_X1_write (rfl : (12 : Int32) = _) h0) (fun r_16 s_17 s_17' h_18 => ?_)
        refine rl_bd2 (S := S8 b) (l_X1_write (rfl : (10 : Int32) = _) h_18) (fun r_19 s_20 s_20' h_21 => ?_)
        refine rl_ck rfl (fun j_22 hj_23 => ?_)
        exact rl_some ⟨(by (try dsimp only) <;> rw [h_21.rd (a := 5) (by omega)]), h_21⟩
      ·
        refine rl_bd2 (S := S8 b) (l_X1_met (rfl : (3 : Int32) = _) h0) (fun r_24 s_25 s_25' h_26 => ?_)
        exact rl_some ⟨rfl, h_26⟩
theorem l_X5_worthFor {b : Nat × G} {a1 a1' : Int32} (e_a1 : a1 = a1') {g g' : G} (h0 : S8 b g g') : Rl (f_X5_worthFor a1 g) (f_X5_worthFor a1' g') (Q8 b) := by
  subst e_a1
  unfold f_X5_worthFor
  refine rl_bd2 (S := S8 b) (l_X5_isTeam (rfl : a1 = _) h0) (fun r_1 s_2 s_2' h_3 => ?_)
  refine rl_if Iff.rfl ?_ ?_
  ·
    refine rl_bd2 (S := S8 b) (l_X5_soloWorth (rfl : a1 = _) h_3) (fun r_4 s_5 s_5' h_6 => ?_)
    exact rl_some ⟨rfl, h_6⟩
  ·
    refine rl_bd2 (S := S8 b) (l_X1_write (rfl : (13 : Int32) = _) h_3) (fun r_7 s_8 s_8' h_9 => ?_)
    refine rl_ck rfl (fun j_10 hj_11 => ?_)
    refine rl_if (by rw [h_9.rd (a := 6) (by omega)]) ?_ ?_
    ·
      refine rl_bd2 (S := S8 b) (l_X1_met (rfl : (1 : Int32) = _) h_9) (fun r_12 s_13 s_13' h_14 => ?_)
      exact rl_some ⟨rfl, h_14⟩
    ·
      refine rl_bd (P1 := (SumR (fun (x x' : Int32 × G) => x.1 = x'.1 ∧ S8 b x.2 x'.2) (fun (x x' : Int32 × G) => x.1 = x'.1 ∧ S8 b x.2 x'.2))) ?_ ?_
      ·
        refine rl_lp (I := (fun (x x' : Int32 × Int32 × G) => x.1 = x'.1 ∧ x.2.1 = x'.2.1 ∧ S8 b x.2.2 x'.2.2)) ?_ ⟨rfl, rfl, h_9⟩
        rintro ⟨x_15, x_16, s_17⟩ ⟨_, _, s_17'⟩ ⟨rfl, rfl, h_18⟩
        replace h_18 : S8 b s_17 s_17' := h_18
        try dsimp only
        refine rl_if (by rw [h_9.rd (a := 6) (by omega)]) ?_ ?_
        ·
          exact rl_some (SumR.r (SumR.l ⟨rfl, h_18⟩))
        ·
          refine rl_ck rfl (fun j_19 hj_20 => ?_)
          refine rl_bd (P1 := (fun (x x' : Int32 × G) => x.1 = x'.1 ∧ S8 b x.2 x'.2)) ?_ ?_
          ·
            refine rl_if (by rw [h_18.rd (a := 7) (by omega)]) ?_ ?_
            ·
              refine rl_bd2 (S := S8 b) (l_X1_met (rfl : (1 : Int32) = _) h_18) (fun r_21 s_22 s_22' h_23 => ?_)
              exact rl_some ⟨rfl, h_23⟩
            ·
              refine rl_bd2 (S := S8 b) (l_X5_soloWorth (by rw [h_18.rd (a := 7) (by omega)]) h_18) (fun r_24 s_25 s_25' h_26 => ?_)
              exact rl_some ⟨rfl, h_26⟩
          ·
            rintro ⟨x_27, s_28⟩ ⟨_, s_28'⟩ ⟨rfl, h_29⟩
            replace h_29 : S8 b s_28 s_28' := h_29
            try dsimp only
            refine rl_if Iff.rfl ?_ ?_
            ·
              exact rl_some (SumR.l ⟨rfl, rfl, h_29⟩)
            ·
              exact rl_some (SumR.r (SumR.r ⟨rfl, h_29⟩))
      ·
        rintro (⟨x_30, s_31⟩ | y) (⟨_, s_31'⟩ | y') hq
        ·
          obtain ⟨rfl, h_32⟩ := hq
          replace h_32 : S8 b s_31 s_31' := h_32
          try dsimp only
          refine rl_if (by rw [h_9.rd (a := 6) (by omega)]) ?_ ?_
          ·
            refine rl_bd2 (S := S8 b) (l_X1_met (rfl : (4 : Int32) = _) h_32) (fun r_33 s_34 s_34' h_35 => ?_)
            exact rl_some ⟨rfl, h_35⟩
          ·
            refine rl_dz (by rw [h_9.rd (a := 6) (by omega)]) ?_
            exact rl_some ⟨(by (try dsimp only) <;> rw [h_9.rd (a := 6) (by omega)]), h_32⟩
        · exact hq.elim
        · exact hq.elim
        · exact rl_some hq
theorem l_X0_askWorths {b : Nat × G}  {g g' : G} (h0 : S8 b g g') : Rl (f_X0_askWorths  g) (f_X0_askWorths  g') (Q8 b) := by
  unfold f_X0_askWorths
  refine rl_bd (P1 := (SumR (fun (x x' : G) => S8 b x x') (fun (x x' : Int32 × G) => x.1 = x'.1 ∧ S8 b x.2 x'.2))) ?_ ?_
  ·
    refine rl_lp (I := (fun (x x' : Int32 × G) => x.1 = x'.1 ∧ S8 b x.2 x'.2)) ?_ ⟨rfl, h0⟩
    rintro ⟨x_1, s_2⟩ ⟨_, s_2'⟩ ⟨rfl, h_3⟩
    replace h_3 : S8 b s_2 s_2' := h_3
    try dsimp only
    refine rl_if (by rw [h_3.rd (a := 27) (by omega)]) ?_ ?_
    ·
      exact rl_some (SumR.r (SumR.l h_3))
    ·
      refine rl_ck rfl (fun j_4 hj_5 => ?_)
      refine rl_bd2 (S := S8 b) (l_X5_worthFor (by rw [h_3.rd (a := 28) (by omega)]) h_3) (fun r_6 s_7 s_7' h_8 => ?_)
      refine rl_ck rfl (fun j_9 hj_10 => ?_)
      refine rl_wr (Q := S8 b) (h_8.up (by omega) (by omega) (by omega) rfl) (fun s_11 s_11' h_12 => ?_)
      refine rl_ck rfl (fun j_13 hj_14 => ?_)
      refine rl_if (by rw [h_12.rd (a := 30) (by omega)]) ?_ ?_
      ·
        exact rl_some (SumR.l ⟨rfl, h_12⟩)
      ·
        exact rl_some (SumR.r (SumR.r ⟨rfl, h_12⟩))
  ·
    rintro (s_15 | y) (s_15' | y') hq
    ·
      have h_16 := hq
      replace h_16 : S8 b s_15 s_15' := h_16
      try dsimp only
      exact rl_some ⟨rfl, h_16⟩
    · exact hq.elim
    · exact hq.elim
    · exact rl_some hq
theorem l_X7_isKnown {b : Nat × G} {a1 a2 a1' a2' : Int32} {t : Nat} (h_t0 : t = 47 ∨ t = 75 ∨ t = 103 ∨ t = 131) (e_a1 : a1 = a1') (e_a2 : a2 = a2') {g g' : G} (h0 : S8 b g g') : Rl (f_X7_isKnown t a1 a2 g) (f_X7_isKnown t a1' a2' g') (Q8 b) := by
  subst e_a1
  subst e_a2
  unfold f_X7_isKnown
  refine rl_ck rfl (fun j_1 hj_2 => ?_)
  refine rl_bd (P1 := (SumR (fun _ _ => True) (fun (x x' : Int32 × G) => x.1 = x'.1 ∧ S8 b x.2 x'.2))) ?_ ?_
  ·
    refine rl_if (by rw [h0.rd (a := (t + 13)) (by omega)]) ?_ ?_
    ·
      exact rl_some (SumR.l trivial)
    ·
      refine rl_ck rfl (fun j_3 hj_4 => ?_)
      refine rl_if (by rw [h0.rd (a := (t + 13)) (by omega)]) ?_ ?_
      ·
        exact rl_some (SumR.l trivial)
      ·
        refine rl_ck rfl (fun j_5 hj_6 => ?_)
        refine rl_if (by rw [h0.rd (a := (t + 12)) (by omega)]) ?_ ?_
        ·
          exact rl_some (SumR.r ⟨rfl, h0⟩)
        ·
          refine rl_if Iff.rfl ?_ ?_
          ·
            exact rl_some (SumR.r ⟨rfl, h0⟩)
          ·
            exact rl_some (SumR.r ⟨rfl, h0⟩)
  ·
    rintro (_ | y) (_ | y') hq
    ·
      try dsimp only
      refine rl_ck rfl (fun j_7 hj_8 => ?_)
      refine rl_if (by rw [h0.rd (a := (t + 12)) (by omega)]) ?_ ?_
      ·
        exact rl_some ⟨rfl, h0⟩
      ·
        refine rl_if Iff.rfl ?_ ?_
        ·
          exact rl_some ⟨rfl, h0⟩
        ·
          exact rl_some ⟨rfl, h0⟩
    · exact hq.elim
    · exact hq.elim
    · exact rl_some hq
theorem l_X6_read {b : Nat × G} {a2 a3 a2' a3' : Int32} {t : Nat} (h_t1 : t = 47 ∨ t = 75 ∨ t = 103 ∨ t = 131) (e_a2 : a2 = a2') (e_a3 : a3 = a3') {g g' : G} (h0 : S8 b g g') : Rl (f_X6_read t a2 a3 g) (f_X6_read t a2' a3' g') (Q8 b) := by
  subst e_a2
  subst e_a3
  unfold f_X6_read
  refine rl_bd2 (S := S8 b) (l_J7_fill_53178 (a := 16) (by omega) (by omega) (by omega) (n := 30) (by omega) (rfl : (-1 : Int32) = _) h0) (fun r_1 s_2 s_2' h_3 => ?_)
  refine rl_bd (P1 := (fun (x x' : G) => S8 b x x')) ?_ ?_
  ·
    refine rl_lp (I := (fun (x x' : Int32 × G) => x.1 = x'.1 ∧ S8 b x.2 x'.2)) ?_ ⟨rfl, h_3⟩
    rintro ⟨x_4, s_5⟩ ⟨_, s_5'⟩ ⟨rfl, h_6⟩
    replace h_6 : S8 b s_5 s_5' := h_6
    try dsimp only
    refine rl_if (by rw [h_6.rd (a := t) (by omega)]) ?_ ?_
    ·
      exact rl_some (SumR.r h_6)
    ·
      refine rl_ck rfl (fun j_7 hj_8 => ?_)
      refine rl_ck (by rw [h_6.rd (a := (t + 9)) (by omega)]) (fun j_9 hj_10 => ?_)
      refine rl_bd2 (S := S8 b) (l_X7_isKnown (t := t) (by omega) (rfl : x_4 = _) (rfl : a3 = _) h_6) (fun r_11 s_12 s_12' h_13 => ?_)
      refine rl_bd (P1 := (fun (x x' : G) => S8 b x x')) ?_ ?_
      ·
        refine rl_if Iff.rfl ?_ ?_
        ·
          exact rl_some h_13
        ·
          refine rl_bd (P1 := (SumR (fun _ _ => True) (fun (x x' : G) => S8 b x x'))) ?_ ?_
          ·
            refine rl_if (by rw [h_6.rd (a := 16) (by omega)]) ?_ ?_
            ·
              exact rl_some (SumR.l trivial)
            ·
              refine rl_ck (by rw [h_6.rd (a := 16) (by omega)]) (fun j_14 hj_15 => ?_)
              refine rl_ck rfl (fun j_16 hj_17 => ?_)
              refine rl_if (by rw [h_13.rd (a := (t + 12)) (by omega)]) ?_ ?_
              ·
                exact rl_some (SumR.r h_13)
              ·
                exact rl_some (SumR.l trivial)
          ·
            rintro (_ | y) (_ | y') hq
            ·
              try dsimp only
              refine rl_ck (by rw [h_6.rd (a := (t + 9)) (by omega)]) (fun j_18 hj_19 => ?_)
              refine rl_wr (Q := S8 b) (h_13.up (by omega) (by omega) (by omega) rfl) (fun s_20 s_20' h_21 => ?_)
              exact rl_some h_21
            · exact hq.elim
            · exact hq.elim
            · exact rl_some hq
      ·
        rintro s_22 s_22' h_23
        replace h_23 : S8 b s_22 s_22' := h_23
        try dsimp only
        exact rl_some (SumR.l ⟨rfl, h_23⟩)
  ·
    rintro s_24 s_24' h_25
    replace h_25 : S8 b s_24 s_24' := h_25
    try dsimp only
    refine rl_bd (P1 := (fun (x x' : G) => S8 b x x')) ?_ ?_
    ·
      refine rl_lp (I := (fun (x x' : Int32 × G) => x.1 = x'.1 ∧ S8 b x.2 x'.2)) ?_ ⟨rfl, h_25⟩
      rintro ⟨x_26, s_27⟩ ⟨_, s_27'⟩ ⟨rfl, h_28⟩
      replace h_28 : S8 b s_27 s_27' := h_28
      try dsimp only
      refine rl_if Iff.rfl ?_ ?_
      ·
        exact rl_some (SumR.r h_28)
      ·
        refine rl_ck rfl (fun j_29 hj_30 => ?_)
        refine rl_bd (P1 := (SumR (fun (x x' : Int32 × G) => x.1 = x'.1 ∧ S8 b x.2 x'.2) (SumR (fun (x x' : Int32 × G) => x.1 = x'.1 ∧ S8 b x.2 x'.2) (fun (x x' : G) => S8 b x x')))) ?_ ?_
        ·
          refine rl_if (by rw [h_28.rd (a := 16) (by omega)]) ?_ ?_
          ·
            exact rl_some (SumR.l ⟨rfl, h_28⟩)
          ·
            refine rl_ck (by rw [h_28.rd (a := 16) (by omega)]) (fun j_31 hj_32 => ?_)
            refine rl_if (by rw [h_28.rd (a := (t + 11)) (by omega)]) ?_ ?_
            ·
              refine rl_ck (by rw [h_28.rd (a := 16) (by omega)]) (fun j_33 hj_34 => ?_)
              refine rl_ck rfl (fun j_35 hj_36 => ?_)
              refine rl_wr (Q := S8 b) (h_28.up (by omega) (by omega) (by omega) (by rw [h_28.rd (a := (t + 10)) (by omega)])) (fun s_37 s_37' h_38 => ?_)
              exact rl_some (SumR.r (SumR.l ⟨rfl, h_38⟩))
            ·
              exact rl_some (SumR.l ⟨rfl, h_28⟩)
        ·
          rintro (⟨x_39, s_40⟩ | y) (⟨_, s_40'⟩ | y') hq
          ·
            obtain ⟨rfl, h_41⟩ := hq
            replace h_41 : S8 b s_40 s_40' := h_41
            try dsimp only
            refine rl_ck rfl (fun j_42 hj_43 => ?_)
            refine rl_wr (Q := S8 b) (h_41.up (by omega) (by omega) (by omega) rfl) (fun s_44 s_44' h_45 => ?_)
            exact rl_some (SumR.l ⟨rfl, h_45⟩)
          · exact hq.elim
          · exact hq.elim
          · exact rl_some hq
    ·
      rintro s_46 s_46' h_47
      replace h_47 : S8 b s_46 s_46' := h_47
      try dsimp only
      exact rl_some ⟨rfl, h_47⟩
theorem l_X6_whiteHalves {b : Nat × G} {a0 a0' : Int32} (e_a0 : a0 = a0') {g g' : G} (h0 : S8 b g g') : Rl (f_X6_whiteHalves a0 g) (f_X6_whiteHalves a0' g') (Q8 b) := by
  subst e_a0
  unfold f_X6_whiteHalves
  refine rl_if Iff.rfl ?_ ?_
  ·
    exact rl_some ⟨rfl, h0⟩
  ·
    refine rl_if Iff.rfl ?_ ?_
    ·
      exact rl_some ⟨rfl, h0⟩
    ·
      refine rl_if Iff.rfl ?_ ?_
      ·
        exact rl_some ⟨rfl, h0⟩
      ·
        exact rl_some ⟨rfl, h0⟩
theorem l_X6_blackHalves {b : Nat × G} {a0 a0' : Int32} (e_a0 : a0 = a0') {g g' : G} (h0 : S8 b g g') : Rl (f_X6_blackHalves a0 g) (f_X6_blackHalves a0' g') (Q8 b) := by
  subst e_a0
  unfold f_X6_blackHalves
  refine rl_if Iff.rfl ?_ ?_
  ·
    exact rl_some ⟨rfl, h0⟩
  ·
    refine rl_if Iff.rfl ?_ ?_
    ·
      exact rl_some ⟨rfl, h0⟩
    ·
      refine rl_if Iff.rfl ?_ ?_
      ·
        exact rl_some ⟨rfl, h0⟩
      ·
        exact rl_some ⟨rfl, h0⟩
theorem l_X6_score {b : Nat × G} {a2 a2' : Int32} {t : Nat} (h_t1 : t = 47 ∨ t = 75 ∨ t = 103 ∨ t = 131) (e_a2 : a2 = a2') {g g' : G} (h0 : S8 b g g') : Rl (f_X6_score t a2 g) (f_X6_score t a2' g') (Q8 b) := by
  subst e_a2
  unfold f_X6_score
  refine rl_bd2 (S := S8 b) (l_J7_fill_53178 (a := 19) (by omega) (by omega) (by omega) (n := 24) (by omega) (rfl : (0 : Int32) = _) h0) (fun r_1 s_2 s_2' h_3 => ?_)
  refine rl_bd (P1 := (fun (x x' : G) => S8 b x x')) ?_ ?_
  ·
    refine rl_lp (I := (fun (x x' : Int32 × G) => x.1 = x'.1 ∧ S8 b x.2 x'.2)) ?_ ⟨rfl, h_3⟩
    rintro ⟨x_4, s_5⟩ ⟨_, s_5'⟩ ⟨rfl, h_6⟩
    replace h_6 : S8 b s_5 s_5' := h_6
    try dsimp only
    refine rl_if (by rw [h_6.rd (a := t) (by omega)]) ?_ ?_
    ·
      exact rl_some (SumR.r h_6)
    ·
      refine rl_bd (P1 := (fun (x x' : G) => S8 b x x')) ?_ ?_
      ·
        refine rl_lp (I := (fun (x x' : Int32 × G) => x.1 = x'.1 ∧ S8 b x.2 x'.2)) ?_ ⟨rfl, h_6⟩
        rintro ⟨x_7, s_8⟩ ⟨_, s_8'⟩ ⟨rfl, h_9⟩
        replace h_9 : S8 b s_8 s_8' := h_9
        try dsimp only
        refine rl_ck rfl (fun j_10 hj_11 => ?_)
        refine rl_if (by rw [h_9.rd (a := (t + 5)) (by omega)]) ?_ ?_
        ·
          exact rl_some (SumR.r h_9)
        ·
          refine rl_ck rfl (fun j_12 hj_13 => ?_)
          refine rl_bd (P1 := (fun (x x' : G) => S8 b x x')) ?_ ?_
          ·
            refine rl_if (by rw [h_9.rd (a := (t + 8)) (by omega)]) ?_ ?_
            ·
              refine rl_ck rfl (fun j_14 hj_15 => ?_)
              refine rl_if (by rw [h_9.rd (a := (t + 4)) (by omega)]) ?_ ?_
              ·
                exact rl_some h_9
              ·
                refine rl_ck rfl (fun j_16 hj_17 => ?_)
                refine rl_ck (by rw [h_9.rd (a := (t + 7)) (by omega)]) (fun j_18 hj_19 => ?_)
                refine rl_ck (by rw [h_9.rd (a := (t + 7)) (by omega)]) (fun j_20 hj_21 => ?_)
                refine rl_wr (Q := S8 b) (h_9.up (by omega) (by omega) (by omega) (by rw [h_9.rd (a := 19) (by omega)])) (fun s_22 s_22' h_23 => ?_)
                exact rl_some h_23
            ·
              refine rl_ck rfl (fun j_24 hj_25 => ?_)
              refine rl_ck (by rw [h_9.rd (a := (t + 7)) (by omega)]) (fun j_26 hj_27 => ?_)
              refine rl_ck rfl (fun j_28 hj_29 => ?_)
              refine rl_bd2 (S := S8 b) (l_X6_whiteHalves (by rw [h_9.rd (a := 17) (by omega)]) h_9) (fun r_30 s_31 s_31' h_32 => ?_)
              refine rl_ck (by rw [h_9.rd (a := (t + 7)) (by omega)]) (fun j_33 hj_34 => ?_)
              refine rl_wr (Q := S8 b) (h_32.up (by omega) (by omega) (by omega) (by rw [h_9.rd (a := 19) (by omega)])) (fun s_35 s_35' h_36 => ?_)
              refine rl_ck rfl (fun j_37 hj_38 => ?_)
              refine rl_ck (by rw [h_36.rd (a := (t + 8)) (by omega)]) (fun j_39 hj_40 => ?_)
              refine rl_ck rfl (fun j_41 hj_42 => ?_)
              refine rl_bd2 (S := S8 b) (l_X6_blackHalves (by rw [h_36.rd (a := 17) (by omega)]) h_36) (fun r_43 s_44 s_44' h_45 => ?_)
              refine rl_ck (by rw [h_36.rd (a := (t + 8)) (by omega)]) (fun j_46 hj_47 => ?_)
              refine rl_wr (Q := S8 b) (h_45.up (by omega) (by omega) (by omega) (by rw [h_36.rd (a := 19) (by omega)])) (fun s_48 s_48' h_49 => ?_)
              exact rl_some h_49
          ·
            rintro s_50 s_50' h_51
            replace h_51 : S8 b s_50 s_50' := h_51
            try dsimp only
            exact rl_some (SumR.l ⟨rfl, h_51⟩)
      ·
        rintro s_52 s_52' h_53
        replace h_53 : S8 b s_52 s_52' := h_53
        try dsimp only
        exact rl_some (SumR.l ⟨rfl, h_53⟩)
  ·
    rintro s_54 s_54' h_55
    replace h_55 : S8 b s_54 s_54' := h_55
    try dsimp only
    exact rl_some ⟨rfl, h_55⟩
theorem l_X0_recallSpot {b : Nat × G} {a1 a2 a1' a2' : Int32} (e_a1 : a1 = a1') (e_a2 : a2 = a2') {g g' : G} (h0 : S8 b g g') : Rl (f_X0_recallSpot a1 a2 g) (f_X0_recallSpot a1' a2' g') (Q8 b) := by
  subst e_a1
  subst e_a2
  unfold f_X0_recallSpot
  refine rl_if Iff.rfl ?_ ?_
  ·
    exact rl_some ⟨rfl, h0⟩
  ·
    refine rl_if Iff.rfl ?_ ?_
    ·
      exact rl_some ⟨rfl, h0⟩
    ·
      refine rl_ck rfl (fun j_1 hj_2 => ?_)
      refine rl_wr (Q := S8 b) (h0.up (by omega) (by omega) (by omega) rfl) (fun s_3 s_3' h_4 => ?_)
      exact rl_some ⟨rfl, h_4⟩
theorem l_X0_recallColour {b : Nat × G} {a1 a2 a1' a2' : Int32} (e_a1 : a1 = a1') (e_a2 : a2 = a2') {g g' : G} (h0 : S8 b g g') : Rl (f_X0_recallColour a1 a2 g) (f_X0_recallColour a1' a2' g') (Q8 b) := by
  subst e_a1
  subst e_a2
  unfold f_X0_recallColour
  refine rl_if Iff.rfl ?_ ?_
  ·
    exact rl_some ⟨rfl, h0⟩
  ·
    refine rl_ck rfl (fun j_1 hj_2 => ?_)
    refine rl_ck rfl (fun j_3 hj_4 => ?_)
    refine rl_wr (Q := S8 b) (h0.up (by omega) (by omega) (by omega) (by rw [h0.rd (a := 31) (by omega)])) (fun s_5 s_5' h_6 => ?_)
    refine rl_ck rfl (fun j_7 hj_8 => ?_)
    refine rl_ck rfl (fun j_9 hj_10 => ?_)
    refine rl_wr (Q := S8 b) (h_6.up (by omega) (by omega) (by omega) (by rw [h_6.rd (a := 32) (by omega)])) (fun s_11 s_11' h_12 => ?_)
    refine rl_ck rfl (fun j_13 hj_14 => ?_)
    refine rl_wr (Q := S8 b) (h_12.up (by omega) (by omega) (by omega) rfl) (fun s_15 s_15' h_16 => ?_)
    exact rl_some ⟨rfl, h_16⟩
theorem l_X0_recallPair {b : Nat × G} {a1 a2 a1' a2' : Int32} (e_a1 : a1 = a1') (e_a2 : a2 = a2') {g g' : G} (h0 : S8 b g g') : Rl (f_X0_recallPair a1 a2 g) (f_X0_recallPair a1' a2' g') (Q8 b) := by
  subst e_a1
  subst e_a2
  unfold f_X0_recallPair
  refine rl_ck rfl (fun j_1 hj_2 => ?_)
  refine rl_if Iff.rfl ?_ ?_
  ·
    refine rl_bd2 (S := S8 b) (l_X0_recallSpot (by rw [h0.rd (a := 29) (by omega)]) (rfl : (10 : Int32) = _) h0) (fun r_3 s_4 s_4' h_5 => ?_)
    exact rl_some ⟨rfl, h_5⟩
  ·
    refine rl_ck rfl (fun j_6 hj_7 => ?_)
    refine rl_bd2 (S := S8 b) (l_X0_recallSpot (by rw [h0.rd (a := 29) (by omega)]) (by rw [h0.rd (a := 29) (by omega)]) h0) (fun r_8 s_9 s_9' h_10 => ?_)
    refine rl_bd2 (S := S8 b) (l_X0_recallSpot (by rw [h0.rd (a := 29) (by omega)]) (by rw [h0.rd (a := 29) (by omega)]) h_10) (fun r_11 s_12 s_12' h_13 => ?_)
    refine rl_bd2 (S := S8 b) (l_X0_recallColour (by rw [h0.rd (a := 29) (by omega)]) (rfl : (1 : Int32) = _) h_13) (fun r_14 s_15 s_15' h_16 => ?_)
    refine rl_bd2 (S := S8 b) (l_X0_recallColour (by rw [h0.rd (a := 29) (by omega)]) (rfl : (-1 : Int32) = _) h_16) (fun r_17 s_18 s_18' h_19 => ?_)
    exact rl_some ⟨rfl, h_19⟩
theorem l_X0_recall {b : Nat × G} {t : Nat} (h_t1 : t = 47 ∨ t = 75 ∨ t = 103 ∨ t = 131) {g g' : G} (h0 : S8 b g g') : Rl (f_X0_recall t g) (f_X0_recall t g') (Q8 b) := by
  unfold f_X0_recall
  refine rl_bd2 (S := S8 b) (l_J7_fill_53178 (a := 31) (by omega) (by omega) (by omega) (n := 10) (by omega) (rfl : (0 : Int32) = _) h0) (fun r_1 s_2 s_2' h_3 => ?_)
  refine rl_bd2 (S := S8 b) (l_J7_fill_53178 (a := 32) (by omega) (by omega) (by omega) (n := 10) (by omega) (rfl : (0 : Int32) = _) h_3) (fun r_4 s_5 s_5' h_6 => ?_)
  refine rl_bd2 (S := S8 b) (l_J7_fill_53178 (a := 33) (by omega) (by omega) (by omega) (n := 10) (by omega) (rfl : (0 : Int32) = _) h_6) (fun r_7 s_8 s_8' h_9 => ?_)
  refine rl_bd (P1 := (fun (x x' : G) => S8 b x x')) ?_ ?_
  ·
    refine rl_lp (I := (fun (x x' : Int32 × G) => x.1 = x'.1 ∧ S8 b x.2 x'.2)) ?_ ⟨rfl, h_9⟩
    rintro ⟨x_10, s_11⟩ ⟨_, s_11'⟩ ⟨rfl, h_12⟩
    replace h_12 : S8 b s_11 s_11' := h_12
    try dsimp only
    refine rl_if Iff.rfl ?_ ?_
    ·
      exact rl_some (SumR.r h_12)
    ·
      refine rl_ck rfl (fun j_13 hj_14 => ?_)
      refine rl_wr (Q := S8 b) (h_12.up (by omega) (by omega) (by omega) rfl) (fun s_15 s_15' h_16 => ?_)
      exact rl_some (SumR.l ⟨rfl, h_16⟩)
  ·
    rintro s_17 s_17' h_18
    replace h_18 : S8 b s_17 s_17' := h_18
    try dsimp only
    refine rl_bd (P1 := (fun (x x' : G) => S8 b x x')) ?_ ?_
    ·
      refine rl_lp (I := (fun (x x' : Int32 × G) => x.1 = x'.1 ∧ S8 b x.2 x'.2)) ?_ ⟨rfl, h_18⟩
      rintro ⟨x_19, s_20⟩ ⟨_, s_20'⟩ ⟨rfl, h_21⟩
      replace h_21 : S8 b s_20 s_20' := h_21
      try dsimp only
      refine rl_if (by rw [h_21.rd (a := t) (by omega)]) ?_ ?_
      ·
        exact rl_some (SumR.r h_21)
      ·
        refine rl_bd (P1 := (fun (x x' : G) => S8 b x x')) ?_ ?_
        ·
          refine rl_lp (I := (fun (x x' : Int32 × G) => x.1 = x'.1 ∧ S8 b x.2 x'.2)) ?_ ⟨rfl, h_21⟩
          rintro ⟨x_22, s_23⟩ ⟨_, s_23'⟩ ⟨rfl, h_24⟩
          replace h_24 : S8 b s_23 s_23' := h_24
          try dsimp only
          refine rl_ck rfl (fun j_25 hj_26 => ?_)
          refine rl_if (by rw [h_24.rd (a := (t + 5)) (by omega)]) ?_ ?_
          ·
            exact rl_some (SumR.r h_24)
          ·
            refine rl_ck rfl (fun j_27 hj_28 => ?_)
            refine rl_ck rfl (fun j_29 hj_30 => ?_)
            refine rl_bd2 (S := S8 b) (l_X0_recallPair (by rw [h_24.rd (a := (t + 7)) (by omega)]) (by rw [h_24.rd (a := (t + 8)) (by omega)]) h_24) (fun r_31 s_32 s_32' h_33 => ?_)
            exact rl_some (SumR.l ⟨rfl, h_33⟩)
        ·
          rintro s_34 s_34' h_35
          replace h_35 : S8 b s_34 s_34' := h_35
          try dsimp only
          exact rl_some (SumR.l ⟨rfl, h_35⟩)
    ·
      rintro s_36 s_36' h_37
      replace h_37 : S8 b s_36 s_36' := h_37
      try dsimp only
      exact rl_some ⟨rfl, h_37⟩
theorem l_X0_basePrice {b : Nat × G} {a1 a2 a3 a1' a2' a3' : Int32} (e_a1 : a1 = a1') (e_a2 : a2 = a2') (e_a3 : a3 = a3') {g g' : G} (h0 : S8 b g g') : Rl (f_X0_basePrice a1 a2 a3 g) (f_X0_basePrice a1' a2' a3' g') (Q8 b) := by
  subst e_a1
  subst e_a2
  subst e_a3
  unfold f_X0_basePrice
  refine rl_ck rfl (fun j_1 hj_2 => ?_)
  refine rl_if (by rw [h0.rd (a := 34) (by omega)]) ?_ ?_
  ·
    exact rl_some ⟨rfl, h0⟩
  ·
    exact rl_some ⟨rfl, h0⟩
theorem l_X0_colourPrice {b : Nat × G} {a1 a2 a1' a2' : Int32} (e_a1 : a1 = a1') (e_a2 : a2 = a2') {g g' : G} (h0 : S8 b g g') : Rl (f_X0_colourPrice a1 a2 g) (f_X0_colourPrice a1' a2' g') (Q8 b) := by
  subst e_a1
  subst e_a2
  unfold f_X0_colourPrice
  refine rl_ck rfl (fun j_1 hj_2 => ?_)
  refine rl_bd (P1 := (fun (x x' : Int32) => x = x')) ?_ ?_
  ·
    refine rl_if (by rw [h0.rd (a := 31) (by omega)]) ?_ ?_
    ·
      exact rl_some rfl
    ·
      exact rl_some rfl
  ·
    rintro x_3 _ rfl
    try dsimp only
    refine rl_ck rfl (fun j_4 hj_5 => ?_)
    refine rl_bd (P1 := (SumR (fun _ _ => True) (fun (x x' : Int32 × G) => x.1 = x'.1 ∧ S8 b x.2 x'.2))) ?_ ?_
    ·
      refine rl_if (by rw [h0.rd (a := 32) (by omega)]) ?_ ?_
      ·
        refine rl_ck rfl (fun j_6 hj_7 => ?_)
        refine rl_if (by rw [h0.rd (a := 33) (by omega)]) ?_ ?_
        ·
          refine rl_bd (P1 := (fun (x x' : Int32) => x = x')) ?_ ?_
          ·
            refine rl_if Iff.rfl ?_ ?_
            ·
              exact rl_some rfl
            ·
              exact rl_some rfl
          ·
            rintro x_8 _ rfl
            try dsimp only
            refine rl_if Iff.rfl ?_ ?_
            ·
              exact rl_some (SumR.r ⟨rfl, h0⟩)
            ·
              exact rl_some (SumR.r ⟨rfl, h0⟩)
        ·
          exact rl_some (SumR.l trivial)
      ·
        exact rl_some (SumR.l trivial)
    ·
      rintro (_ | y) (_ | y') hq
      ·
        try dsimp only
        refine rl_bd (P1 := (fun (x x' : Int32) => x = x')) ?_ ?_
        ·
          refine rl_if Iff.rfl ?_ ?_
          ·
            exact rl_some rfl
          ·
            exact rl_some rfl
        ·
          rintro x_9 _ rfl
          try dsimp only
          refine rl_if Iff.rfl ?_ ?_
          ·
            exact rl_some ⟨rfl, h0⟩
          ·
            exact rl_some ⟨rfl, h0⟩
      · exact hq.elim
      · exact hq.elim
      · exact rl_some hq
theorem l_J9_abs_0f7a4 {b : Nat × G} {a0 a0' : Int32} (e_a0 : a0 = a0') {g g' : G} (h0 : S8 b g g') : Rl (f_J9_abs_0f7a4 a0 g) (f_J9_abs_0f7a4 a0' g') (Q8 b) := by
  subst e_a0
  unfold f_J9_abs_0f7a4
  refine rl_if Iff.rfl ?_ ?_
  ·
    exact rl_some ⟨rfl, h0⟩
  ·
    exact rl_some ⟨rfl, h0⟩
theorem l_X0_priceTwo {b : Nat × G} {a1 a2 a3 a1' a2' a3' : Int32} (e_a1 : a1 = a1') (e_a2 : a2 = a2') (e_a3 : a3 = a3') {g g' : G} (h0 : S8 b g g') : Rl (f_X0_priceTwo a1 a2 a3 g) (f_X0_priceTwo a1' a2' a3' g') (Q8 b) := by
  subst e_a1
  subst e_a2
  subst e_a3
  unfold f_X0_priceTwo
  refine rl_bd2 (S := S8 b) (l_X0_colourPrice (rfl : a1 = _) (rfl : (1 : Int32) = _) h0) (fun r_1 s_2 s_2' h_3 => ?_)
  refine rl_bd2 (S := S8 b) (l_X0_colourPrice (rfl : a2 = _) (rfl : (-1 : Int32) = _) h_3) (fun r_4 s_5 s_5' h_6 => ?_)
  refine rl_bd2 (S := S8 b) (l_X0_colourPrice (rfl : a1 = _) (rfl : (-1 : Int32) = _) h_6) (fun r_7 s_8 s_8' h_9 => ?_)
  refine rl_bd2 (S := S8 b) (l_X0_colourPrice (rfl : a2 = _) (rfl : (1 : Int32) = _) h_9) (fun r_10 s_11 s_11' h_12 => ?_)
  refine rl_bd (P1 := (fun (x x' : Int32) => x = x')) ?_ ?_
  ·
    refine rl_if Iff.rfl ?_ ?_
    ·
      exact rl_some rfl
    ·
      exact rl_some rfl
  ·
    rintro x_13 _ rfl
    try dsimp only
    refine rl_ck rfl (fun j_14 hj_15 => ?_)
    refine rl_bz rfl ?_
    refine rl_wr (Q := S8 b) (h_12.up (by omega) (by omega) (by omega) rfl) (fun s_16 s_16' h_17 => ?_)
    refine rl_bd2 (S := S8 b) (l_X0_basePrice (rfl : a1 = _) (rfl : a2 = _) (rfl : a3 = _) h_17) (fun r_18 s_19 s_19' h_20 => ?_)
    refine rl_ck rfl (fun j_21 hj_22 => ?_)
    refine rl_ck rfl (fun j_23 hj_24 => ?_)
    refine rl_bd2 (S := S8 b) (l_J9_abs_0f7a4 (by rw [h_20.rd (a := 30) (by omega)]) h_20) (fun r_25 s_26 s_26' h_27 => ?_)
    refine rl_bd2 (S := S8 b) (l_J9_min_7cf53 (rfl : (r_1 + r_4) = _) (rfl : (r_7 + r_10) = _) h_27) (fun r_28 s_29 s_29' h_30 => ?_)
    refine rl_ck rfl (fun j_31 hj_32 => ?_)
    refine rl_wr (Q := S8 b) (h_30.up (by omega) (by omega) (by omega) rfl) (fun s_33 s_33' h_34 => ?_)
    exact rl_some ⟨rfl, h_34⟩
theorem l_X0_priceAll {b : Nat × G}  {g g' : G} (h0 : S8 b g g') : Rl (f_X0_priceAll  g) (f_X0_priceAll  g') (Q8 b) := by
  unfold f_X0_priceAll
  refine rl_bd (P1 := (fun (x x' : Int32 × G) => x.1 = x'.1 ∧ S8 b x.2 x'.2)) ?_ ?_
  ·
    refine rl_lp (I := (fun (x x' : Int32 × Int32 × G) => x.1 = x'.1 ∧ x.2.1 = x'.2.1 ∧ S8 b x.2.2 x'.2.2)) ?_ ⟨rfl, rfl, h0⟩
    rintro ⟨x_1, x_2, s_3⟩ ⟨_, _, s_3'⟩ ⟨rfl, rfl, h_4⟩
    replace h_4 : S8 b s_3 s_3' := h_4
    try dsimp only
    refine rl_if (by rw [h_4.rd (a := 27) (by omega)]) ?_ ?_
    ·
      exact rl_some (SumR.r ⟨rfl, h_4⟩)
    ·
      refine rl_ck rfl (fun j_5 hj_6 => ?_)
      refine rl_ck (by rw [h_4.rd (a := 28) (by omega)]) (fun j_7 hj_8 => ?_)
      refine rl_bd2 (S := S8 b) (l_J9_min_7cf53 (rfl : x_1 = _) (by rw [h_4.rd (a := 19) (by omega)]) h_4) (fun r_9 s_10 s_10' h_11 => ?_)
      exact rl_some (SumR.l ⟨rfl, rfl, h_11⟩)
  ·
    rintro ⟨x_12, s_13⟩ ⟨_, s_13'⟩ ⟨rfl, h_14⟩
    replace h_14 : S8 b s_13 s_13' := h_14
    try dsimp only
    refine rl_bd (P1 := (fun (x x' : G) => S8 b x x')) ?_ ?_
    ·
      refine rl_lp (I := (fun (x x' : Int32 × G) => x.1 = x'.1 ∧ S8 b x.2 x'.2)) ?_ ⟨rfl, h_14⟩
      rintro ⟨x_15, s_16⟩ ⟨_, s_16'⟩ ⟨rfl, h_17⟩
      replace h_17 : S8 b s_16 s_16' := h_17
      try dsimp only
      refine rl_if (by rw [h_17.rd (a := 27) (by omega)]) ?_ ?_
      ·
        exact rl_some (SumR.r h_17)
      ·
        refine rl_ck rfl (fun j_18 hj_19 => ?_)
        refine rl_ck (by rw [h_17.rd (a := 28) (by omega)]) (fun j_20 hj_21 => ?_)
        refine rl_bd2 (S := S8 b) (l_X0_basePrice (rfl : x_15 = _) (rfl : (10 : Int32) = _) (by rw [h_17.rd (a := 19) (by omega)]) h_17) (fun r_22 s_23 s_23' h_24 => ?_)
        refine rl_ck rfl (fun j_25 hj_26 => ?_)
        refine rl_wr (Q := S8 b) (h_24.up (by omega) (by omega) (by omega) rfl) (fun s_27 s_27' h_28 => ?_)
        refine rl_bd (P1 := (fun (x x' : G) => S8 b x x')) ?_ ?_
        ·
          refine rl_lp (I := (fun (x x' : Int32 × G) => x.1 = x'.1 ∧ S8 b x.2 x'.2)) ?_ ⟨rfl, h_28⟩
          rintro ⟨x_29, s_30⟩ ⟨_, s_30'⟩ ⟨rfl, h_31⟩
          replace h_31 : S8 b s_30 s_30' := h_31
          try dsimp only
          refine rl_if (by rw [h_31.rd (a := 27) (by omega)]) ?_ ?_
          ·
            exact rl_some (SumR.r h_31)
          ·
            refine rl_ck rfl (fun j_32 hj_33 => ?_)
            refine rl_ck (by rw [h_31.rd (a := 28) (by omega)]) (fun j_34 hj_35 => ?_)
            refine rl_ck rfl (fun j_36 hj_37 => ?_)
            refine rl_ck (by rw [h_31.rd (a := 28) (by omega)]) (fun j_38 hj_39 => ?_)
            refine rl_bd2 (S := S8 b) (l_X0_priceTwo (rfl : x_15 = _) (rfl : x_29 = _) (by rw [h_31.rd (a := 19) (by omega)]) h_31) (fun r_40 s_41 s_41' h_42 => ?_)
            exact rl_some (SumR.l ⟨rfl, h_42⟩)
        ·
          rintro s_43 s_43' h_44
          replace h_44 : S8 b s_43 s_43' := h_44
          try dsimp only
          exact rl_some (SumR.l ⟨rfl, h_44⟩)
    ·
      rintro s_45 s_45' h_46
      replace h_46 : S8 b s_45 s_45' := h_46
      try dsimp only
      exact rl_some ⟨rfl, h_46⟩
theorem l_X0_firstFree {b : Nat × G}  {g g' : G} (h0 : S8 b g g') : Rl (f_X0_firstFree  g) (f_X0_firstFree  g') (Q8 b) := by
  unfold f_X0_firstFree
  refine rl_bd (P1 := (SumR (fun _ _ => True) (fun (x x' : Int32 × G) => x.1 = x'.1 ∧ S8 b x.2 x'.2))) ?_ ?_
  ·
    refine rl_lp (I := (fun (x x' : Int32) => x = x')) ?_ rfl
    rintro x_1 _ rfl
    try dsimp only
    refine rl_if (by rw [h0.rd (a := 27) (by omega)]) ?_ ?_
    ·
      exact rl_some (SumR.r (SumR.l trivial))
    ·
      refine rl_ck rfl (fun j_2 hj_3 => ?_)
      refine rl_if (by rw [h0.rd (a := 37) (by omega)]) ?_ ?_
      ·
        exact rl_some (SumR.r (SumR.r ⟨rfl, h0⟩))
      ·
        exact rl_some (SumR.l rfl)
  ·
    rintro (_ | y) (_ | y') hq
    ·
      try dsimp only
      exact rl_some ⟨rfl, h0⟩
    · exact hq.elim
    · exact hq.elim
    · exact rl_some hq
theorem l_X0_search {b : Nat × G} : ∀ (n : Nat) {a1 a2 a3 a1' a2' a3' : Int32} {g g' : G}, a1 = a1' → a2 = a2' → a3 = a3' → S8 b g g' → Rl (f_X0_search n a1 a2 a3 g) (f_X0_search n a1' a2' a3' g') (Q8 b) := by
  intro n
  induction n with
  | zero => intros; intro q hq; rw [f_X0_search] at hq; exact absurd hq (fun h => by cases h)
  | succ n ih =>
    rintro a1 a2 a3 _ _ _ g g' rfl rfl rfl h0
    rw [f_X0_search, f_X0_search]
    refine rl_if (by rw [h0.rd (a := 27) (by omega)]) ?_ ?_
    ·
      exact rl_some ⟨rfl, h0⟩
    ·
      refine rl_if Iff.rfl ?_ ?_
      ·
        refine rl_bd2 (S := S8 b) (l_X0_firstFree  h0) (fun r_1 s_2 s_2' h_3 => ?_)
        refine rl_if Iff.rfl ?_ ?_
        ·
          refine rl_wr (Q := S8 b) (h_3.up (by omega) (by omega) (by omega) rfl) (fun s_4 s_4' h_5 => ?_)
          refine rl_cz rfl rfl rfl ?_
          refine rl_wr (Q := S8 b) (h_5.up1 (by omega) (by omega) (by omega) (by rw [h_5.rd (a := 37) (by omega), h_5.rd (a := 38) (by omega)])) (fun s_6 s_6' h_7 => ?_)
          exact rl_some ⟨rfl, h_7⟩
        ·
          refine rl_bd (P1 := (fun (x x' : G) => S8 b x x')) ?_ ?_
          ·
            refine rl_lp (I := (fun (x x' : Int32 × G) => x.1 = x'.1 ∧ S8 b x.2 x'.2)) ?_ ⟨rfl, h_3⟩
            rintro ⟨x_8, s_9⟩ ⟨_, s_9'⟩ ⟨rfl, h_10⟩
            replace h_10 : S8 b s_9 s_9' := h_10
            try dsimp only
            refine rl_if (by rw [h_10.rd (a := 27) (by omega)]) ?_ ?_
            ·
              exact rl_some (SumR.r h_10)
            ·
              refine rl_ck rfl (fun j_11 hj_12 => ?_)
              refine rl_bd (P1 := (fun (x x' : G) => S8 b x x')) ?_ ?_
              ·
                refine rl_if (by rw [h_10.rd (a := 37) (by omega)]) ?_ ?_
                ·
                  refine rl_ck rfl (fun j_13 hj_14 => ?_)
                  refine rl_wr (Q := S8 b) (h_10.up (by omega) (by omega) (by omega) rfl) (fun s_15 s_15' h_16 => ?_)
                  refine rl_ck rfl (fun j_17 hj_18 => ?_)
                  refine rl_wr (Q := S8 b) (h_16.up (by omega) (by omega) (by omega) rfl) (fun s_19 s_19' h_20 => ?_)
                  refine rl_ck rfl (fun j_21 hj_22 => ?_)
                  refine rl_bd2 (S := S8 b) (ih (by rw [h_20.rd (a := 36) (by omega)]) (rfl : a2 = _) (rfl : (a3 + (1 : Int32)) = _) h_20) (fun r_23 s_24 s_24' h_25 => ?_)
                  refine rl_ck rfl (fun j_26 hj_27 => ?_)
                  refine rl_wr (Q := S8 b) (h_25.up (by omega) (by omega) (by omega) rfl) (fun s_28 s_28' h_29 => ?_)
                  exact rl_some h_29
                ·
                  exact rl_some h_10
              ·
                rintro s_30 s_30' h_31
                replace h_31 : S8 b s_30 s_30' := h_31
                try dsimp only
                exact rl_some (SumR.l ⟨rfl, h_31⟩)
          ·
            rintro s_32 s_32' h_33
            replace h_33 : S8 b s_32 s_32' := h_33
            try dsimp only
            refine rl_bd (P1 := (fun (x x' : G) => S8 b x x')) ?_ ?_
            ·
              refine rl_if Iff.rfl ?_ ?_
              ·
                exact rl_some h_33
              ·
                refine rl_ck rfl (fun j_34 hj_35 => ?_)
                refine rl_wr (Q := S8 b) (h_33.up (by omega) (by omega) (by omega) rfl) (fun s_36 s_36' h_37 => ?_)
                refine rl_ck rfl (fun j_38 hj_39 => ?_)
                refine rl_bd2 (S := S8 b) (ih (by rw [h_37.rd (a := 36) (by omega)]) (rfl : (0 : Int32) = _) (rfl : (a3 + (1 : Int32)) = _) h_37) (fun r_40 s_41 s_41' h_42 => ?_)
                exact rl_some h_42
            ·
              rintro s_43 s_43' h_44
              replace h_44 : S8 b s_43 s_43' := h_44
              try dsimp only
              refine rl_ck rfl (fun j_45 hj_46 => ?_)
              refine rl_wr (Q := S8 b) (h_44.up (by omega) (by omega) (by omega) rfl) (fun s_47 s_47' h_48 => ?_)
              exact rl_some ⟨rfl, h_48⟩
      ·
        exact rl_some ⟨rfl, h0⟩
theorem l_X0_findWay {b : Nat × G}  {g g' : G} (h0 : S8 b g g') : Rl (f_X0_findWay  g) (f_X0_findWay  g') (Q8 b) := by
  unfold f_X0_findWay
  refine rl_bd2 (S := S8 b) (l_J7_fill_53178 (a := 37) (by omega) (by omega) (by omega) (n := 10) (by omega) (rfl : (-1 : Int32) = _) h0) (fun r_1 s_2 s_2' h_3 => ?_)
  refine rl_wr (Q := S8 b) (h_3.up (by omega) (by omega) (by omega) rfl) (fun s_4 s_4' h_5 => ?_)
  refine rl_if (by rw [h_5.rd (a := 27) (by omega)]) ?_ ?_
  ·
    refine rl_bd2 (S := S8 b) (l_X0_search 12 (rfl : (0 : Int32) = _) (rfl : (1 : Int32) = _) (rfl : (0 : Int32) = _) h_5) (fun r_6 s_7 s_7' h_8 => ?_)
    exact rl_some ⟨rfl, h_8⟩
  ·
    refine rl_bd2 (S := S8 b) (l_X0_search 12 (rfl : (0 : Int32) = _) (rfl : (0 : Int32) = _) (rfl : (0 : Int32) = _) h_5) (fun r_9 s_10 s_10' h_11 => ?_)
    exact rl_some ⟨rfl, h_11⟩
theorem l_X0_writeRound {b : Nat × G} {a2 a2' : Int32} {t : Nat} (h_t1 : t = 47 ∨ t = 75 ∨ t = 103 ∨ t = 131) (e_a2 : a2 = a2') {g g' : G} (h0 : S8 b g g') : Rl (f_X0_writeRound t a2 g) (f_X0_writeRound t a2' g') (Q8 b) := by
  subst e_a2
  unfold f_X0_writeRound
  refine rl_bd (P1 := (fun (x x' : Int32 × G) => x.1 = x'.1 ∧ S8 b x.2 x'.2)) ?_ ?_
  ·
    refine rl_lp (I := (fun (x x' : Int32 × Int32 × G) => x.1 = x'.1 ∧ x.2.1 = x'.2.1 ∧ S8 b x.2.2 x'.2.2)) ?_ ⟨(by (try dsimp only) <;> rw [h0.rd (a := t) (by omega)]), rfl, h0⟩
    rintro ⟨x_1, x_2, s_3⟩ ⟨_, _, s_3'⟩ ⟨rfl, rfl, h_4⟩
    replace h_4 : S8 b s_3 s_3' := h_4
    try dsimp only
    refine rl_if (by rw [h_4.rd (a := 27) (by omega)]) ?_ ?_
    ·
      exact rl_some (SumR.r ⟨rfl, h_4⟩)
    ·
      refine rl_ck rfl (fun j_5 hj_6 => ?_)
      refine rl_bd (P1 := (fun (x x' : Int32 × G) => x.1 = x'.1 ∧ S8 b x.2 x'.2)) ?_ ?_
      ·
        refine rl_if (by rw [h_4.rd (a := 38) (by omega)]) ?_ ?_
        ·
          exact rl_some ⟨rfl, h_4⟩
        ·
          refine rl_bd (P1 := (SumR (fun (x x' : Int32 × G) => x.1 = x'.1 ∧ S8 b x.2 x'.2) (fun (x x' : Int32 × G) => x.1 = x'.1 ∧ S8 b x.2 x'.2))) ?_ ?_
          ·
            refine rl_if (by rw [h_4.rd (a := 38) (by omega)]) ?_ ?_
            ·
              exact rl_some (SumR.l ⟨rfl, h_4⟩)
            ·
              refine rl_ck (by rw [h_4.rd (a := 38) (by omega)]) (fun j_7 hj_8 => ?_)
              refine rl_if (by rw [h_4.rd (a := 35) (by omega)]) ?_ ?_
              ·
                exact rl_some (SumR.l ⟨rfl, h_4⟩)
              ·
                refine rl_bd (P1 := (fun (x x' : Int32) => x = x')) ?_ ?_
                ·
                  refine rl_if (by rw [h_4.rd (a := 38) (by omega)]) ?_ ?_
                  ·
                    exact rl_some rfl
                  ·
                    refine rl_ck (by rw [h_4.rd (a := 38) (by omega)]) (fun j_9 hj_10 => ?_)
                    exact rl_some (by (try dsimp only) <;> rw [h_4.rd (a := 28) (by omega)])
                ·
                  rintro x_11 _ rfl
                  try dsimp only
                  refine rl_bd (P1 := (fun (x x' : Int32) => x = x')) ?_ ?_
                  ·
                    refine rl_if Iff.rfl ?_ ?_
                    ·
                      refine rl_ck rfl (fun j_12 hj_13 => ?_)
                      exact rl_some (by (try dsimp only) <;> rw [h_4.rd (a := 28) (by omega)])
                    ·
                      exact rl_some rfl
                  ·
                    rintro x_14 _ rfl
                    try dsimp only
                    refine rl_ck rfl (fun j_15 hj_16 => ?_)
                    refine rl_wr (Q := S8 b) (h_4.up (by omega) (by omega) (by omega) rfl) (fun s_17 s_17' h_18 => ?_)
                    refine rl_bd (P1 := (fun (x x' : Int32) => x = x')) ?_ ?_
                    ·
                      refine rl_if Iff.rfl ?_ ?_
                      ·
                        exact rl_some rfl
                      ·
                        refine rl_ck rfl (fun j_19 hj_20 => ?_)
                        exact rl_some (by (try dsimp only) <;> rw [h_18.rd (a := 28) (by omega)])
                    ·
                      rintro x_21 _ rfl
                      try dsimp only
                      refine rl_ck rfl (fun j_22 hj_23 => ?_)
                      refine rl_wr (Q := S8 b) (h_18.up (by omega) (by omega) (by omega) rfl) (fun s_24 s_24' h_25 => ?_)
                      exact rl_some (SumR.r ⟨rfl, h_25⟩)
          ·
            rintro (⟨x_26, s_27⟩ | y) (⟨_, s_27'⟩ | y') hq
            ·
              obtain ⟨rfl, h_28⟩ := hq
              replace h_28 : S8 b s_27 s_27' := h_28
              try dsimp only
              refine rl_bd (P1 := (fun (x x' : Int32) => x = x')) ?_ ?_
              ·
                refine rl_if (by rw [h_4.rd (a := 38) (by omega)]) ?_ ?_
                ·
                  exact rl_some rfl
                ·
                  refine rl_ck (by rw [h_4.rd (a := 38) (by omega)]) (fun j_29 hj_30 => ?_)
                  exact rl_some (by (try dsimp only) <;> rw [h_28.rd (a := 28) (by omega)])
              ·
                rintro x_31 _ rfl
                try dsimp only
                refine rl_bd (P1 := (fun (x x' : Int32) => x = x')) ?_ ?_
                ·
                  refine rl_if Iff.rfl ?_ ?_
                  ·
                    refine rl_ck rfl (fun j_32 hj_33 => ?_)
                    exact rl_some (by (try dsimp only) <;> rw [h_28.rd (a := 28) (by omega)])
                  ·
                    exact rl_some rfl
                ·
                  rintro x_34 _ rfl
                  try dsimp only
                  refine rl_ck rfl (fun j_35 hj_36 => ?_)
                  refine rl_wr (Q := S8 b) (h_28.up (by omega) (by omega) (by omega) rfl) (fun s_37 s_37' h_38 => ?_)
                  refine rl_bd (P1 := (fun (x x' : Int32) => x = x')) ?_ ?_
                  ·
                    refine rl_if Iff.rfl ?_ ?_
                    ·
                      exact rl_some rfl
                    ·
                      refine rl_ck rfl (fun j_39 hj_40 => ?_)
                      exact rl_some (by (try dsimp only) <;> rw [h_38.rd (a := 28) (by omega)])
                  ·
                    rintro x_41 _ rfl
                    try dsimp only
                    refine rl_ck rfl (fun j_42 hj_43 => ?_)
                    refine rl_wr (Q := S8 b) (h_38.up (by omega) (by omega) (by omega) rfl) (fun s_44 s_44' h_45 => ?_)
                    exact rl_some ⟨rfl, h_45⟩
            · exact hq.elim
            · exact hq.elim
            · exact rl_some hq
      ·
        rintro ⟨x_46, s_47⟩ ⟨_, s_47'⟩ ⟨rfl, h_48⟩
        replace h_48 : S8 b s_47 s_47' := h_48
        try dsimp only
        exact rl_some (SumR.l ⟨rfl, rfl, h_48⟩)
  ·
    rintro ⟨x_49, s_50⟩ ⟨_, s_50'⟩ ⟨rfl, h_51⟩
    replace h_51 : S8 b s_50 s_50' := h_51
    try dsimp only
    refine rl_ck (by rw [h0.rd (a := t) (by omega)]) (fun j_52 hj_53 => ?_)
    refine rl_wr (Q := S8 b) (h_51.up (by omega) (by omega) (by omega) rfl) (fun s_54 s_54' h_55 => ?_)
    refine rl_ck (by rw [h0.rd (a := t) (by omega)]) (fun j_56 hj_57 => ?_)
    refine rl_wr (Q := S8 b) (h_55.up (by omega) (by omega) (by omega) (by rw [h0.rd (a := t) (by omega)])) (fun s_58 s_58' h_59 => ?_)
    refine rl_ck (by rw [h0.rd (a := t) (by omega)]) (fun j_60 hj_61 => ?_)
    refine rl_wr (Q := S8 b) (h_59.up (by omega) (by omega) (by omega) (by rw [h_59.rd (a := 27) (by omega)])) (fun s_62 s_62' h_63 => ?_)
    refine rl_wr (Q := S8 b) (h_63.up (by omega) (by omega) (by omega) (by rw [h_63.rd (a := t) (by omega)])) (fun s_64 s_64' h_65 => ?_)
    refine rl_ck (by rw [h0.rd (a := t) (by omega)]) (fun j_66 hj_67 => ?_)
    exact rl_some ⟨(by (try dsimp only) <;> rw [h_65.rd (a := (t + 5)) (by omega)]), h_65⟩
theorem l_X8_drawRound {b : Nat × G} {a1 a2 a1' a2' : Int32} (e_a1 : a1 = a1') (e_a2 : a2 = a2') {g g' : G} (h0 : S8 b g g') : Rl (f_X8_drawRound a1 a2 g) (f_X8_drawRound a1' a2' g') (Q8 b) := by
  subst e_a1
  subst e_a2
  unfold f_X8_drawRound
  refine rl_bd2 (S := S8 b) (l_X8_isTournament (rfl : a1 = _) h0) (fun r_1 s_2 s_2' h_3 => ?_)
  refine rl_if Iff.rfl ?_ ?_
  ·
    exact rl_some ⟨rfl, h_3⟩
  ·
    refine rl_if Iff.rfl ?_ ?_
    ·
      refine rl_ck rfl (fun j_4 hj_5 => ?_)
      refine rl_wrN ?_
      refine rl_bd2 (S := S8 b) (l_X7_latestDay (t := (47 + 28 * j_4)) (by omega) h_3) (fun r_6 s_7 s_7' h_8 => ?_)
      refine rl_if Iff.rfl ?_ ?_
      ·
        refine rl_bd2 (S := S8 b) (l_X0_gather (t := (47 + 28 * j_4)) (by omega) h_8) (fun r_9 s_10 s_10' h_11 => ?_)
        refine rl_if Iff.rfl ?_ ?_
        ·
          refine rl_if (by rw [h_11.rd (a := (47 + 28 * j_4)) (by omega)]) ?_ ?_
          ·
            refine rl_bd2 (S := S8 b) (l_X0_askWorths  h_11) (fun r_12 s_13 s_13' h_14 => ?_)
            refine rl_if Iff.rfl ?_ ?_
            ·
              exact rl_some ⟨rfl, h_14⟩
            ·
              refine rl_bd2 (S := S8 b) (l_X6_read (t := (47 + 28 * j_4)) (by omega) (rfl : a2 = _) (rfl : a2 = _) h_14) (fun r_15 s_16 s_16' h_17 => ?_)
              refine rl_bd2 (S := S8 b) (l_X6_score (t := (47 + 28 * j_4)) (by omega) (rfl : a2 = _) h_17) (fun r_18 s_19 s_19' h_20 => ?_)
              refine rl_bd2 (S := S8 b) (l_X0_recall (t := (47 + 28 * j_4)) (by omega) h_20) (fun r_21 s_22 s_22' h_23 => ?_)
              refine rl_bd2 (S := S8 b) (l_X0_priceAll  h_23) (fun r_24 s_25 s_25' h_26 => ?_)
              refine rl_bd2 (S := S8 b) (l_X0_findWay  h_26) (fun r_27 s_28 s_28' h_29 => ?_)
              refine rl_bd2 (S := S8 b) (l_X0_writeRound (t := (47 + 28 * j_4)) (by omega) (rfl : a2 = _) h_29) (fun r_30 s_31 s_31' h_32 => ?_)
              exact rl_some ⟨rfl, h_32⟩
          ·
            exact rl_some ⟨rfl, h_11⟩
        ·
          exact rl_some ⟨rfl, h_11⟩
      ·
        exact rl_some ⟨rfl, h_8⟩
    ·
      exact rl_some ⟨rfl, h_3⟩
theorem l_X7_roundOf {b : Nat × G} {a1 a1' : Int32} {t : Nat} (h_t0 : t = 47 ∨ t = 75 ∨ t = 103 ∨ t = 131) (e_a1 : a1 = a1') {g g' : G} (h0 : S8 b g g') : Rl (f_X7_roundOf t a1 g) (f_X7_roundOf t a1' g') (Q8 b) := by
  subst e_a1
  unfold f_X7_roundOf
  refine rl_bd (P1 := (SumR (fun (x x' : G) => S8 b x x') (fun (x x' : Int32 × G) => x.1 = x'.1 ∧ S8 b x.2 x'.2))) ?_ ?_
  ·
    refine rl_if Iff.rfl ?_ ?_
    ·
      exact rl_some (SumR.l h0)
    ·
      refine rl_if Iff.rfl ?_ ?_
      ·
        refine rl_if (by rw [h0.rd (a := t) (by omega)]) ?_ ?_
        ·
          exact rl_some (SumR.r ⟨rfl, h0⟩)
        ·
          refine rl_bd2 (S := S8 b) (l_X1_met (rfl : (1 : Int32) = _) h0) (fun r_1 s_2 s_2' h_3 => ?_)
          exact rl_some (SumR.r ⟨rfl, h_3⟩)
      ·
        exact rl_some (SumR.l h0)
  ·
    rintro (s_4 | y) (s_4' | y') hq
    ·
      have h_5 := hq
      replace h_5 : S8 b s_4 s_4' := h_5
      try dsimp only
      refine rl_bd2 (S := S8 b) (l_X1_met (rfl : (2 : Int32) = _) h_5) (fun r_6 s_7 s_7' h_8 => ?_)
      exact rl_some ⟨rfl, h_8⟩
    · exact hq.elim
    · exact hq.elim
    · exact rl_some hq
theorem l_X7_cellOf {b : Nat × G} {a1 a2 a1' a2' : Int32} {t : Nat} (h_t0 : t = 47 ∨ t = 75 ∨ t = 103 ∨ t = 131) (e_a1 : a1 = a1') (e_a2 : a2 = a2') {g g' : G} (h0 : S8 b g g') : Rl (f_X7_cellOf t a1 a2 g) (f_X7_cellOf t a1' a2' g') (Q8 b) := by
  subst e_a1
  subst e_a2
  unfold f_X7_cellOf
  refine rl_bd2 (S := S8 b) (l_X7_roundOf (t := t) (by omega) (rfl : a1 = _) h0) (fun r_1 s_2 s_2' h_3 => ?_)
  refine rl_if Iff.rfl ?_ ?_
  ·
    refine rl_bd (P1 := (SumR (fun _ _ => True) (fun (x x' : Int32 × G) => x.1 = x'.1 ∧ S8 b x.2 x'.2))) ?_ ?_
    ·
      refine rl_if Iff.rfl ?_ ?_
      ·
        exact rl_some (SumR.l trivial)
      ·
        refine rl_ck rfl (fun j_4 hj_5 => ?_)
        refine rl_if (by rw [h_3.rd (a := (t + 5)) (by omega)]) ?_ ?_
        ·
          exact rl_some (SumR.r ⟨rfl, h_3⟩)
        ·
          exact rl_some (SumR.l trivial)
    ·
      rintro (_ | y) (_ | y') hq
      ·
        try dsimp only
        refine rl_bd2 (S := S8 b) (l_X1_met (rfl : (2 : Int32) = _) h_3) (fun r_6 s_7 s_7' h_8 => ?_)
        exact rl_some ⟨rfl, h_8⟩
      · exact hq.elim
      · exact hq.elim
      · exact rl_some hq
  ·
    exact rl_some ⟨rfl, h_3⟩
theorem l_X7_addEntry {b : Nat × G} {a1 a2 a3 a4 a1' a2' a3' a4' : Int32} {t : Nat} (h_t0 : t = 47 ∨ t = 75 ∨ t = 103 ∨ t = 131) (e_a1 : a1 = a1') (e_a2 : a2 = a2') (e_a3 : a3 = a3') (e_a4 : a4 = a4') {g g' : G} (h0 : S8 b g g') : Rl (f_X7_addEntry t a1 a2 a3 a4 g) (f_X7_addEntry t a1' a2' a3' a4' g') (Q8 b) := by
  subst e_a1
  subst e_a2
  subst e_a3
  subst e_a4
  unfold f_X7_addEntry
  refine rl_if (by rw [h0.rd (a := t) (by omega)]) ?_ ?_
  ·
    refine rl_ck (by rw [h0.rd (a := t) (by omega)]) (fun j_1 hj_2 => ?_)
    refine rl_wr (Q := S8 b) (h0.up (by omega) (by omega) (by omega) rfl) (fun s_3 s_3' h_4 => ?_)
    refine rl_ck (by rw [h_4.rd (a := t) (by omega)]) (fun j_5 hj_6 => ?_)
    refine rl_wr (Q := S8 b) (h_4.up (by omega) (by omega) (by omega) rfl) (fun s_7 s_7' h_8 => ?_)
    refine rl_ck (by rw [h_8.rd (a := t) (by omega)]) (fun j_9 hj_10 => ?_)
    refine rl_wr (Q := S8 b) (h_8.up (by omega) (by omega) (by omega) rfl) (fun s_11 s_11' h_12 => ?_)
    refine rl_ck (by rw [h_12.rd (a := t) (by omega)]) (fun j_13 hj_14 => ?_)
    refine rl_wr (Q := S8 b) (h_12.up (by omega) (by omega) (by omega) rfl) (fun s_15 s_15' h_16 => ?_)
    refine rl_ck (by rw [h_16.rd (a := t) (by omega)]) (fun j_17 hj_18 => ?_)
    refine rl_wr (Q := S8 b) (h_16.up (by omega) (by omega) (by omega) rfl) (fun s_19 s_19' h_20 => ?_)
    refine rl_wr (Q := S8 b) (h_20.up (by omega) (by omega) (by omega) (by rw [h_20.rd (a := t) (by omega)])) (fun s_21 s_21' h_22 => ?_)
    exact rl_some ⟨(by (try dsimp only) <;> rw [h_22.rd (a := t) (by omega)]), h_22⟩
  ·
    exact rl_some ⟨rfl, h0⟩
theorem l_X8_tell {b : Nat × G} {a1 a2 a3 a4 a5 a6 a1' a2' a3' a4' a5' a6' : Int32} (e_a1 : a1 = a1') (e_a2 : a2 = a2') (e_a3 : a3 = a3') (e_a4 : a4 = a4') (e_a5 : a5 = a5') (e_a6 : a6 = a6') {g g' : G} (h0 : S8 b g g') : Rl (f_X8_tell a1 a2 a3 a4 a5 a6 g) (f_X8_tell a1' a2' a3' a4' a5' a6' g') (Q8 b) := by
  subst e_a1
  subst e_a2
  subst e_a3
  subst e_a4
  subst e_a5
  subst e_a6
  unfold f_X8_tell
  refine rl_bd2 (S := S8 b) (l_X8_isTournament (rfl : a1 = _) h0) (fun r_1 s_2 s_2' h_3 => ?_)
  refine rl_if Iff.rfl ?_ ?_
  ·
    exact rl_some ⟨rfl, h_3⟩
  ·
    refine rl_if Iff.rfl ?_ ?_
    ·
      exact rl_some ⟨rfl, h_3⟩
    ·
      refine rl_if Iff.rfl ?_ ?_
      ·
        exact rl_some ⟨rfl, h_3⟩
      ·
        refine rl_if Iff.rfl ?_ ?_
        ·
          exact rl_some ⟨rfl, h_3⟩
        ·
          refine rl_if Iff.rfl ?_ ?_
          ·
            refine rl_ck rfl (fun j_4 hj_5 => ?_)
            refine rl_wrN ?_
            refine rl_bd2 (S := S8 b) (l_X7_cellOf (t := (47 + 28 * j_4)) (by omega) (rfl : a2 = _) (rfl : a3 = _) h_3) (fun r_6 s_7 s_7' h_8 => ?_)
            refine rl_if Iff.rfl ?_ ?_
            ·
              refine rl_ck rfl (fun j_9 hj_10 => ?_)
              refine rl_if (by rw [h_8.rd (a := ((47 + 28 * j_4) + 8)) (by omega)]) ?_ ?_
              ·
                exact rl_some ⟨rfl, h_8⟩
              ·
                refine rl_bd2 (S := S8 b) (l_X7_addEntry (t := (47 + 28 * j_4)) (by omega) (rfl : r_6 = _) (rfl : a4 = _) (rfl : a5 = _) (rfl : a6 = _) h_8) (fun r_11 s_12 s_12' h_13 => ?_)
                exact rl_some ⟨rfl, h_13⟩
            ·
              exact rl_some ⟨rfl, h_8⟩
          ·
            exact rl_some ⟨rfl, h_3⟩
theorem l_X8_takeBack {b : Nat × G} {a1 a2 a3 a1' a2' a3' : Int32} (e_a1 : a1 = a1') (e_a2 : a2 = a2') (e_a3 : a3 = a3') {g g' : G} (h0 : S8 b g g') : Rl (f_X8_takeBack a1 a2 a3 g) (f_X8_takeBack a1' a2' a3' g') (Q8 b) := by
  subst e_a1
  subst e_a2
  subst e_a3
  unfold f_X8_takeBack
  refine rl_bd2 (S := S8 b) (l_X8_isTournament (rfl : a1 = _) h0) (fun r_1 s_2 s_2' h_3 => ?_)
  refine rl_if Iff.rfl ?_ ?_
  ·
    exact rl_some ⟨rfl, h_3⟩
  ·
    refine rl_if Iff.rfl ?_ ?_
    ·
      refine rl_ck rfl (fun j_4 hj_5 => ?_)
      refine rl_wrN ?_
      refine rl_if Iff.rfl ?_ ?_
      ·
        exact rl_some ⟨rfl, h_3⟩
      ·
        refine rl_if (by rw [h_3.rd (a := (47 + 28 * j_4)) (by omega)]) ?_ ?_
        ·
          exact rl_some ⟨rfl, h_3⟩
        ·
          refine rl_ck rfl (fun j_6 hj_7 => ?_)
          refine rl_if (by rw [h_3.rd (a := ((47 + 28 * j_4) + 12)) (by omega)]) ?_ ?_
          ·
            refine rl_ck rfl (fun j_8 hj_9 => ?_)
            refine rl_if (by rw [h_3.rd (a := ((47 + 28 * j_4) + 13)) (by omega)]) ?_ ?_
            ·
              refine rl_ck rfl (fun j_10 hj_11 => ?_)
              refine rl_wr (Q := S8 b) (h_3.up (by omega) (by omega) (by omega) rfl) (fun s_12 s_12' h_13 => ?_)
              exact rl_some ⟨rfl, h_13⟩
            ·
              exact rl_some ⟨rfl, h_3⟩
          ·
            exact rl_some ⟨rfl, h_3⟩
    ·
      exact rl_some ⟨rfl, h_3⟩
theorem l_X8_askWorth {b : Nat × G} {a1 a1' : Int32} (e_a1 : a1 = a1') {g g' : G} (h0 : S8 b g g') : Rl (f_X8_askWorth a1 g) (f_X8_askWorth a1' g') (Q8 b) := by
  subst e_a1
  unfold f_X8_askWorth
  refine rl_bd2 (S := S8 b) (l_X5_has (rfl : a1 = _) h0) (fun r_1 s_2 s_2' h_3 => ?_)
  refine rl_if Iff.rfl ?_ ?_
  ·
    exact rl_some ⟨rfl, h_3⟩
  ·
    refine rl_bd2 (S := S8 b) (l_X5_worthFor (rfl : a1 = _) h_3) (fun r_4 s_5 s_5' h_6 => ?_)
    exact rl_some ⟨rfl, h_6⟩
theorem l_X8_refuseAsking {b : Nat × G} {a1 a2 a3 a4 a1' a2' a3' a4' : Int32} (e_a1 : a1 = a1') (e_a2 : a2 = a2') (e_a3 : a3 = a3') (e_a4 : a4 = a4') {g g' : G} (h0 : S8 b g g') : Rl (f_X8_refuseAsking a1 a2 a3 a4 g) (f_X8_refuseAsking a1' a2' a3' a4' g') (Q8 b) := by
  subst e_a1
  subst e_a2
  subst e_a3
  subst e_a4
  unfold f_X8_refuseAsking
  refine rl_bd2 (S := S8 b) (l_X8_isTournament (rfl : a1 = _) h0) (fun r_1 s_2 s_2' h_3 => ?_)
  refine rl_if Iff.rfl ?_ ?_
  ·
    exact rl_some ⟨rfl, h_3⟩
  ·
    refine rl_bd2 (S := S8 b) (l_X5_has (rfl : a2 = _) h_3) (fun r_4 s_5 s_5' h_6 => ?_)
    refine rl_if Iff.rfl ?_ ?_
    ·
      exact rl_some ⟨rfl, h_6⟩
    ·
      refine rl_if Iff.rfl ?_ ?_
      ·
        exact rl_some ⟨rfl, h_6⟩
      ·
        refine rl_if Iff.rfl ?_ ?_
        ·
          refine rl_ck rfl (fun j_7 hj_8 => ?_)
          refine rl_wrN ?_
          refine rl_bd2 (S := S8 b) (l_X7_hasIn (t := (47 + 28 * j_7)) (by omega) (rfl : a2 = _) h_6) (fun r_9 s_10 s_10' h_11 => ?_)
          refine rl_if Iff.rfl ?_ ?_
          ·
            exact rl_some ⟨rfl, h_11⟩
          ·
            exact rl_some ⟨rfl, h_11⟩
        ·
          exact rl_some ⟨rfl, h_6⟩
theorem l_X8_points {b : Nat × G} {a1 a2 a3 a4 a1' a2' a3' a4' : Int32} (e_a1 : a1 = a1') (e_a2 : a2 = a2') (e_a3 : a3 = a3') (e_a4 : a4 = a4') {g g' : G} (h0 : S8 b g g') : Rl (f_X8_points a1 a2 a3 a4 g) (f_X8_points a1' a2' a3' a4' g') (Q8 b) := by
  subst e_a1
  subst e_a2
  subst e_a3
  subst e_a4
  unfold f_X8_points
  refine rl_bd2 (S := S8 b) (l_X8_refuseAsking (rfl : a1 = _) (rfl : a2 = _) (rfl : a3 = _) (rfl : a4 = _) h0) (fun r_1 s_2 s_2' h_3 => ?_)
  refine rl_if Iff.rfl ?_ ?_
  ·
    refine rl_ck rfl (fun j_4 hj_5 => ?_)
    refine rl_wrN ?_
    refine rl_bd2 (S := S8 b) (l_X6_read (t := (47 + 28 * j_4)) (by omega) (rfl : a3 = _) (rfl : a4 = _) h_3) (fun r_6 s_7 s_7' h_8 => ?_)
    refine rl_bd2 (S := S8 b) (l_X6_score (t := (47 + 28 * j_4)) (by omega) (rfl : a3 = _) h_8) (fun r_9 s_10 s_10' h_11 => ?_)
    refine rl_ck rfl (fun j_12 hj_13 => ?_)
    exact rl_some ⟨(by (try dsimp only) <;> rw [h_11.rd (a := 19) (by omega)]), h_11⟩
  ·
    exact rl_some ⟨rfl, h_3⟩
theorem l_X8_fails {b : Nat × G} {a0 a0' : Int32} (e_a0 : a0 = a0') {g g' : G} (h0 : S8 b g g') : Rl (f_X8_fails a0 g) (f_X8_fails a0' g') (Q8 b) := by
  subst e_a0
  unfold f_X8_fails
  refine rl_if Iff.rfl ?_ ?_
  ·
    exact rl_some ⟨rfl, h0⟩
  ·
    refine rl_if Iff.rfl ?_ ?_
    ·
      exact rl_some ⟨rfl, h0⟩
    ·
      refine rl_if Iff.rfl ?_ ?_
      ·
        exact rl_some ⟨rfl, h0⟩
      ·
        refine rl_if Iff.rfl ?_ ?_
        ·
          exact rl_some ⟨rfl, h0⟩
        ·
          exact rl_some ⟨rfl, h0⟩
theorem l_X8_need {b : Nat × G} {a1 a2 a3 a4 a1' a2' a3' a4' : Int32} (e_a1 : a1 = a1') (e_a2 : a2 = a2') (e_a3 : a3 = a3') (e_a4 : a4 = a4') {g g' : G} (h0 : S8 b g g') : Rl (f_X8_need a1 a2 a3 a4 g) (f_X8_need a1' a2' a3' a4' g') (Q8 b) := by
  subst e_a1
  subst e_a2
  subst e_a3
  subst e_a4
  unfold f_X8_need
  refine rl_bd2 (S := S8 b) (l_X8_points (rfl : a1 = _) (rfl : a2 = _) (rfl : a3 = _) (rfl : a3 = _) h0) (fun r_1 s_2 s_2' h_3 => ?_)
  refine rl_bd2 (S := S8 b) (l_X8_fails (rfl : r_1 = _) h_3) (fun r_4 s_5 s_5' h_6 => ?_)
  refine rl_if Iff.rfl ?_ ?_
  ·
    refine rl_if Iff.rfl ?_ ?_
    ·
      exact rl_some ⟨rfl, h_6⟩
    ·
      refine rl_bd2 (S := S8 b) (l_X1_met (rfl : (6 : Int32) = _) h_6) (fun r_7 s_8 s_8' h_9 => ?_)
      exact rl_some ⟨rfl, h_9⟩
  ·
    exact rl_some ⟨rfl, h_6⟩
theorem l_X8_perform {b : Nat × G} {a1 a1' : Int32} (e_a1 : a1 = a1') {g g' : G} (h0 : S8 b g g') : Rl (f_X8_perform a1 g) (f_X8_perform a1' g') (Q8 b) := by
  subst e_a1
  unfold f_X8_perform
  refine rl_ck rfl (fun j_1 hj_2 => ?_)
  refine rl_if (by rw [h0.rd (a := 44) (by omega)]) ?_ ?_
  ·
    exact rl_some ⟨rfl, h0⟩
  ·
    refine rl_if (by rw [h0.rd (a := 45) (by omega)]) ?_ ?_
    ·
      refine rl_ck rfl (fun j_3 hj_4 => ?_)
      refine rl_ck rfl (fun j_5 hj_6 => ?_)
      refine rl_ck rfl (fun j_7 hj_8 => ?_)
      refine rl_ck rfl (fun j_9 hj_10 => ?_)
      refine rl_if (by rw [h0.rd (a := 44) (by omega)]) ?_ ?_
      ·
        refine rl_bd2 (S := S8 b) (l_X8_player (by rw [h0.rd (a := 44) (by omega)]) (by rw [h0.rd (a := 44) (by omega)]) h0) (fun r_11 s_12 s_12' h_13 => ?_)
        exact rl_some ⟨rfl, h_13⟩
      ·
        refine rl_if (by rw [h0.rd (a := 44) (by omega)]) ?_ ?_
        ·
          refine rl_bd2 (S := S8 b) (l_X8_places (by rw [h0.rd (a := 44) (by omega)]) (by rw [h0.rd (a := 44) (by omega)]) h0) (fun r_14 s_15 s_15' h_16 => ?_)
          exact rl_some ⟨rfl, h_16⟩
        ·
          refine rl_if (by rw [h0.rd (a := 44) (by omega)]) ?_ ?_
          ·
            refine rl_bd2 (S := S8 b) (l_X8_seat (by rw [h0.rd (a := 44) (by omega)]) (by rw [h0.rd (a := 44) (by omega)]) (by rw [h0.rd (a := 44) (by omega)]) h0) (fun r_17 s_18 s_18' h_19 => ?_)
            exact rl_some ⟨rfl, h_19⟩
          ·
            refine rl_if (by rw [h0.rd (a := 44) (by omega)]) ?_ ?_
            ·
              refine rl_bd2 (S := S8 b) (l_X8_tournament  h0) (fun r_20 s_21 s_21' h_22 => ?_)
              exact rl_some ⟨rfl, h_22⟩
            ·
              refine rl_if (by rw [h0.rd (a := 44) (by omega)]) ?_ ?_
              ·
                refine rl_bd2 (S := S8 b) (l_X8_enter (by rw [h0.rd (a := 44) (by omega)]) (by rw [h0.rd (a := 44) (by omega)]) h0) (fun r_23 s_24 s_24' h_25 => ?_)
                exact rl_some ⟨rfl, h_25⟩
              ·
                refine rl_if (by rw [h0.rd (a := 44) (by omega)]) ?_ ?_
                ·
                  refine rl_bd2 (S := S8 b) (l_X8_withdraw (by rw [h0.rd (a := 44) (by omega)]) (by rw [h0.rd (a := 44) (by omega)]) h0) (fun r_26 s_27 s_27' h_28 => ?_)
                  exact rl_some ⟨rfl, h_28⟩
                ·
                  refine rl_if (by rw [h0.rd (a := 44) (by omega)]) ?_ ?_
                  ·
                    refine rl_bd2 (S := S8 b) (l_X8_drawRound (by rw [h0.rd (a := 44) (by omega)]) (by rw [h0.rd (a := 44) (by omega)]) h0) (fun r_29 s_30 s_30' h_31 => ?_)
                    exact rl_some ⟨rfl, h_31⟩
                  ·
                    refine rl_if (by rw [h0.rd (a := 44) (by omega)]) ?_ ?_
                    ·
                      refine rl_bd2 (S := S8 b) (l_X8_tell (by rw [h0.rd (a := 44) (by omega)]) (by rw [h0.rd (a := 44) (by omega)]) (by rw [h0.rd (a := 44) (by omega)]) (by rw [h0.rd (a := 44) (by omega)]) (by rw [h0.rd (a := 44) (by omega)]) (by rw [h0.rd (a := 44) (by omega)]) h0) (fun r_32 s_33 s_33' h_34 => ?_)
                      exact rl_some ⟨rfl, h_34⟩
                    ·
                      refine rl_if (by rw [h0.rd (a := 44) (by omega)]) ?_ ?_
                      ·
                        refine rl_bd2 (S := S8 b) (l_X8_takeBack (by rw [h0.rd (a := 44) (by omega)]) (by rw [h0.rd (a := 44) (by omega)]) (by rw [h0.rd (a := 44) (by omega)]) h0) (fun r_35 s_36 s_36' h_37 => ?_)
                        exact rl_some ⟨rfl, h_37⟩
                      ·
                        refine rl_if (by rw [h0.rd (a := 44) (by omega)]) ?_ ?_
                        ·
                          refine rl_bd2 (S := S8 b) (l_X8_askWorth (by rw [h0.rd (a := 44) (by omega)]) h0) (fun r_38 s_39 s_39' h_40 => ?_)
                          exact rl_some ⟨rfl, h_40⟩
                        ·
                          refine rl_bd2 (S := S8 b) (l_X8_need (by rw [h0.rd (a := 44) (by omega)]) (by rw [h0.rd (a := 44) (by omega)]) (by rw [h0.rd (a := 44) (by omega)]) (by rw [h0.rd (a := 44) (by omega)]) h0) (fun r_41 s_42 s_42' h_43 => ?_)
                          exact rl_some ⟨rfl, h_43⟩
    ·
      exact rl_some ⟨rfl, h0⟩
