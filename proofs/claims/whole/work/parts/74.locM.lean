/-! The model keeps to its cells. (written by gen/locgen.py) -/
theorem l_X9_in {b : G} {a0 a1 a2 a0' a1' a2' : Int32} (e_a0 : a0 = a0') (e_a1 : a1 = a1') (e_a2 : a2 = a2') {g g' : G} (h0 : S9 b g g') : Rl (f_X9_in a0 a1 a2 g) (f_X9_in a0' a1' a2' g') (Q9 b) := by
  subst e_a0
  subst e_a1
  subst e_a2
  unfold f_X9_in
  refine rl_if Iff.rfl ?_ ?_
  ·
    exact rl_some ⟨rfl, h0⟩
  ·
    refine rl_if Iff.rfl ?_ ?_
    ·
      exact rl_some ⟨rfl, h0⟩
    ·
      exact rl_some ⟨rfl, h0⟩
theorem l_X9_isPlayer {b : G} {a1 a1' : Int32} (e_a1 : a1 = a1') {g g' : G} (h0 : S9 b g g') : Rl (f_X9_isPlayer a1 g) (f_X9_isPlayer a1' g') (Q9 b) := by
  subst e_a1
  unfold f_X9_isPlayer
  refine rl_bd2 (S := S9 b) (l_X9_in (rfl : a1 = _) (rfl : (0 : Int32) = _) (by rw [h0.rd (a := 159) (by omega)]) h0) (fun r_1 s_2 s_2' h_3 => ?_)
  refine rl_bz rfl ?_
  exact rl_some ⟨rfl, h_3⟩
theorem l_X9_fails {b : G} {a1 a2 a3 a1' a2' a3' : Int32} (e_a1 : a1 = a1') (e_a2 : a2 = a2') (e_a3 : a3 = a3') {g g' : G} (h0 : S9 b g g') : Rl (f_X9_fails a1 a2 a3 g) (f_X9_fails a1' a2' a3' g') (Q9 b) := by
  subst e_a1
  subst e_a2
  subst e_a3
  unfold f_X9_fails
  refine rl_wr (Q := S9 b) (h0.up (by omega) (by omega) (by omega) rfl) (fun s_1 s_1' h_2 => ?_)
  refine rl_wr (Q := S9 b) (h_2.up (by omega) (by omega) (by omega) rfl) (fun s_3 s_3' h_4 => ?_)
  refine rl_wr (Q := S9 b) (h_4.up (by omega) (by omega) (by omega) rfl) (fun s_5 s_5' h_6 => ?_)
  exact rl_some ⟨rfl, h_6⟩
theorem l_X9_player {b : G} {a1 a2 a1' a2' : Int32} (e_a1 : a1 = a1') (e_a2 : a2 = a2') {g g' : G} (h0 : S9 b g g') : Rl (f_X9_player a1 a2 g) (f_X9_player a1' a2' g') (Q9 b) := by
  subst e_a1
  subst e_a2
  unfold f_X9_player
  refine rl_bd2 (S := S9 b) (l_X9_in (rfl : a1 = _) (rfl : (0 : Int32) = _) (rfl : (4 : Int32) = _) h0) (fun r_1 s_2 s_2' h_3 => ?_)
  refine rl_if Iff.rfl ?_ ?_
  ·
    exact rl_some ⟨rfl, h_3⟩
  ·
    refine rl_bd2 (S := S9 b) (l_X9_in (rfl : a2 = _) (rfl : (0 : Int32) = _) (rfl : (3000 : Int32) = _) h_3) (fun r_4 s_5 s_5' h_6 => ?_)
    refine rl_if Iff.rfl ?_ ?_
    ·
      exact rl_some ⟨rfl, h_6⟩
    ·
      refine rl_if (by rw [h_6.rd (a := 159) (by omega)]) ?_ ?_
      ·
        exact rl_some ⟨rfl, h_6⟩
      ·
        refine rl_ck (by rw [h_6.rd (a := 159) (by omega)]) (fun j_7 hj_8 => ?_)
        refine rl_wr (Q := S9 b) (h_6.up (by omega) (by omega) (by omega) rfl) (fun s_9 s_9' h_10 => ?_)
        refine rl_ck (by rw [h_10.rd (a := 159) (by omega)]) (fun j_11 hj_12 => ?_)
        refine rl_wr (Q := S9 b) (h_10.up (by omega) (by omega) (by omega) rfl) (fun s_13 s_13' h_14 => ?_)
        refine rl_ck (by rw [h_14.rd (a := 159) (by omega)]) (fun j_15 hj_16 => ?_)
        refine rl_wr (Q := S9 b) (h_14.up (by omega) (by omega) (by omega) rfl) (fun s_17 s_17' h_18 => ?_)
        refine rl_wr (Q := S9 b) (h_18.up (by omega) (by omega) (by omega) (by rw [h_18.rd (a := 159) (by omega)])) (fun s_19 s_19' h_20 => ?_)
        exact rl_some ⟨(by (try dsimp only) <;> rw [h_20.rd (a := 159) (by omega)]), h_20⟩
theorem l_X9_meets {b : G} {a1 a1' : Int32} (e_a1 : a1 = a1') {g g' : G} (h0 : S9 b g g') : Rl (f_X9_meets a1 g) (f_X9_meets a1' g') (Q9 b) := by
  subst e_a1
  unfold f_X9_meets
  refine rl_wr (Q := S9 b) (h0.up (by omega) (by omega) (by omega) rfl) (fun s_1 s_1' h_2 => ?_)
  exact rl_some ⟨rfl, h_2⟩
theorem l_X9_places {b : G} {a1 a2 a1' a2' : Int32} (e_a1 : a1 = a1') (e_a2 : a2 = a2') {g g' : G} (h0 : S9 b g g') : Rl (f_X9_places a1 a2 g) (f_X9_places a1' a2' g') (Q9 b) := by
  subst e_a1
  subst e_a2
  unfold f_X9_places
  refine rl_bd2 (S := S9 b) (l_X9_isPlayer (rfl : a1 = _) h0) (fun r_1 s_2 s_2' h_3 => ?_)
  refine rl_if Iff.rfl ?_ ?_
  ·
    exact rl_some ⟨rfl, h_3⟩
  ·
    refine rl_if Iff.rfl ?_ ?_
    ·
      refine rl_ck rfl (fun j_4 hj_5 => ?_)
      refine rl_if (by rw [h_3.rd (a := 161) (by omega)]) ?_ ?_
      ·
        refine rl_if Iff.rfl ?_ ?_
        ·
          refine rl_ck rfl (fun j_6 hj_7 => ?_)
          refine rl_wr (Q := S9 b) (h_3.up (by omega) (by omega) (by omega) rfl) (fun s_8 s_8' h_9 => ?_)
          refine rl_bd (P1 := (fun (x x' : G) => S9 b x x')) ?_ ?_
          ·
            refine rl_lp (I := (fun (x x' : Int32 × G) => x.1 = x'.1 ∧ S9 b x.2 x'.2)) ?_ ⟨rfl, h_9⟩
            rintro ⟨x_10, s_11⟩ ⟨_, s_11'⟩ ⟨rfl, h_12⟩
            replace h_12 : S9 b s_11 s_11' := h_12
            try dsimp only
            refine rl_if Iff.rfl ?_ ?_
            ·
              exact rl_some (SumR.r h_12)
            ·
              refine rl_ck rfl (fun j_13 hj_14 => ?_)
              refine rl_wr (Q := S9 b) (h_12.up (by omega) (by omega) (by omega) rfl) (fun s_15 s_15' h_16 => ?_)
              exact rl_some (SumR.l ⟨rfl, h_16⟩)
          ·
            rintro s_17 s_17' h_18
            replace h_18 : S9 b s_17 s_17' := h_18
            try dsimp only
            exact rl_some ⟨rfl, h_18⟩
        ·
          refine rl_bd2 (S := S9 b) (l_X9_meets (rfl : (5 : Int32) = _) h_3) (fun r_19 s_20 s_20' h_21 => ?_)
          exact rl_some ⟨rfl, h_21⟩
      ·
        refine rl_bd2 (S := S9 b) (l_X9_meets (rfl : (3 : Int32) = _) h_3) (fun r_22 s_23 s_23' h_24 => ?_)
        exact rl_some ⟨rfl, h_24⟩
    ·
      exact rl_some ⟨rfl, h_3⟩
theorem l_X9_seat {b : G} {a1 a2 a3 a1' a2' a3' : Int32} (e_a1 : a1 = a1') (e_a2 : a2 = a2') (e_a3 : a3 = a3') {g g' : G} (h0 : S9 b g g') : Rl (f_X9_seat a1 a2 a3 g) (f_X9_seat a1' a2' a3' g') (Q9 b) := by
  subst e_a1
  subst e_a2
  subst e_a3
  unfold f_X9_seat
  refine rl_bd2 (S := S9 b) (l_X9_isPlayer (rfl : a1 = _) h0) (fun r_1 s_2 s_2' h_3 => ?_)
  refine rl_if Iff.rfl ?_ ?_
  ·
    exact rl_some ⟨rfl, h_3⟩
  ·
    refine rl_bd (P1 := (SumR (fun (x x' : G) => S9 b x x') (fun (x x' : Int32 × G) => x.1 = x'.1 ∧ S9 b x.2 x'.2))) ?_ ?_
    ·
      refine rl_if Iff.rfl ?_ ?_
      ·
        exact rl_some (SumR.l h_3)
      ·
        refine rl_bd2 (S := S9 b) (l_X9_isPlayer (rfl : a3 = _) h_3) (fun r_4 s_5 s_5' h_6 => ?_)
        refine rl_if Iff.rfl ?_ ?_
        ·
          exact rl_some (SumR.r ⟨rfl, h_6⟩)
        ·
          exact rl_some (SumR.l h_6)
    ·
      rintro (s_7 | y) (s_7' | y') hq
      ·
        have h_8 := hq
        replace h_8 : S9 b s_7 s_7' := h_8
        try dsimp only
        refine rl_ck rfl (fun j_9 hj_10 => ?_)
        refine rl_bd (P1 := (SumR (fun (x x' : G) => S9 b x x') (fun (x x' : Int32 × G) => x.1 = x'.1 ∧ S9 b x.2 x'.2))) ?_ ?_
        ·
          refine rl_if (by rw [h_8.rd (a := 161) (by omega)]) ?_ ?_
          ·
            refine rl_bd (P1 := (SumR (fun _ _ => True) (SumR (fun (x x' : G) => S9 b x x') (fun (x x' : Int32 × G) => x.1 = x'.1 ∧ S9 b x.2 x'.2)))) ?_ ?_
            ·
              refine rl_if Iff.rfl ?_ ?_
              ·
                exact rl_some (SumR.l trivial)
              ·
                refine rl_ck rfl (fun j_11 hj_12 => ?_)
                refine rl_if (by rw [h_8.rd (a := 161) (by omega)]) ?_ ?_
                ·
                  exact rl_some (SumR.r (SumR.l h_8))
                ·
                  exact rl_some (SumR.l trivial)
            ·
              rintro (_ | y) (_ | y') hq
              ·
                try dsimp only
                refine rl_ck rfl (fun j_13 hj_14 => ?_)
                refine rl_if (by rw [h_8.rd (a := 163) (by omega)]) ?_ ?_
                ·
                  refine rl_bd2 (S := S9 b) (l_X9_meets (rfl : (1 : Int32) = _) h_8) (fun r_15 s_16 s_16' h_17 => ?_)
                  exact rl_some (SumR.r ⟨rfl, h_17⟩)
                ·
                  refine rl_ck rfl (fun j_18 hj_19 => ?_)
                  refine rl_bd2 (S := S9 b) (l_X9_in (rfl : a2 = _) (rfl : (0 : Int32) = _) (by rw [h_8.rd (a := 163) (by omega)]) h_8) (fun r_20 s_21 s_21' h_22 => ?_)
                  refine rl_if Iff.rfl ?_ ?_
                  ·
                    refine rl_bd2 (S := S9 b) (l_X9_meets (rfl : (2 : Int32) = _) h_22) (fun r_23 s_24 s_24' h_25 => ?_)
                    exact rl_some (SumR.r ⟨rfl, h_25⟩)
                  ·
                    refine rl_ck rfl (fun j_26 hj_27 => ?_)
                    refine rl_wr (Q := S9 b) (h_22.up (by omega) (by omega) (by omega) rfl) (fun s_28 s_28' h_29 => ?_)
                    exact rl_some (SumR.r ⟨rfl, h_29⟩)
              · exact hq.elim
              · exact hq.elim
              · exact rl_some hq
          ·
            exact rl_some (SumR.l h_8)
        ·
          rintro (s_30 | y) (s_30' | y') hq
          ·
            have h_31 := hq
            replace h_31 : S9 b s_30 s_30' := h_31
            try dsimp only
            refine rl_bd2 (S := S9 b) (l_X9_meets (rfl : (3 : Int32) = _) h_31) (fun r_32 s_33 s_33' h_34 => ?_)
            exact rl_some ⟨rfl, h_34⟩
          · exact hq.elim
          · exact hq.elim
          · exact rl_some hq
      · exact hq.elim
      · exact hq.elim
      · exact rl_some hq
theorem l_X9_lay {b : G} {a1 a2 a3 a1' a2' a3' : Int32} (e_a1 : a1 = a1') (e_a2 : a2 = a2') (e_a3 : a3 = a3') {g g' : G} (h0 : S9 b g g') : Rl (f_X9_lay a1 a2 a3 g) (f_X9_lay a1' a2' a3' g') (Q9 b) := by
  subst e_a1
  subst e_a2
  subst e_a3
  unfold f_X9_lay
  refine rl_ck rfl (fun j_1 hj_2 => ?_)
  refine rl_wr (Q := S9 b) (h0.up (by omega) (by omega) (by omega) rfl) (fun s_3 s_3' h_4 => ?_)
  exact rl_some ⟨rfl, h_4⟩
theorem l_X9_another {b : G}  {g g' : G} (h0 : S9 b g g') : Rl (f_X9_another  g) (f_X9_another  g') (Q9 b) := by
  unfold f_X9_another
  refine rl_bd (P1 := (fun (x x' : G) => S9 b x x')) ?_ ?_
  ·
    refine rl_lp (I := (fun (x x' : Int32 × G) => x.1 = x'.1 ∧ S9 b x.2 x'.2)) ?_ ⟨rfl, h0⟩
    rintro ⟨x_1, s_2⟩ ⟨_, s_2'⟩ ⟨rfl, h_3⟩
    replace h_3 : S9 b s_2 s_2' := h_3
    try dsimp only
    refine rl_if Iff.rfl ?_ ?_
    ·
      exact rl_some (SumR.r h_3)
    ·
      refine rl_bd2 (S := S9 b) (l_X9_lay (by rw [h0.rd (a := 159) (by omega)]) (rfl : x_1 = _) (rfl : (0 : Int32) = _) h_3) (fun r_4 s_5 s_5' h_6 => ?_)
      exact rl_some (SumR.l ⟨rfl, h_6⟩)
  ·
    rintro s_7 s_7' h_8
    replace h_8 : S9 b s_7 s_7' := h_8
    try dsimp only
    refine rl_wr (Q := S9 b) (h_8.up (by omega) (by omega) (by omega) (by rw [h_8.rd (a := 159) (by omega)])) (fun s_9 s_9' h_10 => ?_)
    refine rl_bd2 (S := S9 b) (l_X9_lay (by rw [h0.rd (a := 159) (by omega)]) (rfl : (411 : Int32) = _) (by rw [h_10.rd (a := 159) (by omega)]) h_10) (fun r_11 s_12 s_12' h_13 => ?_)
    refine rl_wr (Q := S9 b) (h_13.up (by omega) (by omega) (by omega) (by rw [h_13.rd (a := 159) (by omega)])) (fun s_14 s_14' h_15 => ?_)
    exact rl_some ⟨(by (try dsimp only) <;> rw [h0.rd (a := 159) (by omega)]), h_15⟩
theorem l_X9_tournament {b : G}  {g g' : G} (h0 : S9 b g g') : Rl (f_X9_tournament  g) (f_X9_tournament  g') (Q9 b) := by
  unfold f_X9_tournament
  refine rl_if (by rw [h0.rd (a := 159) (by omega)]) ?_ ?_
  ·
    exact rl_some ⟨rfl, h0⟩
  ·
    refine rl_bd2 (S := S9 b) (l_X9_another  h0) (fun r_1 s_2 s_2' h_3 => ?_)
    exact rl_some ⟨rfl, h_3⟩
theorem l_X9_isTournament {b : G} {a1 a1' : Int32} (e_a1 : a1 = a1') {g g' : G} (h0 : S9 b g g') : Rl (f_X9_isTournament a1 g) (f_X9_isTournament a1' g') (Q9 b) := by
  subst e_a1
  unfold f_X9_isTournament
  refine rl_bd2 (S := S9 b) (l_X9_in (rfl : a1 = _) (rfl : (0 : Int32) = _) (by rw [h0.rd (a := 159) (by omega)]) h0) (fun r_1 s_2 s_2' h_3 => ?_)
  refine rl_bz rfl ?_
  exact rl_some ⟨rfl, h_3⟩
theorem l_X9_cell {b : G} {a1 a2 a1' a2' : Int32} (e_a1 : a1 = a1') (e_a2 : a2 = a2') {g g' : G} (h0 : S9 b g g') : Rl (f_X9_cell a1 a2 g) (f_X9_cell a1' a2' g') (Q9 b) := by
  subst e_a1
  subst e_a2
  unfold f_X9_cell
  refine rl_ck rfl (fun j_1 hj_2 => ?_)
  exact rl_some ⟨(by (try dsimp only) <;> rw [h0.rd (a := 165) (by omega)]), h0⟩
theorem l_X9_placeOf {b : G} {a1 a2 a1' a2' : Int32} (e_a1 : a1 = a1') (e_a2 : a2 = a2') {g g' : G} (h0 : S9 b g g') : Rl (f_X9_placeOf a1 a2 g) (f_X9_placeOf a1' a2' g') (Q9 b) := by
  subst e_a1
  subst e_a2
  unfold f_X9_placeOf
  refine rl_bd (P1 := (SumR (fun (x x' : G) => S9 b x x') (fun (x x' : Int32 × G) => x.1 = x'.1 ∧ S9 b x.2 x'.2))) ?_ ?_
  ·
    refine rl_lp (I := (fun (x x' : Int32 × G) => x.1 = x'.1 ∧ S9 b x.2 x'.2)) ?_ ⟨rfl, h0⟩
    rintro ⟨x_1, s_2⟩ ⟨_, s_2'⟩ ⟨rfl, h_3⟩
    replace h_3 : S9 b s_2 s_2' := h_3
    try dsimp only
    refine rl_bd2 (S := S9 b) (l_X9_cell (rfl : a1 = _) (rfl : (0 : Int32) = _) h_3) (fun r_4 s_5 s_5' h_6 => ?_)
    refine rl_if Iff.rfl ?_ ?_
    ·
      exact rl_some (SumR.r (SumR.l h_6))
    ·
      refine rl_bd2 (S := S9 b) (l_X9_cell (rfl : a1 = _) (rfl : ((1 : Int32) + x_1) = _) h_6) (fun r_7 s_8 s_8' h_9 => ?_)
      refine rl_if Iff.rfl ?_ ?_
      ·
        exact rl_some (SumR.r (SumR.r ⟨rfl, h_9⟩))
      ·
        exact rl_some (SumR.l ⟨rfl, h_9⟩)
  ·
    rintro (s_10 | y) (s_10' | y') hq
    ·
      have h_11 := hq
      replace h_11 : S9 b s_10 s_10' := h_11
      try dsimp only
      exact rl_some ⟨rfl, h_11⟩
    · exact hq.elim
    · exact hq.elim
    · exact rl_some hq
theorem l_X9_enter {b : G} {a1 a2 a1' a2' : Int32} (e_a1 : a1 = a1') (e_a2 : a2 = a2') {g g' : G} (h0 : S9 b g g') : Rl (f_X9_enter a1 a2 g) (f_X9_enter a1' a2' g') (Q9 b) := by
  subst e_a1
  subst e_a2
  unfold f_X9_enter
  refine rl_bd2 (S := S9 b) (l_X9_isTournament (rfl : a1 = _) h0) (fun r_1 s_2 s_2' h_3 => ?_)
  refine rl_if Iff.rfl ?_ ?_
  ·
    exact rl_some ⟨rfl, h_3⟩
  ·
    refine rl_bd2 (S := S9 b) (l_X9_isPlayer (rfl : a2 = _) h_3) (fun r_4 s_5 s_5' h_6 => ?_)
    refine rl_if Iff.rfl ?_ ?_
    ·
      exact rl_some ⟨rfl, h_6⟩
    ·
      refine rl_bd2 (S := S9 b) (l_X9_placeOf (rfl : a1 = _) (rfl : a2 = _) h_6) (fun r_7 s_8 s_8' h_9 => ?_)
      refine rl_if Iff.rfl ?_ ?_
      ·
        refine rl_bd2 (S := S9 b) (l_X9_cell (rfl : a1 = _) (rfl : (25 : Int32) = _) h_9) (fun r_10 s_11 s_11' h_12 => ?_)
        refine rl_if Iff.rfl ?_ ?_
        ·
          refine rl_bd2 (S := S9 b) (l_X9_cell (rfl : a1 = _) (rfl : (0 : Int32) = _) h_12) (fun r_13 s_14 s_14' h_15 => ?_)
          refine rl_if Iff.rfl ?_ ?_
          ·
            exact rl_some ⟨rfl, h_15⟩
          ·
            refine rl_ck rfl (fun j_16 hj_17 => ?_)
            refine rl_if (by rw [h_15.rd (a := 161) (by omega)]) ?_ ?_
            ·
              refine rl_bd2 (S := S9 b) (l_X9_meets (rfl : (3 : Int32) = _) h_15) (fun r_18 s_19 s_19' h_20 => ?_)
              exact rl_some ⟨rfl, h_20⟩
            ·
              refine rl_bd2 (S := S9 b) (l_X9_cell (rfl : a1 = _) (rfl : (0 : Int32) = _) h_15) (fun r_21 s_22 s_22' h_23 => ?_)
              refine rl_bd2 (S := S9 b) (l_X9_lay (rfl : a1 = _) (rfl : ((1 : Int32) + r_21) = _) (rfl : a2 = _) h_23) (fun r_24 s_25 s_25' h_26 => ?_)
              refine rl_bd2 (S := S9 b) (l_X9_cell (rfl : a1 = _) (rfl : (0 : Int32) = _) h_26) (fun r_27 s_28 s_28' h_29 => ?_)
              refine rl_bd2 (S := S9 b) (l_X9_lay (rfl : a1 = _) (rfl : (0 : Int32) = _) (rfl : (r_27 + (1 : Int32)) = _) h_29) (fun r_30 s_31 s_31' h_32 => ?_)
              refine rl_bd2 (S := S9 b) (l_X9_cell (rfl : a1 = _) (rfl : (0 : Int32) = _) h_32) (fun r_33 s_34 s_34' h_35 => ?_)
              exact rl_some ⟨rfl, h_35⟩
        ·
          exact rl_some ⟨rfl, h_12⟩
      ·
        exact rl_some ⟨rfl, h_9⟩
theorem l_X9_withdraw {b : G} {a1 a2 a1' a2' : Int32} (e_a1 : a1 = a1') (e_a2 : a2 = a2') {g g' : G} (h0 : S9 b g g') : Rl (f_X9_withdraw a1 a2 g) (f_X9_withdraw a1' a2' g') (Q9 b) := by
  subst e_a1
  subst e_a2
  unfold f_X9_withdraw
  refine rl_bd2 (S := S9 b) (l_X9_isTournament (rfl : a1 = _) h0) (fun r_1 s_2 s_2' h_3 => ?_)
  refine rl_if Iff.rfl ?_ ?_
  ·
    exact rl_some ⟨rfl, h_3⟩
  ·
    refine rl_bd2 (S := S9 b) (l_X9_isPlayer (rfl : a2 = _) h_3) (fun r_4 s_5 s_5' h_6 => ?_)
    refine rl_if Iff.rfl ?_ ?_
    ·
      exact rl_some ⟨rfl, h_6⟩
    ·
      refine rl_bd2 (S := S9 b) (l_X9_placeOf (rfl : a1 = _) (rfl : a2 = _) h_6) (fun r_7 s_8 s_8' h_9 => ?_)
      refine rl_if Iff.rfl ?_ ?_
      ·
        exact rl_some ⟨rfl, h_9⟩
      ·
        refine rl_bd2 (S := S9 b) (l_X9_cell (rfl : a1 = _) (rfl : ((11 : Int32) + r_7) = _) h_9) (fun r_10 s_11 s_11' h_12 => ?_)
        refine rl_if Iff.rfl ?_ ?_
        ·
          exact rl_some ⟨rfl, h_12⟩
        ·
          refine rl_bd2 (S := S9 b) (l_X9_lay (rfl : a1 = _) (rfl : ((11 : Int32) + r_7) = _) (rfl : (1 : Int32) = _) h_12) (fun r_13 s_14 s_14' h_15 => ?_)
          exact rl_some ⟨rfl, h_15⟩
theorem l_X9_gather {b : G} {a1 a2 a1' a2' : Int32} (e_a1 : a1 = a1') (e_a2 : a2 = a2') {g g' : G} (h0 : S9 b g g') : Rl (f_X9_gather a1 a2 g) (f_X9_gather a1' a2' g') (Q9 b) := by
  subst e_a1
  subst e_a2
  unfold f_X9_gather
  refine rl_wr (Q := S9 b) (h0.up (by omega) (by omega) (by omega) rfl) (fun s_1 s_1' h_2 => ?_)
  refine rl_bd (P1 := (fun (x x' : G) => S9 b x x')) ?_ ?_
  ·
    refine rl_lp (I := (fun (x x' : Int32 × G) => x.1 = x'.1 ∧ S9 b x.2 x'.2)) ?_ ⟨rfl, h_2⟩
    rintro ⟨x_3, s_4⟩ ⟨_, s_4'⟩ ⟨rfl, h_5⟩
    replace h_5 : S9 b s_4 s_4' := h_5
    try dsimp only
    refine rl_if (by rw [h_5.rd (a := 159) (by omega)]) ?_ ?_
    ·
      exact rl_some (SumR.r h_5)
    ·
      refine rl_bd2 (S := S9 b) (l_X9_placeOf (rfl : a1 = _) (rfl : x_3 = _) h_5) (fun r_6 s_7 s_7' h_8 => ?_)
      refine rl_bd (P1 := (fun (x x' : G) => S9 b x x')) ?_ ?_
      ·
        refine rl_if Iff.rfl ?_ ?_
        ·
          exact rl_some h_8
        ·
          refine rl_bd (P1 := (SumR (fun (x x' : G) => S9 b x x') (fun (x x' : G) => S9 b x x'))) ?_ ?_
          ·
            refine rl_if Iff.rfl ?_ ?_
            ·
              refine rl_bd2 (S := S9 b) (l_X9_cell (rfl : a1 = _) (rfl : ((11 : Int32) + r_6) = _) h_8) (fun r_9 s_10 s_10' h_11 => ?_)
              refine rl_if Iff.rfl ?_ ?_
              ·
                exact rl_some (SumR.l h_11)
              ·
                exact rl_some (SumR.r h_11)
            ·
              exact rl_some (SumR.l h_8)
          ·
            rintro (s_12 | y) (s_12' | y') hq
            ·
              have h_13 := hq
              replace h_13 : S9 b s_12 s_12' := h_13
              try dsimp only
              refine rl_ck (by rw [h_13.rd (a := 159) (by omega)]) (fun j_14 hj_15 => ?_)
              refine rl_wr (Q := S9 b) (h_13.up (by omega) (by omega) (by omega) rfl) (fun s_16 s_16' h_17 => ?_)
              refine rl_wr (Q := S9 b) (h_17.up (by omega) (by omega) (by omega) (by rw [h_17.rd (a := 159) (by omega)])) (fun s_18 s_18' h_19 => ?_)
              exact rl_some h_19
            · exact hq.elim
            · exact hq.elim
            · exact rl_some hq
      ·
        rintro s_20 s_20' h_21
        replace h_21 : S9 b s_20 s_20' := h_21
        try dsimp only
        exact rl_some (SumR.l ⟨rfl, h_21⟩)
  ·
    rintro s_22 s_22' h_23
    replace h_23 : S9 b s_22 s_22' := h_23
    try dsimp only
    exact rl_some ⟨rfl, h_23⟩
theorem l_X9_began {b : G} {a1 a1' : Int32} (e_a1 : a1 = a1') {g g' : G} (h0 : S9 b g g') : Rl (f_X9_began a1 g) (f_X9_began a1' g') (Q9 b) := by
  subst e_a1
  unfold f_X9_began
  refine rl_if (by rw [h0.rd (a := 159) (by omega)]) ?_ ?_
  ·
    exact rl_some ⟨rfl, h0⟩
  ·
    refine rl_ck (by rw [h0.rd (a := 159) (by omega)]) (fun j_1 hj_2 => ?_)
    refine rl_wr (Q := S9 b) (h0.up (by omega) (by omega) (by omega) rfl) (fun s_3 s_3' h_4 => ?_)
    refine rl_wr (Q := S9 b) (h_4.up (by omega) (by omega) (by omega) (by rw [h_4.rd (a := 159) (by omega)])) (fun s_5 s_5' h_6 => ?_)
    exact rl_some ⟨rfl, h_6⟩
theorem l_X9_soloWorth {b : G} {a1 a1' : Int32} (e_a1 : a1 = a1') {g g' : G} (h0 : S9 b g g') : Rl (f_X9_soloWorth a1 g) (f_X9_soloWorth a1' g') (Q9 b) := by
  subst e_a1
  unfold f_X9_soloWorth
  refine rl_ck rfl (fun j_1 hj_2 => ?_)
  refine rl_if (by rw [h0.rd (a := 161) (by omega)]) ?_ ?_
  ·
    refine rl_bd2 (S := S9 b) (l_X9_began (rfl : (11 : Int32) = _) h0) (fun r_3 s_4 s_4' h_5 => ?_)
    refine rl_ck rfl (fun j_6 hj_7 => ?_)
    refine rl_if (by rw [h_5.rd (a := 162) (by omega)]) ?_ ?_
    ·
      refine rl_ck rfl (fun j_8 hj_9 => ?_)
      exact rl_some ⟨(by (try dsimp only) <;> rw [h_5.rd (a := 162) (by omega)]), h_5⟩
    ·
      exact rl_some ⟨rfl, h_5⟩
  ·
    refine rl_ck rfl (fun j_10 hj_11 => ?_)
    refine rl_bd (P1 := (fun (x x' : G) => S9 b x x')) ?_ ?_
    ·
      refine rl_if (by rw [h0.rd (a := 161) (by omega)]) ?_ ?_
      ·
        refine rl_bd2 (S := S9 b) (l_X9_began (rfl : (12 : Int32) = _) h0) (fun r_12 s_13 s_13' h_14 => ?_)
        exact rl_some h_14
      ·
        exact rl_some h0
    ·
      rintro s_15 s_15' h_16
      replace h_16 : S9 b s_15 s_15' := h_16
      try dsimp only
      refine rl_bd2 (S := S9 b) (l_X9_began (rfl : (10 : Int32) = _) h_16) (fun r_17 s_18 s_18' h_19 => ?_)
      refine rl_ck rfl (fun j_20 hj_21 => ?_)
      refine rl_if (by rw [h_19.rd (a := 161) (by omega)]) ?_ ?_
      ·
        refine rl_ck rfl (fun j_22 hj_23 => ?_)
        exact rl_some ⟨(by (try dsimp only) <;> rw [h_19.rd (a := 162) (by omega)]), h_19⟩
      ·
        refine rl_ck rfl (fun j_24 hj_25 => ?_)
        exact rl_some ⟨(by (try dsimp only) <;> rw [h_19.rd (a := 162) (by omega)]), h_19⟩
theorem l_X9_worthOf {b : G} {a1 a1' : Int32} (e_a1 : a1 = a1') {g g' : G} (h0 : S9 b g g') : Rl (f_X9_worthOf a1 g) (f_X9_worthOf a1' g') (Q9 b) := by
  subst e_a1
  unfold f_X9_worthOf
  refine rl_ck rfl (fun j_1 hj_2 => ?_)
  refine rl_if (by rw [h0.rd (a := 161) (by omega)]) ?_ ?_
  ·
    refine rl_bd2 (S := S9 b) (l_X9_meets (rfl : (3 : Int32) = _) h0) (fun r_3 s_4 s_4' h_5 => ?_)
    exact rl_some ⟨rfl, h_5⟩
  ·
    refine rl_ck rfl (fun j_6 hj_7 => ?_)
    refine rl_if (by rw [h0.rd (a := 161) (by omega)]) ?_ ?_
    ·
      refine rl_bd2 (S := S9 b) (l_X9_began (rfl : (13 : Int32) = _) h0) (fun r_8 s_9 s_9' h_10 => ?_)
      refine rl_ck rfl (fun j_11 hj_12 => ?_)
      refine rl_if (by rw [h_10.rd (a := 163) (by omega)]) ?_ ?_
      ·
        refine rl_bd2 (S := S9 b) (l_X9_meets (rfl : (1 : Int32) = _) h_10) (fun r_13 s_14 s_14' h_15 => ?_)
        exact rl_some ⟨rfl, h_15⟩
      ·
        refine rl_bd (P1 := (SumR (fun (x x' : Int32 × G) => x.1 = x'.1 ∧ S9 b x.2 x'.2) (fun (x x' : Int32 × G) => x.1 = x'.1 ∧ S9 b x.2 x'.2))) ?_ ?_
        ·
          refine rl_lp (I := (fun (x x' : Int32 × Int32 × G) => x.1 = x'.1 ∧ x.2.1 = x'.2.1 ∧ S9 b x.2.2 x'.2.2)) ?_ ⟨rfl, rfl, h_10⟩
          rintro ⟨x_16, x_17, s_18⟩ ⟨_, _, s_18'⟩ ⟨rfl, rfl, h_19⟩
          replace h_19 : S9 b s_18 s_18' := h_19
          try dsimp only
          refine rl_ck rfl (fun j_20 hj_21 => ?_)
          refine rl_if (by rw [h_19.rd (a := 163) (by omega)]) ?_ ?_
          ·
            exact rl_some (SumR.r (SumR.l ⟨rfl, h_19⟩))
          ·
            refine rl_ck rfl (fun j_22 hj_23 => ?_)
            refine rl_if (by rw [h_19.rd (a := 164) (by omega)]) ?_ ?_
            ·
              refine rl_bd2 (S := S9 b) (l_X9_meets (rfl : (1 : Int32) = _) h_19) (fun r_24 s_25 s_25' h_26 => ?_)
              exact rl_some (SumR.r (SumR.r ⟨rfl, h_26⟩))
            ·
              refine rl_ck (by rw [h_19.rd (a := 164) (by omega)]) (fun j_27 hj_28 => ?_)
              refine rl_if (by rw [h_19.rd (a := 161) (by omega)]) ?_ ?_
              ·
                refine rl_bd2 (S := S9 b) (l_X9_meets (rfl : (3 : Int32) = _) h_19) (fun r_29 s_30 s_30' h_31 => ?_)
                exact rl_some (SumR.r (SumR.r ⟨rfl, h_31⟩))
              ·
                refine rl_bd2 (S := S9 b) (l_X9_soloWorth (by rw [h_19.rd (a := 164) (by omega)]) h_19) (fun r_32 s_33 s_33' h_34 => ?_)
                exact rl_some (SumR.l ⟨rfl, rfl, h_34⟩)
        ·
          rintro (⟨x_35, s_36⟩ | y) (⟨_, s_36'⟩ | y') hq
          ·
            obtain ⟨rfl, h_37⟩ := hq
            replace h_37 : S9 b s_36 s_36' := h_37
            try dsimp only
            refine rl_ck rfl (fun j_38 hj_39 => ?_)
            refine rl_if (by rw [h_37.rd (a := 163) (by omega)]) ?_ ?_
            ·
              refine rl_bd2 (S := S9 b) (l_X9_meets (rfl : (4 : Int32) = _) h_37) (fun r_40 s_41 s_41' h_42 => ?_)
              exact rl_some ⟨rfl, h_42⟩
            ·
              refine rl_ck rfl (fun j_43 hj_44 => ?_)
              refine rl_dz (by rw [h_37.rd (a := 163) (by omega)]) ?_
              exact rl_some ⟨(by (try dsimp only) <;> rw [h_37.rd (a := 163) (by omega)]), h_37⟩
          · exact hq.elim
          · exact hq.elim
          · exact rl_some hq
    ·
      refine rl_bd2 (S := S9 b) (l_X9_soloWorth (rfl : a1 = _) h0) (fun r_45 s_46 s_46' h_47 => ?_)
      exact rl_some ⟨rfl, h_47⟩
theorem l_X9_askWorths {b : G}  {g g' : G} (h0 : S9 b g g') : Rl (f_X9_askWorths  g) (f_X9_askWorths  g') (Q9 b) := by
  unfold f_X9_askWorths
  refine rl_bd (P1 := (SumR (fun (x x' : G) => S9 b x x') (fun (x x' : Int32 × G) => x.1 = x'.1 ∧ S9 b x.2 x'.2))) ?_ ?_
  ·
    refine rl_lp (I := (fun (x x' : Int32 × G) => x.1 = x'.1 ∧ S9 b x.2 x'.2)) ?_ ⟨rfl, h0⟩
    rintro ⟨x_1, s_2⟩ ⟨_, s_2'⟩ ⟨rfl, h_3⟩
    replace h_3 : S9 b s_2 s_2' := h_3
    try dsimp only
    refine rl_if (by rw [h_3.rd (a := 159) (by omega)]) ?_ ?_
    ·
      exact rl_some (SumR.r (SumR.l h_3))
    ·
      refine rl_ck rfl (fun j_4 hj_5 => ?_)
      refine rl_bd2 (S := S9 b) (l_X9_worthOf (by rw [h_3.rd (a := 175) (by omega)]) h_3) (fun r_6 s_7 s_7' h_8 => ?_)
      refine rl_if Iff.rfl ?_ ?_
      ·
        exact rl_some (SumR.r (SumR.r ⟨rfl, h_8⟩))
      ·
        refine rl_ck rfl (fun j_9 hj_10 => ?_)
        refine rl_wr (Q := S9 b) (h_8.up (by omega) (by omega) (by omega) rfl) (fun s_11 s_11' h_12 => ?_)
        exact rl_some (SumR.l ⟨rfl, h_12⟩)
  ·
    rintro (s_13 | y) (s_13' | y') hq
    ·
      have h_14 := hq
      replace h_14 : S9 b s_13 s_13' := h_14
      try dsimp only
      exact rl_some ⟨rfl, h_14⟩
    · exact hq.elim
    · exact hq.elim
    · exact rl_some hq
theorem l_X9_pairOf {b : G} {a1 a2 a3 a1' a2' a3' : Int32} (e_a1 : a1 = a1') (e_a2 : a2 = a2') (e_a3 : a3 = a3') {g g' : G} (h0 : S9 b g g') : Rl (f_X9_pairOf a1 a2 a3 g) (f_X9_pairOf a1' a2' a3' g') (Q9 b) := by
  subst e_a1
  subst e_a2
  subst e_a3
  unfold f_X9_pairOf
  refine rl_bd (P1 := (SumR (fun (x x' : G) => S9 b x x') (fun (x x' : Int32 × G) => x.1 = x'.1 ∧ S9 b x.2 x'.2))) ?_ ?_
  ·
    refine rl_lp (I := (fun (x x' : Int32 × G) => x.1 = x'.1 ∧ S9 b x.2 x'.2)) ?_ ⟨rfl, h0⟩
    rintro ⟨x_1, s_2⟩ ⟨_, s_2'⟩ ⟨rfl, h_3⟩
    replace h_3 : S9 b s_2 s_2' := h_3
    try dsimp only
    refine rl_bd2 (S := S9 b) (l_X9_cell (rfl : a1 = _) (rfl : ((32 : Int32) + a2) = _) h_3) (fun r_4 s_5 s_5' h_6 => ?_)
    refine rl_if Iff.rfl ?_ ?_
    ·
      exact rl_some (SumR.r (SumR.l h_6))
    ·
      refine rl_bd2 (S := S9 b) (l_X9_cell (rfl : a1 = _) (rfl : ((50 : Int32) + (((5 : Int32) * a2) + x_1)) = _) h_6) (fun r_7 s_8 s_8' h_9 => ?_)
      refine rl_if Iff.rfl ?_ ?_
      ·
        exact rl_some (SumR.r (SumR.r ⟨rfl, h_9⟩))
      ·
        refine rl_bd2 (S := S9 b) (l_X9_cell (rfl : a1 = _) (rfl : ((80 : Int32) + (((5 : Int32) * a2) + x_1)) = _) h_9) (fun r_10 s_11 s_11' h_12 => ?_)
        refine rl_if Iff.rfl ?_ ?_
        ·
          exact rl_some (SumR.r (SumR.r ⟨rfl, h_12⟩))
        ·
          exact rl_some (SumR.l ⟨rfl, h_12⟩)
  ·
    rintro (s_13 | y) (s_13' | y') hq
    ·
      have h_14 := hq
      replace h_14 : S9 b s_13 s_13' := h_14
      try dsimp only
      exact rl_some ⟨rfl, h_14⟩
    · exact hq.elim
    · exact hq.elim
    · exact rl_some hq
theorem l_X9_isWithNobody {b : G} {a1 a2 a1' a2' : Int32} (e_a1 : a1 = a1') (e_a2 : a2 = a2') {g g' : G} (h0 : S9 b g g') : Rl (f_X9_isWithNobody a1 a2 g) (f_X9_isWithNobody a1' a2' g') (Q9 b) := by
  subst e_a1
  subst e_a2
  unfold f_X9_isWithNobody
  refine rl_bd2 (S := S9 b) (l_X9_cell (rfl : a1 = _) (rfl : ((80 : Int32) + a2) = _) h0) (fun r_1 s_2 s_2' h_3 => ?_)
  refine rl_if Iff.rfl ?_ ?_
  ·
    exact rl_some ⟨rfl, h_3⟩
  ·
    exact rl_some ⟨rfl, h_3⟩
theorem l_X9_entryOf {b : G} {a1 a2 a3 a1' a2' a3' : Int32} (e_a1 : a1 = a1') (e_a2 : a2 = a2') (e_a3 : a3 = a3') {g g' : G} (h0 : S9 b g g') : Rl (f_X9_entryOf a1 a2 a3 g) (f_X9_entryOf a1' a2' a3' g') (Q9 b) := by
  subst e_a1
  subst e_a2
  subst e_a3
  unfold f_X9_entryOf
  refine rl_bd (P1 := (fun (x x' : Int32 × G) => x.1 = x'.1 ∧ S9 b x.2 x'.2)) ?_ ?_
  ·
    refine rl_lp (I := (fun (x x' : Int32 × Int32 × G) => x.1 = x'.1 ∧ x.2.1 = x'.2.1 ∧ S9 b x.2.2 x'.2.2)) ?_ ⟨rfl, rfl, h0⟩
    rintro ⟨x_1, x_2, s_3⟩ ⟨_, _, s_3'⟩ ⟨rfl, rfl, h_4⟩
    replace h_4 : S9 b s_3 s_3' := h_4
    try dsimp only
    refine rl_bd2 (S := S9 b) (l_X9_cell (rfl : a1 = _) (rfl : (110 : Int32) = _) h_4) (fun r_5 s_6 s_6' h_7 => ?_)
    refine rl_if Iff.rfl ?_ ?_
    ·
      exact rl_some (SumR.r ⟨rfl, h_7⟩)
    ·
      refine rl_bd2 (S := S9 b) (l_X9_cell (rfl : a1 = _) (rfl : ((291 : Int32) + x_2) = _) h_7) (fun r_8 s_9 s_9' h_10 => ?_)
      refine rl_bd2 (S := S9 b) (l_X9_cell (rfl : a1 = _) (rfl : ((351 : Int32) + x_2) = _) h_10) (fun r_11 s_12 s_12' h_13 => ?_)
      refine rl_bd2 (S := S9 b) (l_X9_cell (rfl : a1 = _) (rfl : ((111 : Int32) + x_2) = _) h_13) (fun r_14 s_15 s_15' h_16 => ?_)
      refine rl_bd (P1 := (SumR (fun (x x' : Int32 × Int32 × G) => x.1 = x'.1 ∧ x.2.1 = x'.2.1 ∧ S9 b x.2.2 x'.2.2) (SumR (fun (x x' : Int32 × Int32 × G) => x.1 = x'.1 ∧ x.2.1 = x'.2.1 ∧ S9 b x.2.2 x'.2.2) (fun (x x' : Int32 × G) => x.1 = x'.1 ∧ S9 b x.2 x'.2)))) ?_ ?_
      ·
        refine rl_if Iff.rfl ?_ ?_
        ·
          refine rl_if Iff.rfl ?_ ?_
          ·
            exact rl_some (SumR.l ⟨rfl, rfl, h_16⟩)
          ·
            refine rl_bd (P1 := (SumR (fun _ _ => True) (SumR (fun (x x' : Int32 × Int32 × G) => x.1 = x'.1 ∧ x.2.1 = x'.2.1 ∧ S9 b x.2.2 x'.2.2) (SumR (fun (x x' : Int32 × Int32 × G) => x.1 = x'.1 ∧ x.2.1 = x'.2.1 ∧ S9 b x.2.2 x'.2.2) (fun (x x' : Int32 × G) => x.1 = x'.1 ∧ S9 b x.2 x'.2))))) ?_ ?_
            ·
              refine rl_if Iff.rfl ?_ ?_
              ·
                exact rl_some (SumR.l trivial)
              ·
                refine rl_if Iff.rfl ?_ ?_
                ·
                  exact rl_some (SumR.r (SumR.l ⟨rfl, rfl, h_16⟩))
                ·
                  exact rl_some (SumR.l trivial)
            ·
              rintro (_ | y) (_ | y') hq
              ·
                try dsimp only
                refine rl_bd (P1 := (fun (x x' : Int32 × G) => x.1 = x'.1 ∧ S9 b x.2 x'.2)) ?_ ?_
                ·
                  refine rl_if Iff.rfl ?_ ?_
                  ·
                    exact rl_some ⟨rfl, h_16⟩
                  ·
                    refine rl_bd (P1 := (SumR (fun (x x' : G) => S9 b x x') (fun (x x' : Int32 × G) => x.1 = x'.1 ∧ S9 b x.2 x'.2))) ?_ ?_
                    ·
                      refine rl_if Iff.rfl ?_ ?_
                      ·
                        exact rl_some (SumR.l h_16)
                      ·
                        refine rl_bd2 (S := S9 b) (l_X9_cell (rfl : a1 = _) (rfl : ((291 : Int32) + x_1) = _) h_16) (fun r_17 s_18 s_18' h_19 => ?_)
                        refine rl_if Iff.rfl ?_ ?_
                        ·
                          exact rl_some (SumR.r ⟨rfl, h_19⟩)
                        ·
                          exact rl_some (SumR.l h_19)
                    ·
                      rintro (s_20 | y) (s_20' | y') hq
                      ·
                        have h_21 := hq
                        replace h_21 : S9 b s_20 s_20' := h_21
                        try dsimp only
                        exact rl_some ⟨rfl, h_21⟩
                      · exact hq.elim
                      · exact hq.elim
                      · exact rl_some hq
                ·
                  rintro ⟨x_22, s_23⟩ ⟨_, s_23'⟩ ⟨rfl, h_24⟩
                  replace h_24 : S9 b s_23 s_23' := h_24
                  try dsimp only
                  exact rl_some (SumR.r (SumR.l ⟨rfl, rfl, h_24⟩))
              · exact hq.elim
              · exact hq.elim
              · exact rl_some hq
        ·
          exact rl_some (SumR.l ⟨rfl, rfl, h_16⟩)
      ·
        rintro (⟨x_25, x_26, s_27⟩ | y) (⟨_, _, s_27'⟩ | y') hq
        ·
          obtain ⟨rfl, rfl, h_28⟩ := hq
          replace h_28 : S9 b s_27 s_27' := h_28
          try dsimp only
          refine rl_bd (P1 := (fun (x x' : Int32 × G) => x.1 = x'.1 ∧ S9 b x.2 x'.2)) ?_ ?_
          ·
            refine rl_if Iff.rfl ?_ ?_
            ·
              exact rl_some ⟨rfl, h_28⟩
            ·
              refine rl_bd (P1 := (SumR (fun (x x' : G) => S9 b x x') (fun (x x' : Int32 × G) => x.1 = x'.1 ∧ S9 b x.2 x'.2))) ?_ ?_
              ·
                refine rl_if Iff.rfl ?_ ?_
                ·
                  exact rl_some (SumR.l h_28)
                ·
                  refine rl_bd2 (S := S9 b) (l_X9_cell (rfl : a1 = _) (rfl : ((291 : Int32) + x_25) = _) h_28) (fun r_29 s_30 s_30' h_31 => ?_)
                  refine rl_if Iff.rfl ?_ ?_
                  ·
                    exact rl_some (SumR.r ⟨rfl, h_31⟩)
                  ·
                    exact rl_some (SumR.l h_31)
              ·
                rintro (s_32 | y) (s_32' | y') hq
                ·
                  have h_33 := hq
                  replace h_33 : S9 b s_32 s_32' := h_33
                  try dsimp only
                  exact rl_some ⟨rfl, h_33⟩
                · exact hq.elim
                · exact hq.elim
                · exact rl_some hq
          ·
            rintro ⟨x_34, s_35⟩ ⟨_, s_35'⟩ ⟨rfl, h_36⟩
            replace h_36 : S9 b s_35 s_35' := h_36
            try dsimp only
            exact rl_some (SumR.l ⟨rfl, rfl, h_36⟩)
        · exact hq.elim
        · exact hq.elim
        · exact rl_some hq
  ·
    rintro ⟨x_37, s_38⟩ ⟨_, s_38'⟩ ⟨rfl, h_39⟩
    replace h_39 : S9 b s_38 s_38' := h_39
    try dsimp only
    exact rl_some ⟨rfl, h_39⟩
theorem l_X9_outcomeOf {b : G} {a1 a2 a3 a4 a1' a2' a3' a4' : Int32} (e_a1 : a1 = a1') (e_a2 : a2 = a2') (e_a3 : a3 = a3') (e_a4 : a4 = a4') {g g' : G} (h0 : S9 b g g') : Rl (f_X9_outcomeOf a1 a2 a3 a4 g) (f_X9_outcomeOf a1' a2' a3' a4' g') (Q9 b) := by
  subst e_a1
  subst e_a2
  subst e_a3
  subst e_a4
  unfold f_X9_outcomeOf
  refine rl_bd (P1 := (SumR (fun _ _ => True) (fun (x x' : Int32 × G) => x.1 = x'.1 ∧ S9 b x.2 x'.2))) ?_ ?_
  ·
    refine rl_if (by rw [h0.rd (a := 159) (by omega)]) ?_ ?_
    ·
      exact rl_some (SumR.l trivial)
    ·
      refine rl_ck rfl (fun j_1 hj_2 => ?_)
      refine rl_if (by rw [h0.rd (a := 174) (by omega)]) ?_ ?_
      ·
        exact rl_some (SumR.l trivial)
      ·
        refine rl_ck rfl (fun j_3 hj_4 => ?_)
        exact rl_some (SumR.r ⟨(by (try dsimp only) <;> rw [h0.rd (a := 174) (by omega)]), h0⟩)
  ·
    rintro (_ | y) (_ | y') hq
    ·
      try dsimp only
      refine rl_bd2 (S := S9 b) (l_X9_entryOf (rfl : a1 = _) (rfl : a2 = _) (rfl : a4 = _) h0) (fun r_5 s_6 s_6' h_7 => ?_)
      refine rl_if Iff.rfl ?_ ?_
      ·
        exact rl_some ⟨rfl, h_7⟩
      ·
        refine rl_bd2 (S := S9 b) (l_X9_cell (rfl : a1 = _) (rfl : ((231 : Int32) + r_5) = _) h_7) (fun r_8 s_9 s_9' h_10 => ?_)
        refine rl_if Iff.rfl ?_ ?_
        ·
          refine rl_bd2 (S := S9 b) (l_X9_cell (rfl : a1 = _) (rfl : ((171 : Int32) + r_5) = _) h_10) (fun r_11 s_12 s_12' h_13 => ?_)
          exact rl_some ⟨rfl, h_13⟩
        ·
          exact rl_some ⟨rfl, h_10⟩
    · exact hq.elim
    · exact hq.elim
    · exact rl_some hq
theorem l_X9_halves {b : G} {a0 a1 a0' a1' : Int32} (e_a0 : a0 = a0') (e_a1 : a1 = a1') {g g' : G} (h0 : S9 b g g') : Rl (f_X9_halves a0 a1 g) (f_X9_halves a0' a1' g') (Q9 b) := by
  subst e_a0
  subst e_a1
  unfold f_X9_halves
  refine rl_if Iff.rfl ?_ ?_
  ·
    exact rl_some ⟨rfl, h0⟩
  ·
    refine rl_bd (P1 := (SumR (fun _ _ => True) (fun (x x' : Int32 × G) => x.1 = x'.1 ∧ S9 b x.2 x'.2))) ?_ ?_
    ·
      refine rl_if Iff.rfl ?_ ?_
      ·
        exact rl_some (SumR.l trivial)
      ·
        refine rl_if Iff.rfl ?_ ?_
        ·
          exact rl_some (SumR.l trivial)
        ·
          refine rl_bd (P1 := (SumR (fun _ _ => True) (SumR (fun _ _ => True) (fun (x x' : Int32 × G) => x.1 = x'.1 ∧ S9 b x.2 x'.2)))) ?_ ?_
          ·
            refine rl_if Iff.rfl ?_ ?_
            ·
              exact rl_some (SumR.l trivial)
            ·
              refine rl_if Iff.rfl ?_ ?_
              ·
                exact rl_some (SumR.l trivial)
              ·
                exact rl_some (SumR.r (SumR.r ⟨rfl, h0⟩))
          ·
            rintro (_ | y) (_ | y') hq
            ·
              try dsimp only
              refine rl_if Iff.rfl ?_ ?_
              ·
                exact rl_some (SumR.r ⟨rfl, h0⟩)
              ·
                exact rl_some (SumR.r ⟨rfl, h0⟩)
            · exact hq.elim
            · exact hq.elim
            · exact rl_some hq
    ·
      rintro (_ | y) (_ | y') hq
      ·
        try dsimp only
        refine rl_if Iff.rfl ?_ ?_
        ·
          exact rl_some ⟨rfl, h0⟩
        ·
          exact rl_some ⟨rfl, h0⟩
      · exact hq.elim
      · exact hq.elim
      · exact rl_some hq
theorem l_X9_pointsOf {b : G} {a1 a2 a3 a4 a1' a2' a3' a4' : Int32} (e_a1 : a1 = a1') (e_a2 : a2 = a2') (e_a3 : a3 = a3') (e_a4 : a4 = a4') {g g' : G} (h0 : S9 b g g') : Rl (f_X9_pointsOf a1 a2 a3 a4 g) (f_X9_pointsOf a1' a2' a3' a4' g') (Q9 b) := by
  subst e_a1
  subst e_a2
  subst e_a3
  subst e_a4
  unfold f_X9_pointsOf
  refine rl_bd (P1 := (fun (x x' : Int32 × G) => x.1 = x'.1 ∧ S9 b x.2 x'.2)) ?_ ?_
  ·
    refine rl_lp (I := (fun (x x' : Int32 × Int32 × G) => x.1 = x'.1 ∧ x.2.1 = x'.2.1 ∧ S9 b x.2.2 x'.2.2)) ?_ ⟨rfl, rfl, h0⟩
    rintro ⟨x_1, x_2, s_3⟩ ⟨_, _, s_3'⟩ ⟨rfl, rfl, h_4⟩
    replace h_4 : S9 b s_3 s_3' := h_4
    try dsimp only
    refine rl_bd2 (S := S9 b) (l_X9_cell (rfl : a1 = _) (rfl : (25 : Int32) = _) h_4) (fun r_5 s_6 s_6' h_7 => ?_)
    refine rl_if Iff.rfl ?_ ?_
    ·
      exact rl_some (SumR.r ⟨rfl, h_7⟩)
    ·
      refine rl_bd2 (S := S9 b) (l_X9_pairOf (rfl : a1 = _) (rfl : x_2 = _) (rfl : a2 = _) h_7) (fun r_8 s_9 s_9' h_10 => ?_)
      refine rl_bd (P1 := (SumR (fun (x x' : Int32 × Int32 × G) => x.1 = x'.1 ∧ x.2.1 = x'.2.1 ∧ S9 b x.2.2 x'.2.2) (SumR (fun (x x' : Int32 × Int32 × G) => x.1 = x'.1 ∧ x.2.1 = x'.2.1 ∧ S9 b x.2.2 x'.2.2) (fun (x x' : Int32 × G) => x.1 = x'.1 ∧ S9 b x.2 x'.2)))) ?_ ?_
      ·
        refine rl_if Iff.rfl ?_ ?_
        ·
          exact rl_some (SumR.l ⟨rfl, rfl, h_10⟩)
        ·
          refine rl_bd2 (S := S9 b) (l_X9_isWithNobody (rfl : a1 = _) (rfl : r_8 = _) h_10) (fun r_11 s_12 s_12' h_13 => ?_)
          refine rl_if Iff.rfl ?_ ?_
          ·
            exact rl_some (SumR.l ⟨rfl, rfl, h_13⟩)
          ·
            refine rl_bd2 (S := S9 b) (l_X9_cell (rfl : a1 = _) (rfl : ((26 : Int32) + x_2) = _) h_13) (fun r_14 s_15 s_15' h_16 => ?_)
            refine rl_bd (P1 := (fun (x x' : Int32) => x = x')) ?_ ?_
            ·
              refine rl_if Iff.rfl ?_ ?_
              ·
                exact rl_some rfl
              ·
                exact rl_some rfl
            ·
              rintro x_17 _ rfl
              try dsimp only
              exact rl_some (SumR.r (SumR.l ⟨rfl, rfl, h_16⟩))
      ·
        rintro (⟨x_18, x_19, s_20⟩ | y) (⟨_, _, s_20'⟩ | y') hq
        ·
          obtain ⟨rfl, rfl, h_21⟩ := hq
          replace h_21 : S9 b s_20 s_20' := h_21
          try dsimp only
          refine rl_bd (P1 := (fun (x x' : Int32 × G) => x.1 = x'.1 ∧ S9 b x.2 x'.2)) ?_ ?_
          ·
            refine rl_if Iff.rfl ?_ ?_
            ·
              exact rl_some ⟨rfl, h_21⟩
            ·
              refine rl_bd2 (S := S9 b) (l_X9_outcomeOf (rfl : a1 = _) (rfl : r_8 = _) (rfl : a3 = _) (rfl : a4 = _) h_21) (fun r_22 s_23 s_23' h_24 => ?_)
              refine rl_bd2 (S := S9 b) (l_X9_cell (rfl : a1 = _) (rfl : ((50 : Int32) + r_8) = _) h_24) (fun r_25 s_26 s_26' h_27 => ?_)
              refine rl_bd (P1 := (fun (x x' : Int32) => x = x')) ?_ ?_
              ·
                refine rl_if Iff.rfl ?_ ?_
                ·
                  exact rl_some rfl
                ·
                  exact rl_some rfl
              ·
                rintro x_28 _ rfl
                try dsimp only
                refine rl_bd2 (S := S9 b) (l_X9_halves (rfl : r_22 = _) (rfl : x_28 = _) h_27) (fun r_29 s_30 s_30' h_31 => ?_)
                exact rl_some ⟨rfl, h_31⟩
          ·
            rintro ⟨x_32, s_33⟩ ⟨_, s_33'⟩ ⟨rfl, h_34⟩
            replace h_34 : S9 b s_33 s_33' := h_34
            try dsimp only
            exact rl_some (SumR.l ⟨rfl, rfl, h_34⟩)
        · exact hq.elim
        · exact hq.elim
        · exact rl_some hq
  ·
    rintro ⟨x_35, s_36⟩ ⟨_, s_36'⟩ ⟨rfl, h_37⟩
    replace h_37 : S9 b s_36 s_36' := h_37
    try dsimp only
    exact rl_some ⟨rfl, h_37⟩
theorem l_X9_otherOf {b : G} {a1 a2 a3 a1' a2' a3' : Int32} (e_a1 : a1 = a1') (e_a2 : a2 = a2') (e_a3 : a3 = a3') {g g' : G} (h0 : S9 b g g') : Rl (f_X9_otherOf a1 a2 a3 g) (f_X9_otherOf a1' a2' a3' g') (Q9 b) := by
  subst e_a1
  subst e_a2
  subst e_a3
  unfold f_X9_otherOf
  refine rl_bd2 (S := S9 b) (l_X9_cell (rfl : a1 = _) (rfl : ((50 : Int32) + a2) = _) h0) (fun r_1 s_2 s_2' h_3 => ?_)
  refine rl_if Iff.rfl ?_ ?_
  ·
    refine rl_bd2 (S := S9 b) (l_X9_cell (rfl : a1 = _) (rfl : ((80 : Int32) + a2) = _) h_3) (fun r_4 s_5 s_5' h_6 => ?_)
    exact rl_some ⟨rfl, h_6⟩
  ·
    refine rl_bd2 (S := S9 b) (l_X9_cell (rfl : a1 = _) (rfl : ((50 : Int32) + a2) = _) h_3) (fun r_7 s_8 s_8' h_9 => ?_)
    exact rl_some ⟨rfl, h_9⟩
theorem l_X9_wasWith {b : G} {a1 a2 a3 a1' a2' a3' : Int32} (e_a1 : a1 = a1') (e_a2 : a2 = a2') (e_a3 : a3 = a3') {g g' : G} (h0 : S9 b g g') : Rl (f_X9_wasWith a1 a2 a3 g) (f_X9_wasWith a1' a2' a3' g') (Q9 b) := by
  subst e_a1
  subst e_a2
  subst e_a3
  unfold f_X9_wasWith
  refine rl_bd (P1 := (fun (x x' : Int32 × G) => x.1 = x'.1 ∧ S9 b x.2 x'.2)) ?_ ?_
  ·
    refine rl_lp (I := (fun (x x' : Int32 × Int32 × G) => x.1 = x'.1 ∧ x.2.1 = x'.2.1 ∧ S9 b x.2.2 x'.2.2)) ?_ ⟨rfl, rfl, h0⟩
    rintro ⟨x_1, x_2, s_3⟩ ⟨_, _, s_3'⟩ ⟨rfl, rfl, h_4⟩
    replace h_4 : S9 b s_3 s_3' := h_4
    try dsimp only
    refine rl_bd2 (S := S9 b) (l_X9_cell (rfl : a1 = _) (rfl : (25 : Int32) = _) h_4) (fun r_5 s_6 s_6' h_7 => ?_)
    refine rl_if Iff.rfl ?_ ?_
    ·
      exact rl_some (SumR.r ⟨rfl, h_7⟩)
    ·
      refine rl_bd2 (S := S9 b) (l_X9_pairOf (rfl : a1 = _) (rfl : x_2 = _) (rfl : a2 = _) h_7) (fun r_8 s_9 s_9' h_10 => ?_)
      refine rl_bd (P1 := (SumR (fun (x x' : Int32 × G) => x.1 = x'.1 ∧ S9 b x.2 x'.2) (SumR (fun (x x' : Int32 × Int32 × G) => x.1 = x'.1 ∧ x.2.1 = x'.2.1 ∧ S9 b x.2.2 x'.2.2) (fun (x x' : Int32 × G) => x.1 = x'.1 ∧ S9 b x.2 x'.2)))) ?_ ?_
      ·
        refine rl_if Iff.rfl ?_ ?_
        ·
          refine rl_bd (P1 := (SumR (fun (x x' : G) => S9 b x x') (SumR (fun (x x' : Int32 × G) => x.1 = x'.1 ∧ S9 b x.2 x'.2) (SumR (fun (x x' : Int32 × Int32 × G) => x.1 = x'.1 ∧ x.2.1 = x'.2.1 ∧ S9 b x.2.2 x'.2.2) (fun (x x' : Int32 × G) => x.1 = x'.1 ∧ S9 b x.2 x'.2))))) ?_ ?_
          ·
            refine rl_if Iff.rfl ?_ ?_
            ·
              exact rl_some (SumR.l h_10)
            ·
              refine rl_bd2 (S := S9 b) (l_X9_otherOf (rfl : a1 = _) (rfl : r_8 = _) (rfl : a2 = _) h_10) (fun r_11 s_12 s_12' h_13 => ?_)
              refine rl_if Iff.rfl ?_ ?_
              ·
                exact rl_some (SumR.r (SumR.l ⟨rfl, h_13⟩))
              ·
                exact rl_some (SumR.l h_13)
          ·
            rintro (s_14 | y) (s_14' | y') hq
            ·
              have h_15 := hq
              replace h_15 : S9 b s_14 s_14' := h_15
              try dsimp only
              exact rl_some (SumR.r (SumR.l ⟨rfl, rfl, h_15⟩))
            · exact hq.elim
            · exact hq.elim
            · exact rl_some hq
        ·
          exact rl_some (SumR.l ⟨rfl, h_10⟩)
      ·
        rintro (⟨x_16, s_17⟩ | y) (⟨_, s_17'⟩ | y') hq
        ·
          obtain ⟨rfl, h_18⟩ := hq
          replace h_18 : S9 b s_17 s_17' := h_18
          try dsimp only
          exact rl_some (SumR.l ⟨rfl, rfl, h_18⟩)
        · exact hq.elim
        · exact hq.elim
        · exact rl_some hq
  ·
    rintro ⟨x_19, s_20⟩ ⟨_, s_20'⟩ ⟨rfl, h_21⟩
    replace h_21 : S9 b s_20 s_20' := h_21
    try dsimp only
    refine rl_bz rfl ?_
    exact rl_some ⟨rfl, h_21⟩
theorem l_X9_colours {b : G} {a1 a2 a1' a2' : Int32} (e_a1 : a1 = a1') (e_a2 : a2 = a2') {g g' : G} (h0 : S9 b g g') : Rl (f_X9_colours a1 a2 g) (f_X9_colours a1' a2' g') (Q9 b) := by
  subst e_a1
  subst e_a2
  unfold f_X9_colours
  refine rl_wr (Q := S9 b) (h0.up (by omega) (by omega) (by omega) rfl) (fun s_1 s_1' h_2 => ?_)
  refine rl_wr (Q := S9 b) (h_2.up (by omega) (by omega) (by omega) rfl) (fun s_3 s_3' h_4 => ?_)
  refine rl_wr (Q := S9 b) (h_4.up (by omega) (by omega) (by omega) rfl) (fun s_5 s_5' h_6 => ?_)
  refine rl_bd (P1 := (fun (x x' : G) => S9 b x x')) ?_ ?_
  ·
    refine rl_lp (I := (fun (x x' : Int32 × G) => x.1 = x'.1 ∧ S9 b x.2 x'.2)) ?_ ⟨rfl, h_6⟩
    rintro ⟨x_7, s_8⟩ ⟨_, s_8'⟩ ⟨rfl, h_9⟩
    replace h_9 : S9 b s_8 s_8' := h_9
    try dsimp only
    refine rl_bd2 (S := S9 b) (l_X9_cell (rfl : a1 = _) (rfl : (25 : Int32) = _) h_9) (fun r_10 s_11 s_11' h_12 => ?_)
    refine rl_if Iff.rfl ?_ ?_
    ·
      exact rl_some (SumR.r h_12)
    ·
      refine rl_bd2 (S := S9 b) (l_X9_pairOf (rfl : a1 = _) (rfl : x_7 = _) (rfl : a2 = _) h_12) (fun r_13 s_14 s_14' h_15 => ?_)
      refine rl_bd (P1 := (fun (x x' : G) => S9 b x x')) ?_ ?_
      ·
        refine rl_if Iff.rfl ?_ ?_
        ·
          exact rl_some h_15
        ·
          refine rl_bd2 (S := S9 b) (l_X9_isWithNobody (rfl : a1 = _) (rfl : r_13 = _) h_15) (fun r_16 s_17 s_17' h_18 => ?_)
          refine rl_if Iff.rfl ?_ ?_
          ·
            refine rl_bd2 (S := S9 b) (l_X9_cell (rfl : a1 = _) (rfl : ((50 : Int32) + r_13) = _) h_18) (fun r_19 s_20 s_20' h_21 => ?_)
            refine rl_bd (P1 := (fun (x x' : Int32) => x = x')) ?_ ?_
            ·
              refine rl_if Iff.rfl ?_ ?_
              ·
                exact rl_some rfl
              ·
                exact rl_some rfl
            ·
              rintro x_22 _ rfl
              try dsimp only
              refine rl_bd (P1 := (fun (x x' : Int32) => x = x')) ?_ ?_
              ·
                refine rl_if Iff.rfl ?_ ?_
                ·
                  exact rl_some rfl
                ·
                  exact rl_some rfl
              ·
                rintro x_23 _ rfl
                try dsimp only
                refine rl_wr (Q := S9 b) (h_21.up (by omega) (by omega) (by omega) (by rw [h_21.rd (a := 159) (by omega)])) (fun s_24 s_24' h_25 => ?_)
                refine rl_wr (Q := S9 b) (h_25.up (by omega) (by omega) (by omega) (by rw [h_25.rd (a := 159) (by omega)])) (fun s_26 s_26' h_27 => ?_)
                refine rl_wr (Q := S9 b) (h_27.up (by omega) (by omega) (by omega) rfl) (fun s_28 s_28' h_29 => ?_)
                exact rl_some h_29
          ·
            exact rl_some h_18
      ·
        rintro s_30 s_30' h_31
        replace h_31 : S9 b s_30 s_30' := h_31
        try dsimp only
        exact rl_some (SumR.l ⟨rfl, h_31⟩)
  ·
    rintro s_32 s_32' h_33
    replace h_33 : S9 b s_32 s_32' := h_33
    try dsimp only
    exact rl_some ⟨rfl, h_33⟩
theorem l_X9_colourCost {b : G} {a1 a2 a3 a1' a2' a3' : Int32} (e_a1 : a1 = a1') (e_a2 : a2 = a2') (e_a3 : a3 = a3') {g g' : G} (h0 : S9 b g g') : Rl (f_X9_colourCost a1 a2 a3 g) (f_X9_colourCost a1' a2' a3' g') (Q9 b) := by
  subst e_a1
  subst e_a2
  subst e_a3
  unfold f_X9_colourCost
  refine rl_bd2 (S := S9 b) (l_X9_colours (rfl : a1 = _) (rfl : a2 = _) h0) (fun r_1 s_2 s_2' h_3 => ?_)
  refine rl_bd (P1 := (SumR (fun _ _ => True) (fun (x x' : Int32 × G) => x.1 = x'.1 ∧ S9 b x.2 x'.2))) ?_ ?_
  ·
    refine rl_if (by rw [h_3.rd (a := 159) (by omega)]) ?_ ?_
    ·
      exact rl_some (SumR.l trivial)
    ·
      refine rl_if Iff.rfl ?_ ?_
      ·
        exact rl_some (SumR.l trivial)
      ·
        refine rl_bd (P1 := (fun (x x' : Int32) => x = x')) ?_ ?_
        ·
          refine rl_if Iff.rfl ?_ ?_
          ·
            exact rl_some rfl
          ·
            exact rl_some rfl
        ·
          rintro x_4 _ rfl
          try dsimp only
          refine rl_if (by rw [h_3.rd (a := 159) (by omega)]) ?_ ?_
          ·
            refine rl_if (by rw [h_3.rd (a := 159) (by omega)]) ?_ ?_
            ·
              exact rl_some (SumR.r ⟨rfl, h_3⟩)
            ·
              exact rl_some (SumR.r ⟨rfl, h_3⟩)
          ·
            exact rl_some (SumR.r ⟨rfl, h_3⟩)
  ·
    rintro (_ | y) (_ | y') hq
    ·
      try dsimp only
      refine rl_bd (P1 := (SumR (fun _ _ => True) (fun (x x' : Int32 × G) => x.1 = x'.1 ∧ S9 b x.2 x'.2))) ?_ ?_
      ·
        refine rl_if (by rw [h_3.rd (a := 159) (by omega)]) ?_ ?_
        ·
          exact rl_some (SumR.l trivial)
        ·
          refine rl_if Iff.rfl ?_ ?_
          ·
            refine rl_bd (P1 := (fun (x x' : Int32) => x = x')) ?_ ?_
            ·
              refine rl_if Iff.rfl ?_ ?_
              ·
                exact rl_some rfl
              ·
                exact rl_some rfl
            ·
              rintro x_5 _ rfl
              try dsimp only
              refine rl_if (by rw [h_3.rd (a := 159) (by omega)]) ?_ ?_
              ·
                refine rl_if (by rw [h_3.rd (a := 159) (by omega)]) ?_ ?_
                ·
                  exact rl_some (SumR.r ⟨rfl, h_3⟩)
                ·
                  exact rl_some (SumR.r ⟨rfl, h_3⟩)
              ·
                exact rl_some (SumR.r ⟨rfl, h_3⟩)
          ·
            exact rl_some (SumR.l trivial)
      ·
        rintro (_ | y) (_ | y') hq
        ·
          try dsimp only
          refine rl_bd (P1 := (fun (x x' : Int32) => x = x')) ?_ ?_
          ·
            refine rl_if Iff.rfl ?_ ?_
            ·
              exact rl_some rfl
            ·
              exact rl_some rfl
          ·
            rintro x_6 _ rfl
            try dsimp only
            refine rl_if (by rw [h_3.rd (a := 159) (by omega)]) ?_ ?_
            ·
              refine rl_if (by rw [h_3.rd (a := 159) (by omega)]) ?_ ?_
              ·
                exact rl_some ⟨rfl, h_3⟩
              ·
                exact rl_some ⟨rfl, h_3⟩
            ·
              exact rl_some ⟨rfl, h_3⟩
        · exact hq.elim
        · exact hq.elim
        · exact rl_some hq
    · exact hq.elim
    · exact hq.elim
    · exact rl_some hq
theorem l_X9_costOf {b : G} {a1 a2 a3 a4 a1' a2' a3' a4' : Int32} (e_a1 : a1 = a1') (e_a2 : a2 = a2') (e_a3 : a3 = a3') (e_a4 : a4 = a4') {g g' : G} (h0 : S9 b g g') : Rl (f_X9_costOf a1 a2 a3 a4 g) (f_X9_costOf a1' a2' a3' a4' g') (Q9 b) := by
  subst e_a1
  subst e_a2
  subst e_a3
  subst e_a4
  unfold f_X9_costOf
  refine rl_ck rfl (fun j_1 hj_2 => ?_)
  refine rl_ck rfl (fun j_3 hj_4 => ?_)
  refine rl_ck rfl (fun j_5 hj_6 => ?_)
  refine rl_ck rfl (fun j_7 hj_8 => ?_)
  refine rl_bd (P1 := (fun (x x' : Int32) => x = x')) ?_ ?_
  ·
    refine rl_if (by rw [h0.rd (a := 176) (by omega)]) ?_ ?_
    ·
      exact rl_some (by (try dsimp only) <;> rw [h0.rd (a := 176) (by omega)])
    ·
      exact rl_some (by (try dsimp only) <;> rw [h0.rd (a := 176) (by omega)])
  ·
    rintro x_9 _ rfl
    try dsimp only
    refine rl_ck rfl (fun j_10 hj_11 => ?_)
    refine rl_ck rfl (fun j_12 hj_13 => ?_)
    refine rl_bd2 (S := S9 b) (l_X9_wasWith (rfl : a1 = _) (by rw [h0.rd (a := 175) (by omega)]) (by rw [h0.rd (a := 175) (by omega)]) h0) (fun r_14 s_15 s_15' h_16 => ?_)
    refine rl_bd (P1 := (fun (x x' : Int32) => x = x')) ?_ ?_
    ·
      refine rl_if Iff.rfl ?_ ?_
      ·
        exact rl_some rfl
      ·
        exact rl_some rfl
    ·
      rintro x_17 _ rfl
      try dsimp only
      refine rl_ck rfl (fun j_18 hj_19 => ?_)
      refine rl_bd2 (S := S9 b) (l_X9_colourCost (rfl : a1 = _) (by rw [h_16.rd (a := 175) (by omega)]) (rfl : a4 = _) h_16) (fun r_20 s_21 s_21' h_22 => ?_)
      refine rl_ck rfl (fun j_23 hj_24 => ?_)
      refine rl_if Iff.rfl ?_ ?_
      ·
        refine rl_bd2 (S := S9 b) (l_X9_colourCost (rfl : a1 = _) (by rw [h_22.rd (a := 175) (by omega)]) (rfl : (1 : Int32) = _) h_22) (fun r_25 s_26 s_26' h_27 => ?_)
        exact rl_some ⟨(by (try dsimp only) <;> rw [h0.rd (a := 177) (by omega)]), h_27⟩
      ·
        refine rl_bd2 (S := S9 b) (l_X9_colourCost (rfl : a1 = _) (by rw [h_22.rd (a := 175) (by omega)]) (rfl : (0 : Int32) = _) h_22) (fun r_28 s_29 s_29' h_30 => ?_)
        exact rl_some ⟨(by (try dsimp only) <;> rw [h0.rd (a := 177) (by omega)]), h_30⟩
theorem l_X9_costAlone {b : G} {a1 a2 a1' a2' : Int32} (e_a1 : a1 = a1') (e_a2 : a2 = a2') {g g' : G} (h0 : S9 b g g') : Rl (f_X9_costAlone a1 a2 g) (f_X9_costAlone a1' a2' g') (Q9 b) := by
  subst e_a1
  subst e_a2
  unfold f_X9_costAlone
  refine rl_ck rfl (fun j_1 hj_2 => ?_)
  refine rl_bd (P1 := (fun (x x' : Int32) => x = x')) ?_ ?_
  ·
    refine rl_lp (I := (fun (x x' : Int32 × Int32) => x.1 = x'.1 ∧ x.2 = x'.2)) ?_ ⟨(by (try dsimp only) <;> rw [h0.rd (a := 177) (by omega)]), rfl⟩
    rintro ⟨x_3, x_4⟩ ⟨_, _⟩ ⟨rfl, rfl⟩
    try dsimp only
    refine rl_if (by rw [h0.rd (a := 159) (by omega)]) ?_ ?_
    ·
      exact rl_some (SumR.r rfl)
    ·
      refine rl_ck rfl (fun j_5 hj_6 => ?_)
      refine rl_bd (P1 := (fun (x x' : Int32) => x = x')) ?_ ?_
      ·
        refine rl_if (by rw [h0.rd (a := 177) (by omega)]) ?_ ?_
        ·
          exact rl_some rfl
        ·
          refine rl_ck rfl (fun j_7 hj_8 => ?_)
          exact rl_some (by (try dsimp only) <;> rw [h0.rd (a := 177) (by omega)])
      ·
        rintro x_9 _ rfl
        try dsimp only
        exact rl_some (SumR.l ⟨rfl, rfl⟩)
  ·
    rintro x_10 _ rfl
    try dsimp only
    refine rl_ck rfl (fun j_11 hj_12 => ?_)
    refine rl_ck rfl (fun j_13 hj_14 => ?_)
    refine rl_bd2 (S := S9 b) (l_X9_wasWith (rfl : a1 = _) (by rw [h0.rd (a := 175) (by omega)]) (rfl : (99 : Int32) = _) h0) (fun r_15 s_16 s_16' h_17 => ?_)
    refine rl_if Iff.rfl ?_ ?_
    ·
      exact rl_some ⟨(by (try dsimp only) <;> rw [h0.rd (a := 177) (by omega)]), h_17⟩
    ·
      exact rl_some ⟨(by (try dsimp only) <;> rw [h0.rd (a := 177) (by omega)]), h_17⟩
theorem l_X9_search {b : G} {a1 a1' : Int32} (e_a1 : a1 = a1') {g g' : G} (h0 : S9 b g g') : Rl (f_X9_search a1 g) (f_X9_search a1' g') (Q9 b) := by
  subst e_a1
  unfold f_X9_search
  refine rl_bd (P1 := (fun (x x' : G) => S9 b x x')) ?_ ?_
  ·
    refine rl_lp (I := (fun (x x' : Int32 × G) => x.1 = x'.1 ∧ S9 b x.2 x'.2)) ?_ ⟨rfl, h0⟩
    rintro ⟨x_1, s_2⟩ ⟨_, s_2'⟩ ⟨rfl, h_3⟩
    replace h_3 : S9 b s_2 s_2' := h_3
    try dsimp only
    refine rl_if (by rw [h_3.rd (a := 159) (by omega)]) ?_ ?_
    ·
      exact rl_some (SumR.r h_3)
    ·
      refine rl_bd (P1 := (fun (x x' : G) => S9 b x x')) ?_ ?_
      ·
        refine rl_lp (I := (fun (x x' : Int32 × G) => x.1 = x'.1 ∧ S9 b x.2 x'.2)) ?_ ⟨rfl, h_3⟩
        rintro ⟨x_4, s_5⟩ ⟨_, s_5'⟩ ⟨rfl, h_6⟩
        replace h_6 : S9 b s_5 s_5' := h_6
        try dsimp only
        refine rl_if (by rw [h_6.rd (a := 159) (by omega)]) ?_ ?_
        ·
          exact rl_some (SumR.r h_6)
        ·
          refine rl_bd2 (S := S9 b) (l_X9_costOf (rfl : a1 = _) (rfl : x_1 = _) (rfl : x_4 = _) (rfl : (1 : Int32) = _) h_6) (fun r_7 s_8 s_8' h_9 => ?_)
          refine rl_bd2 (S := S9 b) (l_X9_costOf (rfl : a1 = _) (rfl : x_1 = _) (rfl : x_4 = _) (rfl : (0 : Int32) = _) h_9) (fun r_10 s_11 s_11' h_12 => ?_)
          refine rl_bd (P1 := (fun (x x' : Int32) => x = x')) ?_ ?_
          ·
            refine rl_if Iff.rfl ?_ ?_
            ·
              exact rl_some rfl
            ·
              exact rl_some rfl
          ·
            rintro x_13 _ rfl
            try dsimp only
            refine rl_ck rfl (fun j_14 hj_15 => ?_)
            refine rl_wr (Q := S9 b) (h_12.up (by omega) (by omega) (by omega) rfl) (fun s_16 s_16' h_17 => ?_)
            exact rl_some (SumR.l ⟨rfl, h_17⟩)
      ·
        rintro s_18 s_18' h_19
        replace h_19 : S9 b s_18 s_18' := h_19
        try dsimp only
        refine rl_bd2 (S := S9 b) (l_X9_costAlone (rfl : a1 = _) (rfl : x_1 = _) h_19) (fun r_20 s_21 s_21' h_22 => ?_)
        refine rl_ck rfl (fun j_23 hj_24 => ?_)
        refine rl_wr (Q := S9 b) (h_22.up (by omega) (by omega) (by omega) rfl) (fun s_25 s_25' h_26 => ?_)
        exact rl_some (SumR.l ⟨rfl, h_26⟩)
  ·
    rintro s_27 s_27' h_28
    replace h_28 : S9 b s_27 s_27' := h_28
    try dsimp only
    refine rl_ck rfl (fun j_29 hj_30 => ?_)
    refine rl_wr (Q := S9 b) (h_28.up (by omega) (by omega) (by omega) rfl) (fun s_31 s_31' h_32 => ?_)
    refine rl_bd (P1 := (fun (x x' : G) => S9 b x x')) ?_ ?_
    ·
      refine rl_lp (I := (fun (x x' : Int32 × G) => x.1 = x'.1 ∧ S9 b x.2 x'.2)) ?_ ⟨rfl, h_32⟩
      rintro ⟨x_33, s_34⟩ ⟨_, s_34'⟩ ⟨rfl, h_35⟩
      replace h_35 : S9 b s_34 s_34' := h_35
      try dsimp only
      refine rl_if (by rw [h_32.rd (a := 159) (by omega)]) ?_ ?_
      ·
        exact rl_some (SumR.r h_35)
      ·
        refine rl_bd (P1 := (fun (x x' : Int32) => x = x')) ?_ ?_
        ·
          refine rl_lp (I := (fun (x x' : Int32 × Int32) => x.1 = x'.1 ∧ x.2 = x'.2)) ?_ ⟨rfl, rfl⟩
          rintro ⟨x_36, x_37⟩ ⟨_, _⟩ ⟨rfl, rfl⟩
          try dsimp only
          refine rl_if (by rw [h_35.rd (a := 159) (by omega)]) ?_ ?_
          ·
            exact rl_some (SumR.r rfl)
          ·
            exact rl_some (SumR.l ⟨rfl, rfl⟩)
        ·
          rintro x_38 _ rfl
          try dsimp only
          refine rl_bd (P1 := (fun (x x' : Int32) => x = x')) ?_ ?_
          ·
            refine rl_lp (I := (fun (x x' : Int32) => x = x')) ?_ rfl
            rintro x_39 _ rfl
            try dsimp only
            refine rl_if Iff.rfl ?_ ?_
            ·
              exact rl_some (SumR.l rfl)
            ·
              exact rl_some (SumR.r rfl)
          ·
            rintro x_40 _ rfl
            try dsimp only
            refine rl_ck rfl (fun j_41 hj_42 => ?_)
            refine rl_wr (Q := S9 b) (h_35.up (by omega) (by omega) (by omega) rfl) (fun s_43 s_43' h_44 => ?_)
            refine rl_ck rfl (fun j_45 hj_46 => ?_)
            refine rl_wr (Q := S9 b) (h_44.up (by omega) (by omega) (by omega) rfl) (fun s_47 s_47' h_48 => ?_)
            refine rl_bd (P1 := (fun (x x' : G) => S9 b x x')) ?_ ?_
            ·
              refine rl_lp (I := (fun (x x' : Int32 × G) => x.1 = x'.1 ∧ S9 b x.2 x'.2)) ?_ ⟨rfl, h_48⟩
              rintro ⟨x_49, s_50⟩ ⟨_, s_50'⟩ ⟨rfl, h_51⟩
              replace h_51 : S9 b s_50 s_50' := h_51
              try dsimp only
              refine rl_if (by rw [h_51.rd (a := 159) (by omega)]) ?_ ?_
              ·
                exact rl_some (SumR.r h_51)
              ·
                refine rl_bd (P1 := (fun (x x' : G) => S9 b x x')) ?_ ?_
                ·
                  refine rl_if Iff.rfl ?_ ?_
                  ·
                    refine rl_ck rfl (fun j_52 hj_53 => ?_)
                    refine rl_if (by rw [h_51.rd (a := 178) (by omega)]) ?_ ?_
                    ·
                      exact rl_some h_51
                    ·
                      refine rl_ck rfl (fun j_54 hj_55 => ?_)
                      refine rl_ck rfl (fun j_56 hj_57 => ?_)
                      refine rl_if (by rw [h_51.rd (a := 178) (by omega), h_51.rd (a := 180) (by omega)]) ?_ ?_
                      ·
                        exact rl_some h_51
                      ·
                        refine rl_ck rfl (fun j_58 hj_59 => ?_)
                        refine rl_ck rfl (fun j_60 hj_61 => ?_)
                        refine rl_wr (Q := S9 b) (h_51.up (by omega) (by omega) (by omega) (by rw [h_51.rd (a := 180) (by omega), h_51.rd (a := 178) (by omega)])) (fun s_62 s_62' h_63 => ?_)
                        refine rl_ck rfl (fun j_64 hj_65 => ?_)
                        refine rl_wr (Q := S9 b) (h_63.up (by omega) (by omega) (by omega) rfl) (fun s_66 s_66' h_67 => ?_)
                        exact rl_some h_67
                  ·
                    exact rl_some h_51
                ·
                  rintro s_68 s_68' h_69
                  replace h_69 : S9 b s_68 s_68' := h_69
                  try dsimp only
                  exact rl_some (SumR.l ⟨rfl, h_69⟩)
            ·
              rintro s_70 s_70' h_71
              replace h_71 : S9 b s_70 s_70' := h_71
              try dsimp only
              refine rl_bd (P1 := (fun (x x' : G) => S9 b x x')) ?_ ?_
              ·
                refine rl_if Iff.rfl ?_ ?_
                ·
                  refine rl_ck rfl (fun j_72 hj_73 => ?_)
                  refine rl_ck rfl (fun j_74 hj_75 => ?_)
                  refine rl_ck rfl (fun j_76 hj_77 => ?_)
                  refine rl_if (by rw [h_71.rd (a := 178) (by omega), h_71.rd (a := 180) (by omega)]) ?_ ?_
                  ·
                    exact rl_some h_71
                  ·
                    refine rl_ck rfl (fun j_78 hj_79 => ?_)
                    refine rl_ck rfl (fun j_80 hj_81 => ?_)
                    refine rl_ck rfl (fun j_82 hj_83 => ?_)
                    refine rl_wr (Q := S9 b) (h_71.up (by omega) (by omega) (by omega) (by rw [h_71.rd (a := 180) (by omega), h_71.rd (a := 178) (by omega)])) (fun s_84 s_84' h_85 => ?_)
                    refine rl_ck rfl (fun j_86 hj_87 => ?_)
                    refine rl_wr (Q := S9 b) (h_85.up (by omega) (by omega) (by omega) rfl) (fun s_88 s_88' h_89 => ?_)
                    exact rl_some h_89
                ·
                  exact rl_some h_71
              ·
                rintro s_90 s_90' h_91
                replace h_91 : S9 b s_90 s_90' := h_91
                try dsimp only
                exact rl_some (SumR.l ⟨rfl, h_91⟩)
    ·
      rintro s_92 s_92' h_93
      replace h_93 : S9 b s_92 s_92' := h_93
      try dsimp only
      exact rl_some ⟨rfl, h_93⟩
theorem l_X9_pairUp {b : G} {a1 a2 a1' a2' : Int32} (e_a1 : a1 = a1') (e_a2 : a2 = a2') {g g' : G} (h0 : S9 b g g') : Rl (f_X9_pairUp a1 a2 g) (f_X9_pairUp a1' a2' g') (Q9 b) := by
  subst e_a1
  subst e_a2
  unfold f_X9_pairUp
  refine rl_bd2 (S := S9 b) (l_X9_cell (rfl : a1 = _) (rfl : (25 : Int32) = _) h0) (fun r_1 s_2 s_2' h_3 => ?_)
  refine rl_ck (by rw [h_3.rd (a := 159) (by omega)]) (fun j_4 hj_5 => ?_)
  refine rl_wr (Q := S9 b) (h_3.up (by omega) (by omega) (by omega) (by rw [h_3.rd (a := 178) (by omega)])) (fun s_6 s_6' h_7 => ?_)
  refine rl_bd (P1 := (fun (x x' : Int32 × G) => x.1 = x'.1 ∧ S9 b x.2 x'.2)) ?_ ?_
  ·
    refine rl_lp (I := (fun (x x' : Int32 × Int32 × G) => x.1 = x'.1 ∧ x.2.1 = x'.2.1 ∧ S9 b x.2.2 x'.2.2)) ?_ ⟨(by (try dsimp only) <;> rw [h_3.rd (a := 159) (by omega)]), rfl, h_7⟩
    rintro ⟨x_8, x_9, s_10⟩ ⟨_, _, s_10'⟩ ⟨rfl, rfl, h_11⟩
    replace h_11 : S9 b s_10 s_10' := h_11
    try dsimp only
    refine rl_if Iff.rfl ?_ ?_
    ·
      exact rl_some (SumR.r ⟨rfl, h_11⟩)
    ·
      refine rl_bd (P1 := (fun (x x' : Int32) => x = x')) ?_ ?_
      ·
        refine rl_lp (I := (fun (x x' : Int32) => x = x')) ?_ rfl
        rintro x_12 _ rfl
        try dsimp only
        refine rl_if Iff.rfl ?_ ?_
        ·
          exact rl_some (SumR.l rfl)
        ·
          exact rl_some (SumR.r rfl)
      ·
        rintro x_13 _ rfl
        try dsimp only
        refine rl_ck rfl (fun j_14 hj_15 => ?_)
        refine rl_bd (P1 := (SumR (fun (x x' : Int32 × Int32 × G) => x.1 = x'.1 ∧ x.2.1 = x'.2.1 ∧ S9 b x.2.2 x'.2.2) (SumR (fun (x x' : Int32 × Int32 × G) => x.1 = x'.1 ∧ x.2.1 = x'.2.1 ∧ S9 b x.2.2 x'.2.2) (fun (x x' : Int32 × G) => x.1 = x'.1 ∧ S9 b x.2 x'.2)))) ?_ ?_
        ·
          refine rl_if (by rw [h_11.rd (a := 179) (by omega)]) ?_ ?_
          ·
            exact rl_some (SumR.l ⟨rfl, rfl, h_11⟩)
          ·
            refine rl_bd2 (S := S9 b) (l_X9_costOf (rfl : a1 = _) (rfl : x_13 = _) (by rw [h_11.rd (a := 179) (by omega)]) (rfl : (1 : Int32) = _) h_11) (fun r_16 s_17 s_17' h_18 => ?_)
            refine rl_bd2 (S := S9 b) (l_X9_costOf (rfl : a1 = _) (rfl : x_13 = _) (by rw [h_11.rd (a := 179) (by omega)]) (rfl : (0 : Int32) = _) h_18) (fun r_19 s_20 s_20' h_21 => ?_)
            refine rl_if Iff.rfl ?_ ?_
            ·
              refine rl_bd (P1 := (fun (x x' : Int32) => x = x')) ?_ ?_
              ·
                refine rl_if (by rw [h_11.rd (a := 179) (by omega)]) ?_ ?_
                ·
                  exact rl_some rfl
                ·
                  exact rl_some (by (try dsimp only) <;> rw [h_11.rd (a := 179) (by omega)])
              ·
                rintro x_22 _ rfl
                try dsimp only
                refine rl_bd (P1 := (fun (x x' : Int32) => x = x')) ?_ ?_
                ·
                  refine rl_if Iff.rfl ?_ ?_
                  ·
                    refine rl_ck (by rw [h_11.rd (a := 179) (by omega)]) (fun j_23 hj_24 => ?_)
                    exact rl_some (by (try dsimp only) <;> rw [h_21.rd (a := 175) (by omega)])
                  ·
                    refine rl_ck rfl (fun j_25 hj_26 => ?_)
                    exact rl_some (by (try dsimp only) <;> rw [h_21.rd (a := 175) (by omega)])
                ·
                  rintro x_27 _ rfl
                  try dsimp only
                  refine rl_bd2 (S := S9 b) (l_X9_lay (rfl : a1 = _) (rfl : ((50 : Int32) + (((5 : Int32) * r_1) + x_9)) = _) (rfl : x_27 = _) h_21) (fun r_28 s_29 s_29' h_30 => ?_)
                  refine rl_bd (P1 := (fun (x x' : Int32) => x = x')) ?_ ?_
                  ·
                    refine rl_if (by rw [h_11.rd (a := 179) (by omega)]) ?_ ?_
                    ·
                      exact rl_some rfl
                    ·
                      refine rl_if Iff.rfl ?_ ?_
                      ·
                        refine rl_ck rfl (fun j_31 hj_32 => ?_)
                        exact rl_some (by (try dsimp only) <;> rw [h_30.rd (a := 175) (by omega)])
                      ·
                        refine rl_ck (by rw [h_11.rd (a := 179) (by omega)]) (fun j_33 hj_34 => ?_)
                        exact rl_some (by (try dsimp only) <;> rw [h_30.rd (a := 175) (by omega)])
                  ·
                    rintro x_35 _ rfl
                    try dsimp only
                    refine rl_bd2 (S := S9 b) (l_X9_lay (rfl : a1 = _) (rfl : ((80 : Int32) + (((5 : Int32) * r_1) + x_9)) = _) (rfl : x_35 = _) h_30) (fun r_36 s_37 s_37' h_38 => ?_)
                    exact rl_some (SumR.r (SumR.l ⟨rfl, rfl, h_38⟩))
            ·
              exact rl_some (SumR.l ⟨rfl, rfl, h_21⟩)
        ·
          rintro (⟨x_39, x_40, s_41⟩ | y) (⟨_, _, s_41'⟩ | y') hq
          ·
            obtain ⟨rfl, rfl, h_42⟩ := hq
            replace h_42 : S9 b s_41 s_41' := h_42
            try dsimp only
            refine rl_bd (P1 := (fun (x x' : Int32) => x = x')) ?_ ?_
            ·
              refine rl_if (by rw [h_11.rd (a := 179) (by omega)]) ?_ ?_
              ·
                exact rl_some rfl
              ·
                exact rl_some (by (try dsimp only) <;> rw [h_11.rd (a := 179) (by omega)])
            ·
              rintro x_43 _ rfl
              try dsimp only
              refine rl_bd (P1 := (fun (x x' : Int32) => x = x')) ?_ ?_
              ·
                refine rl_if Iff.rfl ?_ ?_
                ·
                  refine rl_ck (by rw [h_11.rd (a := 179) (by omega)]) (fun j_44 hj_45 => ?_)
                  exact rl_some (by (try dsimp only) <;> rw [h_42.rd (a := 175) (by omega)])
                ·
                  refine rl_ck rfl (fun j_46 hj_47 => ?_)
                  exact rl_some (by (try dsimp only) <;> rw [h_42.rd (a := 175) (by omega)])
              ·
                rintro x_48 _ rfl
                try dsimp only
                refine rl_bd2 (S := S9 b) (l_X9_lay (rfl : a1 = _) (rfl : ((50 : Int32) + (((5 : Int32) * r_1) + x_9)) = _) (rfl : x_48 = _) h_42) (fun r_49 s_50 s_50' h_51 => ?_)
                refine rl_bd (P1 := (fun (x x' : Int32) => x = x')) ?_ ?_
                ·
                  refine rl_if (by rw [h_11.rd (a := 179) (by omega)]) ?_ ?_
                  ·
                    exact rl_some rfl
                  ·
                    refine rl_if Iff.rfl ?_ ?_
                    ·
                      refine rl_ck rfl (fun j_52 hj_53 => ?_)
                      exact rl_some (by (try dsimp only) <;> rw [h_51.rd (a := 175) (by omega)])
                    ·
                      refine rl_ck (by rw [h_11.rd (a := 179) (by omega)]) (fun j_54 hj_55 => ?_)
                      exact rl_some (by (try dsimp only) <;> rw [h_51.rd (a := 175) (by omega)])
                ·
                  rintro x_56 _ rfl
                  try dsimp only
                  refine rl_bd2 (S := S9 b) (l_X9_lay (rfl : a1 = _) (rfl : ((80 : Int32) + (((5 : Int32) * r_1) + x_9)) = _) (rfl : x_56 = _) h_51) (fun r_57 s_58 s_58' h_59 => ?_)
                  exact rl_some (SumR.l ⟨rfl, rfl, h_59⟩)
          · exact hq.elim
          · exact hq.elim
          · exact rl_some hq
  ·
    rintro ⟨x_60, s_61⟩ ⟨_, s_61'⟩ ⟨rfl, h_62⟩
    replace h_62 : S9 b s_61 s_61' := h_62
    try dsimp only
    refine rl_bd2 (S := S9 b) (l_X9_lay (rfl : a1 = _) (rfl : ((26 : Int32) + r_1) = _) (rfl : a2 = _) h_62) (fun r_63 s_64 s_64' h_65 => ?_)
    refine rl_bd2 (S := S9 b) (l_X9_lay (rfl : a1 = _) (rfl : ((32 : Int32) + r_1) = _) (rfl : x_60 = _) h_65) (fun r_66 s_67 s_67' h_68 => ?_)
    refine rl_bd2 (S := S9 b) (l_X9_lay (rfl : a1 = _) (rfl : ((38 : Int32) + r_1) = _) (by rw [h_3.rd (a := 178) (by omega)]) h_68) (fun r_69 s_70 s_70' h_71 => ?_)
    refine rl_bd2 (S := S9 b) (l_X9_lay (rfl : a1 = _) (rfl : ((44 : Int32) + r_1) = _) (by rw [h_71.rd (a := 159) (by omega)]) h_71) (fun r_72 s_73 s_73' h_74 => ?_)
    refine rl_bd2 (S := S9 b) (l_X9_lay (rfl : a1 = _) (rfl : (25 : Int32) = _) (rfl : (r_1 + (1 : Int32)) = _) h_74) (fun r_75 s_76 s_76' h_77 => ?_)
    exact rl_some ⟨rfl, h_77⟩
theorem l_X9_drawOf {b : G} {a1 a2 a1' a2' : Int32} (e_a1 : a1 = a1') (e_a2 : a2 = a2') {g g' : G} (h0 : S9 b g g') : Rl (f_X9_drawOf a1 a2 g) (f_X9_drawOf a1' a2' g') (Q9 b) := by
  subst e_a1
  subst e_a2
  unfold f_X9_drawOf
  refine rl_bd2 (S := S9 b) (l_X9_isTournament (rfl : a1 = _) h0) (fun r_1 s_2 s_2' h_3 => ?_)
  refine rl_if Iff.rfl ?_ ?_
  ·
    exact rl_some ⟨rfl, h_3⟩
  ·
    refine rl_if Iff.rfl ?_ ?_
    ·
      exact rl_some ⟨rfl, h_3⟩
    ·
      refine rl_bd2 (S := S9 b) (l_X9_cell (rfl : a1 = _) (rfl : (25 : Int32) = _) h_3) (fun r_4 s_5 s_5' h_6 => ?_)
      refine rl_bd (P1 := (SumR (fun (x x' : G) => S9 b x x') (fun (x x' : Int32 × G) => x.1 = x'.1 ∧ S9 b x.2 x'.2))) ?_ ?_
      ·
        refine rl_if Iff.rfl ?_ ?_
        ·
          exact rl_some (SumR.l h_6)
        ·
          refine rl_bd2 (S := S9 b) (l_X9_cell (rfl : a1 = _) (rfl : (25 : Int32) = _) h_6) (fun r_7 s_8 s_8' h_9 => ?_)
          refine rl_bd2 (S := S9 b) (l_X9_cell (rfl : a1 = _) (rfl : (((26 : Int32) + r_7) - (1 : Int32)) = _) h_9) (fun r_10 s_11 s_11' h_12 => ?_)
          refine rl_if Iff.rfl ?_ ?_
          ·
            exact rl_some (SumR.l h_12)
          ·
            exact rl_some (SumR.r ⟨rfl, h_12⟩)
      ·
        rintro (s_13 | y) (s_13' | y') hq
        ·
          have h_14 := hq
          replace h_14 : S9 b s_13 s_13' := h_14
          try dsimp only
          refine rl_bd2 (S := S9 b) (l_X9_gather (rfl : a1 = _) (rfl : (0 : Int32) = _) h_14) (fun r_15 s_16 s_16' h_17 => ?_)
          refine rl_if (by rw [h_17.rd (a := 159) (by omega)]) ?_ ?_
          ·
            refine rl_bd2 (S := S9 b) (l_X9_cell (rfl : a1 = _) (rfl : (25 : Int32) = _) h_17) (fun r_18 s_19 s_19' h_20 => ?_)
            refine rl_if Iff.rfl ?_ ?_
            ·
              exact rl_some ⟨rfl, h_20⟩
            ·
              refine rl_bd2 (S := S9 b) (l_X9_askWorths  h_20) (fun r_21 s_22 s_22' h_23 => ?_)
              refine rl_if Iff.rfl ?_ ?_
              ·
                exact rl_some ⟨rfl, h_23⟩
              ·
                refine rl_bd (P1 := (fun (x x' : G) => S9 b x x')) ?_ ?_
                ·
                  refine rl_lp (I := (fun (x x' : Int32 × G) => x.1 = x'.1 ∧ S9 b x.2 x'.2)) ?_ ⟨rfl, h_23⟩
                  rintro ⟨x_24, s_25⟩ ⟨_, s_25'⟩ ⟨rfl, h_26⟩
                  replace h_26 : S9 b s_25 s_25' := h_26
                  try dsimp only
                  refine rl_if (by rw [h_26.rd (a := 159) (by omega)]) ?_ ?_
                  ·
                    exact rl_some (SumR.r h_26)
                  ·
                    refine rl_ck rfl (fun j_27 hj_28 => ?_)
                    refine rl_bd2 (S := S9 b) (l_X9_pointsOf (rfl : a1 = _) (by rw [h_26.rd (a := 175) (by omega)]) (rfl : a2 = _) (rfl : a2 = _) h_26) (fun r_29 s_30 s_30' h_31 => ?_)
                    refine rl_ck rfl (fun j_32 hj_33 => ?_)
                    refine rl_wr (Q := S9 b) (h_31.up (by omega) (by omega) (by omega) rfl) (fun s_34 s_34' h_35 => ?_)
                    exact rl_some (SumR.l ⟨rfl, h_35⟩)
                ·
                  rintro s_36 s_36' h_37
                  replace h_37 : S9 b s_36 s_36' := h_37
                  try dsimp only
                  refine rl_bd2 (S := S9 b) (l_X9_search (rfl : a1 = _) h_37) (fun r_38 s_39 s_39' h_40 => ?_)
                  refine rl_bd2 (S := S9 b) (l_X9_pairUp (rfl : a1 = _) (rfl : a2 = _) h_40) (fun r_41 s_42 s_42' h_43 => ?_)
                  refine rl_bd2 (S := S9 b) (l_X9_cell (rfl : a1 = _) (rfl : (25 : Int32) = _) h_43) (fun r_44 s_45 s_45' h_46 => ?_)
                  refine rl_bd2 (S := S9 b) (l_X9_cell (rfl : a1 = _) (rfl : (((32 : Int32) + r_44) - (1 : Int32)) = _) h_46) (fun r_47 s_48 s_48' h_49 => ?_)
                  exact rl_some ⟨rfl, h_49⟩
          ·
            exact rl_some ⟨rfl, h_17⟩
        · exact hq.elim
        · exact hq.elim
        · exact rl_some hq
theorem l_X9_against {b : G} {a1 a2 a3 a1' a2' a3' : Int32} (e_a1 : a1 = a1') (e_a2 : a2 = a2') (e_a3 : a3 = a3') {g g' : G} (h0 : S9 b g g') : Rl (f_X9_against a1 a2 a3 g) (f_X9_against a1' a2' a3' g') (Q9 b) := by
  subst e_a1
  subst e_a2
  subst e_a3
  unfold f_X9_against
  refine rl_bd2 (S := S9 b) (l_X9_in (rfl : a2 = _) (rfl : (0 : Int32) = _) (rfl : (5 : Int32) = _) h0) (fun r_1 s_2 s_2' h_3 => ?_)
  refine rl_if Iff.rfl ?_ ?_
  ·
    exact rl_some ⟨rfl, h_3⟩
  ·
    refine rl_bd2 (S := S9 b) (l_X9_cell (rfl : a1 = _) (rfl : (25 : Int32) = _) h_3) (fun r_4 s_5 s_5' h_6 => ?_)
    refine rl_if Iff.rfl ?_ ?_
    ·
      refine rl_bd2 (S := S9 b) (l_X9_cell (rfl : a1 = _) (rfl : ((32 : Int32) + a2) = _) h_6) (fun r_7 s_8 s_8' h_9 => ?_)
      refine rl_bd2 (S := S9 b) (l_X9_in (rfl : a3 = _) (rfl : (0 : Int32) = _) (rfl : (r_7 - (1 : Int32)) = _) h_9) (fun r_10 s_11 s_11' h_12 => ?_)
      refine rl_if Iff.rfl ?_ ?_
      ·
        exact rl_some ⟨rfl, h_12⟩
      ·
        exact rl_some ⟨rfl, h_12⟩
    ·
      exact rl_some ⟨rfl, h_6⟩
theorem l_X9_tell {b : G} {a1 a2 a3 a4 a5 a6 a1' a2' a3' a4' a5' a6' : Int32} (e_a1 : a1 = a1') (e_a2 : a2 = a2') (e_a3 : a3 = a3') (e_a4 : a4 = a4') (e_a5 : a5 = a5') (e_a6 : a6 = a6') {g g' : G} (h0 : S9 b g g') : Rl (f_X9_tell a1 a2 a3 a4 a5 a6 g) (f_X9_tell a1' a2' a3' a4' a5' a6' g') (Q9 b) := by
  subst e_a1
  subst e_a2
  subst e_a3
  subst e_a4
  subst e_a5
  subst e_a6
  unfold f_X9_tell
  refine rl_bd2 (S := S9 b) (l_X9_isTournament (rfl : a1 = _) h0) (fun r_1 s_2 s_2' h_3 => ?_)
  refine rl_if Iff.rfl ?_ ?_
  ·
    exact rl_some ⟨rfl, h_3⟩
  ·
    refine rl_bd2 (S := S9 b) (l_X9_in (rfl : a4 = _) (rfl : (0 : Int32) = _) (rfl : (6 : Int32) = _) h_3) (fun r_4 s_5 s_5' h_6 => ?_)
    refine rl_if Iff.rfl ?_ ?_
    ·
      exact rl_some ⟨rfl, h_6⟩
    ·
      refine rl_if Iff.rfl ?_ ?_
      ·
        exact rl_some ⟨rfl, h_6⟩
      ·
        refine rl_if Iff.rfl ?_ ?_
        ·
          refine rl_bd2 (S := S9 b) (l_X9_against (rfl : a1 = _) (rfl : a2 = _) (rfl : a3 = _) h_6) (fun r_7 s_8 s_8' h_9 => ?_)
          refine rl_if Iff.rfl ?_ ?_
          ·
            refine rl_bd2 (S := S9 b) (l_X9_isWithNobody (rfl : a1 = _) (rfl : (((5 : Int32) * a2) + a3) = _) h_9) (fun r_10 s_11 s_11' h_12 => ?_)
            refine rl_if Iff.rfl ?_ ?_
            ·
              refine rl_bd2 (S := S9 b) (l_X9_cell (rfl : a1 = _) (rfl : (110 : Int32) = _) h_12) (fun r_13 s_14 s_14' h_15 => ?_)
              refine rl_if Iff.rfl ?_ ?_
              ·
                exact rl_some ⟨rfl, h_15⟩
              ·
                refine rl_bd2 (S := S9 b) (l_X9_lay (rfl : a1 = _) (rfl : ((111 : Int32) + r_13) = _) (rfl : (((5 : Int32) * a2) + a3) = _) h_15) (fun r_16 s_17 s_17' h_18 => ?_)
                refine rl_bd2 (S := S9 b) (l_X9_lay (rfl : a1 = _) (rfl : ((171 : Int32) + r_13) = _) (rfl : a4 = _) h_18) (fun r_19 s_20 s_20' h_21 => ?_)
                refine rl_bd2 (S := S9 b) (l_X9_lay (rfl : a1 = _) (rfl : ((231 : Int32) + r_13) = _) (rfl : a5 = _) h_21) (fun r_22 s_23 s_23' h_24 => ?_)
                refine rl_bd2 (S := S9 b) (l_X9_lay (rfl : a1 = _) (rfl : ((291 : Int32) + r_13) = _) (rfl : a6 = _) h_24) (fun r_25 s_26 s_26' h_27 => ?_)
                refine rl_bd2 (S := S9 b) (l_X9_lay (rfl : a1 = _) (rfl : (110 : Int32) = _) (rfl : (r_13 + (1 : Int32)) = _) h_27) (fun r_28 s_29 s_29' h_30 => ?_)
                exact rl_some ⟨rfl, h_30⟩
            ·
              exact rl_some ⟨rfl, h_12⟩
          ·
            refine rl_bd2 (S := S9 b) (l_X9_meets (rfl : r_7 = _) h_9) (fun r_31 s_32 s_32' h_33 => ?_)
            exact rl_some ⟨rfl, h_33⟩
        ·
          exact rl_some ⟨rfl, h_6⟩
theorem l_X9_takeBack {b : G} {a1 a2 a3 a1' a2' a3' : Int32} (e_a1 : a1 = a1') (e_a2 : a2 = a2') (e_a3 : a3 = a3') {g g' : G} (h0 : S9 b g g') : Rl (f_X9_takeBack a1 a2 a3 g) (f_X9_takeBack a1' a2' a3' g') (Q9 b) := by
  subst e_a1
  subst e_a2
  subst e_a3
  unfold f_X9_takeBack
  refine rl_bd2 (S := S9 b) (l_X9_isTournament (rfl : a1 = _) h0) (fun r_1 s_2 s_2' h_3 => ?_)
  refine rl_if Iff.rfl ?_ ?_
  ·
    exact rl_some ⟨rfl, h_3⟩
  ·
    refine rl_bd2 (S := S9 b) (l_X9_cell (rfl : a1 = _) (rfl : (110 : Int32) = _) h_3) (fun r_4 s_5 s_5' h_6 => ?_)
    refine rl_bd2 (S := S9 b) (l_X9_in (rfl : a2 = _) (rfl : (0 : Int32) = _) (rfl : (r_4 - (1 : Int32)) = _) h_6) (fun r_7 s_8 s_8' h_9 => ?_)
    refine rl_if Iff.rfl ?_ ?_
    ·
      exact rl_some ⟨rfl, h_9⟩
    ·
      refine rl_if Iff.rfl ?_ ?_
      ·
        exact rl_some ⟨rfl, h_9⟩
      ·
        refine rl_bd2 (S := S9 b) (l_X9_cell (rfl : a1 = _) (rfl : ((291 : Int32) + a2) = _) h_9) (fun r_10 s_11 s_11' h_12 => ?_)
        refine rl_if Iff.rfl ?_ ?_
        ·
          refine rl_bd2 (S := S9 b) (l_X9_cell (rfl : a1 = _) (rfl : ((351 : Int32) + a2) = _) h_12) (fun r_13 s_14 s_14' h_15 => ?_)
          refine rl_if Iff.rfl ?_ ?_
          ·
            refine rl_bd2 (S := S9 b) (l_X9_lay (rfl : a1 = _) (rfl : ((351 : Int32) + a2) = _) (rfl : (a3 + (1 : Int32)) = _) h_15) (fun r_16 s_17 s_17' h_18 => ?_)
            exact rl_some ⟨rfl, h_18⟩
          ·
            exact rl_some ⟨rfl, h_15⟩
        ·
          exact rl_some ⟨rfl, h_12⟩
theorem l_X9_refused {b : G} {a1 a2 a3 a4 a1' a2' a3' a4' : Int32} (e_a1 : a1 = a1') (e_a2 : a2 = a2') (e_a3 : a3 = a3') (e_a4 : a4 = a4') {g g' : G} (h0 : S9 b g g') : Rl (f_X9_refused a1 a2 a3 a4 g) (f_X9_refused a1' a2' a3' a4' g') (Q9 b) := by
  subst e_a1
  subst e_a2
  subst e_a3
  subst e_a4
  unfold f_X9_refused
  refine rl_bd2 (S := S9 b) (l_X9_isTournament (rfl : a1 = _) h0) (fun r_1 s_2 s_2' h_3 => ?_)
  refine rl_if Iff.rfl ?_ ?_
  ·
    exact rl_some ⟨rfl, h_3⟩
  ·
    refine rl_bd2 (S := S9 b) (l_X9_isPlayer (rfl : a2 = _) h_3) (fun r_4 s_5 s_5' h_6 => ?_)
    refine rl_if Iff.rfl ?_ ?_
    ·
      exact rl_some ⟨rfl, h_6⟩
    ·
      refine rl_if Iff.rfl ?_ ?_
      ·
        exact rl_some ⟨rfl, h_6⟩
      ·
        refine rl_if Iff.rfl ?_ ?_
        ·
          refine rl_bd2 (S := S9 b) (l_X9_placeOf (rfl : a1 = _) (rfl : a2 = _) h_6) (fun r_7 s_8 s_8' h_9 => ?_)
          refine rl_if Iff.rfl ?_ ?_
          ·
            exact rl_some ⟨rfl, h_9⟩
          ·
            exact rl_some ⟨rfl, h_9⟩
        ·
          exact rl_some ⟨rfl, h_6⟩
theorem l_X9_points {b : G} {a1 a2 a3 a4 a1' a2' a3' a4' : Int32} (e_a1 : a1 = a1') (e_a2 : a2 = a2') (e_a3 : a3 = a3') (e_a4 : a4 = a4') {g g' : G} (h0 : S9 b g g') : Rl (f_X9_points a1 a2 a3 a4 g) (f_X9_points a1' a2' a3' a4' g') (Q9 b) := by
  subst e_a1
  subst e_a2
  subst e_a3
  subst e_a4
  unfold f_X9_points
  refine rl_bd2 (S := S9 b) (l_X9_refused (rfl : a1 = _) (rfl : a2 = _) (rfl : a3 = _) (rfl : a4 = _) h0) (fun r_1 s_2 s_2' h_3 => ?_)
  refine rl_if Iff.rfl ?_ ?_
  ·
    refine rl_bd2 (S := S9 b) (l_X9_pointsOf (rfl : a1 = _) (rfl : a2 = _) (rfl : a3 = _) (rfl : a4 = _) h_3) (fun r_4 s_5 s_5' h_6 => ?_)
    exact rl_some ⟨rfl, h_6⟩
  ·
    exact rl_some ⟨rfl, h_3⟩
theorem l_X9_need {b : G} {a1 a2 a3 a4 a1' a2' a3' a4' : Int32} (e_a1 : a1 = a1') (e_a2 : a2 = a2') (e_a3 : a3 = a3') (e_a4 : a4 = a4') {g g' : G} (h0 : S9 b g g') : Rl (f_X9_need a1 a2 a3 a4 g) (f_X9_need a1' a2' a3' a4' g') (Q9 b) := by
  subst e_a1
  subst e_a2
  subst e_a3
  subst e_a4
  unfold f_X9_need
  refine rl_bd2 (S := S9 b) (l_X9_points (rfl : a1 = _) (rfl : a2 = _) (rfl : a3 = _) (rfl : a3 = _) h0) (fun r_1 s_2 s_2' h_3 => ?_)
  refine rl_if Iff.rfl ?_ ?_
  ·
    refine rl_if Iff.rfl ?_ ?_
    ·
      exact rl_some ⟨rfl, h_3⟩
    ·
      refine rl_bd2 (S := S9 b) (l_X9_meets (rfl : (6 : Int32) = _) h_3) (fun r_4 s_5 s_5' h_6 => ?_)
      exact rl_some ⟨rfl, h_6⟩
  ·
    exact rl_some ⟨rfl, h_3⟩
theorem l_X9_answer {b : G} {a1 a1' : Int32} (e_a1 : a1 = a1') {g g' : G} (h0 : S9 b g g') : Rl (f_X9_answer a1 g) (f_X9_answer a1' g') (Q9 b) := by
  subst e_a1
  unfold f_X9_answer
  refine rl_ck rfl (fun j_1 hj_2 => ?_)
  refine rl_ck rfl (fun j_3 hj_4 => ?_)
  refine rl_ck rfl (fun j_5 hj_6 => ?_)
  refine rl_ck rfl (fun j_7 hj_8 => ?_)
  refine rl_ck rfl (fun j_9 hj_10 => ?_)
  refine rl_if (by rw [h0.rd (a := 171) (by omega)]) ?_ ?_
  ·
    refine rl_bd2 (S := S9 b) (l_X9_player (by rw [h0.rd (a := 171) (by omega)]) (by rw [h0.rd (a := 171) (by omega)]) h0) (fun r_11 s_12 s_12' h_13 => ?_)
    exact rl_some ⟨rfl, h_13⟩
  ·
    refine rl_if (by rw [h0.rd (a := 171) (by omega)]) ?_ ?_
    ·
      refine rl_bd2 (S := S9 b) (l_X9_places (by rw [h0.rd (a := 171) (by omega)]) (by rw [h0.rd (a := 171) (by omega)]) h0) (fun r_14 s_15 s_15' h_16 => ?_)
      exact rl_some ⟨rfl, h_16⟩
    ·
      refine rl_if (by rw [h0.rd (a := 171) (by omega)]) ?_ ?_
      ·
        refine rl_bd2 (S := S9 b) (l_X9_seat (by rw [h0.rd (a := 171) (by omega)]) (by rw [h0.rd (a := 171) (by omega)]) (by rw [h0.rd (a := 171) (by omega)]) h0) (fun r_17 s_18 s_18' h_19 => ?_)
        exact rl_some ⟨rfl, h_19⟩
      ·
        refine rl_if (by rw [h0.rd (a := 171) (by omega)]) ?_ ?_
        ·
          refine rl_bd2 (S := S9 b) (l_X9_tournament  h0) (fun r_20 s_21 s_21' h_22 => ?_)
          exact rl_some ⟨rfl, h_22⟩
        ·
          refine rl_if (by rw [h0.rd (a := 171) (by omega)]) ?_ ?_
          ·
            refine rl_bd2 (S := S9 b) (l_X9_enter (by rw [h0.rd (a := 171) (by omega)]) (by rw [h0.rd (a := 171) (by omega)]) h0) (fun r_23 s_24 s_24' h_25 => ?_)
            exact rl_some ⟨rfl, h_25⟩
          ·
            refine rl_if (by rw [h0.rd (a := 171) (by omega)]) ?_ ?_
            ·
              refine rl_bd2 (S := S9 b) (l_X9_withdraw (by rw [h0.rd (a := 171) (by omega)]) (by rw [h0.rd (a := 171) (by omega)]) h0) (fun r_26 s_27 s_27' h_28 => ?_)
              exact rl_some ⟨rfl, h_28⟩
            ·
              refine rl_if (by rw [h0.rd (a := 171) (by omega)]) ?_ ?_
              ·
                refine rl_bd2 (S := S9 b) (l_X9_drawOf (by rw [h0.rd (a := 171) (by omega)]) (by rw [h0.rd (a := 171) (by omega)]) h0) (fun r_29 s_30 s_30' h_31 => ?_)
                exact rl_some ⟨rfl, h_31⟩
              ·
                refine rl_if (by rw [h0.rd (a := 171) (by omega)]) ?_ ?_
                ·
                  refine rl_bd2 (S := S9 b) (l_X9_tell (by rw [h0.rd (a := 171) (by omega)]) (by rw [h0.rd (a := 171) (by omega)]) (by rw [h0.rd (a := 171) (by omega)]) (by rw [h0.rd (a := 171) (by omega)]) (by rw [h0.rd (a := 171) (by omega)]) (by rw [h0.rd (a := 171) (by omega)]) h0) (fun r_32 s_33 s_33' h_34 => ?_)
                  exact rl_some ⟨rfl, h_34⟩
                ·
                  refine rl_if (by rw [h0.rd (a := 171) (by omega)]) ?_ ?_
                  ·
                    refine rl_bd2 (S := S9 b) (l_X9_takeBack (by rw [h0.rd (a := 171) (by omega)]) (by rw [h0.rd (a := 171) (by omega)]) (by rw [h0.rd (a := 171) (by omega)]) h0) (fun r_35 s_36 s_36' h_37 => ?_)
                    exact rl_some ⟨rfl, h_37⟩
                  ·
                    refine rl_if (by rw [h0.rd (a := 171) (by omega)]) ?_ ?_
                    ·
                      refine rl_bd2 (S := S9 b) (l_X9_isPlayer (by rw [h0.rd (a := 171) (by omega)]) h0) (fun r_38 s_39 s_39' h_40 => ?_)
                      refine rl_if Iff.rfl ?_ ?_
                      ·
                        exact rl_some ⟨rfl, h_40⟩
                      ·
                        refine rl_bd2 (S := S9 b) (l_X9_worthOf (by rw [h0.rd (a := 171) (by omega)]) h_40) (fun r_41 s_42 s_42' h_43 => ?_)
                        exact rl_some ⟨rfl, h_43⟩
                    ·
                      refine rl_bd2 (S := S9 b) (l_X9_need (by rw [h0.rd (a := 171) (by omega)]) (by rw [h0.rd (a := 171) (by omega)]) (by rw [h0.rd (a := 171) (by omega)]) (by rw [h0.rd (a := 171) (by omega)]) h0) (fun r_44 s_45 s_45' h_46 => ?_)
                      exact rl_some ⟨rfl, h_46⟩
theorem l_X9_goes {b : G} : ∀ (n : Nat) {a1 a1' : Int32} {g g' : G}, a1 = a1' → S9 b g g' → Rl (f_X9_goes n a1 g) (f_X9_goes n a1' g') (Q9 b) := by
  intro n
  induction n with
  | zero => intros; intro q hq; rw [f_X9_goes] at hq; exact absurd hq (fun h => by cases h)
  | succ n ih =>
    rintro a1 _ g g' rfl h0
    rw [f_X9_goes, f_X9_goes]
    refine rl_ck rfl (fun j_1 hj_2 => ?_)
    refine rl_ck rfl (fun j_3 hj_4 => ?_)
    refine rl_wr (Q := S9 b) (h0.up (by omega) (by omega) (by omega) (by rw [h0.rd (a := 173) (by omega)])) (fun s_5 s_5' h_6 => ?_)
    refine rl_bd (P1 := (SumR (fun (x x' : G) => S9 b x x') (fun (x x' : Int32 × G) => x.1 = x'.1 ∧ S9 b x.2 x'.2))) ?_ ?_
    ·
      refine rl_lp (I := (fun (x x' : Int32 × G) => x.1 = x'.1 ∧ S9 b x.2 x'.2)) ?_ ⟨rfl, h_6⟩
      rintro ⟨x_7, s_8⟩ ⟨_, s_8'⟩ ⟨rfl, h_9⟩
      replace h_9 : S9 b s_8 s_8' := h_9
      try dsimp only
      refine rl_ck rfl (fun j_10 hj_11 => ?_)
      refine rl_if (by rw [h_9.rd (a := 172) (by omega)]) ?_ ?_
      ·
        exact rl_some (SumR.r (SumR.l h_9))
      ·
        refine rl_ck rfl (fun j_12 hj_13 => ?_)
        refine rl_bd (P1 := (SumR (fun (x x' : G) => S9 b x x') (SumR (fun (x x' : Int32 × G) => x.1 = x'.1 ∧ S9 b x.2 x'.2) (SumR (fun (x x' : G) => S9 b x x') (fun (x x' : Int32 × G) => x.1 = x'.1 ∧ S9 b x.2 x'.2))))) ?_ ?_
        ·
          refine rl_if (by rw [h_9.rd (a := 171) (by omega)]) ?_ ?_
          ·
            refine rl_ck rfl (fun j_14 hj_15 => ?_)
            refine rl_bd2 (S := S9 b) (l_X9_in (by rw [h_9.rd (a := 171) (by omega)]) (rfl : (0 : Int32) = _) (rfl : (a1 - (1 : Int32)) = _) h_9) (fun r_16 s_17 s_17' h_18 => ?_)
            refine rl_if Iff.rfl ?_ ?_
            ·
              refine rl_bd2 (S := S9 b) (l_X9_fails (rfl : (-2 : Int32) = _) (rfl : a1 = _) (rfl : x_7 = _) h_18) (fun r_19 s_20 s_20' h_21 => ?_)
              exact rl_some (SumR.r (SumR.r (SumR.r ⟨rfl, h_21⟩)))
            ·
              refine rl_ck rfl (fun j_22 hj_23 => ?_)
              refine rl_bd2 (S := S9 b) (ih (by rw [h_18.rd (a := 171) (by omega)]) h_18) (fun r_24 s_25 s_25' h_26 => ?_)
              refine rl_if Iff.rfl ?_ ?_
              ·
                exact rl_some (SumR.r (SumR.r (SumR.r ⟨rfl, h_26⟩)))
              ·
                exact rl_some (SumR.l h_26)
          ·
            refine rl_bd (P1 := (fun (x x' : Int32 × G) => x.1 = x'.1 ∧ S9 b x.2 x'.2)) ?_ ?_
            ·
              refine rl_if (by rw [h_9.rd (a := 159) (by omega)]) ?_ ?_
              ·
                exact rl_some ⟨rfl, h_9⟩
              ·
                refine rl_bd2 (S := S9 b) (l_X9_answer (rfl : (((50 : Int32) * a1) + ((5 : Int32) * x_7)) = _) h_9) (fun r_27 s_28 s_28' h_29 => ?_)
                exact rl_some ⟨rfl, h_29⟩
            ·
              rintro ⟨x_30, s_31⟩ ⟨_, s_31'⟩ ⟨rfl, h_32⟩
              replace h_32 : S9 b s_31 s_31' := h_32
              try dsimp only
              refine rl_if Iff.rfl ?_ ?_
              ·
                refine rl_wr (Q := S9 b) (h_32.up (by omega) (by omega) (by omega) (by rw [h_32.rd (a := 159) (by omega)])) (fun s_33 s_33' h_34 => ?_)
                exact rl_some (SumR.l h_34)
              ·
                refine rl_bd2 (S := S9 b) (l_X9_fails (rfl : x_30 = _) (rfl : a1 = _) (rfl : x_7 = _) h_32) (fun r_35 s_36 s_36' h_37 => ?_)
                exact rl_some (SumR.r (SumR.r (SumR.r ⟨rfl, h_37⟩)))
        ·
          rintro (s_38 | y) (s_38' | y') hq
          ·
            have h_39 := hq
            replace h_39 : S9 b s_38 s_38' := h_39
            try dsimp only
            exact rl_some (SumR.l ⟨rfl, h_39⟩)
          · exact hq.elim
          · exact hq.elim
          · exact rl_some hq
    ·
      rintro (s_40 | y) (s_40' | y') hq
      ·
        have h_41 := hq
        replace h_41 : S9 b s_40 s_40' := h_41
        try dsimp only
        exact rl_some ⟨rfl, h_41⟩
      · exact hq.elim
      · exact hq.elim
      · exact rl_some hq
