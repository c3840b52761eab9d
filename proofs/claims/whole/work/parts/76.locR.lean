/-! Running keeps to the cells. (written by gen/locgen.py) -/
theorem kk_X2_rowOf {b : Nat × G} {a1 a2 a1' a2' : Int32} (e_a1 : a1 = a1') (e_a2 : a2 = a2') {g g' : G} (h0 : T8 b g g') : Rl (f_X2_rowOf a1 a2 g) (f_X2_rowOf a1' a2' g') (QT8 b) := by
  subst e_a1
  subst e_a2
  unfold f_X2_rowOf
  exact rl_some ⟨rfl, h0⟩
theorem kk_X8_fails {b : Nat × G} {a0 a0' : Int32} (e_a0 : a0 = a0') {g g' : G} (h0 : T8 b g g') : Rl (f_X8_fails a0 g) (f_X8_fails a0' g') (QT8 b) := by
  subst e_a0
  unfold f_X8_fails
  refine rl_if Iff.rfl ?_ ?_
  ·
    exact rl_some ⟨rfl, h0⟩
  ·
    refine rl_if Iff.rfl ?_ ?_
    ·
      exact rl_some ⟨rfl, h0⟩
    ·
      refine rl_if Iff.rfl ?_ ?_
      ·
        exact rl_some ⟨rfl, h0⟩
      ·
        refine rl_if Iff.rfl ?_ ?_
        ·
          exact rl_some ⟨rfl, h0⟩
        ·
          exact rl_some ⟨rfl, h0⟩
theorem kk_X4_tellFailure {b : Nat × G} {a1 a2 a3 a1' a2' a3' : Int32} (e_a1 : a1 = a1') (e_a2 : a2 = a2') (e_a3 : a3 = a3') {g g' : G} (h0 : T8 b g g') : Rl (f_X4_tellFailure a1 a2 a3 g) (f_X4_tellFailure a1' a2' a3' g') (QT8 b) := by
  subst e_a1
  subst e_a2
  subst e_a3
  unfold f_X4_tellFailure
  refine rl_wr (Q := T8 b) (h0.up (by omega) (by omega) (by omega) rfl) (fun s_1 s_1' h_2 => ?_)
  refine rl_wr (Q := T8 b) (h_2.up (by omega) (by omega) (by omega) rfl) (fun s_3 s_3' h_4 => ?_)
  refine rl_wr (Q := T8 b) (h_4.up (by omega) (by omega) (by omega) rfl) (fun s_5 s_5' h_6 => ?_)
  exact rl_some ⟨rfl, h_6⟩
theorem kk_X8_runSteps {b : Nat × G} : ∀ (n : Nat) {a1 a1' : Int32} {g g' : G}, a1 = a1' → T8 b g g' → Rl (f_X8_runSteps n a1 g) (f_X8_runSteps n a1' g') (QT8 b) := by
  intro n
  induction n with
  | zero => intros; intro q hq; rw [f_X8_runSteps] at hq; exact absurd hq (fun h => by cases h)
  | succ n ih =>
    rintro a1 _ g g' rfl h0
    rw [f_X8_runSteps, f_X8_runSteps]
    refine rl_ck rfl (fun j_1 hj_2 => ?_)
    refine rl_ck rfl (fun j_3 hj_4 => ?_)
    refine rl_wr (Q := T8 b) (h0.up (by omega) (by omega) (by omega) (by rw [h0.rd (a := 43) (by omega)])) (fun s_5 s_5' h_6 => ?_)
    refine rl_bd (P1 := (SumR (fun (x x' : Int32 × Int32 × G) => x.1 = x'.1 ∧ x.2.1 = x'.2.1 ∧ T8 b x.2.2 x'.2.2) (fun (x x' : Int32 × G) => x.1 = x'.1 ∧ T8 b x.2 x'.2))) ?_ ?_
    ·
      refine rl_lp (I := (fun (x x' : Int32 × G) => x.1 = x'.1 ∧ T8 b x.2 x'.2)) ?_ ⟨rfl, h_6⟩
      rintro ⟨x_7, s_8⟩ ⟨_, s_8'⟩ ⟨rfl, h_9⟩
      replace h_9 : T8 b s_8 s_8' := h_9
      try dsimp only
      refine rl_ck rfl (fun j_10 hj_11 => ?_)
      refine rl_if (by rw [h_9.rd (a := 42) (by omega)]) ?_ ?_
      ·
        exact rl_some (SumR.r (SumR.r ⟨rfl, h_9⟩))
      ·
        refine rl_bd2 (S := T8 b) (kk_X2_rowOf (rfl : a1 = _) (rfl : x_7 = _) h_9) (fun r_12 s_13 s_13' h_14 => ?_)
        refine rl_ck rfl (fun j_15 hj_16 => ?_)
        refine rl_ck rfl (fun j_17 hj_18 => ?_)
        refine rl_bd (P1 := (SumR (fun (x x' : Int32 × G) => x.1 = x'.1 ∧ T8 b x.2 x'.2) (SumR (fun (x x' : Int32 × G) => x.1 = x'.1 ∧ T8 b x.2 x'.2) (SumR (fun (x x' : Int32 × Int32 × G) => x.1 = x'.1 ∧ x.2.1 = x'.2.1 ∧ T8 b x.2.2 x'.2.2) (fun (x x' : Int32 × G) => x.1 = x'.1 ∧ T8 b x.2 x'.2))))) ?_ ?_
        ·
          refine rl_if (by rw [h_14.rd (a := 44) (by omega)]) ?_ ?_
          ·
            refine rl_if (by rw [h_14.rd (a := 44) (by omega)]) ?_ ?_
            ·
              exact rl_some (SumR.l ⟨rfl, h_14⟩)
            ·
              refine rl_if (by rw [h_14.rd (a := 44) (by omega)]) ?_ ?_
              ·
                exact rl_some (SumR.l ⟨rfl, h_14⟩)
              ·
                refine rl_bd2 (S := T8 b) (ih (by rw [h_14.rd (a := 44) (by omega)]) h_14) (fun r_19 s_20 s_20' h_21 => ?_)
                refine rl_if Iff.rfl ?_ ?_
                ·
                  exact rl_some (SumR.r (SumR.r (SumR.r ⟨rfl, h_21⟩)))
                ·
                  exact rl_some (SumR.r (SumR.l ⟨rfl, h_21⟩))
          ·
            exact rl_some (SumR.l ⟨rfl, h_14⟩)
        ·
          rintro (⟨x_22, s_23⟩ | y) (⟨_, s_23'⟩ | y') hq
          ·
            obtain ⟨rfl, h_24⟩ := hq
            replace h_24 : T8 b s_23 s_23' := h_24
            try dsimp only
            refine rl_bd2 (S := T8 b) (kk_X8_perform (rfl : r_12 = _) h_24) (fun r_25 s_26 s_26' h_27 => ?_)
            refine rl_bd2 (S := T8 b) (kk_X8_fails (rfl : r_25 = _) h_27) (fun r_28 s_29 s_29' h_30 => ?_)
            refine rl_if Iff.rfl ?_ ?_
            ·
              refine rl_wr (Q := T8 b) (h_30.up (by omega) (by omega) (by omega) (by rw [h_30.rd (a := 45) (by omega)])) (fun s_31 s_31' h_32 => ?_)
              exact rl_some (SumR.l ⟨rfl, h_32⟩)
            ·
              exact rl_some (SumR.r (SumR.l ⟨rfl, rfl, h_30⟩))
          · exact hq.elim
          · exact hq.elim
          · exact rl_some hq
    ·
      rintro (⟨x_33, x_34, s_35⟩ | y) (⟨_, _, s_35'⟩ | y') hq
      ·
        obtain ⟨rfl, rfl, h_36⟩ := hq
        replace h_36 : T8 b s_35 s_35' := h_36
        try dsimp only
        refine rl_bd2 (S := T8 b) (kk_X4_tellFailure (rfl : x_34 = _) (rfl : a1 = _) (rfl : x_33 = _) h_36) (fun r_37 s_38 s_38' h_39 => ?_)
        exact rl_some ⟨rfl, h_39⟩
      · exact hq.elim
      · exact hq.elim
      · exact rl_some hq
theorem ww_X5_takeOver_3_8 {b : G}  {g g' : G} (h0 : W8 b g g') : Rl (f_X5_takeOver_3_8  g) (f_X5_takeOver_3_8  g') (QW8 b) := by
  unfold f_X5_takeOver_3_8
  refine rl_wr (Q := W8 b) (h0.up (by omega) trivial trivial (by rw [h0.rd (a := 8) (by omega)])) (fun s_1 s_1' h_2 => ?_)
  refine rl_cz rfl rfl (by rw [h_2.rd (a := 3) (by omega)]) ?_
  refine rl_wr (Q := W8 b) (h_2.up1 (by omega) trivial trivial (by rw [h_2.rd (a := 9) (by omega), h_2.rd (a := 4) (by omega), h_2.rd (a := 3) (by omega)])) (fun s_3 s_3' h_4 => ?_)
  refine rl_cz rfl rfl (by rw [h_4.rd (a := 3) (by omega)]) ?_
  refine rl_wr (Q := W8 b) (h_4.up1 (by omega) trivial trivial (by rw [h_4.rd (a := 10) (by omega), h_4.rd (a := 5) (by omega), h_4.rd (a := 3) (by omega)])) (fun s_5 s_5' h_6 => ?_)
  refine rl_cz rfl rfl (by rw [h_6.rd (a := 3) (by omega)]) ?_
  refine rl_wr (Q := W8 b) (h_6.up1 (by omega) trivial trivial (by rw [h_6.rd (a := 11) (by omega), h_6.rd (a := 6) (by omega), h_6.rd (a := 3) (by omega)])) (fun s_7 s_7' h_8 => ?_)
  refine rl_cz rfl rfl (by rw [h_8.rd (a := 3) (by omega)]) ?_
  refine rl_wr (Q := W8 b) (h_8.up1 (by omega) trivial trivial (by rw [h_8.rd (a := 12) (by omega), h_8.rd (a := 7) (by omega), h_8.rd (a := 3) (by omega)])) (fun s_9 s_9' h_10 => ?_)
  exact rl_some ⟨rfl, h_10⟩
theorem ww_X7_takeOver {b : G} {t0 : Nat} (h_t0 : t0 + 13 < 159) {t1 : Nat} (h_t1 : t1 + 13 < 159) {g g' : G} (h0 : W8 b g g') : Rl (f_X7_takeOver t0 t1 g) (f_X7_takeOver t0 t1 g') (QW8 b) := by
  unfold f_X7_takeOver
  refine rl_wr (Q := W8 b) (h0.up (by omega) trivial trivial (by rw [h0.rd (a := t1) (by omega)])) (fun s_1 s_1' h_2 => ?_)
  refine rl_wr (Q := W8 b) (h_2.up (by omega) trivial trivial (by rw [h_2.rd (a := t1) (by omega)])) (fun s_3 s_3' h_4 => ?_)
  refine rl_wr (Q := W8 b) (h_4.up (by omega) trivial trivial (by rw [h_4.rd (a := t1) (by omega)])) (fun s_5 s_5' h_6 => ?_)
  refine rl_cz rfl rfl (by rw [h_6.rd (a := t0) (by omega)]) ?_
  refine rl_wr (Q := W8 b) (h_6.up1 (by omega) trivial trivial (by rw [h_6.rd (a := (t1 + 1)) (by omega), h_6.rd (a := (t0 + 1)) (by omega), h_6.rd (a := t0) (by omega)])) (fun s_7 s_7' h_8 => ?_)
  refine rl_cz rfl rfl rfl ?_
  refine rl_wr (Q := W8 b) (h_8.up1 (by omega) trivial trivial (by rw [h_8.rd (a := (t1 + 2)) (by omega), h_8.rd (a := (t0 + 2)) (by omega)])) (fun s_9 s_9' h_10 => ?_)
  refine rl_cz rfl rfl rfl ?_
  refine rl_wr (Q := W8 b) (h_10.up1 (by omega) trivial trivial (by rw [h_10.rd (a := (t1 + 3)) (by omega), h_10.rd (a := (t0 + 3)) (by omega)])) (fun s_11 s_11' h_12 => ?_)
  refine rl_cz rfl rfl (by rw [h_12.rd (a := t0) (by omega)]) ?_
  refine rl_wr (Q := W8 b) (h_12.up1 (by omega) trivial trivial (by rw [h_12.rd (a := (t1 + 4)) (by omega), h_12.rd (a := (t0 + 4)) (by omega), h_12.rd (a := t0) (by omega)])) (fun s_13 s_13' h_14 => ?_)
  refine rl_cz rfl rfl (by rw [h_14.rd (a := t0) (by omega)]) ?_
  refine rl_wr (Q := W8 b) (h_14.up1 (by omega) trivial trivial (by rw [h_14.rd (a := (t1 + 5)) (by omega), h_14.rd (a := (t0 + 5)) (by omega), h_14.rd (a := t0) (by omega)])) (fun s_15 s_15' h_16 => ?_)
  refine rl_cz rfl rfl (by rw [h_16.rd (a := t0) (by omega)]) ?_
  refine rl_wr (Q := W8 b) (h_16.up1 (by omega) trivial trivial (by rw [h_16.rd (a := (t1 + 6)) (by omega), h_16.rd (a := (t0 + 6)) (by omega), h_16.rd (a := t0) (by omega)])) (fun s_17 s_17' h_18 => ?_)
  refine rl_cz rfl rfl (by rw [h_6.rd (a := t0) (by omega)]) ?_
  refine rl_wr (Q := W8 b) (h_18.up1 (by omega) trivial trivial (by rw [h_6.rd (a := t0) (by omega), h_18.rd (a := (t1 + 7)) (by omega), h_18.rd (a := (t0 + 7)) (by omega)])) (fun s_19 s_19' h_20 => ?_)
  refine rl_cz rfl rfl (by rw [h_6.rd (a := t0) (by omega)]) ?_
  refine rl_wr (Q := W8 b) (h_20.up1 (by omega) trivial trivial (by rw [h_6.rd (a := t0) (by omega), h_20.rd (a := (t1 + 8)) (by omega), h_20.rd (a := (t0 + 8)) (by omega)])) (fun s_21 s_21' h_22 => ?_)
  refine rl_cz rfl rfl (by rw [h_22.rd (a := t0) (by omega)]) ?_
  refine rl_wr (Q := W8 b) (h_22.up1 (by omega) trivial trivial (by rw [h_22.rd (a := (t1 + 9)) (by omega), h_22.rd (a := (t0 + 9)) (by omega), h_22.rd (a := t0) (by omega)])) (fun s_23 s_23' h_24 => ?_)
  refine rl_cz rfl rfl (by rw [h_24.rd (a := t0) (by omega)]) ?_
  refine rl_wr (Q := W8 b) (h_24.up1 (by omega) trivial trivial (by rw [h_24.rd (a := (t1 + 10)) (by omega), h_24.rd (a := (t0 + 10)) (by omega), h_24.rd (a := t0) (by omega)])) (fun s_25 s_25' h_26 => ?_)
  refine rl_cz rfl rfl (by rw [h_26.rd (a := t0) (by omega)]) ?_
  refine rl_wr (Q := W8 b) (h_26.up1 (by omega) trivial trivial (by rw [h_26.rd (a := (t1 + 11)) (by omega), h_26.rd (a := (t0 + 11)) (by omega), h_26.rd (a := t0) (by omega)])) (fun s_27 s_27' h_28 => ?_)
  refine rl_cz rfl rfl (by rw [h_28.rd (a := t0) (by omega)]) ?_
  refine rl_wr (Q := W8 b) (h_28.up1 (by omega) trivial trivial (by rw [h_28.rd (a := (t1 + 12)) (by omega), h_28.rd (a := (t0 + 12)) (by omega), h_28.rd (a := t0) (by omega)])) (fun s_29 s_29' h_30 => ?_)
  refine rl_cz rfl rfl (by rw [h_30.rd (a := t0) (by omega)]) ?_
  refine rl_wr (Q := W8 b) (h_30.up1 (by omega) trivial trivial (by rw [h_30.rd (a := (t1 + 13)) (by omega), h_30.rd (a := (t0 + 13)) (by omega), h_30.rd (a := t0) (by omega)])) (fun s_31 s_31' h_32 => ?_)
  exact rl_some ⟨rfl, h_32⟩
theorem ww_X8_restore {b : G}  {g g' : G} (h0 : W8 b g g') : Rl (f_X8_restore  g) (f_X8_restore  g') (QW8 b) := by
  unfold f_X8_restore
  refine rl_bd2 (S := W8 b) (ww_X5_takeOver_3_8  h0) (fun r_1 s_2 s_2' h_3 => ?_)
  refine rl_wr (Q := W8 b) (h_3.up (by omega) trivial trivial (by rw [h_3.rd (a := 0) (by omega)])) (fun s_4 s_4' h_5 => ?_)
  refine rl_bd (P1 := (fun (x x' : G) => W8 b x x')) ?_ ?_
  ·
    refine rl_lp (I := (fun (x x' : Int32 × G) => x.1 = x'.1 ∧ W8 b x.2 x'.2)) ?_ ⟨rfl, h_5⟩
    rintro ⟨x_6, s_7⟩ ⟨_, s_7'⟩ ⟨rfl, h_8⟩
    replace h_8 : W8 b s_7 s_7' := h_8
    try dsimp only
    refine rl_if (by rw [h_8.rd (a := 0) (by omega)]) ?_ ?_
    ·
      exact rl_some (SumR.r h_8)
    ·
      refine rl_ck rfl (fun j_9 hj_10 => ?_)
      refine rl_wrN ?_
      refine rl_ck rfl (fun j_11 hj_12 => ?_)
      refine rl_wrN ?_
      refine rl_bd2 (S := W8 b) (ww_X7_takeOver (t0 := (47 + 28 * j_9)) (by omega) (t1 := (61 + 28 * j_11)) (by omega) h_8) (fun r_13 s_14 s_14' h_15 => ?_)
      exact rl_some (SumR.l ⟨rfl, h_15⟩)
  ·
    rintro s_16 s_16' h_17
    replace h_17 : W8 b s_16 s_16' := h_17
    try dsimp only
    exact rl_some ⟨rfl, h_17⟩
theorem ww_X9_keep {b : G}  {g g' : G} (h0 : W9 b g g') : Rl (f_X9_keep  g) (f_X9_keep  g') (QW9 b) := by
  unfold f_X9_keep
  refine rl_wr (Q := W9 b) (h0.up (by omega) trivial trivial (by rw [h0.rd (a := 159) (by omega)])) (fun s_1 s_1' h_2 => ?_)
  refine rl_wr (Q := W9 b) (h_2.up (by omega) trivial trivial (by rw [h_2.rd (a := 159) (by omega)])) (fun s_3 s_3' h_4 => ?_)
  refine rl_bd (P1 := (fun (x x' : G) => W9 b x x')) ?_ ?_
  ·
    refine rl_lp (I := (fun (x x' : Int32 × G) => x.1 = x'.1 ∧ W9 b x.2 x'.2)) ?_ ⟨rfl, h_4⟩
    rintro ⟨x_5, s_6⟩ ⟨_, s_6'⟩ ⟨rfl, h_7⟩
    replace h_7 : W9 b s_6 s_6' := h_7
    try dsimp only
    refine rl_if Iff.rfl ?_ ?_
    ·
      exact rl_some (SumR.r h_7)
    ·
      refine rl_ck rfl (fun j_8 hj_9 => ?_)
      refine rl_ck rfl (fun j_10 hj_11 => ?_)
      refine rl_wr (Q := W9 b) (h_7.up (by omega) trivial trivial (by rw [h_7.rd (a := 161) (by omega)])) (fun s_12 s_12' h_13 => ?_)
      refine rl_ck rfl (fun j_14 hj_15 => ?_)
      refine rl_ck rfl (fun j_16 hj_17 => ?_)
      refine rl_wr (Q := W9 b) (h_13.up (by omega) trivial trivial (by rw [h_13.rd (a := 162) (by omega)])) (fun s_18 s_18' h_19 => ?_)
      refine rl_ck rfl (fun j_20 hj_21 => ?_)
      refine rl_ck rfl (fun j_22 hj_23 => ?_)
      refine rl_wr (Q := W9 b) (h_19.up (by omega) trivial trivial (by rw [h_19.rd (a := 163) (by omega)])) (fun s_24 s_24' h_25 => ?_)
      exact rl_some (SumR.l ⟨rfl, h_25⟩)
  ·
    rintro s_26 s_26' h_27
    replace h_27 : W9 b s_26 s_26' := h_27
    try dsimp only
    refine rl_bd (P1 := (fun (x x' : G) => W9 b x x')) ?_ ?_
    ·
      refine rl_lp (I := (fun (x x' : Int32 × G) => x.1 = x'.1 ∧ W9 b x.2 x'.2)) ?_ ⟨rfl, h_27⟩
      rintro ⟨x_28, s_29⟩ ⟨_, s_29'⟩ ⟨rfl, h_30⟩
      replace h_30 : W9 b s_29 s_29' := h_30
      try dsimp only
      refine rl_if Iff.rfl ?_ ?_
      ·
        exact rl_some (SumR.r h_30)
      ·
        refine rl_ck rfl (fun j_31 hj_32 => ?_)
        refine rl_ck rfl (fun j_33 hj_34 => ?_)
        refine rl_wr (Q := W9 b) (h_30.up (by omega) trivial trivial (by rw [h_30.rd (a := 164) (by omega)])) (fun s_35 s_35' h_36 => ?_)
        exact rl_some (SumR.l ⟨rfl, h_36⟩)
    ·
      rintro s_37 s_37' h_38
      replace h_38 : W9 b s_37 s_37' := h_38
      try dsimp only
      refine rl_bd (P1 := (fun (x x' : G) => W9 b x x')) ?_ ?_
      ·
        refine rl_lp (I := (fun (x x' : Int32 × G) => x.1 = x'.1 ∧ W9 b x.2 x'.2)) ?_ ⟨rfl, h_38⟩
        rintro ⟨x_39, s_40⟩ ⟨_, s_40'⟩ ⟨rfl, h_41⟩
        replace h_41 : W9 b s_40 s_40' := h_41
        try dsimp only
        refine rl_if Iff.rfl ?_ ?_
        ·
          exact rl_some (SumR.r h_41)
        ·
          refine rl_ck rfl (fun j_42 hj_43 => ?_)
          refine rl_ck rfl (fun j_44 hj_45 => ?_)
          refine rl_wr (Q := W9 b) (h_41.up (by omega) trivial trivial (by rw [h_41.rd (a := 165) (by omega)])) (fun s_46 s_46' h_47 => ?_)
          exact rl_some (SumR.l ⟨rfl, h_47⟩)
      ·
        rintro s_48 s_48' h_49
        replace h_49 : W9 b s_48 s_48' := h_49
        try dsimp only
        exact rl_some ⟨rfl, h_49⟩
theorem ww_X9_fails {b : G} {a1 a2 a3 a1' a2' a3' : Int32} (e_a1 : a1 = a1') (e_a2 : a2 = a2') (e_a3 : a3 = a3') {g g' : G} (h0 : W9 b g g') : Rl (f_X9_fails a1 a2 a3 g) (f_X9_fails a1' a2' a3' g') (QW9 b) := by
  subst e_a1
  subst e_a2
  subst e_a3
  unfold f_X9_fails
  refine rl_wr (Q := W9 b) (h0.up (by omega) trivial trivial rfl) (fun s_1 s_1' h_2 => ?_)
  refine rl_wr (Q := W9 b) (h_2.up (by omega) trivial trivial rfl) (fun s_3 s_3' h_4 => ?_)
  refine rl_wr (Q := W9 b) (h_4.up (by omega) trivial trivial rfl) (fun s_5 s_5' h_6 => ?_)
  exact rl_some ⟨rfl, h_6⟩
