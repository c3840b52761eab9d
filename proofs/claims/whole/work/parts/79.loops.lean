/-! The loops of a run, named (written by gen/locgen.py). -/
def b8 (n : Nat) (a1 : Int32) : Int32 × G → Option ((Int32 × G) ⊕ ((Int32 × Int32 × G) ⊕ (Int32 × G))) := fun (s6 : Int32 × G) => (ck a1 4 fun j11 => if (s6.2 42 j11) ≤ s6.1 then some (.inr (.inr (((1 : Int32), s6.2)))) else bd2 (f_X2_rowOf a1 s6.1 s6.2) fun r13 g14 => ck (r13 + (1 : Int32)) 200 fun j15 => ck r13 200 fun j16 => bd ((if (g14 44 j16) = (11 : Int32) then if (g14 44 j15) < 0 then some (.inl (s6.1, g14)) else if a1 ≤ (g14 44 j15) then some (.inl (s6.1, g14)) else bd2 (f_X8_runSteps n (g14 44 j15) g14) fun r29 g30 => if r29 = 0 then some (.inr (.inr (.inr (((0 : Int32), g30))))) else some (.inr (.inl ((s6.1 + (1 : Int32)), g30))) else some (.inl (s6.1, g14)) : Option ((Int32 × G) ⊕ ((Int32 × G) ⊕ ((Int32 × Int32 × G) ⊕ (Int32 × G)))))) fun s32m => (match s32m with | .inl s19 => (bd2 (f_X8_perform r13 s19.2) fun r20 g21 => bd2 (f_X8_fails r20 g21) fun r22 g23 => if r22 = 0 then wr (up2 g23 45 3 ((g23 45 3) + (1 : Int32))) fun g25 => some (.inl ((s19.1 + (1 : Int32)), g25)) else some (.inr (.inl (s19.1, r20, g23)))) | .inr y => some y) : Option ((Int32 × G) ⊕ ((Int32 × Int32 × G) ⊕ (Int32 × G))))
def k8 (a1 : Int32) : (Int32 × Int32 × G) ⊕ (Int32 × G) → Option (Int32 × G) := fun s33m => (match s33m with | .inl s10 => (bd2 (f_X4_tellFailure s10.2.1 a1 s10.1 s10.2.2) fun r34 g35 => some (((0 : Int32), g35))) | .inr y => some y)
def L8 (n : Nat) (a1 : Int32) (f : Nat) (i : Int32) (g : G) : Option (Int32 × G) := bd (lp (b8 n a1) f (i, g)) (k8 a1)
theorem kk_L8 {b : Nat × G} {n f : Nat} {a1 i : Int32} {g g' : G} (ih : ∀ {a1 a1' : Int32} {g g' : G}, a1 = a1' → T8 b g g' → Rl (f_X8_runSteps n a1 g) (f_X8_runSteps n a1' g') (QT8 b)) (h0 : T8 b g g') : Rl (L8 n a1 f i g) (L8 n a1 f i g') (QT8 b) := by
  unfold L8 b8 k8
  refine rl_bd (P1 := (SumR (fun (x x' : Int32 × Int32 × G) => x.1 = x'.1 ∧ x.2.1 = x'.2.1 ∧ T8 b x.2.2 x'.2.2) (fun (x x' : Int32 × G) => x.1 = x'.1 ∧ T8 b x.2 x'.2))) ?_ ?_
  ·
    refine rl_lp (I := (fun (x x' : Int32 × G) => x.1 = x'.1 ∧ T8 b x.2 x'.2)) ?_ ⟨rfl, h0⟩
    rintro ⟨x_1, s_2⟩ ⟨_, s_2'⟩ ⟨rfl, h_3⟩
    replace h_3 : T8 b s_2 s_2' := h_3
    try dsimp only
    refine rl_ck rfl (fun j_4 hj_5 => ?_)
    refine rl_if (by rw [h_3.rd (a := 42) (by omega)]) ?_ ?_
    ·
      exact rl_some (SumR.r (SumR.r ⟨rfl, h_3⟩))
    ·
      refine rl_bd2 (S := T8 b) (kk_X2_rowOf (rfl : a1 = _) (rfl : x_1 = _) h_3) (fun r_6 s_7 s_7' h_8 => ?_)
      refine rl_ck rfl (fun j_9 hj_10 => ?_)
      refine rl_ck rfl (fun j_11 hj_12 => ?_)
      refine rl_bd (P1 := (SumR (fun (x x' : Int32 × G) => x.1 = x'.1 ∧ T8 b x.2 x'.2) (SumR (fun (x x' : Int32 × G) => x.1 = x'.1 ∧ T8 b x.2 x'.2) (SumR (fun (x x' : Int32 × Int32 × G) => x.1 = x'.1 ∧ x.2.1 = x'.2.1 ∧ T8 b x.2.2 x'.2.2) (fun (x x' : Int32 × G) => x.1 = x'.1 ∧ T8 b x.2 x'.2))))) ?_ ?_
      ·
        refine rl_if (by rw [h_8.rd (a := 44) (by omega)]) ?_ ?_
        ·
          refine rl_if (by rw [h_8.rd (a := 44) (by omega)]) ?_ ?_
          ·
            exact rl_some (SumR.l ⟨rfl, h_8⟩)
          ·
            refine rl_if (by rw [h_8.rd (a := 44) (by omega)]) ?_ ?_
            ·
              exact rl_some (SumR.l ⟨rfl, h_8⟩)
            ·
              refine rl_bd2 (S := T8 b) (ih (by rw [h_8.rd (a := 44) (by omega)]) h_8) (fun r_13 s_14 s_14' h_15 => ?_)
              refine rl_if Iff.rfl ?_ ?_
              ·
                exact rl_some (SumR.r (SumR.r (SumR.r ⟨rfl, h_15⟩)))
              ·
                exact rl_some (SumR.r (SumR.l ⟨rfl, h_15⟩))
        ·
          exact rl_some (SumR.l ⟨rfl, h_8⟩)
      ·
        rintro (⟨x_16, s_17⟩ | y) (⟨_, s_17'⟩ | y') hq
        ·
          obtain ⟨rfl, h_18⟩ := hq
          replace h_18 : T8 b s_17 s_17' := h_18
          try dsimp only
          refine rl_bd2 (S := T8 b) (kk_X8_perform (rfl : r_6 = _) h_18) (fun r_19 s_20 s_20' h_21 => ?_)
          refine rl_bd2 (S := T8 b) (kk_X8_fails (rfl : r_19 = _) h_21) (fun r_22 s_23 s_23' h_24 => ?_)
          refine rl_if Iff.rfl ?_ ?_
          ·
            refine rl_wr (Q := T8 b) (h_24.up (by omega) (by omega) (by omega) (by rw [h_24.rd (a := 45) (by omega)])) (fun s_25 s_25' h_26 => ?_)
            exact rl_some (SumR.l ⟨rfl, h_26⟩)
          ·
            exact rl_some (SumR.r (SumR.l ⟨rfl, rfl, h_24⟩))
        · exact hq.elim
        · exact hq.elim
        · exact rl_some hq
  ·
    rintro (⟨x_27, x_28, s_29⟩ | y) (⟨_, _, s_29'⟩ | y') hq
    ·
      obtain ⟨rfl, rfl, h_30⟩ := hq
      replace h_30 : T8 b s_29 s_29' := h_30
      try dsimp only
      refine rl_bd2 (S := T8 b) (kk_X4_tellFailure (rfl : x_28 = _) (rfl : a1 = _) (rfl : x_27 = _) h_30) (fun r_31 s_32 s_32' h_33 => ?_)
      exact rl_some ⟨rfl, h_33⟩
    · exact hq.elim
    · exact hq.elim
    · exact rl_some hq
def b9 (n : Nat) (a1 : Int32) : Int32 × G → Option ((Int32 × G) ⊕ ((G) ⊕ (Int32 × G))) := fun (s6 : Int32 × G) => (ck a1 4 fun j9 => if (s6.2 172 j9) ≤ s6.1 then some (.inr (.inl (s6.2))) else ck (((50 : Int32) * a1) + ((5 : Int32) * s6.1)) 200 fun j11 => bd ((if (s6.2 171 j11) = (11 : Int32) then ck ((((50 : Int32) * a1) + ((5 : Int32) * s6.1)) + (1 : Int32)) 200 fun j26 => bd2 (f_X9_in (s6.2 171 j26) (0 : Int32) (a1 - (1 : Int32)) s6.2) fun r27 g28 => if r27 = 0 then bd2 (f_X9_fails (-2 : Int32) a1 s6.1 g28) fun r34 g35 => some (.inr (.inr (.inr (((0 : Int32), g35))))) else ck ((((50 : Int32) * a1) + ((5 : Int32) * s6.1)) + (1 : Int32)) 200 fun j30 => bd2 (f_X9_goes n (g28 171 j30) g28) fun r31 g32 => if r31 = 0 then some (.inr (.inr (.inr (((0 : Int32), g32))))) else some (.inl (g32)) else bd ((if (s6.2 159 24) = (60 : Int32) then some (((-4 : Int32), s6.2)) else bd2 (f_X9_answer (((50 : Int32) * a1) + ((5 : Int32) * s6.1)) s6.2) fun r23 g24 => some ((r23, g24)) : Option (Int32 × G))) fun (s17 : Int32 × G) => if (-1 : Int32) ≤ s17.1 then wr (up2 s17.2 159 24 ((s17.2 159 24) + (1 : Int32))) fun g19 => some (.inl (g19)) else bd2 (f_X9_fails s17.1 a1 s6.1 s17.2) fun r20 g21 => some (.inr (.inr (.inr (((0 : Int32), g21))))) : Option ((G) ⊕ ((Int32 × G) ⊕ ((G) ⊕ (Int32 × G)))))) fun s36m => (match s36m with | .inl s13 => (some (.inl ((s6.1 + (1 : Int32)), s13))) | .inr y => some y) : Option ((Int32 × G) ⊕ ((G) ⊕ (Int32 × G))))
def k9 (a1 : Int32) : (G) ⊕ (Int32 × G) → Option (Int32 × G) := fun s37m => (match s37m with | .inl s8 => (some (((1 : Int32), s8))) | .inr y => some y)
def L9 (n : Nat) (a1 : Int32) (f : Nat) (i : Int32) (g : G) : Option (Int32 × G) := bd (lp (b9 n a1) f (i, g)) (k9 a1)
