/-! What is OPEN in the model. -/
theorem m_listOpen {np t n dr e W : Nat} {g : G} {o : Nat → Int32} (hT : TT g np t n dr e) (ho : ∀ c, c < 30 → ∀ s : G, (∀ a, a ≠ 183 → s a = g a) → f_X9_outcomeOf (nI t) (nI c) (nI 2147483647) (nI W) s = some (o c, s)) : Ev (lp (fun (s19 : Int32 × Int32 × G) => (bd ((if nI 0 = 0 then bd2 (f_X9_cell (nI t) (25 : Int32) s19.2.2) fun r59 g60 => some ((r59, g60)) else some (((0 : Int32), s19.2.2)) : Option (Int32 × G))) fun (s25 : Int32 × G) => if s25.1 ≤ s19.2.1 then some (.inr (s19.1, s25.2)) else bd (lp (fun (s30 : Int32 × Int32 × G) => (bd2 (f_X9_cell (nI t) ((32 : Int32) + s19.2.1) s30.2.2) fun r34 g35 => if r34 ≤ s30.2.1 then some (.inr (s30.1, g35)) else bd2 (f_X9_isWithNobody (nI t) (((5 : Int32) * s19.2.1) + s30.2.1) g35) fun r37 g38 => bd ((if r37 = 0 then bd2 (f_X9_outcomeOf (nI t) (((5 : Int32) * s19.2.1) + s30.2.1) (2147483647 : Int32) (nI W) g38) fun r54 g55 => some ((r54, g55)) else some (((0 : Int32), g38)) : Option (Int32 × G))) fun (s41 : Int32 × G) => bd ((if s41.1 = (-1 : Int32) then some (.inl (s30.2.1)) else if s41.1 = (5 : Int32) then some (.inl (s30.2.1)) else some (.inr (.inl (s30.1, (s30.2.1 + (1 : Int32)), s41.2))) : Option ((Int32) ⊕ ((Int32 × Int32 × G) ⊕ (Int32 × G))))) fun s52m => (match s52m with | .inl s43 => (bd ((if (4 : Int32) ≤ s30.1 then some (s41.2) else ck s30.1 4 fun j47 => wr (up2 s41.2 183 j47 (((5 : Int32) * s19.2.1) + s30.2.1)) fun g48 => some (g48) : Option (G))) fun (s45 : G) => some (.inl ((s30.1 + (1 : Int32)), (s43 + (1 : Int32)), s45))) | .inr y => some y) : Option ((Int32 × Int32 × G) ⊕ (Int32 × G)))) 2000 (s19.1, (0 : Int32), s25.2)) fun (s33 : Int32 × G) => some (.inl (s33.1, (s19.2.1 + (1 : Int32)), s33.2)) : Option ((Int32 × Int32 × G) ⊕ (Int32 × G)))) 2000 ((0 : Int32), (0 : Int32), g)) (fun q => q.1 = nI (cn (opS (rowT g t) o dr) 30) ∧ (∀ a, a ≠ 183 → q.2 a = g a) ∧ OL (opS (rowT g t) o dr) (q.2 183) 30) := by
  obtain ⟨h24, ht, hin, hsm, ⟨d6, c2, m25, hr, hz⟩, hen⟩ := hT
  have hend := op_end (R := rowT g t) (o := o) d6
  refine ev_lp (I := fun r s => s.1 = nI (cn (opS (rowT g t) o dr) (5 * r)) ∧ s.2.1 = nI r ∧ (∀ a, a ≠ 183 → s.2.2 a = g a) ∧ OL (opS (rowT g t) o dr) (s.2.2 183) (5 * r)) dr ?_ ?_ 2000 0 _ (Nat.zero_le _) (by omega) ⟨rfl, rfl, fun _ _ => rfl, fun j _ hj => absurd hj (Nat.not_lt_zero j)⟩
  · rintro r ⟨x, y, s⟩ hrr ⟨rfl, rfl, h1, h2⟩
    dsimp only at h1 h2
    have hrow : rowT s t = rowT g t := rowT_ne (h1 165 (by omega))
    have c25 : f_X9_cell (nI t) 25 s = some (nI dr, s) := by simp (disch := omega) only [bd2_s, bd_s, wr_s, ck_s, bz_s0, bz_s1, dz_s, nI_litS, nI_add, pk_mul, pk_sub, nI_leI, nI_ltI, nI_eq, ng_lt, ng_le, lt_ng, le_ng, eq_ng, ng_eq, ng_ngE, ng_ngL, ng_ngl, sub1_lt, sub1_ng, eq_self, if_pos, if_neg, if_true, if_false, Nat.zero_add, Nat.add_zero, f_X9_cell, rw_k s t, hrow, m25]
    obtain ⟨m, hm⟩ := hr r hrr
    have m5 := hm.2.1
    have e6 := hm.2.2.2.2.2.1
    dsimp only
    refine ev_bd (Ev.of (a := (nI dr, s)) (q_if_t rfl (q_call c25 rfl)) ?_)
    refine ev_f (nI_ge hrr (by omega)) ?_
    refine ev_bd ?_
    refine ev_lp (I := fun k s => s.1 = nI (cn (opS (rowT g t) o dr) (5 * r + k)) ∧ s.2.1 = nI k ∧ (∀ a, a ≠ 183 → s.2.2 a = g a) ∧ OL (opS (rowT g t) o dr) (s.2.2 183) (5 * r + k)) m ?_ ?_ 2000 0 _ (Nat.zero_le _) (by omega) ⟨rfl, rfl, h1, h2⟩
    · rintro k ⟨x, y, s'⟩ hk ⟨rfl, rfl, i1, i2⟩
      dsimp only at i1 i2
      obtain ⟨f7, f8, w, hw, ew, eb⟩ := hm.pk hin h24 hk
      have hop := op_in (o := o) hm.mmE hrr hk m5
      have hrow : rowT s' t = rowT g t := rowT_ne (i1 165 (by omega))
      have o' := ho (5 * r + k) (by omega) s' i1
      have c32 : f_X9_cell (nI t) (32 + nI r) s' = some (nI m, s') := by simp (disch := omega) only [bd2_s, bd_s, wr_s, ck_s, bz_s0, bz_s1, dz_s, nI_litS, nI_add, pk_mul, pk_sub, nI_leI, nI_ltI, nI_eq, ng_lt, ng_le, lt_ng, le_ng, eq_ng, ng_eq, ng_ngE, ng_ngL, ng_ngl, sub1_lt, sub1_ng, eq_self, if_pos, if_neg, if_true, if_false, Nat.zero_add, Nat.add_zero, f_X9_cell, rw_k s' t, hrow, e6]
      have hcomm : (5 : Int32) * nI r + nI k = nI (5 * r + k) := by
        rw [l_5, pk_mul, nI_add]
      have cb := cn_bd (opS (rowT g t) o dr) (5 * r + k)
      have hsum : 5 * r + (k + 1) = 5 * r + k + 1 := by omega
      rw [hsum]
      generalize hC : cn (opS (rowT g t) o dr) (5 * r + k) = C at cb
      dsimp only
      refine ev_call c32 ?_
      refine ev_f (nI_ge hk (by omega)) ?_
      by_cases e99 : rowT g t (80 + (5 * r + k)) = nI 99
      · have wn : f_X9_isWithNobody (nI t) (5 * nI r + nI k) s' = some (nI 1, s') := by
          rw [hcomm]
          simp (disch := omega) only [bd2_s, bd_s, wr_s, ck_s, bz_s0, bz_s1, dz_s, nI_litS, nI_add, pk_mul, pk_sub, nI_leI, nI_ltI, nI_eq, ng_lt, ng_le, lt_ng, le_ng, eq_ng, ng_eq, ng_ngE, ng_ngL, ng_ngl, sub1_lt, sub1_ng, eq_self, if_pos, if_neg, if_true, if_false, Nat.zero_add, Nat.add_zero, f_X9_isWithNobody, f_X9_cell, rw_k s' t, hrow, e99]
        have hs : ¬ opS (rowT g t) o dr (5 * r + k) = true := fun q => (hop.mp q).1 e99
        refine ev_call wn ?_
        refine Ev.of (a := .inl (nI C, nI (k + 1), s')) ?_ ⟨by rw [cn, if_neg hs, hC], rfl, i1, i2.off hs⟩
        refine q_bd (a := (nI 0, s')) rfl ?_
        refine q_bd (a := .inr (.inl (nI C, nI k + 1, s'))) rfl ?_
        rw [nI_1]
      · have wn : f_X9_isWithNobody (nI t) (5 * nI r + nI k) s' = some (nI 0, s') := by
          rw [hcomm]
          simp (disch := omega) only [bd2_s, bd_s, wr_s, ck_s, bz_s0, bz_s1, dz_s, nI_litS, nI_add, pk_mul, pk_sub, nI_leI, nI_ltI, nI_eq, ng_lt, ng_le, lt_ng, le_ng, eq_ng, ng_eq, ng_ngE, ng_ngL, ng_ngl, sub1_lt, sub1_ng, eq_self, if_pos, if_neg, if_true, if_false, Nat.zero_add, Nat.add_zero, f_X9_isWithNobody, f_X9_cell, rw_k s' t, hrow, e99]
        have oo : f_X9_outcomeOf (nI t) (5 * nI r + nI k) 2147483647 (nI W) s' = some (o (5 * r + k), s') := by
          rw [hcomm]
          exact o'
        refine ev_call wn ?_
        refine ev_bd (Ev.of (a := (o (5 * r + k), s')) (q_if_t rfl (q_call oo rfl)) ?_)
        by_cases om : o (5 * r + k) = -nI 1 ∨ o (5 * r + k) = nI 5
        · have hs : opS (rowT g t) o dr (5 * r + k) = true := hop.mpr ⟨e99, om⟩
          refine ev_bd (Ev.of (a := .inl (nI k)) ?_ ?_)
          · by_cases o1 : o (5 * r + k) = -nI 1
            · exact q_if_t o1 rfl
            · exact q_if_f o1 (q_if_t (om.resolve_left o1) rfl)
          by_cases c4 : C < 4
          · refine Ev.of (a := .inl (nI (C + 1), nI (k + 1), up2 s' 183 C (nI (5 * r + k)))) ?_ ?_
            · refine q_bd (a := up2 s' 183 C (nI (5 * r + k))) (q_if_f (by rw [l_4]; exact nI_ge c4 (by omega)) (q_ck C rfl c4 (by decide) ?_)) ?_
              · rw [hcomm]; rfl
              · rw [nI_1, nI_1]
            · refine ⟨by rw [cn, if_pos hs, hC], rfl, fun b hb => ?_, ?_⟩
              · dsimp only
                rw [up2_ne hb]; exact i1 b hb
              · dsimp only
                rw [up2_eq, ← hC]
                exact i2.add hs (by omega) (by omega)
          · refine Ev.of (a := .inl (nI (C + 1), nI (k + 1), s')) ?_ ⟨by rw [cn, if_pos hs, hC], rfl, i1, i2.full (by omega)⟩
            refine q_bd (a := s') (q_if_t (by rw [l_4, nI_leI (by omega) (by omega)]; omega) rfl) ?_
            rw [nI_1, nI_1]
        · have hs : ¬ opS (rowT g t) o dr (5 * r + k) = true := fun q => om (hop.mp q).2
          refine Ev.of (a := .inl (nI C, nI (k + 1), s')) ?_ ⟨by rw [cn, if_neg hs, hC], rfl, i1, i2.off hs⟩
          refine q_bd (a := .inr (.inl (nI C, nI k + 1, s'))) (q_if_f (fun q => om (Or.inl q)) (q_if_f (fun q => om (Or.inr q)) rfl)) ?_
          rw [nI_1]
    · rintro ⟨x, y, s'⟩ ⟨rfl, rfl, i1, i2⟩
      dsimp only at i1 i2
      have hrow : rowT s' t = rowT g t := rowT_ne (i1 165 (by omega))
      have c32 : f_X9_cell (nI t) (32 + nI r) s' = some (nI m, s') := by simp (disch := omega) only [bd2_s, bd_s, wr_s, ck_s, bz_s0, bz_s1, dz_s, nI_litS, nI_add, pk_mul, pk_sub, nI_leI, nI_ltI, nI_eq, ng_lt, ng_le, lt_ng, le_ng, eq_ng, ng_eq, ng_ngE, ng_ngL, ng_ngl, sub1_lt, sub1_ng, eq_self, if_pos, if_neg, if_true, if_false, Nat.zero_add, Nat.add_zero, f_X9_cell, rw_k s' t, hrow, e6]
      dsimp only
      refine ev_call c32 ?_
      refine ev_t (Int32.le_refl _) ?_
      refine ev_some (ev_some ⟨?_, nI_1 r, i1, ?_⟩)
      · rw [op_next hm.mmE m5]
      · intro j j4 hj
        rw [op_next hm.mmE m5] at hj
        exact i2 j j4 hj
  · rintro ⟨x, y, s⟩ ⟨rfl, rfl, h1, h2⟩
    dsimp only at h1 h2
    have hrow : rowT s t = rowT g t := rowT_ne (h1 165 (by omega))
    have c25 : f_X9_cell (nI t) 25 s = some (nI dr, s) := by simp (disch := omega) only [bd2_s, bd_s, wr_s, ck_s, bz_s0, bz_s1, dz_s, nI_litS, nI_add, pk_mul, pk_sub, nI_leI, nI_ltI, nI_eq, ng_lt, ng_le, lt_ng, le_ng, eq_ng, ng_eq, ng_ngE, ng_ngL, ng_ngl, sub1_lt, sub1_ng, eq_self, if_pos, if_neg, if_true, if_false, Nat.zero_add, Nat.add_zero, f_X9_cell, rw_k s t, hrow, m25]
    dsimp only
    refine ev_bd (Ev.of (a := (nI dr, s)) (q_if_t rfl (q_call c25 rfl)) ?_)
    refine ev_t (Int32.le_refl _) ?_
    refine ev_some ⟨by rw [hend], h1, fun j j4 hj => ?_⟩
    rw [hend] at hj
    exact h2 j j4 hj
/-- the outcomes of way x of M pairs -/
def dgt (M x j : Nat) : Nat := (x / 3 ^ (M - 1 - j)) % 3
def ixM (M s : Nat) : Int32 := if s < M then nI (M - 1 - s) else -nI 1
theorem ix_0 {M : Nat} (h : M < 100) : nI M - 1 = ixM M 0 := by
  unfold ixM
  by_cases m0 : M = 0
  · subst m0; rfl
  · rw [if_pos (by omega), l_1, pk_sub (by omega)]
    rfl
theorem ix_s {M s : Nat} (h : s < M) : ixM M s + (-1) = ixM M (s + 1) := by
  unfold ixM
  rw [if_pos h]
  by_cases e : s + 1 < M
  · rw [if_pos e, show M - 1 - s = (M - 1 - (s + 1)) + 1 from by omega, pk_m1]
  · rw [if_neg e, show M - 1 - s = 0 from by omega]
    rfl
/-- supposing, into cell B by the list in cell L -/
theorem suppose_lp {sel : Nat → Bool} {L B M x : Nat} {g : G} (hLB : L ≠ B) (hM : cn sel 30 = M) (M4 : M ≤ 4) (hx : x < 100) (hl : OL sel (g L) 30) : Ev (lp (fun (s4 : Int32 × Int32 × G) => (if s4.2.1 < 0 then some (.inr (s4.2.2)) else ck s4.2.1 4 fun j8 => ck (s4.2.2 L j8) 30 fun j9 => wr (up2 s4.2.2 B j9 (s4.1 - s4.1 / (3 : Int32) * (3 : Int32))) fun g10 => some (.inl ((s4.1 / (3 : Int32)), (s4.2.1 + (-1 : Int32)), g10)) : Option ((Int32 × Int32 × G) ⊕ (G)))) 2000 (nI x, nI M - 1, g)) (fun s => (∀ a, a ≠ B → s a = g a) ∧ ∀ c, c < 30 → s B c = if sel c = true then nI (dgt M x (cn sel c)) else g B c) := by
  refine ev_lp (I := fun k s => s.1 = nI (x / 3 ^ k) ∧ s.2.1 = ixM M k ∧ (∀ a, a ≠ B → s.2.2 a = g a) ∧ ∀ c, c < 30 → s.2.2 B c = if sel c = true ∧ M ≤ cn sel c + k then nI (dgt M x (cn sel c)) else g B c) M ?_ ?_ 2000 0 _ (Nat.zero_le _) (by omega) ⟨by rw [Nat.pow_zero, Nat.div_one], ix_0 (by omega), fun _ _ => rfl, fun c hc => ?_⟩
  · rintro k ⟨y, z, s⟩ hk ⟨rfl, rfl, h1, h2⟩
    dsimp only at h1 h2
    have hj : M - 1 - k < cn sel 30 := by omega
    obtain ⟨w1, w2, w3⟩ := wf_ok sel hj
    have eL : s L (M - 1 - k) = nI (wf sel 30 (M - 1 - k)) := by rw [h1 L hLB]; exact hl _ (by omega) hj
    have hix : ixM M k = nI (M - 1 - k) := if_pos hk
    have hxk : x / 3 ^ k < 2 ^ 31 := Nat.lt_of_le_of_lt (Nat.div_le_self _ _) (by omega)
    refine Ev.of (a := .inl (nI (x / 3 ^ (k + 1)), ixM M (k + 1), up2 s B (wf sel 30 (M - 1 - k)) (nI (x / 3 ^ k % 3)))) ?_ ⟨rfl, rfl, fun a ha => ?_, fun c hc => ?_⟩
    · dsimp only
      refine q_if_f (by rw [hix]; exact nI_lt0 (by omega)) ?_
      refine q_ck (M - 1 - k) hix (by omega) (by decide) ?_
      refine q_ck (wf sel 30 (M - 1 - k)) eL w1 (by decide) ?_
      refine q_wr ?_
      rw [l_3, pk_rem hxk (by omega) (by omega), pk_div hxk (by omega) (by omega), ix_s hk, Nat.div_div_eq_div_mul, ← Nat.pow_succ]
    · dsimp only
      rw [up2_ne ha]; exact h1 a ha
    · dsimp only
      rw [up2_eq]
      by_cases e : c = wf sel 30 (M - 1 - k)
      · subst e
        rw [upd_eq, w2, w3, if_pos ⟨rfl, by omega⟩]
        unfold dgt
        rw [show M - 1 - (M - 1 - k) = k from by omega]
      · rw [upd_ne e, h2 c hc]
        by_cases hs : sel c = true
        · have : cn sel c ≠ M - 1 - k := fun q => e (by rw [← q, wf_at sel hc hs])
          by_cases q : M ≤ cn sel c + k
          · rw [if_pos ⟨hs, q⟩, if_pos ⟨hs, by omega⟩]
          · rw [if_neg (fun z => q z.2), if_neg (fun z => by have := z.2; omega)]
        · rw [if_neg (fun z => hs z.1), if_neg (fun z => hs z.1)]
  · rintro ⟨y, z, s⟩ ⟨rfl, rfl, h1, h2⟩
    dsimp only at h1 h2
    refine Ev.of (a := .inr s) ?_ ⟨h1, fun c hc => ?_⟩
    · dsimp only
      refine q_if_t ?_ rfl
      unfold ixM
      rw [if_neg (Nat.lt_irrefl M)]
      decide
    · rw [h2 c hc]
      by_cases hs : sel c = true
      · rw [if_pos ⟨hs, by omega⟩, if_pos hs]
      · rw [if_neg (fun z => hs z.1), if_neg hs]
  · dsimp only
    by_cases hs : sel c = true
    · have := cn_lt sel hc hs
      rw [if_neg (fun z => by have := z.2; omega)]
    · rw [if_neg (fun z => hs z.1)]
