/-! What is OPEN: class (listOpen) and model. -/
def opS (R o : Nat → Int32) (dr c : Nat) : Bool := decide (c / 5 < dr ∧ c % 5 < mm R (c / 5) ∧ R (80 + c) ≠ nI 99 ∧ (o c = -nI 1 ∨ o c = nI 5))
theorem op_in {R o : Nat → Int32} {dr r k m : Nat} (hm : mm R r = m) (hr : r < dr) (hk : k < m) (m5 : m ≤ 5) : opS R o dr (5 * r + k) = true ↔ (R (80 + (5 * r + k)) ≠ nI 99 ∧ (o (5 * r + k) = -nI 1 ∨ o (5 * r + k) = nI 5)) := by
  unfold opS
  rw [decide_eq_true_iff, show (5 * r + k) / 5 = r from by omega, show (5 * r + k) % 5 = k from by omega, hm]
  exact ⟨fun h => h.2.2, fun h => ⟨hr, hk, h⟩⟩
theorem op_next {R o : Nat → Int32} {dr r m : Nat} (hm : mm R r = m) (m5 : m ≤ 5) : cn (opS R o dr) (5 * (r + 1)) = cn (opS R o dr) (5 * r + m) := by
  refine cn_stop _ (by omega) (fun i h1 h2 => ?_)
  unfold opS
  refine decide_eq_false (fun q => ?_)
  have e : i / 5 = r := by omega
  rw [e, hm] at q
  have := q.2.1
  omega
theorem op_end {R o : Nat → Int32} {dr : Nat} (h : dr ≤ 6) : cn (opS R o dr) 30 = cn (opS R o dr) (5 * dr) := by
  refine cn_stop _ (by omega) (fun i h1 h2 => ?_)
  unfold opS
  refine decide_eq_false (fun q => ?_)
  have := q.1
  omega
/-- the list so far -/
def OL (sel : Nat → Bool) (f : Nat → Int32) (c : Nat) : Prop := ∀ j, j < 4 → j < cn sel c → f j = nI (wf sel 30 j)
theorem OL.add {sel : Nat → Bool} {f : Nat → Int32} {c : Nat} (h : OL sel f c) (hs : sel c = true) (hc : c < 30) (h4 : cn sel c < 4) : OL sel (upd f (cn sel c) (nI c)) (c + 1) := by
  intro j j4 hj
  rw [cn, if_pos hs] at hj
  by_cases e : j = cn sel c
  · subst e
    rw [upd_eq, wf_at sel hc hs]
  · rw [upd_ne e]
    exact h j j4 (by omega)
theorem OL.full {sel : Nat → Bool} {f : Nat → Int32} {c : Nat} (h : OL sel f c) (h4 : ¬ cn sel c < 4) : OL sel f (c + 1) := fun j j4 _ => h j j4 (by omega)
theorem OL.off {sel : Nat → Bool} {f : Nat → Int32} {c : Nat} (h : OL sel f c) (hs : ¬ sel c = true) : OL sel f (c + 1) := by
  intro j j4 hj
  rw [cn, if_neg hs] at hj
  exact h j j4 hj
theorem c_listOpen {np t n dr e : Nat} {g : G} {o : Nat → Int32} (hT : TT g np t n dr e) (h16 : ∀ c, c < 30 → (g 16 c = -nI 1 ↔ o c = -nI 1)) (h17 : ∀ c, c < 30 → g 17 c = o c) : Ev (f_X6_listOpen (47 + 28 * t) g) (fun q => q.1 = nI (cn (opS (rowT g t) o dr) 30) ∧ (∀ a, a ≠ 18 → q.2 a = g a) ∧ OL (opS (rowT g t) o dr) (q.2 18) 30) := by
  obtain ⟨h24, ht, hin, hsm, ⟨d6, c2, m25, hr, hz⟩, hen⟩ := hT
  have hend := op_end (R := rowT g t) (o := o) d6
  unfold f_X6_listOpen
  refine ev_bd ?_
  refine ev_lp (I := fun r s => s.1 = nI (cn (opS (rowT g t) o dr) (5 * r)) ∧ s.2.1 = nI r ∧ (∀ a, a ≠ 18 → s.2.2 a = g a) ∧ OL (opS (rowT g t) o dr) (s.2.2 18) (5 * r)) dr ?_ ?_ 2000 0 _ (Nat.zero_le _) (by omega) ⟨rfl, rfl, fun _ _ => rfl, fun j _ hj => absurd hj (Nat.not_lt_zero j)⟩
  · rintro r ⟨x, y, s⟩ hrr ⟨rfl, rfl, h1, h2⟩
    dsimp only at h1 h2
    have c2' : s (47 + 28 * t) 2 = nI dr := by rw [h1 _ (by omega)]; exact c2
    obtain ⟨m, hm⟩ := hr r hrr
    have m5 := hm.2.1
    have e5 := hm.2.2.2.2.1
    dsimp only
    refine ev_f (by rw [c2']; exact nI_ge hrr (by omega)) ?_
    refine ev_bd ?_
    refine ev_lp (I := fun k s => s.1 = nI (cn (opS (rowT g t) o dr) (5 * r + k)) ∧ s.2.1 = nI k ∧ (∀ a, a ≠ 18 → s.2.2 a = g a) ∧ OL (opS (rowT g t) o dr) (s.2.2 18) (5 * r + k)) m ?_ ?_ 2000 0 _ (Nat.zero_le _) (by omega) ⟨rfl, rfl, h1, h2⟩
    · rintro k ⟨x, y, s'⟩ hk ⟨rfl, rfl, i1, i2⟩
      dsimp only at i1 i2
      obtain ⟨f7, f8, w, hw, ew, eb⟩ := hm.pk hin h24 hk
      have hop := op_in (o := o) hm.mmE hrr hk m5
      have e5' : s' (47 + 28 * t + 5) r = nI m := by rw [i1 _ (by omega), bk_j g t 5 (by decide)]; exact e5
      have f8' : s' (47 + 28 * t + 8) (5 * r + k) = rowT g t (80 + (5 * r + k)) := by rw [i1 _ (by omega), bk_j g t 8 (by decide), f8]
      have o16 := h16 (5 * r + k) (by omega)
      have o17 : s' 17 (5 * r + k) = o (5 * r + k) := by rw [i1 17 (by omega)]; exact h17 _ (by omega)
      have z16 : s' 16 = g 16 := i1 16 (by omega)
      rw [← z16] at o16
      have hcomm : nI r * 5 + nI k = nI (5 * r + k) := by
        rw [l_5, pk_mul, nI_add]
        congr 1
        omega
      have cb := cn_bd (opS (rowT g t) o dr) (5 * r + k)
      generalize hC : cn (opS (rowT g t) o dr) (5 * r + k) = C at cb
      -- the part behind the test
      have tail : ∀ (z : Int32) (hz : z = 0 ∨ z = 1), Ev ((if (s' (47 + 28 * t + 8) (5 * r + k)) = (99 : Int32) then some ((nI C, s')) else if z = 0 then some ((nI C, s')) else bd ((if (4 : Int32) ≤ nI C then some (s') else ck (nI C) 4 fun j32 => wr (up2 s' 18 j32 (nI r * 5 + nI k)) fun g33 => some (g33) : Option (G))) fun (s30 : G) => some (((nI C + (1 : Int32)), s30)) : Option (Int32 × G))) (fun a => (z = 1 → (o (5 * r + k) = -nI 1 ∨ o (5 * r + k) = nI 5)) → (z = 0 → ¬ (o (5 * r + k) = -nI 1 ∨ o (5 * r + k) = nI 5)) → (a.1 = nI (cn (opS (rowT g t) o dr) (5 * r + k + 1)) ∧ (∀ b, b ≠ 18 → a.2 b = g b) ∧ OL (opS (rowT g t) o dr) (a.2 18) (5 * r + k + 1))) := by
        intro z hz
        by_cases e99 : rowT g t (80 + (5 * r + k)) = nI 99
        · refine Ev.of (a := (nI C, s')) (q_if_t (f8'.trans e99) rfl) (fun _ _ => ⟨?_, i1, ?_⟩)
          · have hs : ¬ opS (rowT g t) o dr (5 * r + k) = true := fun q => (hop.mp q).1 e99
            rw [cn, if_neg hs, hC]
          · exact i2.off (fun q => (hop.mp q).1 e99)
        · have e99' : ¬ s' (47 + 28 * t + 8) (5 * r + k) = 99 := by rw [f8']; exact e99
          rcases hz with rfl | rfl
          · refine Ev.of (a := (nI C, s')) (q_if_f e99' (q_if_t rfl rfl)) (fun _ q0 => ⟨?_, i1, ?_⟩)
            · have hs : ¬ opS (rowT g t) o dr (5 * r + k) = true := fun q => q0 rfl (hop.mp q).2
              rw [cn, if_neg hs, hC]
            · exact i2.off (fun q => q0 rfl (hop.mp q).2)
          · by_cases c4 : C < 4
            · refine Ev.of (a := (nI (C + 1), up2 s' 18 C (nI (5 * r + k)))) (q_if_f e99' (q_if_f (by decide) (q_bd (a := up2 s' 18 C (nI (5 * r + k))) (q_if_f (by rw [l_4]; exact nI_ge c4 (by omega)) (q_ck C rfl c4 (by decide) ?_)) ?_))) (fun q1 _ => ?_)
              · rw [hcomm]; rfl
              · rw [nI_1]
              · have hs : opS (rowT g t) o dr (5 * r + k) = true := hop.mpr ⟨e99, q1 rfl⟩
                refine ⟨?_, fun b hb => ?_, ?_⟩
                · rw [cn, if_pos hs, hC]
                · dsimp only
                  rw [up2_ne hb]; exact i1 b hb
                · dsimp only
                  rw [up2_eq, ← hC]
                  exact i2.add hs (by omega) (by omega)
            · refine Ev.of (a := (nI (C + 1), s')) (q_if_f e99' (q_if_f (by decide) (q_bd (a := s') (q_if_t (by rw [l_4, nI_leI (by omega) (by omega)]; omega) rfl) ?_))) (fun q1 _ => ?_)
              · rw [nI_1]
              · have hs : opS (rowT g t) o dr (5 * r + k) = true := hop.mpr ⟨e99, q1 rfl⟩
                refine ⟨?_, i1, i2.full (by omega)⟩
                rw [cn, if_pos hs, hC]
      have fin : ∀ (v : Int32) (s'' : G) (b : Option ((Int32 × Int32 × G) ⊕ (Int32 × G))), b = some (.inl (v, nI (k + 1), s'')) → (v = nI (cn (opS (rowT g t) o dr) (5 * r + k + 1)) ∧ (∀ b, b ≠ 18 → s'' b = g b) ∧ OL (opS (rowT g t) o dr) (s'' 18) (5 * r + k + 1)) → Ev b (Sum.elim (fun s => s.1 = nI (cn (opS (rowT g t) o dr) (5 * r + (k + 1))) ∧ s.2.1 = nI (k + 1) ∧ (∀ a, a ≠ 18 → s.2.2 a = g a) ∧ OL (opS (rowT g t) o dr) (s.2.2 18) (5 * r + (k + 1))) (fun s => Ev (some (.inl (s.1, nI r + 1, s.2) : (Int32 × Int32 × G) ⊕ (Int32 × G))) (Sum.elim (fun s => s.1 = nI (cn (opS (rowT g t) o dr) (5 * (r + 1))) ∧ s.2.1 = nI (r + 1) ∧ (∀ a, a ≠ 18 → s.2.2 a = g a) ∧ OL (opS (rowT g t) o dr) (s.2.2 18) (5 * (r + 1))) (fun s => Ev (some (s.1, s.2)) (fun q => q.1 = nI (cn (opS (rowT g t) o dr) 30) ∧ (∀ a, a ≠ 18 → q.2 a = g a) ∧ OL (opS (rowT g t) o dr) (q.2 18) 30))))) := fun v s'' b hb h => Ev.of hb ⟨h.1, rfl, h.2.1, h.2.2⟩
      dsimp only
      have go1 : ∀ (v : Int32) (s'' : G), (if (s' (47 + 28 * t + 8) (5 * r + k)) = (99 : Int32) then some ((nI C, s')) else if (1 : Int32) = 0 then some ((nI C, s')) else bd ((if (4 : Int32) ≤ nI C then some (s') else ck (nI C) 4 fun j32 => wr (up2 s' 18 j32 (nI r * 5 + nI k)) fun g33 => some (g33) : Option (G))) fun (s30 : G) => some (((nI C + (1 : Int32)), s30)) : Option (Int32 × G)) = some (v, s'') → ck (nI r * 5 + nI k) 30 (fun j23 => bd ((if (s' (47 + 28 * t + 8) j23) = (99 : Int32) then some ((nI C, s')) else if (1 : Int32) = 0 then some ((nI C, s')) else bd ((if (4 : Int32) ≤ nI C then some (s') else ck (nI C) 4 fun j32 => wr (up2 s' 18 j32 (nI r * 5 + nI k)) fun g33 => some (g33) : Option (G))) fun (s30 : G) => some (((nI C + (1 : Int32)), s30)) : Option (Int32 × G))) fun (s26 : Int32 × G) => some (.inl (s26.1, (nI k + (1 : Int32)), s26.2))) = some (.inl (v, nI (k + 1), s'') : (Int32 × Int32 × G) ⊕ (Int32 × G)) := by
        intro v s'' hv
        refine q_ck (5 * r + k) hcomm (by omega) (by decide) ?_
        refine q_bd hv ?_
        rw [nI_1]
      by_cases om : o (5 * r + k) = -nI 1
      · obtain ⟨⟨v, s''⟩, ex, hx⟩ := tail 1 (Or.inr rfl)
        refine fin v s'' _ ?_ (hx (fun _ => Or.inl om) (fun q => absurd q (by decide)))
        refine q_ck r rfl (by omega) (by decide) ?_
        refine q_if_f (by rw [e5']; exact nI_ge hk (by omega)) ?_
        refine q_ck (5 * r + k) hcomm (by omega) (by decide) ?_
        refine q_bd (a := .inl (nI C, nI k, s')) (q_if_t (o16.mpr om) rfl) ?_
        exact go1 v s'' ex
      · by_cases o5 : o (5 * r + k) = nI 5
        · obtain ⟨⟨v, s''⟩, ex, hx⟩ := tail 1 (Or.inr rfl)
          refine fin v s'' _ ?_ (hx (fun _ => Or.inr o5) (fun q => absurd q (by decide)))
          refine q_ck r rfl (by omega) (by decide) ?_
          refine q_if_f (by rw [e5']; exact nI_ge hk (by omega)) ?_
          refine q_ck (5 * r + k) hcomm (by omega) (by decide) ?_
          refine q_bd (a := .inl (nI C, nI k, s')) (q_if_f (fun q => om (o16.mp q)) (q_ck (5 * r + k) hcomm (by omega) (by decide) (q_if_t (o17.trans o5) rfl))) ?_
          exact go1 v s'' ex
        · obtain ⟨⟨v, s''⟩, ex, hx⟩ := tail 0 (Or.inl rfl)
          refine fin v s'' _ ?_ (hx (fun q => absurd q (by decide)) (fun _ q => q.elim om o5))
          refine q_ck r rfl (by omega) (by decide) ?_
          refine q_if_f (by rw [e5']; exact nI_ge hk (by omega)) ?_
          refine q_ck (5 * r + k) hcomm (by omega) (by decide) ?_
          refine q_bd (a := .inr (.inl (v, nI (k + 1), s''))) (q_if_f (fun q => om (o16.mp q)) (q_ck (5 * r + k) hcomm (by omega) (by decide) (q_if_f (fun q => o5 (o17.symm.trans q)) (q_ck (5 * r + k) hcomm (by omega) (by decide) (q_bd ex ?_))))) rfl
          rw [nI_1]
    · rintro ⟨x, y, s'⟩ ⟨rfl, rfl, i1, i2⟩
      dsimp only at i1 i2
      have e5' : s' (47 + 28 * t + 5) r = nI m := by rw [i1 _ (by omega), bk_j g t 5 (by decide)]; exact e5
      refine Ev.of (a := .inr (nI (cn (opS (rowT g t) o dr) (5 * r + m)), s')) (by simp (disch := omega) only [bd2_s, bd_s, wr_s, ck_s, bz_s0, bz_s1, dz_s, nI_litS, nI_add, pk_mul, pk_sub, nI_leI, nI_ltI, nI_eq, ng_lt, ng_le, lt_ng, le_ng, eq_ng, ng_eq, ng_ngE, ng_ngL, ng_ngl, sub1_lt, sub1_ng, eq_self, if_pos, if_neg, if_true, if_false, Nat.zero_add, Nat.add_zero, e5']) ?_
      refine ev_some ⟨?_, nI_1 r, i1, ?_⟩
      · rw [op_next hm.mmE m5]
      · intro j j4 hj
        rw [op_next hm.mmE m5] at hj
        exact i2 j j4 hj
  · rintro ⟨x, y, s⟩ ⟨rfl, rfl, h1, h2⟩
    dsimp only at h1 h2
    have c2' : s (47 + 28 * t) 2 = nI dr := by rw [h1 _ (by omega)]; exact c2
    refine Ev.of (a := .inr (nI (cn (opS (rowT g t) o dr) (5 * dr)), s)) (by simp (disch := omega) only [bd2_s, bd_s, wr_s, ck_s, bz_s0, bz_s1, dz_s, nI_litS, nI_add, pk_mul, pk_sub, nI_leI, nI_ltI, nI_eq, ng_lt, ng_le, lt_ng, le_ng, eq_ng, ng_eq, ng_ngE, ng_ngL, ng_ngl, sub1_lt, sub1_ng, eq_self, if_pos, if_neg, if_true, if_false, Nat.zero_add, Nat.add_zero, c2']) (ev_some ⟨by rw [hend], h1, fun j j4 hj => ?_⟩)
    rw [hend] at hj
    exact h2 j j4 hj
