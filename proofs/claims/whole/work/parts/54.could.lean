/-! The call could. -/
theorem le_last (x : Int32) : x ≤ nI 2147483647 := by
  rw [Int32.le_iff_toInt_le, nI_toInt (by omega)]
  have := Int32.toInt_lt x
  omega
theorem Inv.fnd {g g' : G} (h : Inv g) (x : ∀ a, a ≠ 0 → a ≠ 46 → a ≠ 159 → a ≠ 184 → ¬ (15 ≤ a ∧ a ≤ 41) → ¬ (174 ≤ a ∧ a ≤ 183) → g' a = g a) (x0 : ∀ k, k ≠ 11 → g' 0 k = g 0 k) (y : ∀ k, k ≠ 42 → g' 159 k = g 159 k) (hf : J_fnd g') : Inv g' := by
  obtain ⟨i1, i2, i3, i4, i5, i6, i7⟩ := h
  have x' : ∀ a, (0 < a ∧ a < 8 ∨ 42 ≤ a ∧ a < 46 ∨ 160 ≤ a ∧ a < 166 ∨ 171 ≤ a ∧ a < 174) → g' a = g a := fun a q => x a (by omega) (by omega) (by omega) (by omega) (by omega) (by omega)
  refine ⟨i1.cg (by rw [x' 3 (by omega)]) (x' 4 (by omega)) (x' 5 (by omega)) (x' 6 (by omega)) (x' 7 (by omega)) (y 3 (by omega)) (x' 161 (by omega)) (x' 162 (by omega)) (x' 163 (by omega)) (x' 164 (by omega)),
    i2.cg (x' 1 (by omega)) (x' 2 (by omega)) (y 2 (by omega)) (y 0 (by omega)) (x' 160 (by omega)),
    i3.cg (x' 42 (by omega)) (x' 43 (by omega)) (x' 44 (by omega)) (x' 171 (by omega)) (x' 172 (by omega)) (x' 173 (by omega)),
    i4.cg (x' 45 (by omega)) (fun k q1 q2 => y k (by omega)), hf, ?_, (y 25 (by omega)).trans i7⟩
  exact i6.off (y 3 (by omega)) (x0 12 (by omega)) (y 8 (by omega)) (x0 14 (by omega)) (y 10 (by omega)) (x' 161 (by omega)) (x' 165 (by omega)) (fun a q1 q2 => x a (by omega) (by omega) (by omega) (by omega) (by omega) (by omega))
theorem T_entries.oc1 {F : Nat → Nat → Int32} {R : Nat → Int32} {dr e : Nat} (h : T_entries F R dr e) (W : Int32) (c : Nat) : enS R W c e = -nI 1 ↔ oc R (nI 2147483647) W e c = -nI 1 := by
  unfold oc ouS
  rcases enS_ok R W c e with hb | ⟨j, hj, hb⟩
  · rw [hb]
    exact ⟨fun _ => rfl, fun _ => rfl⟩
  · have e60 := h.1
    rw [hb, if_neg (nI_nneg (by omega) (by decide)), nI_clamp (by omega), if_pos (le_last _)]
    obtain ⟨-, -, -, ⟨w, hw, ew⟩, -⟩ := h.2.2.2.1 j hj
    rw [ew]
    exact ⟨fun q => absurd q (nI_nneg (by omega) (by decide)), fun q => absurd q (nI_nneg (by omega) (by decide))⟩
theorem m_fill {g : G} : Ev (lp (fun (s9 : Int32 × G) => (if (30 : Int32) ≤ s9.1 then some (.inr (s9.2)) else ck s9.1 30 fun j13 => wr (up2 s9.2 174 j13 (-1 : Int32)) fun g14 => some (.inl ((s9.1 + (1 : Int32)), g14)) : Option ((Int32 × G) ⊕ (G)))) 2000 ((0 : Int32), g)) (fun s => (∀ a, a ≠ 174 → s a = g a) ∧ ∀ c, c < 30 → s 174 c = -nI 1) := by
  refine ev_lp (I := fun i s => s.1 = nI i ∧ (∀ a, a ≠ 174 → s.2 a = g a) ∧ ∀ c, c < i → s.2 174 c = -nI 1) 30 ?_ ?_ 2000 0 _ (Nat.zero_le _) (by omega) ⟨rfl, fun _ _ => rfl, fun c hc => absurd hc (Nat.not_lt_zero c)⟩
  · rintro i ⟨x, s⟩ hi ⟨rfl, h1, h2⟩
    dsimp only at h1 h2
    refine Ev.of (a := .inl (nI (i + 1), up2 s 174 i (-nI 1))) (by simp (disch := omega) only [bd2_s, bd_s, wr_s, ck_s, bz_s0, bz_s1, dz_s, nI_litS, nI_add, pk_mul, pk_sub, nI_leI, nI_ltI, nI_eq, ng_lt, ng_le, lt_ng, le_ng, eq_ng, ng_eq, ng_ngE, ng_ngL, ng_ngl, sub1_lt, sub1_ng, eq_self, if_pos, if_neg, if_true, if_false, Nat.zero_add, Nat.add_zero]) ⟨rfl, fun a ha => ?_, fun c hc => ?_⟩
    · dsimp only
      rw [up2_ne ha]; exact h1 a ha
    · dsimp only
      rw [up2_eq]
      by_cases e : c = i
      · subst e; rw [upd_eq]
      · rw [upd_ne e]; exact h2 c (by omega)
  · rintro ⟨x, s⟩ ⟨rfl, h1, h2⟩
    exact Ev.of (a := .inr s) (by simp (disch := omega) only [bd2_s, bd_s, wr_s, ck_s, bz_s0, bz_s1, dz_s, nI_litS, nI_add, pk_mul, pk_sub, nI_leI, nI_ltI, nI_eq, ng_lt, ng_le, lt_ng, le_ng, eq_ng, ng_eq, ng_ngE, ng_ngL, ng_ngl, sub1_lt, sub1_ng, eq_self, if_pos, if_neg, if_true, if_false, Nat.zero_add, Nat.add_zero]) ⟨h1, h2⟩
theorem c_pow {M : Nat} (M4 : M ≤ 4) : lp (fun (s15 : Int32 × Int32) => (if nI M ≤ s15.2 then some (.inr (s15.1)) else some (.inl ((s15.1 * (3 : Int32)), (s15.2 + (1 : Int32)))) : Option ((Int32 × Int32) ⊕ (Int32)))) 2000 ((1 : Int32), (0 : Int32)) = some (nI (3 ^ M)) := by
  refine q_lp (fun i => (nI (3 ^ i), nI i)) M (fun i hi => ?_) ?_ (by omega) rfl
  · dsimp only
    refine q_if_f (nI_ge hi (by omega)) ?_
    rw [l_3, pk_mul, ← Nat.pow_succ, nI_1]
  · exact q_if_t (Int32.le_refl _) rfl
theorem m_pow {M : Nat} (M4 : M ≤ 4) : lp (fun (s67 : Int32 × Int32) => (if nI M ≤ s67.2 then some (.inr (s67.1)) else some (.inl ((s67.1 * (3 : Int32)), (s67.2 + (1 : Int32)))) : Option ((Int32 × Int32) ⊕ (Int32)))) 2000 ((1 : Int32), (0 : Int32)) = some (nI (3 ^ M)) := c_pow M4
theorem c_keep {M : Nat} {sel : Nat → Bool} {g : G} (M4 : M ≤ 4) (hM : cn sel 30 = M) (hl : OL sel (g 18) 30) : Ev (f_X8_keepFound (nI M) g) (fun q => (∀ a, a ≠ 0 → a ≠ 46 → q.2 a = g a) ∧ (∀ k, k ≠ 11 → q.2 0 k = g 0 k) ∧ q.2 0 11 = nI M ∧ ∀ i, i < M → q.2 46 i = g 17 (wf sel 30 i)) := by
  unfold f_X8_keepFound
  refine ev_wr ?_
  refine ev_bd ?_
  refine ev_lp (I := fun i s => s.1 = nI i ∧ (∀ a, a ≠ 46 → s.2 a = up2 g 0 11 (nI M) a) ∧ ∀ j, j < i → s.2 46 j = g 17 (wf sel 30 j)) M ?_ ?_ 2000 0 _ (Nat.zero_le _) (by omega) ⟨rfl, fun _ _ => rfl, fun c hc => absurd hc (Nat.not_lt_zero c)⟩
  · rintro i ⟨x, s⟩ hi ⟨rfl, h1, h2⟩
    dsimp only at h1 h2
    obtain ⟨w1, w2, w3⟩ := wf_ok sel (N := 30) (i := i) (by omega)
    have e18 : s 18 i = nI (wf sel 30 i) := by rw [h1 18 (by omega), up2_ne (by omega)]; exact hl i (by omega) (by omega)
    have e17 : s 17 = g 17 := by rw [h1 17 (by omega), up2_ne (by omega)]
    refine Ev.of (a := .inl (nI (i + 1), up2 s 46 i (g 17 (wf sel 30 i)))) ?_ ⟨rfl, fun a ha => ?_, fun j hj => ?_⟩
    · dsimp only
      refine q_if_f (nI_ge hi (by omega)) ?_
      refine q_ck i rfl (by omega) (by decide) ?_
      refine q_ck (wf sel 30 i) e18 w1 (by decide) ?_
      refine q_ck i rfl (by omega) (by decide) ?_
      refine q_wr ?_
      rw [e17, nI_1]
    · dsimp only
      rw [up2_ne ha]; exact h1 a ha
    · dsimp only
      rw [up2_eq]
      by_cases e : j = i
      · subst e; rw [upd_eq]
      · rw [upd_ne e]; exact h2 j (by omega)
  · rintro ⟨x, s⟩ ⟨rfl, h1, h2⟩
    dsimp only at h1 h2
    refine Ev.of (a := .inr s) (q_if_t (Int32.le_refl _) rfl) (ev_some ⟨fun a q1 q2 => ?_, fun k hk => ?_, ?_, h2⟩)
    · dsimp only
      rw [h1 a q2, up2_ne q1]
    · dsimp only
      rw [h1 0 (by omega), up2_eq, upd_ne hk]
    · dsimp only
      rw [h1 0 (by omega), up2_eq, upd_eq]
theorem m_keep {M : Nat} {sel : Nat → Bool} {g : G} (M4 : M ≤ 4) (hM : cn sel 30 = M) (hl : OL sel (g 183) 30) : Ev (lp (fun (s104 : Int32 × G) => (if nI M ≤ s104.1 then some (.inr (s104.2)) else ck s104.1 4 fun j106 => ck (s104.2 183 j106) 30 fun j107 => ck s104.1 4 fun j108 => wr (up2 s104.2 184 j108 (s104.2 174 j107)) fun g109 => some (.inl ((s104.1 + (1 : Int32)), g109)) : Option ((Int32 × G) ⊕ (G)))) 2000 ((0 : Int32), g)) (fun s => (∀ a, a ≠ 184 → s a = g a) ∧ ∀ i, i < M → s 184 i = g 174 (wf sel 30 i)) := by
  refine ev_lp (I := fun i s => s.1 = nI i ∧ (∀ a, a ≠ 184 → s.2 a = g a) ∧ ∀ j, j < i → s.2 184 j = g 174 (wf sel 30 j)) M ?_ ?_ 2000 0 _ (Nat.zero_le _) (by omega) ⟨rfl, fun _ _ => rfl, fun c hc => absurd hc (Nat.not_lt_zero c)⟩
  · rintro i ⟨x, s⟩ hi ⟨rfl, h1, h2⟩
    dsimp only at h1 h2
    obtain ⟨w1, w2, w3⟩ := wf_ok sel (N := 30) (i := i) (by omega)
    have e18 : s 183 i = nI (wf sel 30 i) := by rw [h1 183 (by omega)]; exact hl i (by omega) (by omega)
    have e17 : s 174 = g 174 := h1 174 (by omega)
    refine Ev.of (a := .inl (nI (i + 1), up2 s 184 i (g 174 (wf sel 30 i)))) ?_ ⟨rfl, fun a ha => ?_, fun j hj => ?_⟩
    · dsimp only
      refine q_if_f (nI_ge hi (by omega)) ?_
      refine q_ck i rfl (by omega) (by decide) ?_
      refine q_ck (wf sel 30 i) e18 w1 (by decide) ?_
      refine q_ck i rfl (by omega) (by decide) ?_
      refine q_wr ?_
      rw [e17, nI_1]
    · dsimp only
      rw [up2_ne ha]; exact h1 a ha
    · dsimp only
      rw [up2_eq]
      by_cases e : j = i
      · subst e; rw [upd_eq]
      · rw [upd_ne e]; exact h2 j (by omega)
  · rintro ⟨x, s⟩ ⟨rfl, h1, h2⟩
    exact Ev.of (a := .inr s) (q_if_t (Int32.le_refl _) rfl) ⟨h1, h2⟩
theorem ref_0 {a1 a2 a4 : Int32} {s : G} : f_X9_refused a1 a2 0 a4 s = f_X9_refused a1 a2 2147483647 a4 s := by
  have h0 : ¬ (0 : Int32) < 0 := by decide
  have h1 : ¬ (2147483647 : Int32) < 0 := by decide
  unfold f_X9_refused
  simp only [if_neg h0, if_neg h1]
theorem sp_could : Sp4 Inv f_X8_could f_X9_could := by
  refine Sp4.to (fun a1 a2 a3 a4 g hI => ?_)
  have hrng : ((a3 < 0 ∨ ¬ a3 ≤ 1) ∧ ∀ s, f_X9_in a3 0 1 s = some (nI 0, s)) ∨ ∃ al, al ≤ 1 ∧ a3 = nI al ∧ ∀ s, f_X9_in a3 0 1 s = some (nI 1, s) := by
    rcases i32_split a3 with ⟨r, hr, rfl⟩ | ⟨r, hr0, hr, rfl⟩
    · by_cases h : r ≤ 1
      · exact Or.inr ⟨r, h, rfl, fun s => by simp (disch := omega) only [bd2_s, bd_s, wr_s, ck_s, bz_s0, bz_s1, dz_s, nI_litS, nI_add, pk_mul, pk_sub, nI_leI, nI_ltI, nI_eq, ng_lt, ng_le, lt_ng, le_ng, eq_ng, ng_eq, ng_ngE, ng_ngL, ng_ngl, sub1_lt, sub1_ng, eq_self, if_pos, if_neg, if_true, if_false, Nat.zero_add, Nat.add_zero, f_X9_in]⟩
      · refine Or.inl ⟨Or.inr ?_, fun s => by simp (disch := omega) only [bd2_s, bd_s, wr_s, ck_s, bz_s0, bz_s1, dz_s, nI_litS, nI_add, pk_mul, pk_sub, nI_leI, nI_ltI, nI_eq, ng_lt, ng_le, lt_ng, le_ng, eq_ng, ng_eq, ng_ngE, ng_ngL, ng_ngl, sub1_lt, sub1_ng, eq_self, if_pos, if_neg, if_true, if_false, Nat.zero_add, Nat.add_zero, f_X9_in]⟩
        rw [l_1, nI_leI (by omega) (by omega)]
        exact h
    · refine Or.inl ⟨Or.inl ?_, fun s => by simp (disch := omega) only [bd2_s, bd_s, wr_s, ck_s, bz_s0, bz_s1, dz_s, nI_litS, nI_add, pk_mul, pk_sub, nI_leI, nI_ltI, nI_eq, ng_lt, ng_le, lt_ng, le_ng, eq_ng, ng_eq, ng_ngE, ng_ngL, ng_ngl, sub1_lt, sub1_ng, eq_self, if_pos, if_neg, if_true, if_false, Nat.zero_add, Nat.add_zero, f_X9_in]⟩
      show -nI r < nI 0
      rw [ng_lt (by omega) hr0 hr]
      trivial
  rcases hrng with ⟨hb, hn⟩ | ⟨al, hal, rfl, hn⟩
  · refine ⟨-nI 2, g, g, ?_, ?_, hI⟩
    · unfold f_X8_could
      by_cases q : a3 < 0
      · exact q_if_t q rfl
      · exact q_if_f q (q_if_f (hb.resolve_left q) rfl)
    · have : ∃ x, f_X9_refused a1 a2 0 a4 g = some (x, g) := by
        rw [ref_0]
        rcases ask_cases hI a1 a2 2147483647 a4 with ⟨x, -, -, x9⟩ | ⟨np, t, p, d, W, n, dr, e, k, -, -, -, -, -, -, -, -, -, -, -, -, -, x9⟩
        · exact ⟨x, x9 g rfl rfl rfl⟩
        · exact ⟨nI 0, x9 g rfl rfl rfl⟩
      obtain ⟨x, hx⟩ := this
      unfold f_X9_could
      refine q_call hx ?_
      by_cases q : x = -2
      · exact q_if_t q rfl
      · refine q_if_f q ?_
        exact q_call (hn g) (q_if_t rfl rfl)
  · have hal8 : ¬ nI al < 0 ∧ nI al ≤ 1 := ⟨nI_lt0 (by omega), by rw [l_1, nI_leI (by omega) (by omega)]; exact hal⟩
    rcases ask_cases hI a1 a2 2147483647 a4 with ⟨x, hx, x8, x9⟩ | ⟨np, t, p, d, W, n, dr, e, k, rfl, rfl, -, rfl, hp, -, hW, hT, hk, hkp, enp, hst, x8, x9⟩
    · have y8 := x8 g (fun _ _ _ => rfl)
      have y9 := x9 g rfl rfl rfl
      rw [← ref_0] at y9
      rcases hx with rfl | rfl
      · refine ⟨-nI 2, g, g, ?_, ?_, hI⟩
        · unfold f_X8_could
          refine q_if_f hal8.1 (q_if_t hal8.2 ?_)
          exact q_call y8 (q_if_f (by decide) rfl)
        · unfold f_X9_could
          exact q_call y9 (q_if_t rfl rfl)
      · obtain ⟨s1, e1, z1, z2⟩ := m_fill (g := g)
        refine ⟨-nI 3, g, s1, ?_, ?_, hI.scr (Scr.one (b := 174) (by omega) z1)⟩
        · unfold f_X8_could
          refine q_if_f hal8.1 (q_if_t hal8.2 ?_)
          exact q_call y8 (q_if_f (by decide) rfl)
        · unfold f_X9_could
          refine q_call y9 (q_if_f (by decide) ?_)
          refine q_call (hn g) (q_if_f (by decide) ?_)
          refine q_bd e1 ?_
          refine q_bd (a := (nI 0, s1)) ?_ ?_
          · refine q_lp (fun i => (nI 0, nI i, s1)) 0 (fun i hi => absurd hi (Nat.not_lt_zero i)) ?_ (by omega) rfl
            dsimp only
            refine q_bd (a := (nI 0, s1)) (q_if_f (by decide) rfl) ?_
            exact q_if_t (Int32.le_refl _) rfl
          · exact q_if_f (by decide) rfl
    · have h24 := hT.1
      have ht := hT.2.1
      have hen := hT.2.2.2.2.2
      have y8 := x8 g (fun _ _ _ => rfl)
      obtain ⟨⟨r1, g1⟩, er, u1, u2, u3⟩ := c_read (d := nI 2147483647) (W := nI W) ht hT.2.2.2.2.1.1 hen
      dsimp only at u1 u2 u3
      have hT1 : TT g1 np t n dr e := hT.cg (u1 _ (by omega) (by omega)) (u1 _ (by omega) (by omega)) (fun a q1 q2 => u1 a (by omega) (by omega))
      have hR1 : rowT g1 t = rowT g t := rowT_ne (u1 _ (by omega) (by omega))
      obtain ⟨⟨r2, g2⟩, el, v0, v1, v2⟩ := c_listOpen (o := oc (rowT g t) (nI 2147483647) (nI W) e) hT1 (fun c hc => by rw [u2 c hc]; exact hen.oc1 _ _) (fun c hc => u3 c hc)
      dsimp only at v0 v1 v2
      rw [hR1] at v0 v2
      subst v0
      have fr2 : ∀ a, ¬ (16 ≤ a ∧ a ≤ 18) → g2 a = g a := fun a ha => (v1 a (by omega)).trans (u1 a (by omega) (by omega))
      have hT2 : TT g2 np t n dr e := hT.cg (fr2 _ (by omega)) (fr2 _ (by omega)) (fun a q1 q2 => fr2 a (by omega))
      have hR2 : rowT g2 t = rowT g t := rowT_ne (fr2 _ (by omega))
      have hMb := cn_bd (opS (rowT g t) (oc (rowT g t) (nI 2147483647) (nI W) e) dr) 30
      generalize hsel : opS (rowT g t) (oc (rowT g t) (nI 2147483647) (nI W) e) dr = sel at *
      generalize hM : cn sel 30 = M at *
      -- the model, up to its list
      have front : ∀ s : G, (∀ a, a ≠ 0 → a ≠ 46 → ¬ (16 ≤ a ∧ a ≤ 26) → s a = g a) → ∃ s1 s2, f_X9_refused (nI t) (nI p) 0 (nI W) s = some (nI 0, s) ∧ lp (fun (s9 : Int32 × G) => (if (30 : Int32) ≤ s9.1 then some (.inr (s9.2)) else ck s9.1 30 fun j13 => wr (up2 s9.2 174 j13 (-1 : Int32)) fun g14 => some (.inl ((s9.1 + (1 : Int32)), g14)) : Option ((Int32 × G) ⊕ (G)))) 2000 ((0 : Int32), s) = some s1 ∧ lp (fun (s19 : Int32 × Int32 × G) => (bd ((if nI 0 = 0 then bd2 (f_X9_cell (nI t) (25 : Int32) s19.2.2) fun r59 g60 => some ((r59, g60)) else some (((0 : Int32), s19.2.2)) : Option (Int32 × G))) fun (s25 : Int32 × G) => if s25.1 ≤ s19.2.1 then some (.inr (s19.1, s25.2)) else bd (lp (fun (s30 : Int32 × Int32 × G) => (bd2 (f_X9_cell (nI t) ((32 : Int32) + s19.2.1) s30.2.2) fun r34 g35 => if r34 ≤ s30.2.1 then some (.inr (s30.1, g35)) else bd2 (f_X9_isWithNobody (nI t) (((5 : Int32) * s19.2.1) + s30.2.1) g35) fun r37 g38 => bd ((if r37 = 0 then bd2 (f_X9_outcomeOf (nI t) (((5 : Int32) * s19.2.1) + s30.2.1) (2147483647 : Int32) (nI W) g38) fun r54 g55 => some ((r54, g55)) else some (((0 : Int32), g38)) : Option (Int32 × G))) fun (s41 : Int32 × G) => bd ((if s41.1 = (-1 : Int32) then some (.inl (s30.2.1)) else if s41.1 = (5 : Int32) then some (.inl (s30.2.1)) else some (.inr (.inl (s30.1, (s30.2.1 + (1 : Int32)), s41.2))) : Option ((Int32) ⊕ ((Int32 × Int32 × G) ⊕ (Int32 × G))))) fun s52m => (match s52m with | .inl s43 => (bd ((if (4 : Int32) ≤ s30.1 then some (s41.2) else ck s30.1 4 fun j47 => wr (up2 s41.2 183 j47 (((5 : Int32) * s19.2.1) + s30.2.1)) fun g48 => some (g48) : Option (G))) fun (s45 : G) => some (.inl ((s30.1 + (1 : Int32)), (s43 + (1 : Int32)), s45))) | .inr y => some y) : Option ((Int32 × Int32 × G) ⊕ (Int32 × G)))) 2000 (s19.1, (0 : Int32), s25.2)) fun (s33 : Int32 × G) => some (.inl (s33.1, (s19.2.1 + (1 : Int32)), s33.2)) : Option ((Int32 × Int32 × G) ⊕ (Int32 × G)))) 2000 ((0 : Int32), (0 : Int32), s1) = some (nI M, s2) ∧ (∀ a, a ≠ 174 → a ≠ 183 → s2 a = s a) ∧ (∀ c, c < 30 → s2 174 c = -nI 1) ∧ OL sel (s2 183) 30 ∧ TT s2 np t n dr e ∧ rowT s2 t = rowT g t := by
        intro s hs
        obtain ⟨s1, e1, z1, z2⟩ := m_fill (g := s)
        have fr1 : ∀ a, a ≠ 174 → a ≠ 0 → a ≠ 46 → ¬ (16 ≤ a ∧ a ≤ 26) → s1 a = g a := fun a q1 q2 q3 q4 => (z1 a q1).trans (hs a q2 q3 q4)
        have hTs : TT s1 np t n dr e := hT.cg (fr1 _ (by omega) (by omega) (by omega) (by omega)) (fr1 _ (by omega) (by omega) (by omega) (by omega)) (fun a q1 q2 => fr1 a (by omega) (by omega) (by omega) (by omega))
        have hRs : rowT s1 t = rowT g t := rowT_ne (fr1 _ (by omega) (by omega) (by omega) (by omega))
        obtain ⟨⟨r, s2⟩, e2, w0, w1, w2⟩ := m_listOpen (W := W) (o := oc (rowT g t) (nI 2147483647) (nI W) e) hTs (fun c hc s' hs' => by
          have hT' : TT s' np t n dr e := hTs.cg (hs' _ (by omega)) (hs' _ (by omega)) (fun a q1 q2 => hs' a (by omega))
          have q := hT'.oc (by rw [hs' 159 (by omega), fr1 159 (by omega) (by omega) (by omega) (by omega)]; exact hI.h25) (d := nI 2147483647) (W := nI W) c hc
          rw [show rowT s' t = rowT g t from (rowT_ne (hs' _ (by omega))).trans hRs] at q
          exact q)
        dsimp only at w0 w1 w2
        rw [hRs, hsel] at w0 w2
        rw [hM] at w0
        subst w0
        refine ⟨s1, s2, ?_, e1, e2, fun a q1 q2 => (w1 a q2).trans (z1 a q1), fun c hc => by rw [w1 174 (by omega)]; exact z2 c hc, w2, ?_, ?_⟩
        · rw [ref_0]
          exact x9 s (by rw [hs 159 (by omega) (by omega) (by omega)]) (by rw [hs 159 (by omega) (by omega) (by omega)]) (hs 165 (by omega) (by omega) (by omega))
        · exact hTs.cg (w1 _ (by omega)) (w1 _ (by omega)) (fun a q1 q2 => w1 a (by omega))
        · exact (rowT_ne (w1 _ (by omega))).trans hRs
      by_cases M4 : M ≤ 4
      · -- the ways
        have hmm : ∃ m, (∀ x, x < m → ¬ FW (rowT g t) (oc (rowT g t) (nI 2147483647) (nI W) e) sel M dr n p al x) ∧ ((m < 3 ^ M ∧ FW (rowT g t) (oc (rowT g t) (nI 2147483647) (nI W) e) sel M dr n p al m) ∨ m = 3 ^ M) := by
          rcases first_or (fun x => FW (rowT g t) (oc (rowT g t) (nI 2147483647) (nI W) e) sel M dr n p al x) (3 ^ M) with ⟨m, h1, h2, h3⟩ | h
          · exact ⟨m, h3, Or.inl ⟨h1, h2⟩⟩
          · exact ⟨3 ^ M, h, Or.inr rfl⟩
        obtain ⟨m, hm1, hm2⟩ := hmm
        obtain ⟨y, ey, hy⟩ := c_ways (al := al) (o := oc (rowT g t) (nI 2147483647) (nI W) e) hT2 (show p < 24 by omega) hal (fun c hc _ => by rw [v1 17 (by omega)]; exact u3 c hc) v2 hM M4 (by rw [hR2]; exact hm1) (by rw [hR2]; exact hm2)
        have cl8 : ∀ (x : Int32) (sz : G), (match (generalizing := false) y with | .inl s24 => (bd2 (f_X8_keepFound (nI M) s24) fun r36 g37 => some (((1 : Int32), g37))) | .inr y => some y) = some (x, sz) → f_X8_could (nI t) (nI p) (nI al) (nI W) g = some (x, sz) := by
          intro x sz hx
          unfold f_X8_could
          refine q_if_f hal8.1 (q_if_t hal8.2 ?_)
          refine q_call y8 (q_if_t rfl ?_)
          refine q_ck t rfl ht (by decide) ?_
          refine q_wr ?_
          refine q_call er ?_
          refine q_call el ?_
          refine q_if_t (by rw [l_4, nI_leI (by omega) (by omega)]; exact M4) ?_
          refine q_bd (c_pow M4) ?_
          exact q_bd ey hx
        have md9 : ∀ (s : G) (hs : ∀ a, a ≠ 0 → a ≠ 46 → ¬ (16 ≤ a ∧ a ≤ 26) → s a = g a), ∃ s2 s3 : G, ∃ f : Int32, (∀ a, a ≠ 174 → a ≠ 183 → s2 a = s a) ∧ OL sel (s2 183) 30 ∧ (∀ a, a ≠ 174 → a ≠ 159 → s3 a = s2 a) ∧ (∀ k, s3 159 k = s2 159 k) ∧ ((m < 3 ^ M ∧ f = nI 1 ∧ ∀ c, c < 30 → s3 174 c = if sel c = true then nI (dgt M m (cn sel c)) else -nI 1) ∨ (m = 3 ^ M ∧ f = nI 0)) ∧ ∀ (x : Int32) (sz : G), (bd ((if f = 0 then some (s3) else wr (up2 s3 159 42 (nI M)) fun g101 => lp (fun (s104 : Int32 × G) => (if nI M ≤ s104.1 then some (.inr (s104.2)) else ck s104.1 4 fun j106 => ck (s104.2 183 j106) 30 fun j107 => ck s104.1 4 fun j108 => wr (up2 s104.2 184 j108 (s104.2 174 j107)) fun g109 => some (.inl ((s104.1 + (1 : Int32)), g109)) : Option ((Int32 × G) ⊕ (G)))) 2000 ((0 : Int32), g101) : Option (G))) fun (s98 : G) => if f = 0 then some (((0 : Int32), s98)) else some (((1 : Int32), s98))) = some (x, sz) → f_X9_could (nI t) (nI p) (nI al) (nI W) s = some (x, sz) := by
          intro s hs
          obtain ⟨s1, s2, f1, f2, f3, f4, f5, f6, f7, f8⟩ := front s hs
          obtain ⟨⟨f, s3⟩, e3, k1, k2, k3⟩ := m_ways (al := al) (W := W) f7 (show p < 24 by omega) hal (by rw [f4 159 (by omega) (by omega), hs 159 (by omega) (by omega) (by omega)]; exact hI.h25) (fun c hc _ => f5 c hc) f6 hM M4 (by rw [f8]; exact hm1) (by rw [f8]; exact hm2)
          refine ⟨s2, s3, f, f4, f6, k1, k2, k3, fun x sz hx => ?_⟩
          unfold f_X9_could
          refine q_call f1 (q_if_f (by decide) ?_)
          refine q_call (hn s) (q_if_f (by decide) ?_)
          refine q_bd f2 ?_
          refine q_bd f3 ?_
          refine q_if_t rfl ?_
          refine q_if_t (by rw [l_4, nI_leI (by omega) (by omega)]; exact M4) ?_
          refine q_bd (m_pow M4) ?_
          refine q_bd e3 ?_
          exact hx
        rcases hy with ⟨hm3, g3, rfl, c1, c2⟩ | ⟨hm3, g3, rfl, c1⟩
        · -- found
          have hl3 : OL sel (g3 18) 30 := by rw [c1 18 (by omega)]; exact v2
          obtain ⟨⟨rk, g4⟩, ek, k1, k2, k3, k4⟩ := c_keep M4 hM hl3
          dsimp only at k1 k2 k3 k4
          have hs4 : ∀ a, a ≠ 0 → a ≠ 46 → ¬ (16 ≤ a ∧ a ≤ 26) → g4 a = g a := fun a q1 q2 q3 => (k1 a q1 q2).trans ((c1 a (by omega)).trans (fr2 a (by omega)))
          obtain ⟨s2, s3, f, f4, f6, j1, j2, j3, j4⟩ := md9 g4 hs4
          rcases j3 with ⟨-, rfl, j5⟩ | ⟨q, -⟩
          · obtain ⟨s5, e5, w1, w2⟩ := m_keep (g := up2 s3 159 42 (nI M)) M4 hM (by rw [up2_ne (by omega), j1 183 (by omega) (by omega)]; exact f6)
            refine ⟨nI 1, g4, s5, cl8 _ _ (q_call ek rfl), j4 _ _ (q_bd (q_if_f (by decide) (q_wr e5)) (q_if_f (by decide) rfl)), ?_⟩
            have fr5 : ∀ a, a ≠ 174 → a ≠ 183 → a ≠ 184 → a ≠ 159 → s5 a = g4 a := fun a q1 q2 q3 q4 => (w1 a q3).trans ((up2_ne q4).trans ((j1 a q1 q4).trans (f4 a q1 q2)))
            refine hI.fnd (fun a q1 q2 q3 q4 q5 q6 => (fr5 a (by omega) (by omega) (by omega) (by omega)).trans (hs4 a q1 q2 (by omega))) (fun k hk => ?_) (fun k hk => ?_) ⟨M, M4, ?_, ?_, fun i hi => ?_⟩
            · rw [fr5 0 (by omega) (by omega) (by omega) (by omega), k2 k hk, c1 0 (by omega), fr2 0 (by omega)]
            · rw [w1 159 (by omega), up2_eq, upd_ne hk, j2 k, f4 159 (by omega) (by omega), hs4 159 (by omega) (by omega) (by omega)]
            · rw [fr5 0 (by omega) (by omega) (by omega) (by omega)]
              exact k3
            · rw [w1 159 (by omega), up2_eq, upd_eq]
            · obtain ⟨o1, o2, o3⟩ := wf_ok sel (N := 30) (i := i) (by omega)
              rw [fr5 46 (by omega) (by omega) (by omega) (by omega), k4 i hi, w2 i hi, up2_ne (by omega), j5 _ o1, if_pos o2, c2 _ o1]
              unfold supO
              rw [if_pos o2]
          · omega
        · -- not found
          have hs3 : ∀ a, a ≠ 0 → a ≠ 46 → ¬ (16 ≤ a ∧ a ≤ 26) → g3 a = g a := fun a q1 q2 q3 => (c1 a (by omega)).trans (fr2 a (by omega))
          have h0 : ∀ a, ¬ (16 ≤ a ∧ a ≤ 26) → g3 a = g a := fun a q3 => (c1 a (by omega)).trans (fr2 a (by omega))
          obtain ⟨s2, s3, f, f4, f6, j1, j2, j3, j4⟩ := md9 g3 hs3
          rcases j3 with ⟨q, -⟩ | ⟨-, rfl⟩
          · omega
          · refine ⟨nI 0, g3, s3, cl8 _ _ rfl, j4 _ _ (q_bd (q_if_t rfl rfl) (q_if_t rfl rfl)), hI.scr ⟨fun a q1 q2 q3 => ?_, fun k hk => ?_⟩⟩
            · rw [j1 a (by omega) q3, f4 a (by omega) (by omega), h0 a (by omega)]
            · rw [j2 k, f4 159 (by omega) (by omega), h0 159 (by omega)]
      · obtain ⟨s1, s2, f1, f2, f3, f4, f5, f6, f7, f8⟩ := front g2 (fun a q1 q2 q3 => fr2 a (by omega))
        refine ⟨-nI 3, g2, s2, ?_, ?_, hI.scr ⟨fun a q1 q2 q3 => (f4 a (by omega) (by omega)).trans (fr2 a (by omega)), fun k hk => by rw [f4 159 (by omega) (by omega), fr2 159 (by omega)]⟩⟩
        · unfold f_X8_could
          refine q_if_f hal8.1 (q_if_t hal8.2 ?_)
          refine q_call y8 (q_if_t rfl ?_)
          refine q_ck t rfl ht (by decide) ?_
          refine q_wr ?_
          refine q_call er ?_
          refine q_call el ?_
          exact q_if_f (by rw [l_4, nI_leI (by omega) (by omega)]; exact M4) rfl
        · unfold f_X9_could
          refine q_call f1 (q_if_f (by decide) ?_)
          refine q_call (hn g2) (q_if_f (by decide) ?_)
          refine q_bd f2 ?_
          refine q_bd f3 ?_
          refine q_if_t rfl ?_
          exact q_if_f (by rw [l_4, nI_leI (by omega) (by omega)]; exact M4) rfl
