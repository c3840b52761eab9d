/-! The ways: class and model. -/
abbrev FW (R : Nat → Int32) (o : Nat → Int32) (sel : Nat → Bool) (M dr n p al x : Nat) : Prop := frst (pV (sr0 R) (PT R (nI 2147483647) (supO sel M x o) dr) (SM R (nI 2147483647) (supO sel M x o) dr)) (cm R) n p al
theorem p3 {M : Nat} (h : M ≤ 4) : 3 ^ M ≤ 81 := Nat.pow_le_pow_right (by omega) h
theorem c_ways {np t n dr e p al M m : Nat} {g : G} {o : Nat → Int32} {sel : Nat → Bool} (hT : TT g np t n dr e) (hp : p < 24) (hal : al ≤ 1) (h17 : ∀ c, c < 30 → ¬ sel c = true → g 17 c = o c) (hl : OL sel (g 18) 30) (hM : cn sel 30 = M) (M4 : M ≤ 4) (hm : ∀ x, x < m → ¬ FW (rowT g t) o sel M dr n p al x) (hend : (m < 3 ^ M ∧ FW (rowT g t) o sel M dr n p al m) ∨ m = 3 ^ M) : Ev (lp (fun (s22 : Int32 × G) => (if nI (3 ^ M) ≤ s22.1 then some (.inr (.inr (((0 : Int32), s22.2)))) else bd2 (f_X6_suppose s22.1 (nI M) s22.2) fun r26 g27 => bd ((if nI al = (1 : Int32) then some ((1 : Int32)) else some ((0 : Int32)) : Option (Int32))) fun (s29 : Int32) => bd2 (f_X6_isFirst (47 + 28 * t) (nI p) s29 g27) fun r30 g31 => if r30 = 0 then some (.inl ((s22.1 + (1 : Int32)), g31)) else some (.inr (.inl (g31))) : Option ((Int32 × G) ⊕ ((G) ⊕ (Int32 × G))))) 2000 ((0 : Int32), g)) (fun y => (m < 3 ^ M ∧ ∃ s, y = .inl s ∧ (∀ a, ¬ (a = 17 ∨ (19 ≤ a ∧ a ≤ 26)) → s a = g a) ∧ ∀ c, c < 30 → s 17 c = supO sel M m o c) ∨ (m = 3 ^ M ∧ ∃ s, y = .inr (nI 0, s) ∧ ∀ a, ¬ (a = 17 ∨ (19 ≤ a ∧ a ≤ 26)) → s a = g a)) := by
  have h81 := p3 M4
  have ht := hT.2.1
  have m81 : m ≤ 81 := by rcases hend with q | q <;> omega
  have one : ∀ (x : Nat) (s : G), x < 3 ^ M → (∀ a, ¬ (a = 17 ∨ (19 ≤ a ∧ a ≤ 26)) → s a = g a) → (∀ c, c < 30 → ¬ sel c = true → s 17 c = o c) → ∃ s1 r s2, f_X6_suppose (nI x) (nI M) s = some (0, s1) ∧ f_X6_isFirst (47 + 28 * t) (nI p) (nI al) s1 = some (r, s2) ∧ (∀ a, ¬ (a = 17 ∨ (19 ≤ a ∧ a ≤ 26)) → s2 a = g a) ∧ (∀ c, c < 30 → s2 17 c = supO sel M x o c) ∧ ((r = nI 1 ∧ FW (rowT g t) o sel M dr n p al x) ∨ (r = nI 0 ∧ ¬ FW (rowT g t) o sel M dr n p al x)) := by
    intro x s hx h1 h2
    obtain ⟨s1, e1, y1, y2⟩ := suppose_lp (sel := sel) (L := 18) (B := 17) (M := M) (x := x) (g := s) (by decide) hM M4 (by omega) (by rw [h1 18 (by omega)]; exact hl)
    have z1 : ∀ c, c < 30 → s1 17 c = supO sel M x o c := by
      intro c hc
      rw [y2 c hc]
      unfold supO
      by_cases hs : sel c = true
      · rw [if_pos hs, if_pos hs]
      · rw [if_neg hs, if_neg hs]
        exact h2 c hc hs
    have fr1 : ∀ a, ¬ (a = 17 ∨ (19 ≤ a ∧ a ≤ 26)) → s1 a = g a := fun a ha => (y1 a (by omega)).trans (h1 a ha)
    have hT1 : TT s1 np t n dr e := hT.cg (fr1 _ (by omega)) (fr1 _ (by omega)) (fun a q1 q2 => fr1 a (by omega))
    have hR1 : rowT s1 t = rowT g t := rowT_ne (fr1 _ (by omega))
    obtain ⟨⟨r, s2⟩, e2, x1, x2⟩ := c_isFirst (al := al) (o := supO sel M x o) hT1 hp hal z1
    rw [hR1] at x2
    refine ⟨s1, r, s2, ?_, e2, fun a ha => (x1 a (by omega)).trans (fr1 a ha), fun c hc => by rw [show s2 17 = s1 17 from x1 17 (by omega)]; exact z1 c hc, x2⟩
    unfold f_X6_suppose
    exact q_bd e1 rfl
  have al1 : (if nI al = (1 : Int32) then some ((1 : Int32)) else some ((0 : Int32)) : Option Int32) = some (nI al) := by
    have : al = 0 ∨ al = 1 := by omega
    rcases this with rfl | rfl <;> rfl
  refine ev_lp (I := fun x s => s.1 = nI x ∧ (∀ a, ¬ (a = 17 ∨ (19 ≤ a ∧ a ≤ 26)) → s.2 a = g a) ∧ ∀ c, c < 30 → ¬ sel c = true → s.2 17 c = o c) m ?_ ?_ 2000 0 _ (Nat.zero_le _) (by omega) ⟨rfl, fun _ _ => rfl, h17⟩
  · rintro x ⟨y, s⟩ hx ⟨rfl, h1, h2⟩
    dsimp only at h1 h2
    have hx3 : x < 3 ^ M := by rcases hend with q | q <;> omega
    obtain ⟨s1, r, s2, e1, e2, x1, x2, x3⟩ := one x s hx3 h1 h2
    rcases x3 with ⟨-, q⟩ | ⟨rfl, -⟩
    · exact absurd q (hm x hx)
    · refine Ev.of (a := .inl (nI (x + 1), s2)) ?_ ⟨rfl, x1, fun c hc hs => ?_⟩
      · dsimp only
        refine q_if_f (nI_ge hx3 (by omega)) ?_
        refine q_call e1 ?_
        refine q_bd al1 ?_
        refine q_call e2 ?_
        refine q_if_t rfl ?_
        rw [nI_1]
      · dsimp only
        rw [x2 c hc]
        unfold supO
        rw [if_neg hs]
  · rintro ⟨y, s⟩ ⟨rfl, h1, h2⟩
    dsimp only at h1 h2
    rcases hend with ⟨hm3, hF⟩ | hm3
    · obtain ⟨s1, r, s2, e1, e2, x1, x2, x3⟩ := one m s hm3 h1 h2
      rcases x3 with ⟨rfl, -⟩ | ⟨-, q⟩
      · refine Ev.of (a := .inr (.inl s2)) ?_ (Or.inl ⟨hm3, s2, rfl, x1, x2⟩)
        dsimp only
        refine q_if_f (nI_ge hm3 (by omega)) ?_
        refine q_call e1 ?_
        refine q_bd al1 ?_
        refine q_call e2 ?_
        exact q_if_f (by decide) rfl
      · exact absurd hF q
    · refine Ev.of (a := .inr (.inr (nI 0, s))) ?_ (Or.inr ⟨hm3, s, rfl, h1⟩)
      dsimp only
      rw [hm3]
      exact q_if_t (Int32.le_refl _) rfl
theorem m_ways {np t n dr e p al M m W : Nat} {g : G} {sel : Nat → Bool} (hT : TT g np t n dr e) (hp : p < 24) (hal : al ≤ 1) (h25 : g 159 25 = nI 0) (h174 : ∀ c, c < 30 → ¬ sel c = true → g 174 c = -nI 1) (hl : OL sel (g 183) 30) (hM : cn sel 30 = M) (M4 : M ≤ 4) (hm : ∀ x, x < m → ¬ FW (rowT g t) (oc (rowT g t) (nI 2147483647) (nI W) e) sel M dr n p al x) (hend : (m < 3 ^ M ∧ FW (rowT g t) (oc (rowT g t) (nI 2147483647) (nI W) e) sel M dr n p al m) ∨ m = 3 ^ M) : Ev (lp (fun (s75 : Int32 × Int32 × G) => (if nI (3 ^ M) ≤ s75.2.1 then some (.inr (s75.1, s75.2.2)) else if s75.1 = 0 then bd (lp (fun (s84 : Int32 × Int32 × G) => (if s84.2.1 < 0 then some (.inr (s84.2.2)) else ck s84.2.1 4 fun j88 => ck (s84.2.2 183 j88) 30 fun j89 => wr (up2 s84.2.2 174 j89 (s84.1 - s84.1 / (3 : Int32) * (3 : Int32))) fun g90 => some (.inl ((s84.1 / (3 : Int32)), (s84.2.1 + (-1 : Int32)), g90)) : Option ((Int32 × Int32 × G) ⊕ (G)))) 2000 (s75.2.1, (nI M - (1 : Int32)), s75.2.2)) fun (s86 : G) => wr (up2 s86 159 25 (1 : Int32)) fun g92 => bd2 (f_X9_isFirst (nI t) (nI p) (nI al) (nI W) g92) fun r93 g94 => wr (up2 g94 159 25 (0 : Int32)) fun g95 => some (.inl (r93, (s75.2.1 + (1 : Int32)), g95)) else some (.inr (s75.1, s75.2.2)) : Option ((Int32 × Int32 × G) ⊕ (Int32 × G)))) 2000 ((0 : Int32), (0 : Int32), g)) (fun y => (∀ a, a ≠ 174 → a ≠ 159 → y.2 a = g a) ∧ (∀ k, y.2 159 k = g 159 k) ∧ ((m < 3 ^ M ∧ y.1 = nI 1 ∧ ∀ c, c < 30 → y.2 174 c = if sel c = true then nI (dgt M m (cn sel c)) else -nI 1) ∨ (m = 3 ^ M ∧ y.1 = nI 0))) := by
  have h81 := p3 M4
  have ht := hT.2.1
  have m81 : m ≤ 81 := by rcases hend with q | q <;> omega
  have one : ∀ (x : Nat) (s : G), x < 3 ^ M → (∀ a, a ≠ 174 → a ≠ 159 → s a = g a) → (∀ k, s 159 k = g 159 k) → (∀ c, c < 30 → ¬ sel c = true → s 174 c = -nI 1) → ∃ s1 r, lp (fun (s84 : Int32 × Int32 × G) => (if s84.2.1 < 0 then some (.inr (s84.2.2)) else ck s84.2.1 4 fun j88 => ck (s84.2.2 183 j88) 30 fun j89 => wr (up2 s84.2.2 174 j89 (s84.1 - s84.1 / (3 : Int32) * (3 : Int32))) fun g90 => some (.inl ((s84.1 / (3 : Int32)), (s84.2.1 + (-1 : Int32)), g90)) : Option ((Int32 × Int32 × G) ⊕ (G)))) 2000 (nI x, (nI M - (1 : Int32)), s) = some s1 ∧ f_X9_isFirst (nI t) (nI p) (nI al) (nI W) (up2 s1 159 25 1) = some (r, up2 s1 159 25 1) ∧ (∀ a, a ≠ 174 → a ≠ 159 → s1 a = g a) ∧ (∀ k, up2 (up2 s1 159 25 1) 159 25 0 159 k = g 159 k) ∧ (∀ c, c < 30 → s1 174 c = if sel c = true then nI (dgt M x (cn sel c)) else -nI 1) ∧ ((r = nI 1 ∧ FW (rowT g t) (oc (rowT g t) (nI 2147483647) (nI W) e) sel M dr n p al x) ∨ (r = nI 0 ∧ ¬ FW (rowT g t) (oc (rowT g t) (nI 2147483647) (nI W) e) sel M dr n p al x)) := by
    intro x s hx h1 hf h2
    obtain ⟨s1, e1, y1, y2⟩ := suppose_lp (sel := sel) (L := 183) (B := 174) (M := M) (x := x) (g := s) (by decide) hM M4 (by omega) (by rw [h1 183 (by omega) (by omega)]; exact hl)
    have z1 : ∀ c, c < 30 → s1 174 c = if sel c = true then nI (dgt M x (cn sel c)) else -nI 1 := by
      intro c hc
      rw [y2 c hc]
      by_cases hs : sel c = true
      · rw [if_pos hs, if_pos hs]
      · rw [if_neg hs, if_neg hs]
        exact h2 c hc hs
    have fr1 : ∀ a, a ≠ 174 → a ≠ 159 → up2 s1 159 25 1 a = g a := fun a q1 q2 => (up2_ne q2).trans ((y1 a q1).trans (h1 a q1 q2))
    have hT1 : TT (up2 s1 159 25 1) np t n dr e := hT.cg (fr1 _ (by omega) (by omega)) (fr1 _ (by omega) (by omega)) (fun a q1 q2 => fr1 a (by omega) (by omega))
    have hR1 : rowT (up2 s1 159 25 1) t = rowT g t := rowT_ne (fr1 _ (by omega) (by omega))
    have ho := m_outA (M := M) (x := x) (W := W) (sel := sel) hT1 (by rw [up2_eq, upd_eq]; rfl) (fun c hc => by rw [up2_ne (by decide)]; exact z1 c hc)
    rw [hR1] at ho
    have hmt := hT1.mt ho
    have hmw := hT1.mw
    rw [hR1] at hmt hmw
    refine ⟨s1, _, e1, m_isFirst ht hp hal hmt hmw, fun a q1 q2 => (y1 a q1).trans (h1 a q1 q2), fun k => ?_, z1, fo_cases _ _ _ _ _⟩
    rw [up2_eq]
    by_cases k25 : k = 25
    · subst k25
      rw [upd_eq, h25]; rfl
    · rw [upd_ne k25, up2_eq, upd_ne k25, y1 159 (by omega)]
      exact hf k
  refine ev_lp (I := fun x s => s.2.1 = nI x ∧ (∀ a, a ≠ 174 → a ≠ 159 → s.2.2 a = g a) ∧ (∀ k, s.2.2 159 k = g 159 k) ∧ (∀ c, c < 30 → ¬ sel c = true → s.2.2 174 c = -nI 1) ∧ ((x ≤ m ∧ s.1 = nI 0) ∨ (x = m + 1 ∧ s.1 = nI 1 ∧ ∀ c, c < 30 → s.2.2 174 c = if sel c = true then nI (dgt M m (cn sel c)) else -nI 1))) (if m < 3 ^ M then m + 1 else m) ?_ ?_ 2000 0 _ (Nat.zero_le _) (by split <;> omega) ⟨rfl, fun _ _ _ => rfl, fun _ => rfl, h174, Or.inl ⟨Nat.zero_le _, rfl⟩⟩
  · rintro x ⟨f, y, s⟩ hx ⟨rfl, h1, hf, h2, h3⟩
    dsimp only at h1 hf h2 h3
    have hxm : x ≤ m := by split at hx <;> omega
    have hx3 : x < 3 ^ M := by
      split at hx
      · omega
      · rcases hend with q | q <;> omega
    have f0 : f = nI 0 := by
      rcases h3 with q | q
      · exact q.2
      · omega
    subst f0
    obtain ⟨s1, r, e1, e2, x1, xf, x2, x3⟩ := one x s hx3 h1 hf h2
    refine Ev.of (a := .inl (r, nI (x + 1), up2 (up2 s1 159 25 1) 159 25 0)) ?_ ⟨rfl, fun a q1 q2 => ?_, xf, fun c hc hs => ?_, ?_⟩
    · dsimp only
      refine q_if_f (nI_ge hx3 (by omega)) ?_
      refine q_if_t rfl ?_
      refine q_bd e1 ?_
      refine q_wr ?_
      refine q_call e2 ?_
      refine q_wr ?_
      rw [nI_1]
    · dsimp only
      rw [up2_ne q2, up2_ne q2]
      exact x1 a q1 q2
    · dsimp only
      rw [up2_ne (by decide), up2_ne (by decide), x2 c hc, if_neg hs]
    · by_cases e : x = m
      · subst e
        have hF : FW (rowT g t) (oc (rowT g t) (nI 2147483647) (nI W) e) sel M dr n p al x := by
          rcases hend with q | q
          · exact q.2
          · omega
        rcases x3 with ⟨rfl, -⟩ | ⟨-, q⟩
        · refine Or.inr ⟨rfl, rfl, fun c hc => ?_⟩
          dsimp only
          rw [up2_ne (by decide), up2_ne (by decide)]
          exact x2 c hc
        · exact absurd hF q
      · rcases x3 with ⟨-, q⟩ | ⟨rfl, -⟩
        · exact absurd q (hm x (by omega))
        · exact Or.inl ⟨by omega, rfl⟩
  · rintro ⟨f, y, s⟩ ⟨rfl, h1, hf, h2, h3⟩
    dsimp only at h1 hf h2 h3
    by_cases hm3 : m < 3 ^ M
    · rw [if_pos hm3] at h3 ⊢
      rcases h3 with q | ⟨-, rfl, h4⟩
      · omega
      · refine Ev.of (a := .inr (nI 1, s)) ?_ ⟨h1, hf, Or.inl ⟨hm3, rfl, h4⟩⟩
        dsimp only
        by_cases q : nI (3 ^ M) ≤ nI (m + 1)
        · exact q_if_t q rfl
        · exact q_if_f q (q_if_f (by decide) rfl)
    · rw [if_neg hm3] at h3 ⊢
      have hm3' : m = 3 ^ M := by rcases hend with q | q <;> omega
      rcases h3 with ⟨-, rfl⟩ | q
      · refine Ev.of (a := .inr (nI 0, s)) ?_ ⟨h1, hf, Or.inr ⟨hm3', rfl⟩⟩
        dsimp only
        exact q_if_t (by rw [hm3']; exact Int32.le_refl _) rfl
      · omega
