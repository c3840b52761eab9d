/-! Who is AHEAD: parting, aheadOf, lesserAlike, whoIs. -/
theorem first_or (P : Nat → Prop) (n : Nat) : (∃ m, m < n ∧ P m ∧ ∀ i, i < m → ¬ P i) ∨ ∀ i, i < n → ¬ P i := by
  induction n with
  | zero => exact Or.inr (fun i hi => absurd hi (Nat.not_lt_zero i))
  | succ n ih =>
    rcases ih with ⟨m, h1, h2, h3⟩ | h
    · exact Or.inl ⟨m, by omega, h2, h3⟩
    · by_cases hp : P n
      · exact Or.inl ⟨n, by omega, hp, h⟩
      · refine Or.inr (fun i hi => ?_)
        by_cases e : i = n
        · subst e; exact hp
        · exact h i (by omega)
def prT (x y : Int32) (i : Nat) : Int32 := if x ≤ y then nI (10 * i + 2) else nI (10 * i + 1)
def prS (V : Nat → Nat → Int32) (a b : Nat) : Int32 := if V 0 a ≠ V 0 b then prT (V 0 a) (V 0 b) 0 else if V 1 a ≠ V 1 b then prT (V 1 a) (V 1 b) 1 else if V 2 a ≠ V 2 b then prT (V 2 a) (V 2 b) 2 else if V 3 a ≠ V 3 b then prT (V 3 a) (V 3 b) 3 else if V 4 a ≠ V 4 b then prT (V 4 a) (V 4 b) 4 else nI 0
theorem pr_cases (V : Nat → Nat → Int32) (a b : Nat) : (∃ m, m < 5 ∧ V m a ≠ V m b ∧ (∀ i, i < m → V i a = V i b) ∧ prS V a b = prT (V m a) (V m b) m) ∨ ((∀ i, i < 5 → V i a = V i b) ∧ prS V a b = nI 0) := by
  rcases first_or (fun i => V i a ≠ V i b) 5 with ⟨m, h1, h2, h3⟩ | h
  · refine Or.inl ⟨m, h1, h2, fun i hi => Classical.not_not.mp (h3 i hi), ?_⟩
    unfold prS
    have : m = 0 ∨ m = 1 ∨ m = 2 ∨ m = 3 ∨ m = 4 := by omega
    rcases this with rfl | rfl | rfl | rfl | rfl
    · rw [if_pos h2]
    · rw [if_neg (h3 0 (by omega)), if_pos h2]
    · rw [if_neg (h3 0 (by omega)), if_neg (h3 1 (by omega)), if_pos h2]
    · rw [if_neg (h3 0 (by omega)), if_neg (h3 1 (by omega)), if_neg (h3 2 (by omega)), if_pos h2]
    · rw [if_neg (h3 0 (by omega)), if_neg (h3 1 (by omega)), if_neg (h3 2 (by omega)), if_neg (h3 3 (by omega)), if_pos h2]
  · refine Or.inr ⟨fun i hi => Classical.not_not.mp (h i hi), ?_⟩
    unfold prS
    rw [if_neg (h 0 (by omega)), if_neg (h 1 (by omega)), if_neg (h 2 (by omega)), if_neg (h 3 (by omega)), if_neg (h 4 (by omega))]
/-- the i-th thing that is compared -/
def pV (sr : Nat → Nat) (P : Nat → Int32) (A : Nat → Nat → Int32) (i p : Nat) : Int32 := if i = 0 then P p else if sr i = 0 then nI 0 else A (sr i) p
theorem pV_0 {sr : Nat → Nat} {P : Nat → Int32} {A : Nat → Nat → Int32} {p : Nat} : pV sr P A 0 p = P p := if_pos rfl
theorem pV_z {sr : Nat → Nat} {P : Nat → Int32} {A : Nat → Nat → Int32} {i p : Nat} (hi : 0 < i) (h : sr i = 0) : pV sr P A i p = nI 0 := by
  unfold pV
  rw [if_neg (by omega), if_pos h]
theorem pV_a {sr : Nat → Nat} {P : Nat → Int32} {A : Nat → Nat → Int32} {i p : Nat} (hi : 0 < i) (h : sr i ≠ 0) : pV sr P A i p = A (sr i) p := by
  unfold pV
  rw [if_neg (by omega), if_neg h]
/-- the table as the class has it -/
def CT (t : Nat) (sr : Nat → Nat) (P : Nat → Int32) (A : Nat → Nat → Int32) (s : G) : Prop := (∀ p, p < 24 → s 19 p = P p) ∧ (∀ p w, p < 24 → 1 ≤ w ∧ w ≤ 5 → f_X6_amountOf (nI w) (nI p) s = some (A w p, s)) ∧ ∀ i, 1 ≤ i → i ≤ 4 → sr i ≤ 5 ∧ s (47 + 28 * t + 3) i = nI (sr i)
/-- the table as the model has it -/
def MT (t : Nat) (sr : Nat → Nat) (P : Nat → Int32) (A : Nat → Nat → Int32) (d W : Int32) (s : G) : Prop := (∀ p, p < 24 → f_X9_pointsOf (nI t) (nI p) d W s = some (P p, s)) ∧ (∀ p w, p < 24 → 1 ≤ w ∧ w ≤ 5 → f_X9_sumOf (nI t) (nI p) (nI w) d W s = some (A w p, s)) ∧ ∀ i, 1 ≤ i → i ≤ 4 → sr i ≤ 5 ∧ rowT s t (20 + i) = nI (sr i)
theorem c_parting {t a b : Nat} {sr : Nat → Nat} {P : Nat → Int32} {A : Nat → Nat → Int32} {s : G} (ha : a < 24) (hb : b < 24) (h : CT t sr P A s) : f_X6_parting (47 + 28 * t) (nI a) (nI b) s = some (prS (pV sr P A) a b, s) := by
  obtain ⟨h1, h2, h3⟩ := h
  have pa := h1 a ha
  have pb := h1 b hb
  have val : ∀ i p, p < 24 → 1 ≤ i → i ≤ 4 → (if s (47 + 28 * t + 3) i = 0 then some ((0 : Int32), s) else bd2 (f_X6_amountOf (s (47 + 28 * t + 3) i) (nI p) s) fun r g => some (r, g)) = some (pV sr P A i p, s) := by
    intro i p hp hi1 hi2
    obtain ⟨q1, q2⟩ := h3 i hi1 hi2
    rw [q2]
    by_cases z : sr i = 0
    · rw [pV_z (by omega) z, z]
      rfl
    · rw [pV_a (by omega) z, if_neg (nI_ne0 (by omega) (by omega)), h2 p (sr i) hp (by omega)]
      rfl
  unfold f_X6_parting
  refine q_ck a rfl ha (by decide) ?_
  refine q_ck b rfl hb (by decide) ?_
  rw [pa, pb]
  have step : ∀ i, i < 4 → pV sr P A (i + 1) a = pV sr P A (i + 1) b → (fun (s6 : Int32 × G) => (if (4 : Int32) < s6.1 then some (.inr (.inr (((0 : Int32), s6.2)))) else ck s6.1 5 fun j13 => bd ((if (s6.2 (47 + 28 * t + 3) j13) = 0 then some (((0 : Int32), s6.2)) else bd2 (f_X6_amountOf (s6.2 (47 + 28 * t + 3) j13) (nI a) s6.2) fun r26 g27 => some ((r26, g27)) : Option (Int32 × G))) fun (s16 : Int32 × G) => bd ((if (s6.2 (47 + 28 * t + 3) j13) = 0 then some (((0 : Int32), s16.2)) else bd2 (f_X6_amountOf (s6.2 (47 + 28 * t + 3) j13) (nI b) s16.2) fun r22 g23 => some ((r22, g23)) : Option (Int32 × G))) fun (s19 : Int32 × G) => if s16.1 = s19.1 then some (.inl ((s6.1 + (1 : Int32)), s19.2)) else some (.inr (.inl (s6.1, s16.1, s19.1, s19.2))) : Option ((Int32 × G) ⊕ ((Int32 × Int32 × Int32 × G) ⊕ (Int32 × G))))) (nI (i + 1), s) = some (.inl (nI (i + 1 + 1), s)) := by
    intro i hi he
    dsimp only
    rw [if_neg (by rw [show (4 : Int32) = nI 4 from rfl, nI_ltI (by omega) (by omega)]; omega)]
    refine q_ck (i + 1) rfl (by omega) (by decide) ?_
    refine q_bd (val (i + 1) a ha (by omega) (by omega)) ?_
    refine q_bd (val (i + 1) b hb (by omega) (by omega)) ?_
    dsimp only
    rw [if_pos he, nI_1]
  rcases pr_cases (pV sr P A) a b with ⟨m, m5, e1, e2, e3⟩ | ⟨e2, e3⟩
  · by_cases m0 : m = 0
    · subst m0
      rw [pV_0, pV_0] at e1 e3
      rw [if_neg e1, e3]
      refine q_ck a rfl ha (by decide) ?_
      refine q_ck b rfl hb (by decide) ?_
      rw [pa, pb]
      unfold prT
      split <;> rfl
    · have e0 := e2 0 (by omega)
      rw [pV_0, pV_0] at e0
      rw [if_pos e0, e3]
      refine q_bd (a := .inl (nI m, pV sr P A m a, pV sr P A m b, s)) ?_ ?_
      · refine q_lp (fun i => (nI (i + 1), s)) (m - 1) (fun i hi => step i (by omega) (e2 _ (by omega))) ?_ (by omega) rfl
        dsimp only
        rw [show m - 1 + 1 = m from by omega]
        rw [if_neg (by rw [show (4 : Int32) = nI 4 from rfl, nI_ltI (by omega) (by omega)]; omega)]
        refine q_ck m rfl (by omega) (by decide) ?_
        refine q_bd (val m a ha (by omega) (by omega)) ?_
        refine q_bd (val m b hb (by omega) (by omega)) ?_
        dsimp only
        rw [if_neg e1]
      · unfold prT
        by_cases hle : pV sr P A m a ≤ pV sr P A m b
        · simp (disch := omega) only [bd2_s, bd_s, wr_s, ck_s, bz_s0, bz_s1, dz_s, nI_litS, nI_add, pk_mul, pk_sub, nI_leI, nI_ltI, nI_eq, ng_lt, ng_le, lt_ng, le_ng, eq_ng, ng_eq, ng_ngE, ng_ngL, ng_ngl, sub1_lt, sub1_ng, eq_self, if_pos, if_neg, if_true, if_false, Nat.zero_add, Nat.add_zero, hle]
        · simp (disch := omega) only [bd2_s, bd_s, wr_s, ck_s, bz_s0, bz_s1, dz_s, nI_litS, nI_add, pk_mul, pk_sub, nI_leI, nI_ltI, nI_eq, ng_lt, ng_le, lt_ng, le_ng, eq_ng, ng_eq, ng_ngE, ng_ngL, ng_ngl, sub1_lt, sub1_ng, eq_self, if_pos, if_neg, if_true, if_false, Nat.zero_add, Nat.add_zero, hle]
  · have e0 := e2 0 (by omega)
    rw [pV_0, pV_0] at e0
    rw [if_pos e0, e3]
    refine q_bd (a := .inr (nI 0, s)) ?_ rfl
    refine q_lp (fun i => (nI (i + 1), s)) 4 (fun i hi => step i (by omega) (e2 _ (by omega))) ?_ (by omega) rfl
    rfl
theorem m_parting {t a b : Nat} {sr : Nat → Nat} {P : Nat → Int32} {A : Nat → Nat → Int32} {d W : Int32} {s : G} (ht : t < 4) (ha : a < 24) (hb : b < 24) (h : MT t sr P A d W s) : f_X9_parting (nI t) (nI a) (nI b) d W s = some (prS (pV sr P A) a b, s) := by
  obtain ⟨h1, h2, h3⟩ := h
  have pa := h1 a ha
  have pb := h1 b hb
  have body : ∀ i, i < 5 → ∀ y, (if pV sr P A i a = pV sr P A i b then y = some (Sum.inl (nI (i + 1), s)) else y = some (.inr (.inl (nI i, pV sr P A i a, pV sr P A i b, s)))) → (fun (s3 : Int32 × G) => (if (5 : Int32) ≤ s3.1 then some (.inr (.inr (((0 : Int32), s3.2)))) else bd ((if s3.1 = 0 then some (((0 : Int32), s3.2)) else bd2 (f_X9_cell (nI t) (((21 : Int32) + s3.1) - (1 : Int32)) s3.2) fun r30 g31 => some ((r30, g31)) : Option (Int32 × G))) fun (s12 : Int32 × G) => bd ((if s3.1 = 0 then bd2 (f_X9_pointsOf (nI t) (nI a) d W s12.2) fun r24 g25 => bd2 (f_X9_pointsOf (nI t) (nI b) d W g25) fun r26 g27 => some ((r24, r26, g27)) else if s12.1 ≤ 0 then some (((0 : Int32), (0 : Int32), s12.2)) else bd2 (f_X9_sumOf (nI t) (nI a) s12.1 d W s12.2) fun r20 g21 => bd2 (f_X9_sumOf (nI t) (nI b) s12.1 d W g21) fun r22 g23 => some ((r20, r22, g23)) : Option (Int32 × Int32 × G))) fun (s16 : Int32 × Int32 × G) => if s16.1 = s16.2.1 then some (.inl ((s3.1 + (1 : Int32)), s16.2.2)) else some (.inr (.inl (s3.1, s16.1, s16.2.1, s16.2.2))) : Option ((Int32 × G) ⊕ ((Int32 × Int32 × Int32 × G) ⊕ (Int32 × G))))) (nI i, s) = y := by
    intro i hi y hy
    have tl : ∀ x z : Int32, x = pV sr P A i a → z = pV sr P A i b → (if x = z then some (.inl ((nI (i + 1)), s)) else some (.inr (.inl (nI i, x, z, s))) : Option ((Int32 × G) ⊕ ((Int32 × Int32 × Int32 × G) ⊕ (Int32 × G)))) = y := by
      rintro x z rfl rfl
      by_cases q : pV sr P A i a = pV sr P A i b
      · rw [if_pos q] at hy ⊢
        exact hy.symm
      · rw [if_neg q] at hy ⊢
        exact hy.symm
    by_cases i0 : i = 0
    · subst i0
      simp (disch := omega) only [bd2_s, bd_s, wr_s, ck_s, bz_s0, bz_s1, dz_s, nI_litS, nI_add, pk_mul, pk_sub, nI_leI, nI_ltI, nI_eq, ng_lt, ng_le, lt_ng, le_ng, eq_ng, ng_eq, ng_ngE, ng_ngL, ng_ngl, sub1_lt, sub1_ng, eq_self, if_pos, if_neg, if_true, if_false, Nat.zero_add, Nat.add_zero, pa, pb]
      exact tl _ _ pV_0.symm pV_0.symm
    · obtain ⟨q1, q2⟩ := h3 i (by omega) (by omega)
      have e21 : 21 + i - 1 = 20 + i := by omega
      by_cases z : sr i = 0
      · rw [z] at q2
        simp (disch := omega) only [bd2_s, bd_s, wr_s, ck_s, bz_s0, bz_s1, dz_s, nI_litS, nI_add, pk_mul, pk_sub, nI_leI, nI_ltI, nI_eq, ng_lt, ng_le, lt_ng, le_ng, eq_ng, ng_eq, ng_ngE, ng_ngL, ng_ngl, sub1_lt, sub1_ng, eq_self, if_pos, if_neg, if_true, if_false, Nat.zero_add, Nat.add_zero, f_X9_cell, e21, rw_k s t, q2]
        rw [← tl (nI 0) (nI 0) (pV_z (by omega) z).symm (pV_z (by omega) z).symm, if_pos rfl]
      · have u1 := h2 a (sr i) ha (by omega)
        have u2 := h2 b (sr i) hb (by omega)
        simp (disch := omega) only [bd2_s, bd_s, wr_s, ck_s, bz_s0, bz_s1, dz_s, nI_litS, nI_add, pk_mul, pk_sub, nI_leI, nI_ltI, nI_eq, ng_lt, ng_le, lt_ng, le_ng, eq_ng, ng_eq, ng_ngE, ng_ngL, ng_ngl, sub1_lt, sub1_ng, eq_self, if_pos, if_neg, if_true, if_false, Nat.zero_add, Nat.add_zero, f_X9_cell, e21, rw_k s t, q2, u1, u2]
        exact tl _ _ (pV_a (by omega) z).symm (pV_a (by omega) z).symm
  unfold f_X9_parting
  rcases pr_cases (pV sr P A) a b with ⟨m, m5, e1, e2, e3⟩ | ⟨e2, e3⟩
  · rw [e3]
    refine q_bd (a := .inl (nI m, pV sr P A m a, pV sr P A m b, s)) ?_ ?_
    · refine q_lp (fun i => (nI i, s)) m (fun i hi => body i (by omega) _ ?_) (body m m5 _ ?_) (by omega) rfl
      · rw [if_pos (e2 i hi)]
      · rw [if_neg e1]
    · unfold prT
      by_cases hle : pV sr P A m a ≤ pV sr P A m b
      · simp (disch := omega) only [bd2_s, bd_s, wr_s, ck_s, bz_s0, bz_s1, dz_s, nI_litS, nI_add, pk_mul, pk_sub, nI_leI, nI_ltI, nI_eq, ng_lt, ng_le, lt_ng, le_ng, eq_ng, ng_eq, ng_ngE, ng_ngL, ng_ngl, sub1_lt, sub1_ng, eq_self, if_pos, if_neg, if_true, if_false, Nat.zero_add, Nat.add_zero, hle]
      · simp (disch := omega) only [bd2_s, bd_s, wr_s, ck_s, bz_s0, bz_s1, dz_s, nI_litS, nI_add, pk_mul, pk_sub, nI_leI, nI_ltI, nI_eq, ng_lt, ng_le, lt_ng, le_ng, eq_ng, ng_eq, ng_ngE, ng_ngL, ng_ngl, sub1_lt, sub1_ng, eq_self, if_pos, if_neg, if_true, if_false, Nat.zero_add, Nat.add_zero, hle]
  · rw [e3]
    refine q_bd (a := .inr (nI 0, s)) ?_ rfl
    refine q_lp (fun i => (nI i, s)) 5 (fun i hi => body i (by omega) _ ?_) rfl (by omega) rfl
    rw [if_pos (e2 i hi)]
/-- how many of the first i are AHEAD of p -/
def ahN (V : Nat → Nat → Int32) (c : Nat → Nat) (p : Nat) : Nat → Int32
  | 0 => nI 0
  | i + 1 => ahN V c p i + (if prS V (c i) p - prS V (c i) p / nI 10 * nI 10 = nI 1 then nI 1 else nI 0)
def lsN (V : Nat → Nat → Int32) (c : Nat → Nat) (p : Nat) : Nat → Int32
  | 0 => nI 0
  | i + 1 => lsN V c p i + (if c i < p ∧ prS V (c i) p = nI 0 then nI 1 else nI 0)
/-- who is in, as the class and the model have it -/
def CW (t n : Nat) (c : Nat → Nat) (s : G) : Prop := n ≤ 10 ∧ s (47 + 28 * t) 1 = nI n ∧ ∀ i, i < n → c i < 24 ∧ s (47 + 28 * t + 1) i = nI (c i)
def MW (t n : Nat) (c : Nat → Nat) (s : G) : Prop := n ≤ 10 ∧ rowT s t 0 = nI n ∧ ∀ i, i < n → c i < 24 ∧ rowT s t (1 + i) = nI (c i)
theorem c_aheadOf {t n p : Nat} {c : Nat → Nat} {sr : Nat → Nat} {P : Nat → Int32} {A : Nat → Nat → Int32} {s : G} (hp : p < 24) (h : CT t sr P A s) (hw : CW t n c s) : f_X6_aheadOf (47 + 28 * t) (nI p) s = some (ahN (pV sr P A) c p n, s) := by
  obtain ⟨n10, w1, w2⟩ := hw
  unfold f_X6_aheadOf
  refine q_bd (a := (ahN (pV sr P A) c p n, s)) ?_ rfl
  refine q_lp (fun i => (ahN (pV sr P A) c p i, nI i, s)) n (fun i hi => ?_) (by simp (disch := omega) only [bd2_s, bd_s, wr_s, ck_s, bz_s0, bz_s1, dz_s, nI_litS, nI_add, pk_mul, pk_sub, nI_leI, nI_ltI, nI_eq, ng_lt, ng_le, lt_ng, le_ng, eq_ng, ng_eq, ng_ngE, ng_ngL, ng_ngl, sub1_lt, sub1_ng, eq_self, if_pos, if_neg, if_true, if_false, Nat.zero_add, Nat.add_zero, w1]) (by omega) rfl
  obtain ⟨q1, q2⟩ := w2 i hi
  have pr := c_parting q1 hp h
  rw [ahN]
  by_cases x1 : prS (pV sr P A) (c i) p - prS (pV sr P A) (c i) p / nI 10 * nI 10 = nI 1
  · simp (disch := omega) only [bd2_s, bd_s, wr_s, ck_s, bz_s0, bz_s1, dz_s, nI_litS, nI_add, pk_mul, pk_sub, nI_leI, nI_ltI, nI_eq, ng_lt, ng_le, lt_ng, le_ng, eq_ng, ng_eq, ng_ngE, ng_ngL, ng_ngl, sub1_lt, sub1_ng, eq_self, if_pos, if_neg, if_true, if_false, Nat.zero_add, Nat.add_zero, w1, q2, pr, x1]
  · simp (disch := omega) only [bd2_s, bd_s, wr_s, ck_s, bz_s0, bz_s1, dz_s, nI_litS, nI_add, pk_mul, pk_sub, nI_leI, nI_ltI, nI_eq, ng_lt, ng_le, lt_ng, le_ng, eq_ng, ng_eq, ng_ngE, ng_ngL, ng_ngl, sub1_lt, sub1_ng, eq_self, if_pos, if_neg, if_true, if_false, Nat.zero_add, Nat.add_zero, w1, q2, pr, x1, i32_a0]
theorem m_ahead {t n p : Nat} {c : Nat → Nat} {sr : Nat → Nat} {P : Nat → Int32} {A : Nat → Nat → Int32} {d W : Int32} {s : G} (ht : t < 4) (hp : p < 24) (h : MT t sr P A d W s) (hw : MW t n c s) : f_X9_ahead (nI t) (nI p) d W s = some (ahN (pV sr P A) c p n, s) := by
  obtain ⟨n10, w1, w2⟩ := hw
  unfold f_X9_ahead
  refine q_bd (a := (ahN (pV sr P A) c p n, s)) ?_ rfl
  refine q_lp (fun i => (ahN (pV sr P A) c p i, nI i, s)) n (fun i hi => ?_) (by simp (disch := omega) only [bd2_s, bd_s, wr_s, ck_s, bz_s0, bz_s1, dz_s, nI_litS, nI_add, pk_mul, pk_sub, nI_leI, nI_ltI, nI_eq, ng_lt, ng_le, lt_ng, le_ng, eq_ng, ng_eq, ng_ngE, ng_ngL, ng_ngl, sub1_lt, sub1_ng, eq_self, if_pos, if_neg, if_true, if_false, Nat.zero_add, Nat.add_zero, f_X9_cell, rw_0 s t, w1]) (by omega) rfl
  obtain ⟨q1, q2⟩ := w2 i hi
  have pr := m_parting ht q1 hp h
  rw [ahN]
  by_cases x1 : prS (pV sr P A) (c i) p - prS (pV sr P A) (c i) p / nI 10 * nI 10 = nI 1
  · simp (disch := omega) only [bd2_s, bd_s, wr_s, ck_s, bz_s0, bz_s1, dz_s, nI_litS, nI_add, pk_mul, pk_sub, nI_leI, nI_ltI, nI_eq, ng_lt, ng_le, lt_ng, le_ng, eq_ng, ng_eq, ng_ngE, ng_ngL, ng_ngl, sub1_lt, sub1_ng, eq_self, if_pos, if_neg, if_true, if_false, Nat.zero_add, Nat.add_zero, f_X9_cell, rw_0 s t, rw_k s t, w1, q2, pr, x1]
  · simp (disch := omega) only [bd2_s, bd_s, wr_s, ck_s, bz_s0, bz_s1, dz_s, nI_litS, nI_add, pk_mul, pk_sub, nI_leI, nI_ltI, nI_eq, ng_lt, ng_le, lt_ng, le_ng, eq_ng, ng_eq, ng_ngE, ng_ngL, ng_ngl, sub1_lt, sub1_ng, eq_self, if_pos, if_neg, if_true, if_false, Nat.zero_add, Nat.add_zero, f_X9_cell, rw_0 s t, rw_k s t, w1, q2, pr, x1, i32_a0]
theorem c_lesser {t n p : Nat} {c : Nat → Nat} {sr : Nat → Nat} {P : Nat → Int32} {A : Nat → Nat → Int32} {s : G} (hp : p < 24) (h : CT t sr P A s) (hw : CW t n c s) : f_X6_lesserAlike (47 + 28 * t) (nI p) s = some (lsN (pV sr P A) c p n, s) := by
  obtain ⟨n10, w1, w2⟩ := hw
  unfold f_X6_lesserAlike
  refine q_bd (a := (lsN (pV sr P A) c p n, s)) ?_ rfl
  refine q_lp (fun i => (lsN (pV sr P A) c p i, nI i, s)) n (fun i hi => ?_) (by simp (disch := omega) only [bd2_s, bd_s, wr_s, ck_s, bz_s0, bz_s1, dz_s, nI_litS, nI_add, pk_mul, pk_sub, nI_leI, nI_ltI, nI_eq, ng_lt, ng_le, lt_ng, le_ng, eq_ng, ng_eq, ng_ngE, ng_ngL, ng_ngl, sub1_lt, sub1_ng, eq_self, if_pos, if_neg, if_true, if_false, Nat.zero_add, Nat.add_zero, w1]) (by omega) rfl
  obtain ⟨q1, q2⟩ := w2 i hi
  have pr := c_parting q1 hp h
  rw [lsN]
  by_cases x1 : c i < p
  · by_cases x2 : prS (pV sr P A) (c i) p = nI 0
    · simp (disch := omega) only [bd2_s, bd_s, wr_s, ck_s, bz_s0, bz_s1, dz_s, nI_litS, nI_add, pk_mul, pk_sub, nI_leI, nI_ltI, nI_eq, ng_lt, ng_le, lt_ng, le_ng, eq_ng, ng_eq, ng_ngE, ng_ngL, ng_ngl, sub1_lt, sub1_ng, eq_self, if_pos, if_neg, if_true, if_false, Nat.zero_add, Nat.add_zero, w1, q2, pr, x1, x2, and_self]
    · simp (disch := omega) only [bd2_s, bd_s, wr_s, ck_s, bz_s0, bz_s1, dz_s, nI_litS, nI_add, pk_mul, pk_sub, nI_leI, nI_ltI, nI_eq, ng_lt, ng_le, lt_ng, le_ng, eq_ng, ng_eq, ng_ngE, ng_ngL, ng_ngl, sub1_lt, sub1_ng, eq_self, if_pos, if_neg, if_true, if_false, Nat.zero_add, Nat.add_zero, w1, q2, pr, x2, and_false, i32_a0]
  · simp (disch := omega) only [bd2_s, bd_s, wr_s, ck_s, bz_s0, bz_s1, dz_s, nI_litS, nI_add, pk_mul, pk_sub, nI_leI, nI_ltI, nI_eq, ng_lt, ng_le, lt_ng, le_ng, eq_ng, ng_eq, ng_ngE, ng_ngL, ng_ngl, sub1_lt, sub1_ng, eq_self, if_pos, if_neg, if_true, if_false, Nat.zero_add, Nat.add_zero, w1, q2, x1, false_and, i32_a0]
theorem c_whoIs {t n : Nat} {k : Int32} {c : Nat → Nat} {sr : Nat → Nat} {P : Nat → Int32} {A : Nat → Nat → Int32} {s : G} (h : CT t sr P A s) (hw : CW t n c s) : (∃ m, m < n ∧ (ahN (pV sr P A) c (c m) n + lsN (pV sr P A) c (c m) n = k ∧ ∀ i, i < m → ¬ ahN (pV sr P A) c (c i) n + lsN (pV sr P A) c (c i) n = k) ∧ f_X6_whoIs (47 + 28 * t) k s = some (nI (c m), s)) ∨ ((∀ i, i < n → ¬ ahN (pV sr P A) c (c i) n + lsN (pV sr P A) c (c i) n = k) ∧ f_X6_whoIs (47 + 28 * t) k s = some (-nI 1, s)) := by
  have ah := fun p hp => c_aheadOf (p := p) hp h hw
  have ls := fun p hp => c_lesser (p := p) hp h hw
  obtain ⟨n10, w1, w2⟩ := hw
  have stp : ∀ i, i < n → ¬ ahN (pV sr P A) c (c i) n + lsN (pV sr P A) c (c i) n = k → ck (nI i) 10 (fun j7 => bd2 (f_X6_aheadOf (47 + 28 * t) (s (47 + 28 * t + 1) j7) s) fun r8 g9 => bd2 (f_X6_lesserAlike (47 + 28 * t) (s (47 + 28 * t + 1) j7) g9) fun r10 g11 => if (r8 + r10) = k then some (.inr (.inr (((s (47 + 28 * t + 1) j7), g11)))) else some (.inl ((nI i + (1 : Int32)), g11))) = some (.inl (nI (i + 1), s) : (Int32 × G) ⊕ ((G) ⊕ (Int32 × G))) := by
    intro i hi hne
    obtain ⟨q1, q2⟩ := w2 i hi
    have a1 := ah _ q1
    have a2 := ls _ q1
    simp (disch := omega) only [bd2_s, bd_s, wr_s, ck_s, bz_s0, bz_s1, dz_s, nI_litS, nI_add, pk_mul, pk_sub, nI_leI, nI_ltI, nI_eq, ng_lt, ng_le, lt_ng, le_ng, eq_ng, ng_eq, ng_ngE, ng_ngL, ng_ngl, sub1_lt, sub1_ng, eq_self, if_pos, if_neg, if_true, if_false, Nat.zero_add, Nat.add_zero, q2, a1, a2, hne]
  rcases first_or (fun i => ahN (pV sr P A) c (c i) n + lsN (pV sr P A) c (c i) n = k) n with ⟨m, h1, h2, h3⟩ | h0
  · refine Or.inl ⟨m, h1, ⟨h2, h3⟩, ?_⟩
    unfold f_X6_whoIs
    refine q_bd (a := .inr (nI (c m), s)) ?_ rfl
    refine q_lp (fun i => (nI i, s)) m (fun i hi => ?_) ?_ (by omega) rfl
    · dsimp only
      refine q_if_f (by rw [w1]; exact nI_ge (by omega) (by omega)) ?_
      exact stp i (by omega) (h3 i hi)
    · obtain ⟨q1, q2⟩ := w2 m h1
      have a1 := ah _ q1
      have a2 := ls _ q1
      simp (disch := omega) only [bd2_s, bd_s, wr_s, ck_s, bz_s0, bz_s1, dz_s, nI_litS, nI_add, pk_mul, pk_sub, nI_leI, nI_ltI, nI_eq, ng_lt, ng_le, lt_ng, le_ng, eq_ng, ng_eq, ng_ngE, ng_ngL, ng_ngl, sub1_lt, sub1_ng, eq_self, if_pos, if_neg, if_true, if_false, Nat.zero_add, Nat.add_zero, w1, q2, a1, a2, h2]
  · refine Or.inr ⟨h0, ?_⟩
    unfold f_X6_whoIs
    refine q_bd (a := .inl s) ?_ rfl
    refine q_lp (fun i => (nI i, s)) n (fun i hi => ?_) ?_ (by omega) rfl
    · dsimp only
      refine q_if_f (by rw [w1]; exact nI_ge (by omega) (by omega)) ?_
      exact stp i (by omega) (h0 i hi)
    · simp (disch := omega) only [bd2_s, bd_s, wr_s, ck_s, bz_s0, bz_s1, dz_s, nI_litS, nI_add, pk_mul, pk_sub, nI_leI, nI_ltI, nI_eq, ng_lt, ng_le, lt_ng, le_ng, eq_ng, ng_eq, ng_ngE, ng_ngL, ng_ngl, sub1_lt, sub1_ng, eq_self, if_pos, if_neg, if_true, if_false, Nat.zero_add, Nat.add_zero, w1]
