/-! Who is first: class and model. -/
theorem pr_mod (V : Nat → Nat → Int32) (a b : Nat) : ∃ v, v < 100 ∧ prS V a b = nI v ∧ (v % 10 = 0 ↔ v = 0) := by
  rcases pr_cases V a b with ⟨m, h5, -, -, e⟩ | ⟨-, e⟩
  · unfold prT at e
    by_cases h : V m a ≤ V m b
    · rw [if_pos h] at e
      exact ⟨10 * m + 2, by omega, e, by omega⟩
    · rw [if_neg h] at e
      exact ⟨10 * m + 1, by omega, e, by omega⟩
  · exact ⟨0, by omega, e, by omega⟩
theorem pr_gt {V : Nat → Nat → Int32} {a b : Nat} (h : ¬ V 0 a ≤ V 0 b) : prS V a b = nI 1 := by
  unfold prS
  rw [if_pos (fun e => h (by rw [e]; exact Int32.le_refl _))]
  unfold prT
  rw [if_neg h]
abbrev badP (al : Nat) (x : Int32) : Prop := x - x / nI 10 * nI 10 = nI 1 ∨ (al = 1 ∧ x = nI 0)
def frst (V : Nat → Nat → Int32) (c : Nat → Nat) (n p al : Nat) : Prop := ∀ i, i < n → c i ≠ p → ¬ badP al (prS V (c i) p)
theorem c_outsc {t n p : Nat} {c : Nat → Nat} {P : Nat → Int32} {s : G} (hp : p < 24) (h19 : ∀ q, q < 24 → s 19 q = P q) (hw : CW t n c s) : (f_X6_isOutscored (47 + 28 * t) (nI p) s = some (nI 1, s) ∧ ∃ m, m < n ∧ ¬ P (c m) ≤ P p) ∨ f_X6_isOutscored (47 + 28 * t) (nI p) s = some (nI 0, s) := by
  obtain ⟨n10, w1, w2⟩ := hw
  have step : ∀ i, i < n → P (c i) ≤ P p → (if (s (47 + 28 * t) 1) ≤ nI i then some (.inr (.inl ())) else ck (nI i) 10 fun j5 => ck (s (47 + 28 * t + 1) j5) 24 fun j6 => ck (nI p) 24 fun j7 => if (s 19 j6) ≤ (s 19 j7) then some (.inl ((nI i + (1 : Int32)))) else some (.inr (.inr (((1 : Int32), s)))) : Option ((Int32) ⊕ ((Unit) ⊕ (Int32 × G)))) = some (.inl (nI (i + 1))) := by
    intro i hi hle
    obtain ⟨q1, q2⟩ := w2 i hi
    refine q_if_f (by rw [w1]; exact nI_ge hi (by omega)) ?_
    refine q_ck i rfl (by omega) (by decide) ?_
    refine q_ck (c i) q2 q1 (by decide) ?_
    refine q_ck p rfl hp (by decide) ?_
    refine q_if_t (by rw [h19 _ q1, h19 _ hp]; exact hle) ?_
    rw [nI_1]
  rcases first_or (fun i => ¬ P (c i) ≤ P p) n with ⟨m, h1, h2, h3⟩ | h
  · refine Or.inl ⟨?_, m, h1, h2⟩
    unfold f_X6_isOutscored
    refine q_bd (a := .inr (nI 1, s)) ?_ rfl
    refine q_lp (fun i => nI i) m (fun i hi => step i (by omega) (Classical.not_not.mp (h3 i hi))) ?_ (by omega) rfl
    obtain ⟨q1, q2⟩ := w2 m h1
    refine q_if_f (by rw [w1]; exact nI_ge h1 (by omega)) ?_
    refine q_ck m rfl (by omega) (by decide) ?_
    refine q_ck (c m) q2 q1 (by decide) ?_
    refine q_ck p rfl hp (by decide) ?_
    refine q_if_f (by rw [h19 _ q1, h19 _ hp]; exact h2) ?_
    rfl
  · refine Or.inr ?_
    unfold f_X6_isOutscored
    refine q_bd (a := .inl ()) ?_ rfl
    refine q_lp (fun i => nI i) n (fun i hi => step i hi (Classical.not_not.mp (h i hi))) ?_ (by omega) rfl
    exact q_if_t (by rw [w1]; exact Int32.le_refl _) rfl
theorem c_isFirst {np t n dr e p al : Nat} {g : G} {o : Nat → Int32} (hT : TT g np t n dr e) (hp : p < 24) (hal : al ≤ 1) (ho : ∀ c, c < 30 → g 17 c = o c) : Ev (f_X6_isFirst (47 + 28 * t) (nI p) (nI al) g) (fun q => (∀ a, ¬ (19 ≤ a ∧ a ≤ 26) → q.2 a = g a) ∧ ((q.1 = nI 1 ∧ frst (pV (sr0 (rowT g t)) (PT (rowT g t) (nI 2147483647) o dr) (SM (rowT g t) (nI 2147483647) o dr)) (cm (rowT g t)) n p al) ∨ (q.1 = nI 0 ∧ ¬ frst (pV (sr0 (rowT g t)) (PT (rowT g t) (nI 2147483647) o dr) (SM (rowT g t) (nI 2147483647) o dr)) (cm (rowT g t)) n p al))) := by
  have h24 := hT.1
  have ht := hT.2.1
  unfold f_X6_isFirst
  refine ev_bd2 ((c_score (d := nI 2147483647) (o := o) ht h24 hT.2.2.1 hT.2.2.2.2.1 ho).imp ?_)
  rintro ⟨r1, s1⟩ ⟨x1, x2⟩
  dsimp only at x1 x2
  have hT1 : TT s1 np t n dr e := hT.cg (x1 _ (by omega)) (x1 _ (by omega)) (fun a q1 q2 => x1 a (by omega))
  have hR1 : rowT s1 t = rowT g t := rowT_ne (x1 _ (by omega))
  have hcw1 := hT1.cw
  rw [hR1] at hcw1
  rcases c_outsc (p := p) hp x2 hcw1 with ⟨q, m, hm, hgt⟩ | q
  · refine ev_call q ?_
    refine ev_f (by decide) ?_
    refine ev_some ⟨fun a ha => x1 a (by omega), Or.inr ⟨rfl, fun hf => ?_⟩⟩
    refine hf m hm (fun e => hgt (by rw [e]; exact Int32.le_refl _)) (Or.inl ?_)
    rw [pr_gt (V := pV (sr0 (rowT g t)) (PT (rowT g t) (nI 2147483647) o dr) (SM (rowT g t) (nI 2147483647) o dr)) (by rw [pV_0, pV_0]; exact hgt)]
    rfl
  · refine ev_call q ?_
    refine ev_t rfl ?_
    refine ev_bd2 ((c_tally (o := o) (pt := fun q => ptS (rowT g t) (nI 2147483647) o q dr) ht h24 hT1.2.2.1 hT1.2.2.2.2.1 (fun c hc => by rw [x1 17 (by omega)]; exact ho c hc) x2).imp ?_)
    rintro ⟨r2, s2⟩ ⟨y1, y2⟩
    dsimp only at y1 y2
    rw [hR1] at y2
    have fr2 : ∀ a, ¬ (19 ≤ a ∧ a ≤ 26) → s2 a = g a := fun a ha => (y1 a (by omega)).trans (x1 a (by omega))
    have hT2 : TT s2 np t n dr e := hT.cg (fr2 _ (by omega)) (fr2 _ (by omega)) (fun a q1 q2 => fr2 a (by omega))
    have hR2 : rowT s2 t = rowT g t := rowT_ne (fr2 _ (by omega))
    have hct := hT2.ct (d := nI 2147483647) (o := o) (by rw [hR2]; intro q hq; rw [y1 19 (by omega)]; exact x2 q hq) (by rw [hR2]; exact y2)
    rw [hR2] at hct
    have hcw := hT2.cw
    rw [hR2] at hcw
    have hpr : ∀ i, i < n → f_X6_parting (47 + 28 * t) (nI (cm (rowT g t) i)) (nI p) s2 = some (prS (pV (sr0 (rowT g t)) (PT (rowT g t) (nI 2147483647) o dr) (SM (rowT g t) (nI 2147483647) o dr)) (cm (rowT g t) i) p, s2) := fun i hi => c_parting (hcw.2.2 i hi).1 hp hct
    obtain ⟨n10, w1, w2⟩ := hcw
    generalize pV (sr0 (rowT g t)) (PT (rowT g t) (nI 2147483647) o dr) (SM (rowT g t) (nI 2147483647) o dr) = V at *
    generalize cm (rowT g t) = c at *
    have step : ∀ i, i < n → ¬ (c i ≠ p ∧ badP al (prS V (c i) p)) → (if (s2 (47 + 28 * t) 1) ≤ nI i then some (.inr (.inl (s2))) else ck (nI i) 10 fun j14 => bd2 (f_X6_parting (47 + 28 * t) (s2 (47 + 28 * t + 1) j14) (nI p) s2) fun r15 g16 => bd ((if (s2 (47 + 28 * t + 1) j14) = (nI p) then some (.inl ()) else if (r15 - r15 / (10 : Int32) * (10 : Int32)) = (1 : Int32) then some (.inr (.inr (.inr (((0 : Int32), g16))))) else if nI al = 0 then some (.inl ()) else if r15 = 0 then some (.inr (.inr (.inr (((0 : Int32), g16))))) else some (.inl ()) : Option ((Unit) ⊕ ((Int32 × G) ⊕ ((G) ⊕ (Int32 × G)))))) fun s22m => (match s22m with | .inl _ => (some (.inl ((nI i + (1 : Int32)), g16))) | .inr y => some y) : Option ((Int32 × G) ⊕ ((G) ⊕ (Int32 × G)))) = some (.inl (nI (i + 1), s2)) := by
      intro i hi hb
      obtain ⟨q1, q2⟩ := w2 i hi
      refine q_if_f (by rw [w1]; exact nI_ge hi (by omega)) ?_
      refine q_ck i rfl (by omega) (by decide) ?_
      rw [q2]
      refine q_call (hpr i hi) ?_
      refine q_bd (a := .inl ()) ?_ (by rw [nI_1])
      by_cases ep : c i = p
      · exact q_if_t (by rw [ep]) rfl
      · refine q_if_f (fun q => ep (nI_inj (by omega) (by omega) q)) ?_
        have nb : ¬ badP al (prS V (c i) p) := fun z => hb ⟨ep, z⟩
        refine q_if_f (fun z => nb (Or.inl z)) ?_
        by_cases a0 : al = 0
        · subst a0; exact q_if_t rfl rfl
        · have a1 : al = 1 := by omega
          subst a1
          exact q_if_f (by decide) (q_if_f (fun z => nb (Or.inr ⟨rfl, z⟩)) rfl)
    refine ev_bd ?_
    rcases first_or (fun i => c i ≠ p ∧ badP al (prS V (c i) p)) n with ⟨m, h1, ⟨h2, h2'⟩, h3⟩ | h
    · refine Ev.of (a := .inr (nI 0, s2)) ?_ (ev_some ⟨fr2, Or.inr ⟨rfl, fun hf => hf m h1 h2 h2'⟩⟩)
      refine q_lp (fun i => (nI i, s2)) m (fun i hi => step i (by omega) (h3 i hi)) ?_ (by omega) rfl
      obtain ⟨q1, q2⟩ := w2 m h1
      dsimp only
      refine q_if_f (by rw [w1]; exact nI_ge h1 (by omega)) ?_
      refine q_ck m rfl (by omega) (by decide) ?_
      refine q_call (show f_X6_parting (47 + 28 * t) (s2 (47 + 28 * t + 1) m) (nI p) s2 = some (prS V (c m) p, s2) by rw [q2]; exact hpr m h1) ?_
      refine q_bd (a := .inr (.inr (.inr (nI 0, s2)))) ?_ rfl
      refine q_if_f (fun q => h2 (nI_inj (by omega) (by omega) (q2.symm.trans q))) ?_
      by_cases z1 : prS V (c m) p - prS V (c m) p / nI 10 * nI 10 = nI 1
      · exact q_if_t z1 rfl
      · obtain ⟨a1, z2⟩ := h2'.resolve_left z1
        subst a1
        exact q_if_f z1 (q_if_f (by decide) (q_if_t z2 rfl))
    · refine Ev.of (a := .inl s2) ?_ (ev_some ⟨fr2, Or.inl ⟨rfl, fun i hi h1 h2 => h i hi ⟨h1, h2⟩⟩⟩)
      refine q_lp (fun i => (nI i, s2)) n (fun i hi => step i hi (h i hi)) ?_ (by omega) rfl
      exact q_if_t (by show s2 (47 + 28 * t) 1 ≤ nI n; rw [w1]; exact Int32.le_refl _) rfl
/-- the model's answer, player by player -/
def foI (V : Nat → Nat → Int32) (c : Nat → Nat) (p al : Nat) : Nat → Int32
  | 0 => nI 1
  | i + 1 => if c i ≠ p ∧ badP al (prS V (c i) p) then nI 0 else foI V c p al i
theorem fo_cases (V : Nat → Nat → Int32) (c : Nat → Nat) (p al n : Nat) : (foI V c p al n = nI 1 ∧ frst V c n p al) ∨ (foI V c p al n = nI 0 ∧ ¬ frst V c n p al) := by
  induction n with
  | zero => exact Or.inl ⟨rfl, fun i hi => absurd hi (Nat.not_lt_zero i)⟩
  | succ n ih =>
    rw [foI]
    by_cases h : c n ≠ p ∧ badP al (prS V (c n) p)
    · rw [if_pos h]
      exact Or.inr ⟨rfl, fun hf => hf n (by omega) h.1 h.2⟩
    · rw [if_neg h]
      rcases ih with ⟨e, hf⟩ | ⟨e, hf⟩
      · refine Or.inl ⟨e, fun i hi h1 h2 => ?_⟩
        by_cases q : i = n
        · subst q; exact h ⟨h1, h2⟩
        · exact hf i (by omega) h1 h2
      · exact Or.inr ⟨e, fun q => hf (fun i hi => q i (by omega))⟩
def nxI (f x a : Int32) : Int32 := if f = 0 then nI 0 else if x = 1 then nI 0 else if a = 0 then nI 1 else if x = 0 then nI 0 else nI 1
theorem m_isFirst {t n p al : Nat} {c : Nat → Nat} {sr : Nat → Nat} {P : Nat → Int32} {A : Nat → Nat → Int32} {W : Int32} {s : G} (ht : t < 4) (hp : p < 24) (hal : al ≤ 1) (h : MT t sr P A (nI 2147483647) W s) (hw : MW t n c s) : f_X9_isFirst (nI t) (nI p) (nI al) W s = some (foI (pV sr P A) c p al n, s) := by
  have pr := fun a ha => m_parting (a := a) (b := p) ht ha hp h
  obtain ⟨n10, w1, w2⟩ := hw
  have c0 : f_X9_cell (nI t) 0 s = some (nI n, s) := by simp (disch := omega) only [bd2_s, bd_s, wr_s, ck_s, bz_s0, bz_s1, dz_s, nI_litS, nI_add, pk_mul, pk_sub, nI_leI, nI_ltI, nI_eq, ng_lt, ng_le, lt_ng, le_ng, eq_ng, ng_eq, ng_ngE, ng_ngL, ng_ngl, sub1_lt, sub1_ng, eq_self, if_pos, if_neg, if_true, if_false, Nat.zero_add, Nat.add_zero, f_X9_cell, rw_0 s t, w1]
  generalize pV sr P A = V at *
  unfold f_X9_isFirst
  refine q_bd (a := (foI V c p al n, s)) ?_ ?_
  · refine q_lp (fun i => (foI V c p al i, nI i, s)) n (fun i hi => ?_) ?_ (by omega) rfl
    · obtain ⟨q1, q2⟩ := w2 i hi
      have c1 : f_X9_cell (nI t) (1 + nI i) s = some (nI (c i), s) := by simp (disch := omega) only [bd2_s, bd_s, wr_s, ck_s, bz_s0, bz_s1, dz_s, nI_litS, nI_add, pk_mul, pk_sub, nI_leI, nI_ltI, nI_eq, ng_lt, ng_le, lt_ng, le_ng, eq_ng, ng_eq, ng_ngE, ng_ngL, ng_ngl, sub1_lt, sub1_ng, eq_self, if_pos, if_neg, if_true, if_false, Nat.zero_add, Nat.add_zero, f_X9_cell, rw_k s t, q2]
      dsimp only
      refine q_call c0 ?_
      refine q_if_f (nI_ge hi (by omega)) ?_
      refine q_call c1 ?_
      rw [foI]
      obtain ⟨v, v1, v2, v3⟩ := pr_mod V (c i) p
      have vm : prS V (c i) p - prS V (c i) p / nI 10 * nI 10 = nI (v % 10) := by rw [v2, pk_rem (by omega) (by omega) (by omega)]
      have rest : ∀ x : Int32, (∀ y : Option ((Int32 × Int32 × G) ⊕ (Int32 × G)), y = some (.inl (nxI (foI V c p al i) x (nI al), nI (i + 1), s)) → bd ((if foI V c p al i = 0 then some (.inl (nI i)) else if x = (1 : Int32) then some (.inl (nI i)) else bd ((if nI al = 0 then some (.inl ()) else if x = 0 then some (.inr (.inl (nI i))) else some (.inl ()) : Option ((Unit) ⊕ ((Int32) ⊕ ((Int32 × Int32 × G) ⊕ (Int32 × G)))))) fun s23m => (match s23m with | .inl _ => (some (.inr (.inl ((1 : Int32), (nI i + (1 : Int32)), s)))) | .inr y => some y) : Option ((Int32) ⊕ ((Int32 × Int32 × G) ⊕ (Int32 × G))))) (fun s24m => (match s24m with | .inl s17 => (some (.inl ((0 : Int32), (s17 + (1 : Int32)), s))) | .inr y => some y)) = y) := by
        intro x y hy
        subst hy
        by_cases f0 : foI V c p al i = 0
        · rw [show nxI (foI V c p al i) x (nI al) = nI 0 from if_pos f0]
          exact q_bd (a := .inl (nI i)) (q_if_t f0 rfl) (by dsimp only; rw [nI_1]; rfl)
        · by_cases x1 : x = 1
          · rw [show nxI (foI V c p al i) x (nI al) = nI 0 by unfold nxI; rw [if_neg f0, if_pos x1]]
            exact q_bd (a := .inl (nI i)) (q_if_f f0 (q_if_t x1 rfl)) (by dsimp only; rw [nI_1]; rfl)
          · by_cases a0 : nI al = 0
            · rw [show nxI (foI V c p al i) x (nI al) = nI 1 by unfold nxI; rw [if_neg f0, if_neg x1, if_pos a0]]
              exact q_bd (a := .inr (.inl (nI 1, nI i + 1, s))) (q_if_f f0 (q_if_f x1 (q_bd (a := .inl ()) (q_if_t a0 rfl) rfl))) (by dsimp only; rw [nI_1])
            · by_cases x0 : x = 0
              · rw [show nxI (foI V c p al i) x (nI al) = nI 0 by unfold nxI; rw [if_neg f0, if_neg x1, if_neg a0, if_pos x0]]
                exact q_bd (a := .inl (nI i)) (q_if_f f0 (q_if_f x1 (q_bd (a := .inr (.inl (nI i))) (q_if_f a0 (q_if_t x0 rfl)) rfl))) (by dsimp only; rw [nI_1]; rfl)
              · rw [show nxI (foI V c p al i) x (nI al) = nI 1 by unfold nxI; rw [if_neg f0, if_neg x1, if_neg a0, if_neg x0]]
                exact q_bd (a := .inr (.inl (nI 1, nI i + 1, s))) (q_if_f f0 (q_if_f x1 (q_bd (a := .inl ()) (q_if_f a0 (q_if_f x0 rfl)) rfl))) (by dsimp only; rw [nI_1])
      have fo01 : foI V c p al i = nI 1 ∨ foI V c p al i = nI 0 := (fo_cases V c p al i).elim (fun q => Or.inl q.1) (fun q => Or.inr q.1)
      by_cases ep : c i = p
      · refine q_bd (a := (nI 2, s)) (q_if_t (by rw [ep]) rfl) ?_
        refine rest _ _ ?_
        rw [if_neg (fun q => q.1 ep)]
        rcases fo01 with e | e
        · rw [e]
          have : al = 0 ∨ al = 1 := by omega
          rcases this with rfl | rfl <;> rfl
        · rw [e]
          rfl
      · refine q_bd (a := (nI (v % 10), s)) (q_if_f (fun q => ep (nI_inj (by omega) (by omega) q)) (q_call (pr _ q1) ?_)) ?_
        · show some (prS V (c i) p - prS V (c i) p / nI 10 * nI 10, s) = _
          rw [vm]
        · refine rest _ _ ?_
          congr 3
          unfold badP
          rw [vm]
          by_cases b1 : v % 10 = 1
          · rw [if_pos (show c i ≠ p ∧ (nI (v % 10) = nI 1 ∨ _) from ⟨ep, Or.inl (by rw [b1])⟩), b1]
            rcases fo01 with e | e
            · rw [e]; rfl
            · rw [e]; rfl
          · have hb1 : ¬ nI (v % 10) = nI 1 := fun q => b1 (nI_inj (by omega) (by omega) q)
            by_cases b0 : v % 10 = 0
            · have v0 : v = 0 := v3.mp b0
              by_cases a1 : al = 1
              · rw [if_pos (show c i ≠ p ∧ (_ ∨ _) from ⟨ep, Or.inr ⟨a1, by rw [v2, v0]⟩⟩), b0]
                subst a1
                rcases fo01 with e | e
                · rw [e]; rfl
                · rw [e]; rfl
              · rw [if_neg (fun q => q.2.elim hb1 (fun z => a1 z.1)), b0]
                have a0 : al = 0 := by omega
                subst a0
                rcases fo01 with e | e
                · rw [e]; rfl
                · rw [e]; rfl
            · rw [if_neg (fun q => q.2.elim hb1 (fun z => b0 (by
                have := z.2
                rw [v2] at this
                have := nI_inj (by omega) (by omega) this
                omega)))]
              have hb0 : ¬ nI (v % 10) = nI 0 := fun q => b0 (nI_inj (by omega) (by omega) q)
              rcases fo01 with e | e
              · rw [e]
                unfold nxI
                rw [if_neg (by decide), if_neg (show ¬ nI (v % 10) = 1 from hb1), if_neg (show ¬ nI (v % 10) = 0 from hb0)]
                split <;> rfl
              · rw [e]; rfl
    · dsimp only
      refine q_call c0 ?_
      exact q_if_t (Int32.le_refl _) rfl
  · refine q_bz ?_ rfl
    rcases fo_cases V c p al n with ⟨e, -⟩ | ⟨e, -⟩
    · exact Or.inr e
    · exact Or.inl e
/-- the outcomes that are assumed -/
def supO (sel : Nat → Bool) (M x : Nat) (o : Nat → Int32) (c : Nat) : Int32 := if sel c = true then nI (dgt M x (cn sel c)) else o c
theorem m_outA {np t n dr e M x W : Nat} {g : G} {sel : Nat → Bool} (hT : TT g np t n dr e) (h25 : g 159 25 = nI 1) (h174 : ∀ c, c < 30 → g 174 c = if sel c = true then nI (dgt M x (cn sel c)) else -nI 1) : ∀ c, c < 30 → f_X9_outcomeOf (nI t) (nI c) (nI 2147483647) (nI W) g = some (supO sel M x (oc (rowT g t) (nI 2147483647) (nI W) e) c, g) := by
  intro c hc
  have ht := hT.2.1
  have h := hT.2.2.2.2.2
  have hx := h174 c hc
  have d3 : dgt M x (cn sel c) < 3 := Nat.mod_lt _ (by omega)
  unfold supO
  by_cases hs : sel c = true
  · rw [if_pos hs] at hx ⊢
    generalize dgt M x (cn sel c) = dd at *
    simp (disch := omega) only [bd2_s, bd_s, wr_s, ck_s, bz_s0, bz_s1, dz_s, nI_litS, nI_add, pk_mul, pk_sub, nI_leI, nI_ltI, nI_eq, ng_lt, ng_le, lt_ng, le_ng, eq_ng, ng_eq, ng_ngE, ng_ngL, ng_ngl, sub1_lt, sub1_ng, eq_self, if_pos, if_neg, if_true, if_false, Nat.zero_add, Nat.add_zero, f_X9_outcomeOf, h25, hx]
  · rw [if_neg hs] at hx ⊢
    have q := m_entryOf (c := c) (W := nI W) ht h
    obtain ⟨e60, c3, m110, hE, hZ⟩ := h
    unfold oc ouS
    rcases enS_ok (rowT g t) (nI W) c e with hb | ⟨j, hj, hb⟩
    · rw [hb] at q ⊢
      simp (disch := omega) only [bd2_s, bd_s, wr_s, ck_s, bz_s0, bz_s1, dz_s, nI_litS, nI_add, pk_mul, pk_sub, nI_leI, nI_ltI, nI_eq, ng_lt, ng_le, lt_ng, le_ng, eq_ng, ng_eq, ng_ngE, ng_ngL, ng_ngl, sub1_lt, sub1_ng, eq_self, if_pos, if_neg, if_true, if_false, Nat.zero_add, Nat.add_zero, f_X9_outcomeOf, h25, hx, q]
    · rw [hb] at q ⊢
      rw [if_neg (nI_nneg (by omega) (by decide)), nI_clamp (by omega)]
      by_cases h1 : rowT g t (231 + j) ≤ nI 2147483647
      · simp (disch := omega) only [bd2_s, bd_s, wr_s, ck_s, bz_s0, bz_s1, dz_s, nI_litS, nI_add, pk_mul, pk_sub, nI_leI, nI_ltI, nI_eq, ng_lt, ng_le, lt_ng, le_ng, eq_ng, ng_eq, ng_ngE, ng_ngL, ng_ngl, sub1_lt, sub1_ng, eq_self, if_pos, if_neg, if_true, if_false, Nat.zero_add, Nat.add_zero, f_X9_outcomeOf, h25, hx, q, f_X9_cell, rw_k g t, h1]
      · simp (disch := omega) only [bd2_s, bd_s, wr_s, ck_s, bz_s0, bz_s1, dz_s, nI_litS, nI_add, pk_mul, pk_sub, nI_leI, nI_ltI, nI_eq, ng_lt, ng_le, lt_ng, le_ng, eq_ng, ng_eq, ng_ngE, ng_ngL, ng_ngl, sub1_lt, sub1_ng, eq_self, if_pos, if_neg, if_true, if_false, Nat.zero_add, Nat.add_zero, f_X9_outcomeOf, h25, hx, q, f_X9_cell, rw_k g t, h1]
