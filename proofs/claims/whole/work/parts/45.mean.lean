/-! The call mean. -/
abbrev sl1 (F : Nat → Nat → Int32) (p : Nat) : Bool := decide (¬ F 2 p = nI 0)
abbrev sl0 (F : Nat → Nat → Int32) (p : Nat) : Bool := decide (F 2 p = nI 1)
/-- those who are selected, as the model finds them -/
def SF (R : Nat → Int32) (np t all : Nat) (sel : Nat → Bool) : Prop := (∀ p, p < 24 → sel p = true → p < np) ∧ cn sel np = cn sel 24 ∧ cn sel 24 ≤ 10 ∧ ∀ p, p < np → (sel p = false ∧ ((∀ g', rowT g' t = R → f_X9_placeOf (nI t) (nI p) g' = some (-nI 1, g')) ∨ (all = 0 ∧ ∃ k, k < 10 ∧ R (11 + k) = nI 1 ∧ ∀ g', rowT g' t = R → f_X9_placeOf (nI t) (nI p) g' = some (nI k, g')))) ∨ (sel p = true ∧ ∃ k, k < 10 ∧ (all = 0 → R (11 + k) = nI 0) ∧ ∀ g', rowT g' t = R → f_X9_placeOf (nI t) (nI p) g' = some (nI k, g'))
theorem TT.isin {g : G} {np t n dr e p : Nat} (h : TT g np t n dr e) (hp : p < 24) (hs : ¬ blkT g t 2 p = nI 0) : p < np ∧ ∃ i, i < n ∧ cm (rowT g t) i = p := by
  obtain ⟨h24, ht, hin, -⟩ := h
  rcases hin.who (p := p) ht hp with ⟨w1, -⟩ | ⟨k, w, hk, -, r1, -⟩
  · exact absurd w1 hs
  · obtain ⟨q1, -, q3⟩ := hin.at h24 hk
    have : cm (rowT g t) k = p := nI_inj (by omega) (by omega) (q3.symm.trans r1)
    exact ⟨by omega, k, hk, this⟩
theorem TT.sf1 {g : G} {np t n dr e : Nat} (h : TT g np t n dr e) : SF (rowT g t) np t 1 (sl1 (blkT g t)) := by
  have hin' : ∀ p, p < 24 → sl1 (blkT g t) p = true → p < np := fun p hp hs => (h.isin hp (of_decide_eq_true hs)).1
  have h0 := h
  obtain ⟨h24, ht, hin, -⟩ := h
  have n10 := hin.1
  refine ⟨hin', ?_, ?_, fun p hp => ?_⟩
  · refine (cn_stop _ h24 (fun i h1 h2 => ?_)).symm
    cases hs : sl1 (blkT g t) i with
    | false => rfl
    | true => have := hin' i h2 hs; omega
  · exact Nat.le_trans (cn_most n (cm (rowT g t)) _ (fun p hp hs => (h0.isin hp (of_decide_eq_true hs)).2)) n10
  · rcases hin.who (p := p) ht (by omega) with ⟨w1, w2⟩ | ⟨k, w, hk, hw, r1, r2, r3, w2⟩
    · exact Or.inl ⟨decide_eq_false (fun q => q w1), Or.inl w2⟩
    · refine Or.inr ⟨decide_eq_true (by rw [r3]; exact nI_ne (by omega) (by omega) (by omega)), k, by omega, fun q => absurd q (by decide), w2⟩
theorem TT.sf0 {g : G} {np t n dr e : Nat} (h : TT g np t n dr e) : SF (rowT g t) np t 0 (sl0 (blkT g t)) := by
  have hne : ∀ p, sl0 (blkT g t) p = true → ¬ blkT g t 2 p = nI 0 := fun p hs q => by
    have := of_decide_eq_true hs
    rw [q] at this
    exact absurd this (by decide)
  have hin' : ∀ p, p < 24 → sl0 (blkT g t) p = true → p < np := fun p hp hs => (h.isin hp (hne p hs)).1
  have h0 := h
  obtain ⟨h24, ht, hin, -⟩ := h
  have n10 := hin.1
  refine ⟨hin', ?_, ?_, fun p hp => ?_⟩
  · refine (cn_stop _ h24 (fun i h1 h2 => ?_)).symm
    cases hs : sl0 (blkT g t) i with
    | false => rfl
    | true => have := hin' i h2 hs; omega
  · exact Nat.le_trans (cn_most n (cm (rowT g t)) _ (fun p hp hs => (h0.isin hp (hne p hs)).2)) n10
  · rcases hin.who (p := p) ht (by omega) with ⟨w1, w2⟩ | ⟨k, w, hk, hw, r1, r2, r3, w2⟩
    · exact Or.inl ⟨decide_eq_false (fun q => absurd (w1.symm.trans q) (by decide)), Or.inl w2⟩
    · rcases hw with rfl | rfl
      · exact Or.inr ⟨decide_eq_true r3, k, by omega, fun _ => r2, w2⟩
      · refine Or.inl ⟨decide_eq_false (fun q => absurd (r3.symm.trans q) (by decide)), Or.inr ⟨rfl, k, by omega, r2, w2⟩⟩
theorem TT.all {g : G} {np t n dr e : Nat} (h : TT g np t n dr e) (v : Nat → Int32) : sumS (sl1 (blkT g t)) v 24 = sumI (fun i => v (cm (rowT g t) i)) n := by
  have h0 := h
  obtain ⟨h24, ht, hin, -⟩ := h
  refine sum_perm n _ _ (fun i hi => ?_) (fun i j hi hj e => ?_) (fun p hp => ⟨fun hs => (h0.isin hp (of_decide_eq_true hs)).2, ?_⟩)
  · have := (hin.at h24 hi).1
    omega
  · refine hin.2.2.2.2.1 i j hi hj ?_
    rw [(hin.at h24 hi).2.2, (hin.at h24 hj).2.2, e]
  · rintro ⟨i, hi, rfl⟩
    refine decide_eq_true ?_
    obtain ⟨q1, -, q3⟩ := hin.at h24 hi
    rcases hin.2.2.2.2.2.2.2 _ hp with ⟨-, z⟩ | ⟨k, hk, -, z⟩
    · exact absurd q3 (z i hi)
    · rw [z]
      rcases hin.2.2.2.2.2.1 k hk with y | y
      · rw [y]; decide
      · rw [y]; decide
theorem TT.cnn {g : G} {np t n dr e : Nat} (h : TT g np t n dr e) : cn (sl1 (blkT g t)) 24 = n := by
  have q := h.all (fun _ => nI 1)
  rw [sumS_one, sumI_one] at q
  have := cn_bd (sl1 (blkT g t)) 24
  have := h.2.2.1.1
  exact nI_inj (by omega) (by omega) q
theorem Scr.up159 {g s : G} (h : Scr g s) (k : Nat) (v : Int32) : Scr (up2 g 159 k v) (up2 s 159 k v) := by
  refine ⟨fun a q1 q2 q3 => ?_, fun j q => ?_⟩
  · rw [up2_ne q3, up2_ne q3]
    exact h.1 a q1 q2 q3
  · rw [up2_eq, up2_eq]
    by_cases e : j = k
    · subst e; rw [upd_eq, upd_eq]
    · rw [upd_ne e, upd_ne e]
      exact h.2 j q
/-- the end of a call that begins with an empty trace -/
theorem inv_cl {g s s1 s2 : G} {T : List Int32} {f : Int32} (hI : Inv g) (h1 : Scr (cE T f (up2 g 1 1 0)) s) (h2 : Scr (up2 s 159 2 0) s1) (h3 : Scr (mE T f s1) s2) : Inv s2 := by
  have q1 := (h1.up159 2 0).trans h2
  rw [cE_159] at q1
  exact ((hI.clear.eff T f).scr (q1.mE T f)).scr h3
theorem Scr.one {g s : G} {b : Nat} (hb : (15 ≤ b ∧ b ≤ 41) ∨ (174 ≤ b ∧ b ≤ 183)) (h : ∀ a, a ≠ b → s a = g a) : Scr g s := ⟨fun a q1 q2 q3 => h a (by omega), fun k _ => by rw [h 159 (by omega)]⟩
theorem Scr.gat {g s : G} (h1 : ∀ a, a ≠ 159 → a ≠ 175 → s a = g a) (h2 : ∀ k, k ≠ 30 → s 159 k = g 159 k) : Scr g s := ⟨fun a q1 q2 q3 => h1 a q3 (by omega), fun k q => h2 k (by omega)⟩
theorem c_log {g : G} : f_X1_clear g = some (nI 0, up2 g 1 1 0) := rfl
/-- the first of those who are selected whose worth is a finding -/
theorem worst (w : Nat → List Int32 × Int32 × Int32) (sel : Nat → Bool) : ∃ m, m ≤ cn sel 24 ∧ (∀ i, i < m → (w (wf sel 24 i)).2.2 = 0) ∧ (m = cn sel 24 ∨ (m < cn sel 24 ∧ ¬ (w (wf sel 24 m)).2.2 = 0)) := by
  rcases first_or (fun i => ¬ (w (wf sel 24 i)).2.2 = 0) (cn sel 24) with ⟨m, h1, h2, h3⟩ | h
  · exact ⟨m, by omega, fun i hi => Classical.not_not.mp (h3 i hi), Or.inr ⟨h1, h2⟩⟩
  · exact ⟨_, Nat.le_refl _, fun i hi => Classical.not_not.mp (h i hi), Or.inl rfl⟩
/-- the same by numbers -/
theorem worst_p {w : Nat → List Int32 × Int32 × Int32} {sel : Nat → Bool} {m : Nat} (h1 : ∀ i, i < m → (w (wf sel 24 i)).2.2 = 0) (h2 : m = cn sel 24 ∨ (m < cn sel 24 ∧ ¬ (w (wf sel 24 m)).2.2 = 0)) : ∃ k, k ≤ 24 ∧ (∀ q, q < k → sel q = true → (w q).2.2 = 0) ∧ ((k = 24 ∧ m = cn sel 24) ∨ (m < cn sel 24 ∧ k < 24 ∧ k = wf sel 24 m ∧ cn sel k = m ∧ sel k = true ∧ ¬ (w k).2.2 = 0)) := by
  rcases h2 with e | ⟨hlt, hf⟩
  · refine ⟨24, Nat.le_refl _, fun q hq hs => ?_, Or.inl ⟨rfl, e⟩⟩
    have := h1 (cn sel q) (by rw [e]; exact cn_lt sel hq hs)
    rw [wf_at sel hq hs] at this
    exact this
  · obtain ⟨q1, q2, q3⟩ := wf_ok sel hlt
    refine ⟨wf sel 24 m, by omega, fun q hq hs => ?_, Or.inr ⟨hlt, q1, rfl, q3, q2, hf⟩⟩
    have := h1 (cn sel q) (by have := cn_lt sel hq hs; omega)
    rw [wf_at sel (by omega) hs] at this
    exact this
abbrev woG (g : G) (p : Nat) : List Int32 × Int32 × Int32 := woE (g 4) (g 5) (g 6) (g 7) p
abbrev whG (g : G) (t : Nat) : Nat → Nat := wf (sl1 (blkT g t)) 24
/-- the model's gathering and asking, behind the class's call -/
theorem TT.ga {g : G} {np t n dr e m : Nat} (hT : TT g np t n dr e) (hI : Inv g) (e2 : g 159 3 = nI np) (m1 : m ≤ n) (m2 : ∀ i, i < m → (woG g (whG g t i)).2.2 = 0) (m3 : m = n ∨ (m < n ∧ ¬ (woG g (whG g t m)).2.2 = 0)) {T : List Int32} {f : Int32} {s : G} (hs : Scr (cE T f (up2 g 1 1 0)) s) : ∃ s1 ra s2, f_X9_gather (nI t) (nI 1) (up2 s 159 2 0) = some (0, s1) ∧ Scr (up2 s 159 2 0) s1 ∧ s1 159 30 = nI n ∧ (∀ i, i < n → s1 175 i = nI (whG g t i)) ∧ f_X9_askWorths s1 = some (ra, s2) ∧ ((m = n ∧ ra = nI 1 ∧ (∀ a, a ≠ 176 → s2 a = mE (tI (woG g) (whG g t) n) 0 s1 a) ∧ ∀ i, i < n → s2 176 i = (woG g (whG g t i)).2.1) ∨ (m < n ∧ ra = -nI 5 ∧ ∀ a, a ≠ 176 → s2 a = mE (tI (woG g) (whG g t) (m + 1)) (woG g (whG g t m)).2.2 s1 a)) := by
  have h24 := hT.1
  have n10 := hT.2.2.1.1
  obtain ⟨np', -, -, enp, hR4, hR161, -, hww⟩ := hI.1.rw
  have : np' = np := nI_inj (by have := hR4.1; omega) (by omega) (enp.symm.trans e2)
  subst this
  obtain ⟨f1, f2, f3, f4⟩ := hT.sf1
  have hcn := hT.cnn
  have z : ∀ a, ¬ (15 ≤ a ∧ a ≤ 41) → ¬ (174 ≤ a ∧ a ≤ 183) → a ≠ 159 → a ≠ 1 → a ≠ 2 → up2 s 159 2 0 a = g a := by
    intro a q1 q2 q3 q4 q5
    rw [up2_ne q3, hs.1 a q1 q2 q3, cE_off q4 q5, up2_ne q4]
  have zf : ∀ k, ¬ (30 ≤ k ∧ k ≤ 34) → k ≠ 2 → up2 s 159 2 0 159 k = g 159 k := by
    intro k q1 q2
    rw [up2_eq, upd_ne q2, hs.2 k q1, cE_off (by omega) (by omega), up2_ne (by omega)]
  have hrow : rowT (up2 s 159 2 0) t = rowT g t := rowT_ne (z 165 (by omega) (by omega) (by omega) (by omega) (by omega))
  obtain ⟨⟨r1, s1⟩, ee1, y0, y1, y2, y3, y4⟩ := m_gather (t := t) (np := np') (all := 1) (g := up2 s 159 2 0) (sel := sl1 (blkT g t)) (who := whG g t) hT.2.1 h24 (Or.inr rfl) ((zf 3 (by omega) (by omega)).trans e2) (by rw [hrow]; exact f4) (fun p hp hs => wf_at _ (by omega) hs) (by rw [f2]; exact f3)
  dsimp only at y0 y1 y2 y3 y4
  rw [f2, hcn] at y3 y4
  subst y0
  have z1 : ∀ a, ¬ (15 ≤ a ∧ a ≤ 41) → ¬ (174 ≤ a ∧ a ≤ 183) → a ≠ 159 → a ≠ 1 → a ≠ 2 → s1 a = g a := fun a q1 q2 q3 q4 q5 => (y1 a q3 (by omega)).trans (z a q1 q2 q3 q4 q5)
  have x1 : s1 161 = g 161 := z1 161 (by omega) (by omega) (by omega) (by omega) (by omega)
  have x2 : s1 162 = g 162 := z1 162 (by omega) (by omega) (by omega) (by omega) (by omega)
  have x3 : s1 163 = g 163 := z1 163 (by omega) (by omega) (by omega) (by omega) (by omega)
  have x4 : s1 164 = g 164 := z1 164 (by omega) (by omega) (by omega) (by omega) (by omega)
  obtain ⟨⟨ra, s2⟩, ee2, yy⟩ := m_askW (np := np') (m := m) (M := n) (g := s1) (who := whG g t) (w := woG g) (by rw [x1, x2, x3, x4]; exact hR161) (fun p hp => by rw [x1, x2, x3, x4]; exact (hww p hp).symm) ⟨0, by omega, by rw [y2 2 (by omega)]; rfl⟩ y3 n10 (fun i hi => ⟨by
    have q := wf_ok (sl1 (blkT g t)) (N := 24) (i := i) (by omega)
    exact f1 _ q.1 q.2.1, y4 i hi⟩) (by omega) m2 m3
  exact ⟨s1, ra, s2, ee1, Scr.gat y1 y2, y3, y4, ee2, yy⟩
/-- the class's beginning -/
theorem TT.beg {g : G} {np t n dr e m : Nat} (hT : TT g np t n dr e) (hI : Inv g) (e2 : g 159 3 = nI np) (m1 : m ≤ n) (m2 : ∀ i, i < m → (woG g (whG g t i)).2.2 = 0) (m3 : m = n ∨ (m < n ∧ ¬ (woG g (whG g t m)).2.2 = 0)) : ∃ rb s, f_X3_begin (47 + 28 * t) (up2 g 1 1 0) = some (rb, s) ∧ ((m = n ∧ rb = nI 1 ∧ (∀ a, a ≠ 40 → s a = cE (tI (woG g) (whG g t) n) 0 (up2 g 1 1 0) a) ∧ ∀ p, p < 24 → ¬ blkT g t 2 p = nI 0 → s 40 p = (woG g p).2.1) ∨ (m < n ∧ rb = nI 0 ∧ ∀ a, a ≠ 40 → s a = cE (tI (woG g) (whG g t) (m + 1)) (woG g (whG g t m)).2.2 (up2 g 1 1 0) a)) := by
  have h24 := hT.1
  obtain ⟨np', -, -, enp, hR4, hR161, -, hww⟩ := hI.1.rw
  have : np' = np := nI_inj (by have := hR4.1; omega) (by omega) (enp.symm.trans e2)
  subst this
  obtain ⟨f1, f2, f3, f4⟩ := hT.sf1
  have hcn := hT.cnn
  obtain ⟨k, k1, k2, k3⟩ := worst_p (w := woG g) (sel := sl1 (blkT g t)) m2 (by rw [hcn]; exact m3)
  have hb := c_begin (t := t) (m := k) (g := up2 g 1 1 0) (sel := sl1 (blkT g t)) (who := whG g t) (w := woG g) hR4 (fun p _ => rfl) (by exact ⟨0, by omega, rfl⟩) (fun p hp => by
    rw [up2_ne (by omega), bk_j g t 2 (by decide)]
    exact decide_eq_true_iff) f1 (fun p hp hs => wf_at _ hp hs) k1 k2 (k3.elim (fun q => Or.inl q.1) (fun q => Or.inr ⟨q.2.1, q.2.2.2.2.1, q.2.2.2.2.2⟩))
  obtain ⟨⟨rb, s⟩, eb, hs⟩ := hb
  rw [hcn] at hs k3
  refine ⟨rb, s, eb, ?_⟩
  rcases hs with ⟨k24, q1, h1, h2⟩ | ⟨k24, q1, h1⟩
  · refine Or.inl ⟨?_, q1, h1, fun p hp hb => h2 p hp (decide_eq_true hb)⟩
    rcases k3 with q | q
    · exact q.2
    · omega
  · rcases k3 with q | ⟨q2, -, q3, q4, -⟩
    · omega
    · rw [q4, q3] at h1
      exact Or.inr ⟨q2, q1, h1⟩
theorem TT.wrs {g : G} {np t n dr e : Nat} (hT : TT g np t n dr e) : ∃ m, m ≤ n ∧ (∀ i, i < m → (woG g (whG g t i)).2.2 = 0) ∧ (m = n ∨ (m < n ∧ ¬ (woG g (whG g t m)).2.2 = 0)) := by
  have q := worst (woG g) (sl1 (blkT g t))
  rw [hT.cnn] at q
  exact q
theorem sp_mean : Sp1 Inv f_X8_mean f_X9_mean := by
  refine Sp1.of (fun a1 g hI => ?_)
  obtain ⟨np, nt, h24, h4, e1, e2, ec, em, es, hP, hT⟩ := hI.pre
  have e1c : up2 g 1 1 (nI 0) 0 12 = nI nt := ec
  rcases i32_split a1 with ⟨t, ht, rfl⟩ | ⟨t, ht0, ht, rfl⟩
  · by_cases htn : t < nt
    · obtain ⟨n, dr, e, q0, hin, hsm, hrd, hen⟩ := hT t htn
      have hT : TT g np t n dr e := ⟨h24, by omega, hin, hsm, hrd, hen⟩
      have n10 := hin.1
      obtain ⟨m, m1, m2, m3⟩ := hT.wrs
      have mod := fun (T : List Int32) (f : Int32) (s : G) (hs : Scr (cE T f (up2 g 1 1 0)) s) => hT.ga hI e2 m1 m2 m3 hs
      obtain ⟨rb, s, eb, hs⟩ := hT.beg hI e2 m1 m2 m3
      have eb : f_X3_begin (47 + 28 * t) (up2 g 1 1 (nI 0)) = some (rb, s) := eb
      have cnt : s (47 + 28 * t) 1 = nI n := by
        rcases hs with ⟨-, -, h1, -⟩ | ⟨-, -, h1⟩
        · rw [h1 _ (by omega), cE_off (by omega) (by omega), up2_ne (by omega)]
          exact hin.2.1
        · rw [h1 _ (by omega), cE_off (by omega) (by omega), up2_ne (by omega)]
          exact hin.2.1
      have m8 : ∀ (T : List Int32) (f : Int32) (s : G), Scr (cE T f (up2 g 1 1 0)) s → s 159 8 = nI nt := fun T f s q => by
        rw [q.m8, cE_off (by omega) (by omega), up2_ne (by omega)]
        exact em
      rcases hs with ⟨mn, rfl, h1, h2⟩ | ⟨mn, rfl, h1⟩
      · -- all are known
        have hsc : Scr (cE (tI (woG g) (whG g t) n) 0 (up2 g 1 1 0)) s := Scr.one (b := 40) (by omega) h1
        by_cases n0 : n = 0
        · subst n0
          have hsc4 : Scr (cE (tI (woG g) (whG g t) 0) (nI 4) (up2 g 1 1 0)) (cE [] (nI 4) s) := by
            have := hsc.cE [] (nI 4)
            rw [cE_cE, List.append_nil] at this
            exact this
          obtain ⟨s1, ra, s2, ee1, hg, y3, y4, ee2, yy⟩ := mod _ _ _ hsc4
          rcases yy with ⟨-, rfl, y5, y6⟩ | ⟨q, -⟩
          · have hm2 : Scr (mE (tI (woG g) (whG g t) 0) (nI 4) s1) (mE [] (nI 4) s2) := by
              have := (Scr.one (b := 176) (by omega) y5).mE [] (nI 4)
              rw [mE_mE, List.append_nil] at this
              exact this
            have y30 : s2 159 30 = nI 0 := by rw [y5 159 (by omega), mE_f (by omega) (by omega)]; exact y3
            refine ⟨-nI 5, cE [] (nI 4) s, mE [] (nI 4) s2, ?_, ?_, inv_cl hI hsc4 hg hm2⟩
            · simp (disch := omega) only [bd2_s, bd_s, wr_s, ck_s, bz_s0, bz_s1, dz_s, nI_litS, nI_add, pk_mul, pk_sub, nI_leI, nI_ltI, nI_eq, ng_lt, ng_le, lt_ng, le_ng, eq_ng, ng_eq, ng_ngE, ng_ngL, ng_ngl, sub1_lt, sub1_ng, eq_self, if_pos, if_neg, if_true, if_false, Nat.zero_add, Nat.add_zero, f_X8_isTournament, f_X5_has, e1, ec, f_X8_mean, c_log, e1c, eb, cnt, c_metS]
            · have mm8 := m8 _ _ _ hsc4
              have loop : lp (fun (s12 : Int32 × Int32) => (if (s2 159 30) ≤ s12.2 then some (.inr (s12.1)) else ck s12.2 10 fun j16 => some (.inl ((s12.1 + (s2 176 j16)), (s12.2 + (1 : Int32)))) : Option ((Int32 × Int32) ⊕ (Int32)))) 2000 ((0 : Int32), (0 : Int32)) = some (nI 0) := by
                refine q_lp (fun i => (nI 0, nI i)) 0 (fun i hi => absurd hi (Nat.not_lt_zero i)) (by simp (disch := omega) only [bd2_s, bd_s, wr_s, ck_s, bz_s0, bz_s1, dz_s, nI_litS, nI_add, pk_mul, pk_sub, nI_leI, nI_ltI, nI_eq, ng_lt, ng_le, lt_ng, le_ng, eq_ng, ng_eq, ng_ngE, ng_ngL, ng_ngl, sub1_lt, sub1_ng, eq_self, if_pos, if_neg, if_true, if_false, Nat.zero_add, Nat.add_zero, y30]) (by omega) rfl
              unfold f_X9_mean
              refine q_wr ?_
              refine q_call (show f_X9_isTournament (nI t) (up2 (cE [] (nI 4) s) 159 2 0) = some (nI 1, up2 (cE [] (nI 4) s) 159 2 0) by simp (disch := omega) only [bd2_s, bd_s, wr_s, ck_s, bz_s0, bz_s1, dz_s, nI_litS, nI_add, pk_mul, pk_sub, nI_leI, nI_ltI, nI_eq, ng_lt, ng_le, lt_ng, le_ng, eq_ng, ng_eq, ng_ngE, ng_ngL, ng_ngl, sub1_lt, sub1_ng, eq_self, if_pos, if_neg, if_true, if_false, Nat.zero_add, Nat.add_zero, f_X9_isTournament, f_X9_in, up2_eq, upd_ne, mm8]) ?_
              refine q_if_f (by decide) ?_
              refine q_call ee1 ?_
              refine q_call ee2 ?_
              refine q_if_f (by decide) ?_
              refine q_bd loop ?_
              refine q_if_t y30 ?_
              refine q_call (m_metS (n := 4) (by omega) (by omega)) ?_
              rfl
          · omega
        · obtain ⟨s1, ra, s2, ee1, hg, y3, y4, ee2, yy⟩ := mod _ _ _ hsc
          rcases yy with ⟨-, rfl, y5, y6⟩ | ⟨q, -⟩
          · have y30 : s2 159 30 = nI n := by rw [y5 159 (by omega), mE_f (by omega) (by omega)]; exact y3
            have tot8 : f_X3_total (47 + 28 * t) s = some (sumI (fun i => (woG g (cm (rowT g t) i)).2.1) n, s) := by
              unfold f_X3_total
              refine q_bd (a := sumI (fun i => (woG g (cm (rowT g t) i)).2.1) n) ?_ rfl
              refine q_lp (fun i => (sumI (fun i => (woG g (cm (rowT g t) i)).2.1) i, nI i)) n (fun i hi => ?_) (by simp (disch := omega) only [bd2_s, bd_s, wr_s, ck_s, bz_s0, bz_s1, dz_s, nI_litS, nI_add, pk_mul, pk_sub, nI_leI, nI_ltI, nI_eq, ng_lt, ng_le, lt_ng, le_ng, eq_ng, ng_eq, ng_ngE, ng_ngL, ng_ngl, sub1_lt, sub1_ng, eq_self, if_pos, if_neg, if_true, if_false, Nat.zero_add, Nat.add_zero, cnt]) (by omega) rfl
              obtain ⟨z1, z2, z3⟩ := hin.at h24 hi
              have c1 : s (47 + 28 * t + 1) i = nI (cm (rowT g t) i) := by
                rw [h1 _ (by omega), cE_off (by omega) (by omega), up2_ne (by omega), bk_j g t 1 (by decide)]
                exact z2
              have c2 : s 40 (cm (rowT g t) i) = (woG g (cm (rowT g t) i)).2.1 := by
                refine h2 _ (by omega) ?_
                rcases hin.2.2.2.2.2.2.2 _ (show cm (rowT g t) i < 24 by omega) with ⟨-, z⟩ | ⟨k, hk, -, z⟩
                · exact absurd z3 (z i hi)
                · rw [z]
                  rcases hin.2.2.2.2.2.1 k hk with y | y
                  · rw [y]; decide
                  · rw [y]; decide
              have hlt : cm (rowT g t) i < 24 := by omega
              rw [sumI]
              generalize cm (rowT g t) i = ci at c1 c2 hlt
              simp (disch := omega) only [bd2_s, bd_s, wr_s, ck_s, bz_s0, bz_s1, dz_s, nI_litS, nI_add, pk_mul, pk_sub, nI_leI, nI_ltI, nI_eq, ng_lt, ng_le, lt_ng, le_ng, eq_ng, ng_eq, ng_ngE, ng_ngL, ng_ngl, sub1_lt, sub1_ng, eq_self, if_pos, if_neg, if_true, if_false, Nat.zero_add, Nat.add_zero, cnt, c1, c2]
            have tot9 : lp (fun (s12 : Int32 × Int32) => (if (s2 159 30) ≤ s12.2 then some (.inr (s12.1)) else ck s12.2 10 fun j16 => some (.inl ((s12.1 + (s2 176 j16)), (s12.2 + (1 : Int32)))) : Option ((Int32 × Int32) ⊕ (Int32)))) 2000 ((0 : Int32), (0 : Int32)) = some (sumI (fun i => (woG g (cm (rowT g t) i)).2.1) n) := by
              have q1 := hT.all (fun p => (woG g p).2.1)
              have hcn := hT.cnn
              rw [← q1, ← sum_who, hcn]
              refine q_lp (fun i => (sumI (fun i => (woG g (whG g t i)).2.1) i, nI i)) n (fun i hi => ?_) (by simp (disch := omega) only [bd2_s, bd_s, wr_s, ck_s, bz_s0, bz_s1, dz_s, nI_litS, nI_add, pk_mul, pk_sub, nI_leI, nI_ltI, nI_eq, ng_lt, ng_le, lt_ng, le_ng, eq_ng, ng_eq, ng_ngE, ng_ngL, ng_ngl, sub1_lt, sub1_ng, eq_self, if_pos, if_neg, if_true, if_false, Nat.zero_add, Nat.add_zero, y30]) (by omega) rfl
              have c6 := y6 i hi
              rw [sumI]
              simp (disch := omega) only [bd2_s, bd_s, wr_s, ck_s, bz_s0, bz_s1, dz_s, nI_litS, nI_add, pk_mul, pk_sub, nI_leI, nI_ltI, nI_eq, ng_lt, ng_le, lt_ng, le_ng, eq_ng, ng_eq, ng_ngE, ng_ngL, ng_ngl, sub1_lt, sub1_ng, eq_self, if_pos, if_neg, if_true, if_false, Nat.zero_add, Nat.add_zero, y30, c6]
            refine ⟨sumI (fun i => (woG g (cm (rowT g t) i)).2.1) n / nI n, s, s2, ?_, ?_, inv_cl hI hsc hg (Scr.one (b := 176) (by omega) y5)⟩
            · simp (disch := omega) only [bd2_s, bd_s, wr_s, ck_s, bz_s0, bz_s1, dz_s, nI_litS, nI_add, pk_mul, pk_sub, nI_leI, nI_ltI, nI_eq, ng_lt, ng_le, lt_ng, le_ng, eq_ng, ng_eq, ng_ngE, ng_ngL, ng_ngl, sub1_lt, sub1_ng, eq_self, if_pos, if_neg, if_true, if_false, Nat.zero_add, Nat.add_zero, f_X8_isTournament, f_X5_has, e1, ec, f_X8_mean, c_log, e1c, eb, cnt, tot8]
            · have mm8 := m8 _ _ _ hsc
              unfold f_X9_mean
              refine q_wr ?_
              refine q_call (show f_X9_isTournament (nI t) (up2 s 159 2 0) = some (nI 1, up2 s 159 2 0) by simp (disch := omega) only [bd2_s, bd_s, wr_s, ck_s, bz_s0, bz_s1, dz_s, nI_litS, nI_add, pk_mul, pk_sub, nI_leI, nI_ltI, nI_eq, ng_lt, ng_le, lt_ng, le_ng, eq_ng, ng_eq, ng_ngE, ng_ngL, ng_ngl, sub1_lt, sub1_ng, eq_self, if_pos, if_neg, if_true, if_false, Nat.zero_add, Nat.add_zero, f_X9_isTournament, f_X9_in, up2_eq, upd_ne, mm8]) ?_
              refine q_if_f (by decide) ?_
              refine q_call ee1 ?_
              refine q_call ee2 ?_
              refine q_if_f (by decide) ?_
              refine q_bd tot9 ?_
              simp (disch := omega) only [bd2_s, bd_s, wr_s, ck_s, bz_s0, bz_s1, dz_s, nI_litS, nI_add, pk_mul, pk_sub, nI_leI, nI_ltI, nI_eq, ng_lt, ng_le, lt_ng, le_ng, eq_ng, ng_eq, ng_ngE, ng_ngL, ng_ngl, sub1_lt, sub1_ng, eq_self, if_pos, if_neg, if_true, if_false, Nat.zero_add, Nat.add_zero, y30]
          · omega
      · -- a finding
        have hsc := Scr.one (b := 40) (by omega) h1
        obtain ⟨s1, ra, s2, ee1, hg, y3, y4, ee2, yy⟩ := mod _ _ _ hsc
        rcases yy with ⟨q, -⟩ | ⟨-, rfl, y5⟩
        · omega
        · refine ⟨-nI 5, s, s2, ?_, ?_, inv_cl hI hsc hg (Scr.one (b := 176) (by omega) y5)⟩
          · simp (disch := omega) only [bd2_s, bd_s, wr_s, ck_s, bz_s0, bz_s1, dz_s, nI_litS, nI_add, pk_mul, pk_sub, nI_leI, nI_ltI, nI_eq, ng_lt, ng_le, lt_ng, le_ng, eq_ng, ng_eq, ng_ngE, ng_ngL, ng_ngl, sub1_lt, sub1_ng, eq_self, if_pos, if_neg, if_true, if_false, Nat.zero_add, Nat.add_zero, f_X8_isTournament, f_X5_has, e1, ec, f_X8_mean, c_log, e1c, eb]
          · have mm8 := m8 _ _ _ hsc
            unfold f_X9_mean
            refine q_wr ?_
            refine q_call (show f_X9_isTournament (nI t) (up2 s 159 2 0) = some (nI 1, up2 s 159 2 0) by simp (disch := omega) only [bd2_s, bd_s, wr_s, ck_s, bz_s0, bz_s1, dz_s, nI_litS, nI_add, pk_mul, pk_sub, nI_leI, nI_ltI, nI_eq, ng_lt, ng_le, lt_ng, le_ng, eq_ng, ng_eq, ng_ngE, ng_ngL, ng_ngl, sub1_lt, sub1_ng, eq_self, if_pos, if_neg, if_true, if_false, Nat.zero_add, Nat.add_zero, f_X9_isTournament, f_X9_in, up2_eq, upd_ne, mm8]) ?_
            refine q_if_f (by decide) ?_
            refine q_call ee1 ?_
            refine q_call ee2 ?_
            rfl
    · refine ⟨-nI 2, up2 g 1 1 0, up2 (up2 g 1 1 0) 159 2 0, ?_, ?_, hI.clear⟩
      · simp (disch := omega) only [bd2_s, bd_s, wr_s, ck_s, bz_s0, bz_s1, dz_s, nI_litS, nI_add, pk_mul, pk_sub, nI_leI, nI_ltI, nI_eq, ng_lt, ng_le, lt_ng, le_ng, eq_ng, ng_eq, ng_ngE, ng_ngL, ng_ngl, sub1_lt, sub1_ng, eq_self, if_pos, if_neg, if_true, if_false, Nat.zero_add, Nat.add_zero, f_X8_isTournament, f_X5_has, e1, ec, f_X8_mean, c_log, e1c]
      · simp (disch := omega) only [bd2_s, bd_s, wr_s, ck_s, bz_s0, bz_s1, dz_s, nI_litS, nI_add, pk_mul, pk_sub, nI_leI, nI_ltI, nI_eq, ng_lt, ng_le, lt_ng, le_ng, eq_ng, ng_eq, ng_ngE, ng_ngL, ng_ngl, sub1_lt, sub1_ng, eq_self, if_pos, if_neg, if_true, if_false, Nat.zero_add, Nat.add_zero, f_X9_isTournament, f_X9_isPlayer, f_X9_in, e2, em, f_X9_mean, up2_eq, upd_ne, up2_ne]
  · refine ⟨-nI 2, up2 g 1 1 0, up2 (up2 g 1 1 0) 159 2 0, ?_, ?_, hI.clear⟩
    · simp (disch := omega) only [bd2_s, bd_s, wr_s, ck_s, bz_s0, bz_s1, dz_s, nI_litS, nI_add, pk_mul, pk_sub, nI_leI, nI_ltI, nI_eq, ng_lt, ng_le, lt_ng, le_ng, eq_ng, ng_eq, ng_ngE, ng_ngL, ng_ngl, sub1_lt, sub1_ng, eq_self, if_pos, if_neg, if_true, if_false, Nat.zero_add, Nat.add_zero, f_X8_isTournament, f_X5_has, e1, ec, f_X8_mean, c_log, e1c]
    · simp (disch := omega) only [bd2_s, bd_s, wr_s, ck_s, bz_s0, bz_s1, dz_s, nI_litS, nI_add, pk_mul, pk_sub, nI_leI, nI_ltI, nI_eq, ng_lt, ng_le, lt_ng, le_ng, eq_ng, ng_eq, ng_ngE, ng_ngL, ng_ngl, sub1_lt, sub1_ng, eq_self, if_pos, if_neg, if_true, if_false, Nat.zero_add, Nat.add_zero, f_X9_isTournament, f_X9_isPlayer, f_X9_in, e2, em, f_X9_mean, up2_eq, upd_ne, up2_ne]
