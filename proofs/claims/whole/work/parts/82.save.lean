/-! What a run saves and what it takes back: the class. -/
abbrev tr14 (F : Nat → Nat → Int32) : Nat → Nat → Int32 := fun j => if j < 14 then F j else fun _ => 0
theorem Cp.tr {n dr e : Nat} {F F' : Nat → Nat → Int32} (h : Cp n dr e F F') : Cp n dr e (tr14 F) (tr14 F') := by
  obtain ⟨⟨d1, d2, d3⟩, d4, d5, d6, d7, d8, d9⟩ := h
  have z : ∀ (F : Nat → Nat → Int32) (j : Nat), j < 14 → tr14 F j = F j := fun F j hj => if_pos hj
  refine ⟨⟨?_, ?_, ?_⟩, fun k hk => ?_, fun k hk => ?_, fun k hk => ?_, fun j k j1 j2 hk => ?_, fun j k j1 j2 hk => ?_, fun j k j1 j2 hk => ?_⟩
  · rw [z _ 0 (by decide), z _ 0 (by decide)]; exact d1
  · rw [z _ 0 (by decide), z _ 0 (by decide)]; exact d2
  · rw [z _ 0 (by decide), z _ 0 (by decide)]; exact d3
  · rw [z _ 1 (by decide), z _ 1 (by decide)]; exact d4 k hk
  · rw [z _ 2 (by decide), z _ 2 (by decide)]; exact d5 k hk
  · rw [z _ 3 (by decide), z _ 3 (by decide)]; exact d6 k hk
  · rw [z _ j (by omega), z _ j (by omega)]; exact d7 j k j1 j2 hk
  · rw [z _ j (by omega), z _ j (by omega)]; exact d8 j k j1 j2 hk
  · rw [z _ j (by omega), z _ j (by omega)]; exact d9 j k j1 j2 hk
/-- a block that has what the row has, but for its number -/
def Sb (np : Nat) (mk : Nat → Int32) (F : Nat → Nat → Int32) (R : Nat → Int32) : Prop := ∃ n dr e : Nat, T_in np mk F R n ∧ T_sum F R ∧ T_rounds F R n dr ∧ T_entries F R dr e
abbrev bkA (D : Nat) (s : G) (t : Nat) : Nat → Nat → Int32 := tr14 (fun j => s (D + 28 * t + j))
theorem bkA_eq {D D' : Nat} {s s' : G} {t t' : Nat} (h : ∀ j, j < 14 → s (D + 28 * t + j) = s' (D' + 28 * t' + j)) : bkA D s t = bkA D' s' t' := by
  funext j
  by_cases hj : j < 14
  · show (if j < 14 then s (D + 28 * t + j) else fun _ => 0) = (if j < 14 then s' (D' + 28 * t' + j) else fun _ => 0)
    rw [if_pos hj, if_pos hj, h j hj]
  · show (if j < 14 then s (D + 28 * t + j) else fun _ => 0) = (if j < 14 then s' (D' + 28 * t' + j) else fun _ => 0)
    rw [if_neg hj, if_neg hj]
abbrev cA (a : Nat) : Prop := (47 ≤ a ∧ a ≤ 60) ∨ (75 ≤ a ∧ a ≤ 88) ∨ (103 ≤ a ∧ a ≤ 116) ∨ (131 ≤ a ∧ a ≤ 144)
abbrev cB (a : Nat) : Prop := (61 ≤ a ∧ a ≤ 74) ∨ (89 ≤ a ∧ a ≤ 102) ∨ (117 ≤ a ∧ a ≤ 130) ∨ (145 ≤ a ∧ a ≤ 158)
theorem c_ros_8_3 {np : Nat} {g : G} (h24 : np ≤ 24) (e : g 3 4 = nI np) : Ev (f_X5_takeOver_8_3 g) (fun q => q.1 = 0 ∧ (∀ a, ¬ (8 ≤ a ∧ a ≤ 12) → q.2 a = g a) ∧ q.2 8 4 = nI np ∧ (∀ p, p < np → q.2 9 p = g 4 p ∧ q.2 10 p = g 5 p ∧ q.2 11 p = g 6 p) ∧ ∀ k, k < 4 * np → q.2 12 k = g 7 k) := by
  unfold f_X5_takeOver_8_3
  refine ev_wr ?_
  generalize hs0 : up2 g 8 4 (g 3 4) = s0
  have z0 : ∀ a, a ≠ 8 → s0 a = g a := fun a ha => by rw [← hs0, up2_ne ha]
  have f0 : s0 8 4 = nI np := by rw [← hs0, up2_eq, upd_eq, e]
  refine ev_cpy (n := np) f0 h24 (by decide) (fun s1 p1 q1 => ?_)
  have f1 : s1 8 4 = nI np := by rw [p1 8 (by decide)]; exact f0
  refine ev_cpy (n := np) f1 h24 (by decide) (fun s2 p2 q2 => ?_)
  have f2 : s2 8 4 = nI np := by rw [p2 8 (by decide)]; exact f1
  refine ev_cpy (n := np) f2 h24 (by decide) (fun s3 p3 q3 => ?_)
  have f3 : s3 8 4 = nI np := by rw [p3 8 (by decide)]; exact f2
  refine ev_cpy (n := 4 * np) (by rw [f3, l_4, pk_mul, Nat.mul_comm]) (by omega) (by decide) (fun s4 p4 q4 => ?_)
  refine ev_some ⟨rfl, fun a ha => ?_, ?_, fun p hp => ⟨?_, ?_, ?_⟩, fun k hk => ?_⟩
  · show s4 a = g a
    rw [p4 a (by omega), p3 a (by omega), p2 a (by omega), p1 a (by omega), z0 a (by omega)]
  · show s4 8 4 = nI np
    rw [p4 8 (by decide)]; exact f3
  · show s4 9 p = g 4 p
    rw [p4 9 (by decide), p3 9 (by decide), p2 9 (by decide), q1 p hp, z0 4 (by decide)]
  · show s4 10 p = g 5 p
    rw [p4 10 (by decide), p3 10 (by decide), q2 p hp, p1 5 (by decide), z0 5 (by decide)]
  · show s4 11 p = g 6 p
    rw [p4 11 (by decide), q3 p hp, p2 6 (by decide), p1 6 (by decide), z0 6 (by decide)]
  · show s4 12 k = g 7 k
    rw [q4 k hk, p3 7 (by decide), p2 7 (by decide), p1 7 (by decide), z0 7 (by decide)]
theorem c_ros_3_8 {np : Nat} {g : G} (h24 : np ≤ 24) (e : g 8 4 = nI np) : Ev (f_X5_takeOver_3_8 g) (fun q => q.1 = 0 ∧ (∀ a, ¬ (3 ≤ a ∧ a ≤ 7) → q.2 a = g a) ∧ q.2 3 4 = nI np ∧ (∀ p, p < np → q.2 4 p = g 9 p ∧ q.2 5 p = g 10 p ∧ q.2 6 p = g 11 p) ∧ ∀ k, k < 4 * np → q.2 7 k = g 12 k) := by
  unfold f_X5_takeOver_3_8
  refine ev_wr ?_
  generalize hs0 : up2 g 3 4 (g 8 4) = s0
  have z0 : ∀ a, a ≠ 3 → s0 a = g a := fun a ha => by rw [← hs0, up2_ne ha]
  have f0 : s0 3 4 = nI np := by rw [← hs0, up2_eq, upd_eq, e]
  refine ev_cpy (n := np) f0 h24 (by decide) (fun s1 p1 q1 => ?_)
  have f1 : s1 3 4 = nI np := by rw [p1 3 (by decide)]; exact f0
  refine ev_cpy (n := np) f1 h24 (by decide) (fun s2 p2 q2 => ?_)
  have f2 : s2 3 4 = nI np := by rw [p2 3 (by decide)]; exact f1
  refine ev_cpy (n := np) f2 h24 (by decide) (fun s3 p3 q3 => ?_)
  have f3 : s3 3 4 = nI np := by rw [p3 3 (by decide)]; exact f2
  refine ev_cpy (n := 4 * np) (by rw [f3, l_4, pk_mul, Nat.mul_comm]) (by omega) (by decide) (fun s4 p4 q4 => ?_)
  refine ev_some ⟨rfl, fun a ha => ?_, ?_, fun p hp => ⟨?_, ?_, ?_⟩, fun k hk => ?_⟩
  · show s4 a = g a
    rw [p4 a (by omega), p3 a (by omega), p2 a (by omega), p1 a (by omega), z0 a (by omega)]
  · show s4 3 4 = nI np
    rw [p4 3 (by decide)]; exact f3
  · show s4 4 p = g 9 p
    rw [p4 4 (by decide), p3 4 (by decide), p2 4 (by decide), q1 p hp, z0 9 (by decide)]
  · show s4 5 p = g 10 p
    rw [p4 5 (by decide), p3 5 (by decide), q2 p hp, p1 10 (by decide), z0 10 (by decide)]
  · show s4 6 p = g 11 p
    rw [p4 6 (by decide), q3 p hp, p2 11 (by decide), p1 11 (by decide), z0 11 (by decide)]
  · show s4 7 k = g 12 k
    rw [q4 k hk, p3 12 (by decide), p2 12 (by decide), p1 12 (by decide), z0 12 (by decide)]
theorem c_loopS {np nt : Nat} {mk : Nat → Int32} {R : Nat → Nat → Int32} {g : G} (h4 : nt ≤ 4) (e : g 0 12 = nI nt) (hS : ∀ t, t < nt → Sb np mk (bkA 47 g t) (R t)) : Ev (lp (fun (s6 : Int32 × G) => (if (s6.2 0 12) ≤ s6.1 then some (.inr (s6.2)) else ck s6.1 4 fun j10 => wr (61 + 28 * j10) fun t11 => ck s6.1 4 fun j12 => wr (47 + 28 * j12) fun t13 => bd2 (f_X7_takeOver t11 t13 s6.2) fun r14 g15 => some (.inl ((s6.1 + (1 : Int32)), g15)) : Option ((Int32 × G) ⊕ (G)))) 2000 ((0 : Int32), g)) (fun s => (∀ a, ¬ cB a → s a = g a) ∧ (∀ t, t < nt → Sb np mk (bkA 61 s t) (R t)) ∧ ∀ t, t < 4 → s (61 + 28 * t) 0 = g (61 + 28 * t) 0) := by
  refine ev_lp (I := fun i s => s.1 = nI i ∧ (∀ a, ¬ cB a → s.2 a = g a) ∧ (∀ t, t < i → Sb np mk (bkA 61 s.2 t) (R t)) ∧ ∀ t, t < 4 → s.2 (61 + 28 * t) 0 = g (61 + 28 * t) 0) nt ?_ ?_ 2000 0 _ (Nat.zero_le _) (by omega) ⟨rfl, fun _ _ => rfl, fun t ht => absurd ht (Nat.not_lt_zero t), fun _ _ => rfl⟩
  · rintro i ⟨x, s⟩ hi ⟨rfl, h1, h2, h3⟩
    dsimp only at h1 h2 h3 ⊢
    refine ev_f (by rw [h1 0 (by omega), e]; exact nI_ge (by omega) (by omega)) ?_
    refine ev_ck i rfl (by omega) (by decide) ?_
    refine ev_wr ?_
    refine ev_ck i rfl (by omega) (by decide) ?_
    refine ev_wr ?_
    obtain ⟨n, dr, en, hin, hsm, hrd, hen⟩ := hS i hi
    have eS : ∀ j, j < 14 → s (47 + 28 * i + j) = g (47 + 28 * i + j) := fun j hj => h1 _ (by omega)
    have z1 : s (47 + 28 * i) = g (47 + 28 * i) := eS 0 (by decide)
    refine ev_bd2 ((c_takeOver (t0 := 61 + 28 * i) (t1 := 47 + 28 * i) (n := n) (dr := dr) (e := en) (g := s) (by omega) (by rw [z1]; exact hin.2.1) hin.1 (by rw [z1]; exact hrd.2.1) hrd.1 (by rw [z1]; exact hen.2.1) hen.1).imp ?_)
    rintro ⟨r, s'⟩ ⟨-, y1, y2, y3⟩
    dsimp only at y1 y2 y3 ⊢
    have c' : Cp n dr en (bkA 47 g i) (bkA 61 s' i) := by
      have := y3.tr
      rw [show tr14 (fun j => s (47 + 28 * i + j)) = bkA 47 g i from bkA_eq (D := 47) (s := s) (t := i) eS] at this
      exact this
    refine ev_some ⟨by rw [l_1, nI_add], fun a ha => ?_, fun t ht => ?_, fun t ht => ?_⟩
    · show s' a = g a
      rw [y1 a (by omega)]; exact h1 a ha
    · show Sb np mk (bkA 61 s' t) (R t)
      by_cases q : t = i
      · subst q
        exact ⟨n, dr, en, hin.cp c', hsm.cp c', hrd.cp c', hen.cp c'⟩
      · rw [show bkA 61 s' t = bkA 61 s t from bkA_eq (fun j hj => y1 _ (by omega))]
        exact h2 t (by omega)
    · show s' (61 + 28 * t) 0 = g (61 + 28 * t) 0
      by_cases q : t = i
      · subst q
        rw [y2]; exact h3 t ht
      · rw [y1 _ (by omega)]; exact h3 t ht
  · rintro ⟨x, s⟩ ⟨rfl, h1, h2, h3⟩
    dsimp only at h1 h2 h3 ⊢
    exact ev_t (by rw [h1 0 (by omega), e]; exact nI_le (Nat.le_refl _) (by omega)) (ev_some ⟨h1, h2, h3⟩)
theorem c_loopR {np nt : Nat} {mk : Nat → Int32} {R : Nat → Nat → Int32} {g : G} (h4 : nt ≤ 4) (e : g 0 13 = nI nt) (hS : ∀ t, t < nt → Sb np mk (bkA 61 g t) (R t)) : Ev (lp (fun (s6 : Int32 × G) => (if (s6.2 0 13) ≤ s6.1 then some (.inr (s6.2)) else ck s6.1 4 fun j10 => wr (47 + 28 * j10) fun t11 => ck s6.1 4 fun j12 => wr (61 + 28 * j12) fun t13 => bd2 (f_X7_takeOver t11 t13 s6.2) fun r14 g15 => some (.inl ((s6.1 + (1 : Int32)), g15)) : Option ((Int32 × G) ⊕ (G)))) 2000 ((0 : Int32), g)) (fun s => (∀ a, ¬ cA a → s a = g a) ∧ (∀ t, t < nt → Sb np mk (bkA 47 s t) (R t)) ∧ ∀ t, t < 4 → s (47 + 28 * t) 0 = g (47 + 28 * t) 0) := by
  refine ev_lp (I := fun i s => s.1 = nI i ∧ (∀ a, ¬ cA a → s.2 a = g a) ∧ (∀ t, t < i → Sb np mk (bkA 47 s.2 t) (R t)) ∧ ∀ t, t < 4 → s.2 (47 + 28 * t) 0 = g (47 + 28 * t) 0) nt ?_ ?_ 2000 0 _ (Nat.zero_le _) (by omega) ⟨rfl, fun _ _ => rfl, fun t ht => absurd ht (Nat.not_lt_zero t), fun _ _ => rfl⟩
  · rintro i ⟨x, s⟩ hi ⟨rfl, h1, h2, h3⟩
    dsimp only at h1 h2 h3 ⊢
    refine ev_f (by rw [h1 0 (by omega), e]; exact nI_ge (by omega) (by omega)) ?_
    refine ev_ck i rfl (by omega) (by decide) ?_
    refine ev_wr ?_
    refine ev_ck i rfl (by omega) (by decide) ?_
    refine ev_wr ?_
    obtain ⟨n, dr, en, hin, hsm, hrd, hen⟩ := hS i hi
    have eS : ∀ j, j < 14 → s (61 + 28 * i + j) = g (61 + 28 * i + j) := fun j hj => h1 _ (by omega)
    have z1 : s (61 + 28 * i) = g (61 + 28 * i) := eS 0 (by decide)
    refine ev_bd2 ((c_takeOver (t0 := 47 + 28 * i) (t1 := 61 + 28 * i) (n := n) (dr := dr) (e := en) (g := s) (by omega) (by rw [z1]; exact hin.2.1) hin.1 (by rw [z1]; exact hrd.2.1) hrd.1 (by rw [z1]; exact hen.2.1) hen.1).imp ?_)
    rintro ⟨r, s'⟩ ⟨-, y1, y2, y3⟩
    dsimp only at y1 y2 y3 ⊢
    have c' : Cp n dr en (bkA 61 g i) (bkA 47 s' i) := by
      have := y3.tr
      rw [show tr14 (fun j => s (61 + 28 * i + j)) = bkA 61 g i from bkA_eq (D := 61) (s := s) (t := i) eS] at this
      exact this
    refine ev_some ⟨by rw [l_1, nI_add], fun a ha => ?_, fun t ht => ?_, fun t ht => ?_⟩
    · show s' a = g a
      rw [y1 a (by omega)]; exact h1 a ha
    · show Sb np mk (bkA 47 s' t) (R t)
      by_cases q : t = i
      · subst q
        exact ⟨n, dr, en, hin.cp c', hsm.cp c', hrd.cp c', hen.cp c'⟩
      · rw [show bkA 47 s' t = bkA 47 s t from bkA_eq (fun j hj => y1 _ (by omega))]
        exact h2 t (by omega)
    · show s' (47 + 28 * t) 0 = g (47 + 28 * t) 0
      by_cases q : t = i
      · subst q
        rw [y2]; exact h3 t ht
      · rw [y1 _ (by omega)]; exact h3 t ht
  · rintro ⟨x, s⟩ ⟨rfl, h1, h2, h3⟩
    dsimp only at h1 h2 h3 ⊢
    exact ev_t (by rw [h1 0 (by omega), e]; exact nI_le (Nat.le_refl _) (by omega)) (ev_some ⟨h1, h2, h3⟩)
theorem c_save {np nt : Nat} {mk : Nat → Int32} {R : Nat → Nat → Int32} {g : G} (h24 : np ≤ 24) (h4 : nt ≤ 4) (e3 : g 3 4 = nI np) (e : g 0 12 = nI nt) (hS : ∀ t, t < nt → Sb np mk (bkA 47 g t) (R t)) : Ev (f_X8_save g) (fun q => q.1 = 0 ∧ (∀ a, ¬ cB a → ¬ (8 ≤ a ∧ a ≤ 12) → a ≠ 0 → q.2 a = g a) ∧ (∀ k, k ≠ 13 → q.2 0 k = g 0 k) ∧ q.2 0 13 = nI nt ∧ q.2 8 4 = nI np ∧ (∀ p, p < np → q.2 9 p = g 4 p ∧ q.2 10 p = g 5 p ∧ q.2 11 p = g 6 p) ∧ (∀ k, k < 4 * np → q.2 12 k = g 7 k) ∧ ∀ t, t < nt → Sb np mk (bkA 61 q.2 t) (R t)) := by
  unfold f_X8_save
  refine ev_bd2 ((c_ros_8_3 h24 e3).imp ?_)
  rintro ⟨r1, s1⟩ ⟨-, x1, x2, x3, x4⟩
  dsimp only at x1 x2 x3 x4 ⊢
  refine ev_wr ?_
  generalize hs2 : up2 s1 0 13 (s1 0 12) = s2
  have z2 : ∀ a, a ≠ 0 → s2 a = s1 a := fun a ha => by rw [← hs2, up2_ne ha]
  have z0 : ∀ k, k ≠ 13 → s2 0 k = g 0 k := fun k hk => by rw [← hs2, up2_eq, upd_ne hk, x1 0 (by omega)]
  have z13 : s2 0 13 = nI nt := by rw [← hs2, up2_eq, upd_eq, x1 0 (by omega)]; exact e
  refine ev_bd ((c_loopS (np := np) (mk := mk) (R := R) h4 ((z0 12 (by decide)).trans e) (fun t ht => ?_)).imp ?_)
  · rw [show bkA 47 s2 t = bkA 47 g t from bkA_eq (fun j hj => (z2 _ (by omega)).trans (x1 _ (by omega)))]
    exact hS t ht
  · rintro s3 ⟨y1, y2, y3⟩
    refine ev_some ⟨rfl, fun a n1 n2 n3 => ?_, fun k hk => ?_, ?_, ?_, fun p hp => ?_, fun k hk => ?_, y2⟩
    · show s3 a = g a
      rw [y1 a n1, z2 a n3, x1 a n2]
    · show s3 0 k = g 0 k
      rw [y1 0 (by omega)]; exact z0 k hk
    · show s3 0 13 = nI nt
      rw [y1 0 (by omega)]; exact z13
    · show s3 8 4 = nI np
      rw [y1 8 (by omega), z2 8 (by decide)]; exact x2
    · show s3 9 p = g 4 p ∧ s3 10 p = g 5 p ∧ s3 11 p = g 6 p
      rw [y1 9 (by omega), z2 9 (by decide), y1 10 (by omega), z2 10 (by decide), y1 11 (by omega), z2 11 (by decide)]
      exact x3 p hp
    · show s3 12 k = g 7 k
      rw [y1 12 (by omega), z2 12 (by decide)]; exact x4 k hk
theorem c_restore {np nt : Nat} {mk : Nat → Int32} {R : Nat → Nat → Int32} {g : G} (h24 : np ≤ 24) (h4 : nt ≤ 4) (e3 : g 8 4 = nI np) (e : g 0 13 = nI nt) (hS : ∀ t, t < nt → Sb np mk (bkA 61 g t) (R t)) : Ev (f_X8_restore g) (fun q => q.1 = 0 ∧ (∀ a, ¬ cA a → ¬ (3 ≤ a ∧ a ≤ 7) → a ≠ 0 → q.2 a = g a) ∧ (∀ k, k ≠ 12 → q.2 0 k = g 0 k) ∧ q.2 0 12 = nI nt ∧ q.2 3 4 = nI np ∧ (∀ p, p < np → q.2 4 p = g 9 p ∧ q.2 5 p = g 10 p ∧ q.2 6 p = g 11 p) ∧ (∀ k, k < 4 * np → q.2 7 k = g 12 k) ∧ (∀ t, t < nt → Sb np mk (bkA 47 q.2 t) (R t)) ∧ ∀ t, t < 4 → q.2 (47 + 28 * t) 0 = g (47 + 28 * t) 0) := by
  unfold f_X8_restore
  refine ev_bd2 ((c_ros_3_8 h24 e3).imp ?_)
  rintro ⟨r1, s1⟩ ⟨-, x1, x2, x3, x4⟩
  dsimp only at x1 x2 x3 x4 ⊢
  refine ev_wr ?_
  generalize hs2 : up2 s1 0 12 (s1 0 13) = s2
  have z2 : ∀ a, a ≠ 0 → s2 a = s1 a := fun a ha => by rw [← hs2, up2_ne ha]
  have z0 : ∀ k, k ≠ 12 → s2 0 k = g 0 k := fun k hk => by rw [← hs2, up2_eq, upd_ne hk, x1 0 (by omega)]
  have z13 : s2 0 12 = nI nt := by rw [← hs2, up2_eq, upd_eq, x1 0 (by omega)]; exact e
  refine ev_bd ((c_loopR (np := np) (mk := mk) (R := R) h4 ((z0 13 (by decide)).trans e) (fun t ht => ?_)).imp ?_)
  · rw [show bkA 61 s2 t = bkA 61 g t from bkA_eq (fun j hj => (z2 _ (by omega)).trans (x1 _ (by omega)))]
    exact hS t ht
  · rintro s3 ⟨y1, y2, y3⟩
    refine ev_some ⟨rfl, fun a n1 n2 n3 => ?_, fun k hk => ?_, ?_, ?_, fun p hp => ?_, fun k hk => ?_, y2, fun t ht => ?_⟩
    · show s3 a = g a
      rw [y1 a n1, z2 a n3, x1 a n2]
    · show s3 0 k = g 0 k
      rw [y1 0 (by omega)]; exact z0 k hk
    · show s3 0 12 = nI nt
      rw [y1 0 (by omega)]; exact z13
    · show s3 3 4 = nI np
      rw [y1 3 (by omega), z2 3 (by decide)]; exact x2
    · show s3 4 p = g 9 p ∧ s3 5 p = g 10 p ∧ s3 6 p = g 11 p
      rw [y1 4 (by omega), z2 4 (by decide), y1 5 (by omega), z2 5 (by decide), y1 6 (by omega), z2 6 (by decide)]
      exact x3 p hp
    · show s3 7 k = g 12 k
      rw [y1 7 (by omega), z2 7 (by decide)]; exact x4 k hk
    · show s3 (47 + 28 * t) 0 = g (47 + 28 * t) 0
      rw [y3 t ht, z2 _ (by omega), x1 _ (by omega)]
