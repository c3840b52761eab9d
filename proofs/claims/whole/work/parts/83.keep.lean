/-! What a run keeps and what it takes back: the model. -/
theorem m_kp1 {g : G} : Ev (lp (fun (s5 : Int32 × G) => (if (24 : Int32) ≤ s5.1 then some (.inr (s5.2)) else ck s5.1 24 fun j9 => ck s5.1 24 fun j10 => wr (up2 s5.2 166 j10 (s5.2 161 j9)) fun g11 => ck s5.1 24 fun j12 => ck s5.1 24 fun j13 => wr (up2 g11 167 j13 (g11 162 j12)) fun g14 => ck s5.1 24 fun j15 => ck s5.1 24 fun j16 => wr (up2 g14 168 j16 (g14 163 j15)) fun g17 => some (.inl ((s5.1 + (1 : Int32)), g17)) : Option ((Int32 × G) ⊕ (G)))) 2000 ((0 : Int32), g)) (fun s => (∀ a, ¬ (166 ≤ a ∧ a ≤ 168) → s a = g a) ∧ ∀ k, k < 24 → s 166 k = g 161 k ∧ s 167 k = g 162 k ∧ s 168 k = g 163 k) := by
  refine ev_lp (I := fun i s => s.1 = nI i ∧ (∀ a, ¬ (166 ≤ a ∧ a ≤ 168) → s.2 a = g a) ∧ ∀ k, k < i → s.2 166 k = g 161 k ∧ s.2 167 k = g 162 k ∧ s.2 168 k = g 163 k) 24 ?_ ?_ 2000 0 _ (Nat.zero_le _) (by omega) ⟨rfl, fun _ _ => rfl, fun t ht => absurd ht (Nat.not_lt_zero t)⟩
  · rintro i ⟨x, s⟩ hi ⟨rfl, h1, h2⟩
    dsimp only at h1 h2 ⊢
    refine ev_f (by rw [l_24]; exact nI_ge (by omega) (by omega)) ?_
    refine ev_ck i rfl (by omega) (by decide) ?_
    refine ev_ck i rfl (by omega) (by decide) ?_
    refine ev_wr ?_
    refine ev_ck i rfl (by omega) (by decide) ?_
    refine ev_ck i rfl (by omega) (by decide) ?_
    refine ev_wr ?_
    refine ev_ck i rfl (by omega) (by decide) ?_
    refine ev_ck i rfl (by omega) (by decide) ?_
    refine ev_wr ?_
    rw [h1 161 (by omega)]
    rw [up2_ne (show 162 ≠ 166 by decide), h1 162 (by omega)]
    rw [up2_ne (show 163 ≠ 167 by decide), up2_ne (show 163 ≠ 166 by decide), h1 163 (by omega)]
    refine ev_some ⟨by rw [l_1, nI_add], fun a ha => ?_, fun k hk => ?_⟩
    · show up2 (up2 (up2 s 166 i _) 167 i _) 168 i (g 163 i) a = g a
      rw [up2_ne (by omega), up2_ne (by omega), up2_ne (by omega)]; exact h1 a ha
    · show up2 (up2 (up2 s 166 i (g 161 i)) 167 i (g 162 i)) 168 i (g 163 i) 166 k = g 161 k ∧ up2 (up2 (up2 s 166 i (g 161 i)) 167 i (g 162 i)) 168 i (g 163 i) 167 k = g 162 k ∧ up2 (up2 (up2 s 166 i (g 161 i)) 167 i (g 162 i)) 168 i (g 163 i) 168 k = g 163 k
      rw [up2_ne (show 166 ≠ 168 by decide), up2_ne (show 166 ≠ 167 by decide), up2_eq, up2_ne (show 167 ≠ 168 by decide), up2_eq, up2_ne (show 167 ≠ 166 by decide), up2_eq, up2_ne (show 168 ≠ 167 by decide), up2_ne (show 168 ≠ 166 by decide)]
      by_cases q : k = i
      · subst q; rw [upd_eq, upd_eq, upd_eq]; exact ⟨rfl, rfl, rfl⟩
      · rw [upd_ne q, upd_ne q, upd_ne q]; exact h2 k (by omega)
  · rintro ⟨x, s⟩ ⟨rfl, h1, h2⟩
    dsimp only at h1 h2 ⊢
    exact ev_t (by rw [l_24]; exact nI_le (Nat.le_refl _) (by omega)) (ev_some ⟨h1, h2⟩)
theorem m_kp2 {g : G} : Ev (lp (fun (s21 : Int32 × G) => (if (96 : Int32) ≤ s21.1 then some (.inr (s21.2)) else ck s21.1 96 fun j25 => ck s21.1 96 fun j26 => wr (up2 s21.2 169 j26 (s21.2 164 j25)) fun g27 => some (.inl ((s21.1 + (1 : Int32)), g27)) : Option ((Int32 × G) ⊕ (G)))) 2000 ((0 : Int32), g)) (fun s => (∀ a, a ≠ 169 → s a = g a) ∧ ∀ k, k < 96 → s 169 k = g 164 k) := by
  refine ev_lp (I := fun i s => s.1 = nI i ∧ (∀ a, a ≠ 169 → s.2 a = g a) ∧ ∀ k, k < i → s.2 169 k = g 164 k) 96 ?_ ?_ 2000 0 _ (Nat.zero_le _) (by omega) ⟨rfl, fun _ _ => rfl, fun t ht => absurd ht (Nat.not_lt_zero t)⟩
  · rintro i ⟨x, s⟩ hi ⟨rfl, h1, h2⟩
    dsimp only at h1 h2 ⊢
    refine ev_f (by rw [l_96]; exact nI_ge (by omega) (by omega)) ?_
    refine ev_ck i rfl (by omega) (by decide) ?_
    refine ev_ck i rfl (by omega) (by decide) ?_
    refine ev_wr ?_
    refine ev_some ⟨by rw [l_1, nI_add], fun a ha => ?_, fun k hk => ?_⟩
    · show up2 s 169 i (s 164 i) a = g a
      rw [up2_ne ha]; exact h1 a ha
    · show up2 s 169 i (s 164 i) 169 k = g 164 k
      rw [up2_eq]
      by_cases q : k = i
      · subst q; rw [upd_eq, h1 164 (by decide)]
      · rw [upd_ne q]; exact h2 k (by omega)
  · rintro ⟨x, s⟩ ⟨rfl, h1, h2⟩
    dsimp only at h1 h2 ⊢
    exact ev_t (by rw [l_96]; exact nI_le (Nat.le_refl _) (by omega)) (ev_some ⟨h1, h2⟩)
theorem m_kp3 {g : G} : Ev (lp (fun (s21 : Int32 × G) => (if (1648 : Int32) ≤ s21.1 then some (.inr (s21.2)) else ck s21.1 1648 fun j25 => ck s21.1 1648 fun j26 => wr (up2 s21.2 170 j26 (s21.2 165 j25)) fun g27 => some (.inl ((s21.1 + (1 : Int32)), g27)) : Option ((Int32 × G) ⊕ (G)))) 2000 ((0 : Int32), g)) (fun s => (∀ a, a ≠ 170 → s a = g a) ∧ ∀ k, k < 1648 → s 170 k = g 165 k) := by
  refine ev_lp (I := fun i s => s.1 = nI i ∧ (∀ a, a ≠ 170 → s.2 a = g a) ∧ ∀ k, k < i → s.2 170 k = g 165 k) 1648 ?_ ?_ 2000 0 _ (Nat.zero_le _) (by omega) ⟨rfl, fun _ _ => rfl, fun t ht => absurd ht (Nat.not_lt_zero t)⟩
  · rintro i ⟨x, s⟩ hi ⟨rfl, h1, h2⟩
    dsimp only at h1 h2 ⊢
    refine ev_f (by rw [l_1648]; exact nI_ge (by omega) (by omega)) ?_
    refine ev_ck i rfl (by omega) (by decide) ?_
    refine ev_ck i rfl (by omega) (by decide) ?_
    refine ev_wr ?_
    refine ev_some ⟨by rw [l_1, nI_add], fun a ha => ?_, fun k hk => ?_⟩
    · show up2 s 170 i (s 165 i) a = g a
      rw [up2_ne ha]; exact h1 a ha
    · show up2 s 170 i (s 165 i) 170 k = g 165 k
      rw [up2_eq]
      by_cases q : k = i
      · subst q; rw [upd_eq, h1 165 (by decide)]
      · rw [upd_ne q]; exact h2 k (by omega)
  · rintro ⟨x, s⟩ ⟨rfl, h1, h2⟩
    dsimp only at h1 h2 ⊢
    exact ev_t (by rw [l_1648]; exact nI_le (Nat.le_refl _) (by omega)) (ev_some ⟨h1, h2⟩)
theorem mr_keep {g : G} : Ev (f_X9_keep g) (fun q => q.1 = 0 ∧ (∀ a, ¬ (166 ≤ a ∧ a ≤ 170) → a ≠ 159 → q.2 a = g a) ∧ (∀ k, k ≠ 11 → k ≠ 16 → q.2 159 k = g 159 k) ∧ q.2 159 11 = g 159 3 ∧ q.2 159 16 = g 159 8 ∧ (∀ k, k < 24 → q.2 166 k = g 161 k ∧ q.2 167 k = g 162 k ∧ q.2 168 k = g 163 k) ∧ (∀ k, k < 96 → q.2 169 k = g 164 k) ∧ ∀ k, k < 1648 → q.2 170 k = g 165 k) := by
  unfold f_X9_keep
  refine ev_wr ?_
  refine ev_wr ?_
  generalize hs0 : up2 (up2 g 159 11 (g 159 3)) 159 16 (up2 g 159 11 (g 159 3) 159 8) = s0
  have z0 : ∀ a, a ≠ 159 → s0 a = g a := fun a ha => by rw [← hs0, up2_ne ha, up2_ne ha]
  have z1 : ∀ k, k ≠ 11 → k ≠ 16 → s0 159 k = g 159 k := fun k q1 q2 => by rw [← hs0, up2_eq, upd_ne q2, up2_eq, upd_ne q1]
  have z2 : s0 159 11 = g 159 3 := by rw [← hs0]; rfl
  have z3 : s0 159 16 = g 159 8 := by rw [← hs0]; rfl
  refine ev_bd (m_kp1.imp ?_)
  rintro t1 ⟨x1, x2⟩
  refine ev_bd (m_kp2.imp ?_)
  rintro t2 ⟨y1, y2⟩
  refine ev_bd (m_kp3.imp ?_)
  rintro t3 ⟨w1, w2⟩
  have zz : t3 159 = s0 159 := by rw [w1 159 (by decide), y1 159 (by decide), x1 159 (by omega)]
  refine ev_some ⟨rfl, fun a ha a9 => ?_, fun k q1 q2 => ?_, ?_, ?_, fun k hk => ?_, fun k hk => ?_, fun k hk => ?_⟩
  · show t3 a = g a
    rw [w1 a (by omega), y1 a (by omega), x1 a (by omega), z0 a a9]
  · show t3 159 k = g 159 k
    rw [zz]; exact z1 k q1 q2
  · show t3 159 11 = _
    rw [zz]; exact z2
  · show t3 159 16 = _
    rw [zz]; exact z3
  · show t3 166 k = g 161 k ∧ t3 167 k = g 162 k ∧ t3 168 k = g 163 k
    rw [w1 166 (by decide), y1 166 (by decide), w1 167 (by decide), y1 167 (by decide), w1 168 (by decide), y1 168 (by decide)]
    have := x2 k hk
    rw [z0 161 (by decide), z0 162 (by decide), z0 163 (by decide)] at this
    exact this
  · show t3 169 k = g 164 k
    rw [w1 169 (by decide), y2 k hk, x1 164 (by omega), z0 164 (by decide)]
  · show t3 170 k = g 165 k
    rw [w2 k hk, y1 165 (by decide), x1 165 (by omega), z0 165 (by decide)]
theorem m_bk1 {g : G} : Ev (lp (fun (s5 : Int32 × G) => (if (24 : Int32) ≤ s5.1 then some (.inr (s5.2)) else ck s5.1 24 fun j9 => ck s5.1 24 fun j10 => wr (up2 s5.2 161 j10 (s5.2 166 j9)) fun g11 => ck s5.1 24 fun j12 => ck s5.1 24 fun j13 => wr (up2 g11 162 j13 (g11 167 j12)) fun g14 => ck s5.1 24 fun j15 => ck s5.1 24 fun j16 => wr (up2 g14 163 j16 (g14 168 j15)) fun g17 => some (.inl ((s5.1 + (1 : Int32)), g17)) : Option ((Int32 × G) ⊕ (G)))) 2000 ((0 : Int32), g)) (fun s => (∀ a, ¬ (161 ≤ a ∧ a ≤ 163) → s a = g a) ∧ ∀ k, k < 24 → s 161 k = g 166 k ∧ s 162 k = g 167 k ∧ s 163 k = g 168 k) := by
  refine ev_lp (I := fun i s => s.1 = nI i ∧ (∀ a, ¬ (161 ≤ a ∧ a ≤ 163) → s.2 a = g a) ∧ ∀ k, k < i → s.2 161 k = g 166 k ∧ s.2 162 k = g 167 k ∧ s.2 163 k = g 168 k) 24 ?_ ?_ 2000 0 _ (Nat.zero_le _) (by omega) ⟨rfl, fun _ _ => rfl, fun t ht => absurd ht (Nat.not_lt_zero t)⟩
  · rintro i ⟨x, s⟩ hi ⟨rfl, h1, h2⟩
    dsimp only at h1 h2 ⊢
    refine ev_f (by rw [l_24]; exact nI_ge (by omega) (by omega)) ?_
    refine ev_ck i rfl (by omega) (by decide) ?_
    refine ev_ck i rfl (by omega) (by decide) ?_
    refine ev_wr ?_
    refine ev_ck i rfl (by omega) (by decide) ?_
    refine ev_ck i rfl (by omega) (by decide) ?_
    refine ev_wr ?_
    refine ev_ck i rfl (by omega) (by decide) ?_
    refine ev_ck i rfl (by omega) (by decide) ?_
    refine ev_wr ?_
    rw [h1 166 (by omega)]
    rw [up2_ne (show 167 ≠ 161 by decide), h1 167 (by omega)]
    rw [up2_ne (show 168 ≠ 162 by decide), up2_ne (show 168 ≠ 161 by decide), h1 168 (by omega)]
    refine ev_some ⟨by rw [l_1, nI_add], fun a ha => ?_, fun k hk => ?_⟩
    · show up2 (up2 (up2 s 161 i _) 162 i _) 163 i (g 168 i) a = g a
      rw [up2_ne (by omega), up2_ne (by omega), up2_ne (by omega)]; exact h1 a ha
    · show up2 (up2 (up2 s 161 i (g 166 i)) 162 i (g 167 i)) 163 i (g 168 i) 161 k = g 166 k ∧ up2 (up2 (up2 s 161 i (g 166 i)) 162 i (g 167 i)) 163 i (g 168 i) 162 k = g 167 k ∧ up2 (up2 (up2 s 161 i (g 166 i)) 162 i (g 167 i)) 163 i (g 168 i) 163 k = g 168 k
      rw [up2_ne (show 161 ≠ 163 by decide), up2_ne (show 161 ≠ 162 by decide), up2_eq, up2_ne (show 162 ≠ 163 by decide), up2_eq, up2_ne (show 162 ≠ 161 by decide), up2_eq, up2_ne (show 163 ≠ 162 by decide), up2_ne (show 163 ≠ 161 by decide)]
      by_cases q : k = i
      · subst q; rw [upd_eq, upd_eq, upd_eq]; exact ⟨rfl, rfl, rfl⟩
      · rw [upd_ne q, upd_ne q, upd_ne q]; exact h2 k (by omega)
  · rintro ⟨x, s⟩ ⟨rfl, h1, h2⟩
    dsimp only at h1 h2 ⊢
    exact ev_t (by rw [l_24]; exact nI_le (Nat.le_refl _) (by omega)) (ev_some ⟨h1, h2⟩)
theorem m_bk2 {g : G} : Ev (lp (fun (s21 : Int32 × G) => (if (96 : Int32) ≤ s21.1 then some (.inr (s21.2)) else ck s21.1 96 fun j25 => ck s21.1 96 fun j26 => wr (up2 s21.2 164 j26 (s21.2 169 j25)) fun g27 => some (.inl ((s21.1 + (1 : Int32)), g27)) : Option ((Int32 × G) ⊕ (G)))) 2000 ((0 : Int32), g)) (fun s => (∀ a, a ≠ 164 → s a = g a) ∧ ∀ k, k < 96 → s 164 k = g 169 k) := by
  refine ev_lp (I := fun i s => s.1 = nI i ∧ (∀ a, a ≠ 164 → s.2 a = g a) ∧ ∀ k, k < i → s.2 164 k = g 169 k) 96 ?_ ?_ 2000 0 _ (Nat.zero_le _) (by omega) ⟨rfl, fun _ _ => rfl, fun t ht => absurd ht (Nat.not_lt_zero t)⟩
  · rintro i ⟨x, s⟩ hi ⟨rfl, h1, h2⟩
    dsimp only at h1 h2 ⊢
    refine ev_f (by rw [l_96]; exact nI_ge (by omega) (by omega)) ?_
    refine ev_ck i rfl (by omega) (by decide) ?_
    refine ev_ck i rfl (by omega) (by decide) ?_
    refine ev_wr ?_
    refine ev_some ⟨by rw [l_1, nI_add], fun a ha => ?_, fun k hk => ?_⟩
    · show up2 s 164 i (s 169 i) a = g a
      rw [up2_ne ha]; exact h1 a ha
    · show up2 s 164 i (s 169 i) 164 k = g 169 k
      rw [up2_eq]
      by_cases q : k = i
      · subst q; rw [upd_eq, h1 169 (by decide)]
      · rw [upd_ne q]; exact h2 k (by omega)
  · rintro ⟨x, s⟩ ⟨rfl, h1, h2⟩
    dsimp only at h1 h2 ⊢
    exact ev_t (by rw [l_96]; exact nI_le (Nat.le_refl _) (by omega)) (ev_some ⟨h1, h2⟩)
theorem m_bk3 {g : G} : Ev (lp (fun (s21 : Int32 × G) => (if (1648 : Int32) ≤ s21.1 then some (.inr (s21.2)) else ck s21.1 1648 fun j25 => ck s21.1 1648 fun j26 => wr (up2 s21.2 165 j26 (s21.2 170 j25)) fun g27 => some (.inl ((s21.1 + (1 : Int32)), g27)) : Option ((Int32 × G) ⊕ (G)))) 2000 ((0 : Int32), g)) (fun s => (∀ a, a ≠ 165 → s a = g a) ∧ ∀ k, k < 1648 → s 165 k = g 170 k) := by
  refine ev_lp (I := fun i s => s.1 = nI i ∧ (∀ a, a ≠ 165 → s.2 a = g a) ∧ ∀ k, k < i → s.2 165 k = g 170 k) 1648 ?_ ?_ 2000 0 _ (Nat.zero_le _) (by omega) ⟨rfl, fun _ _ => rfl, fun t ht => absurd ht (Nat.not_lt_zero t)⟩
  · rintro i ⟨x, s⟩ hi ⟨rfl, h1, h2⟩
    dsimp only at h1 h2 ⊢
    refine ev_f (by rw [l_1648]; exact nI_ge (by omega) (by omega)) ?_
    refine ev_ck i rfl (by omega) (by decide) ?_
    refine ev_ck i rfl (by omega) (by decide) ?_
    refine ev_wr ?_
    refine ev_some ⟨by rw [l_1, nI_add], fun a ha => ?_, fun k hk => ?_⟩
    · show up2 s 165 i (s 170 i) a = g a
      rw [up2_ne ha]; exact h1 a ha
    · show up2 s 165 i (s 170 i) 165 k = g 170 k
      rw [up2_eq]
      by_cases q : k = i
      · subst q; rw [upd_eq, h1 170 (by decide)]
      · rw [upd_ne q]; exact h2 k (by omega)
  · rintro ⟨x, s⟩ ⟨rfl, h1, h2⟩
    dsimp only at h1 h2 ⊢
    exact ev_t (by rw [l_1648]; exact nI_le (Nat.le_refl _) (by omega)) (ev_some ⟨h1, h2⟩)
theorem mr_back {g : G} : Ev (f_X9_back g) (fun q => q.1 = 0 ∧ (∀ a, ¬ (161 ≤ a ∧ a ≤ 165) → a ≠ 159 → q.2 a = g a) ∧ (∀ k, k ≠ 3 → k ≠ 8 → q.2 159 k = g 159 k) ∧ q.2 159 3 = g 159 11 ∧ q.2 159 8 = g 159 16 ∧ (∀ k, k < 24 → q.2 161 k = g 166 k ∧ q.2 162 k = g 167 k ∧ q.2 163 k = g 168 k) ∧ (∀ k, k < 96 → q.2 164 k = g 169 k) ∧ ∀ k, k < 1648 → q.2 165 k = g 170 k) := by
  unfold f_X9_back
  refine ev_wr ?_
  refine ev_wr ?_
  generalize hs0 : up2 (up2 g 159 3 (g 159 11)) 159 8 (up2 g 159 3 (g 159 11) 159 16) = s0
  have z0 : ∀ a, a ≠ 159 → s0 a = g a := fun a ha => by rw [← hs0, up2_ne ha, up2_ne ha]
  have z1 : ∀ k, k ≠ 3 → k ≠ 8 → s0 159 k = g 159 k := fun k q1 q2 => by rw [← hs0, up2_eq, upd_ne q2, up2_eq, upd_ne q1]
  have z2 : s0 159 3 = g 159 11 := by rw [← hs0]; rfl
  have z3 : s0 159 8 = g 159 16 := by rw [← hs0]; rfl
  refine ev_bd (m_bk1.imp ?_)
  rintro t1 ⟨x1, x2⟩
  refine ev_bd (m_bk2.imp ?_)
  rintro t2 ⟨y1, y2⟩
  refine ev_bd (m_bk3.imp ?_)
  rintro t3 ⟨w1, w2⟩
  have zz : t3 159 = s0 159 := by rw [w1 159 (by decide), y1 159 (by decide), x1 159 (by omega)]
  refine ev_some ⟨rfl, fun a ha a9 => ?_, fun k q1 q2 => ?_, ?_, ?_, fun k hk => ?_, fun k hk => ?_, fun k hk => ?_⟩
  · show t3 a = g a
    rw [w1 a (by omega), y1 a (by omega), x1 a (by omega), z0 a a9]
  · show t3 159 k = g 159 k
    rw [zz]; exact z1 k q1 q2
  · show t3 159 3 = _
    rw [zz]; exact z2
  · show t3 159 8 = _
    rw [zz]; exact z3
  · show t3 161 k = g 166 k ∧ t3 162 k = g 167 k ∧ t3 163 k = g 168 k
    rw [w1 161 (by decide), y1 161 (by decide), w1 162 (by decide), y1 162 (by decide), w1 163 (by decide), y1 163 (by decide)]
    have := x2 k hk
    rw [z0 166 (by decide), z0 167 (by decide), z0 168 (by decide)] at this
    exact this
  · show t3 164 k = g 169 k
    rw [w1 164 (by decide), y2 k hk, x1 169 (by omega), z0 169 (by decide)]
  · show t3 165 k = g 170 k
    rw [w2 k hk, y1 170 (by decide), x1 170 (by omega), z0 170 (by decide)]
