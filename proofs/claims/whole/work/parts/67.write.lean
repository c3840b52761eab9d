/-! Writing the round: the class. -/
def wPl (who : Nat → Nat) (tn : Nat → Nat → Nat) (w : Nat → Nat) (x : Nat) : Nat := if w x = 10 then who x else if tn x (w x) = 1 then who (w x) else who x
def bPl (who : Nat → Nat) (tn : Nat → Nat → Nat) (w : Nat → Nat) (x : Nat) : Nat := if w x = 10 then 99 else if tn x (w x) = 1 then who x else who (w x)
/-- what writing needs -/
def Wsrc (M : Nat) (who : Nat → Nat) (tn : Nat → Nat → Nat) (w : Nat → Nat) (p : Nat → Bool) (g : G) : Prop := g 27 11 = nI M ∧ ∀ x, x < M → who x < 24 ∧ g 28 x = nI (who x) ∧ g 38 x = nI (w x) ∧ w x ≤ 10 ∧ ((p x = true ∧ x < w x ∧ (w x = 10 ∨ (w x < M ∧ tn x (w x) ≤ 1 ∧ g 35 (11 * x + w x) = nI (tn x (w x))))) ∨ (p x = false ∧ w x < x))
theorem Wsrc.cg {M : Nat} {who : Nat → Nat} {tn : Nat → Nat → Nat} {w : Nat → Nat} {p : Nat → Bool} {g s : G} (h : Wsrc M who tn w p g) (x : ∀ a, (a = 27 ∨ a = 28 ∨ a = 35 ∨ a = 38) → s a = g a) : Wsrc M who tn w p s := by
  unfold Wsrc
  rw [x 27 (by omega), x 28 (by omega), x 35 (by omega), x 38 (by omega)]
  exact h
theorem c_write1 {M t dr : Nat} {who : Nat → Nat} {tn : Nat → Nat → Nat} {w : Nat → Nat} {p : Nat → Bool} {g : G} (ht : t < 4) (M10 : M ≤ 10) (h : Wsrc M who tn w p g) (d5 : dr < 6) (m5 : cn p M ≤ 5) : Ev (lp (fun (s4 : Int32 × Int32 × G) => (if (s4.2.2 27 11) ≤ s4.2.1 then some (.inr (s4.1, s4.2.2)) else ck s4.2.1 10 fun j9 => bd ((if (s4.2.2 38 j9) ≤ s4.2.1 then some ((s4.1, s4.2.2)) else bd ((if (s4.2.2 38 j9) = (10 : Int32) then some (.inl (s4.1, s4.2.2)) else ck ((s4.2.1 * (11 : Int32)) + (s4.2.2 38 j9)) 110 fun j37 => if (s4.2.2 35 j37) = 0 then some (.inl (s4.1, s4.2.2)) else bd ((if (s4.2.2 38 j9) = (10 : Int32) then some ((99 : Int32)) else ck (s4.2.2 38 j9) 10 fun j56 => some ((s4.2.2 28 j56)) : Option (Int32))) fun (s40 : Int32) => bd ((if (1 : Int32) = 0 then ck s4.2.1 10 fun j53 => some ((s4.2.2 28 j53)) else some (s40) : Option (Int32))) fun (s42 : Int32) => ck s4.1 30 fun j43 => wr (up2 s4.2.2 ((47 + 28 * t) + 7) j43 s42) fun g44 => bd ((if (1 : Int32) = 0 then some (s40) else ck s4.2.1 10 fun j50 => some ((g44 28 j50)) : Option (Int32))) fun (s46 : Int32) => ck s4.1 30 fun j47 => wr (up2 g44 ((47 + 28 * t) + 8) j47 s46) fun g48 => some (.inr (((s4.1 + (1 : Int32)), g48))) : Option ((Int32 × G) ⊕ (Int32 × G)))) fun s58m => (match s58m with | .inl s16 => (bd ((if (s4.2.2 38 j9) = (10 : Int32) then some ((99 : Int32)) else ck (s4.2.2 38 j9) 10 fun j34 => some ((s16.2 28 j34)) : Option (Int32))) fun (s18 : Int32) => bd ((if (0 : Int32) = 0 then ck s4.2.1 10 fun j31 => some ((s16.2 28 j31)) else some (s18) : Option (Int32))) fun (s20 : Int32) => ck s16.1 30 fun j21 => wr (up2 s16.2 ((47 + 28 * t) + 7) j21 s20) fun g22 => bd ((if (0 : Int32) = 0 then some (s18) else ck s4.2.1 10 fun j28 => some ((g22 28 j28)) : Option (Int32))) fun (s24 : Int32) => ck s16.1 30 fun j25 => wr (up2 g22 ((47 + 28 * t) + 8) j25 s24) fun g26 => some (((s16.1 + (1 : Int32)), g26))) | .inr y => some y) : Option (Int32 × G))) fun (s12 : Int32 × G) => some (.inl (s12.1, (s4.2.1 + (1 : Int32)), s12.2)) : Option ((Int32 × Int32 × G) ⊕ (Int32 × G)))) 2000 (nI (5 * dr), (0 : Int32), g)) (fun q => q.1 = nI (5 * dr + cn p M) ∧ (∀ a, a ≠ 47 + 28 * t + 7 → a ≠ 47 + 28 * t + 8 → q.2 a = g a) ∧ (∀ k, (k < 5 * dr ∨ 5 * dr + cn p M ≤ k) → q.2 (47 + 28 * t + 7) k = g (47 + 28 * t + 7) k ∧ q.2 (47 + 28 * t + 8) k = g (47 + 28 * t + 8) k) ∧ ∀ x, x < M → p x = true → q.2 (47 + 28 * t + 7) (5 * dr + cn p x) = nI (wPl who tn w x) ∧ q.2 (47 + 28 * t + 8) (5 * dr + cn p x) = nI (bPl who tn w x)) := by
  refine ev_lp (I := fun x s => s.1 = nI (5 * dr + cn p x) ∧ s.2.1 = nI x ∧ (∀ a, a ≠ 47 + 28 * t + 7 → a ≠ 47 + 28 * t + 8 → s.2.2 a = g a) ∧ (∀ k, (k < 5 * dr ∨ 5 * dr + cn p x ≤ k) → s.2.2 (47 + 28 * t + 7) k = g (47 + 28 * t + 7) k ∧ s.2.2 (47 + 28 * t + 8) k = g (47 + 28 * t + 8) k) ∧ ∀ y, y < x → p y = true → s.2.2 (47 + 28 * t + 7) (5 * dr + cn p y) = nI (wPl who tn w y) ∧ s.2.2 (47 + 28 * t + 8) (5 * dr + cn p y) = nI (bPl who tn w y)) M ?_ ?_ 2000 0 _ (Nat.zero_le _) (by omega) ⟨rfl, rfl, fun _ _ _ => rfl, fun _ _ => ⟨rfl, rfl⟩, fun y hy => absurd hy (Nat.not_lt_zero y)⟩
  · rintro x ⟨z1, z2, s⟩ hx ⟨rfl, rfl, i1, i2, i3⟩
    dsimp only at i1 i2 i3
    have hs := h.cg (s := s) (fun a ha => i1 a (by omega) (by omega))
    obtain ⟨h11, hW⟩ := hs
    obtain ⟨a1, a2, a3, a4, a5⟩ := hW x hx
    have hcx := cn_le p (show x + 1 ≤ M from hx)
    rcases a5 with ⟨px, lt, hy⟩ | ⟨px, lt⟩
    · have hk : cn p (x + 1) = cn p x + 1 := by rw [cn, if_pos px]
      rw [hk] at hcx
      -- both ways end in such a state
      have put : (bb : Option ((Int32 × Int32 × G) ⊕ (Int32 × G))) → bb = some (.inl (nI (5 * dr + cn p x + 1), nI (x + 1), up2 (up2 s (47 + 28 * t + 7) (5 * dr + cn p x) (nI (wPl who tn w x))) (47 + 28 * t + 8) (5 * dr + cn p x) (nI (bPl who tn w x)))) → Ev bb (Sum.elim (fun s => s.1 = nI (5 * dr + cn p (x + 1)) ∧ s.2.1 = nI (x + 1) ∧ (∀ a, a ≠ 47 + 28 * t + 7 → a ≠ 47 + 28 * t + 8 → s.2.2 a = g a) ∧ (∀ k, (k < 5 * dr ∨ 5 * dr + cn p (x + 1) ≤ k) → s.2.2 (47 + 28 * t + 7) k = g (47 + 28 * t + 7) k ∧ s.2.2 (47 + 28 * t + 8) k = g (47 + 28 * t + 8) k) ∧ ∀ y, y < x + 1 → p y = true → s.2.2 (47 + 28 * t + 7) (5 * dr + cn p y) = nI (wPl who tn w y) ∧ s.2.2 (47 + 28 * t + 8) (5 * dr + cn p y) = nI (bPl who tn w y)) (fun q => q.1 = nI (5 * dr + cn p M) ∧ (∀ a, a ≠ 47 + 28 * t + 7 → a ≠ 47 + 28 * t + 8 → q.2 a = g a) ∧ (∀ k, (k < 5 * dr ∨ 5 * dr + cn p M ≤ k) → q.2 (47 + 28 * t + 7) k = g (47 + 28 * t + 7) k ∧ q.2 (47 + 28 * t + 8) k = g (47 + 28 * t + 8) k) ∧ ∀ x, x < M → p x = true → q.2 (47 + 28 * t + 7) (5 * dr + cn p x) = nI (wPl who tn w x) ∧ q.2 (47 + 28 * t + 8) (5 * dr + cn p x) = nI (bPl who tn w x))) := by
        intro bb hb
        refine Ev.of hb ⟨by rw [hk]; rfl, rfl, fun a q1 q2 => ?_, fun k hk2 => ?_, fun y hy py => ?_⟩
        · dsimp only
          rw [up2_ne q2, up2_ne q1]; exact i1 a q1 q2
        · dsimp only
          rw [hk] at hk2
          rw [up2_ne (by omega), up2_eq, upd_ne (by omega), up2_eq, upd_ne (by omega), up2_ne (by omega)]
          exact i2 k (by omega)
        · dsimp only
          by_cases e : y = x
          · subst e
            rw [up2_ne (by omega), up2_eq, upd_eq, up2_eq, upd_eq]
            exact ⟨rfl, rfl⟩
          · have := cn_lt p (show y < x by omega) py
            rw [up2_ne (by omega), up2_eq, upd_ne (by omega), up2_eq, upd_ne (by omega), up2_ne (by omega)]
            exact i3 y (by omega) py
      generalize hK : 5 * dr + cn p x = K at *
      refine put _ ?_
      dsimp only
      refine q_if_f (by rw [h11]; exact nI_ge hx (by omega)) ?_
      refine q_ck x rfl (by omega) (by decide) ?_
      refine q_bd (a := (nI (K + 1), up2 (up2 s (47 + 28 * t + 7) K (nI (wPl who tn w x))) (47 + 28 * t + 8) K (nI (bPl who tn w x)))) ?_ (by rw [nI_1])
      refine q_if_f (by rw [a3]; exact nI_ge lt (by omega)) ?_
      rcases hy with w10 | ⟨wM, t1, e35⟩
      · refine q_bd (a := .inl (nI K, s)) (q_if_t (by rw [a3, w10]; rfl) rfl) ?_
        dsimp only
        refine q_bd (a := nI 99) (q_if_t (by rw [a3, w10]; rfl) rfl) ?_
        refine q_bd (a := nI (who x)) (q_if_t rfl (q_ck x rfl (by omega) (by decide) (by rw [a2]))) ?_
        refine q_ck K rfl (by omega) (by decide) ?_
        refine q_wr ?_
        refine q_bd (a := nI 99) (q_if_t rfl rfl) ?_
        refine q_ck K rfl (by omega) (by decide) ?_
        refine q_wr ?_
        rw [nI_1]
        unfold wPl bPl
        rw [if_pos w10, if_pos w10]
      · obtain ⟨b1, b2, -⟩ := hW _ wM
        have n10 : ¬ w x = 10 := by omega
        have e10 : ¬ s 38 x = 10 := by rw [a3]; exact nI_ne (b := 10) (by omega) (by omega) n10
        have ix : nI x * 11 + s 38 x = nI (11 * x + w x) := by rw [a3, show (11 : Int32) = nI 11 from rfl, pk_mul, nI_add, Nat.mul_comm]
        have : tn x (w x) = 0 ∨ tn x (w x) = 1 := by omega
        rcases this with t0 | t1
        · refine q_bd (a := .inl (nI K, s)) (q_if_f e10 (q_ck (11 * x + w x) ix (by omega) (by decide) (q_if_t (by rw [e35, t0]; rfl) rfl))) ?_
          dsimp only
          refine q_bd (a := nI (who (w x))) (q_if_f e10 (q_ck (w x) a3 (by omega) (by decide) (by rw [b2]))) ?_
          refine q_bd (a := nI (who x)) (q_if_t rfl (q_ck x rfl (by omega) (by decide) (by rw [a2]))) ?_
          refine q_ck K rfl (by omega) (by decide) ?_
          refine q_wr ?_
          refine q_bd (a := nI (who (w x))) (q_if_t rfl rfl) ?_
          refine q_ck K rfl (by omega) (by decide) ?_
          refine q_wr ?_
          rw [nI_1]
          unfold wPl bPl
          rw [if_neg n10, if_neg n10, t0, if_neg (by decide), if_neg (by decide)]
        · refine q_bd (a := .inr (nI (K + 1), up2 (up2 s (47 + 28 * t + 7) K (nI (wPl who tn w x))) (47 + 28 * t + 8) K (nI (bPl who tn w x)))) ?_ rfl
          refine q_if_f e10 (q_ck (11 * x + w x) ix (by omega) (by decide) (q_if_f (by rw [e35, t1]; decide) ?_))
          refine q_bd (a := nI (who (w x))) (q_if_f e10 (q_ck (w x) a3 (by omega) (by decide) (by rw [b2]))) ?_
          refine q_bd (a := nI (who (w x))) (q_if_f (by decide) rfl) ?_
          refine q_ck K rfl (by omega) (by decide) ?_
          refine q_wr ?_
          refine q_bd (a := nI (who x)) (q_if_f (by decide) (q_ck x rfl (by omega) (by decide) (by rw [up2_ne (by omega), a2]))) ?_
          refine q_ck K rfl (by omega) (by decide) ?_
          refine q_wr ?_
          rw [nI_1]
          unfold wPl bPl
          rw [if_neg n10, if_neg n10, if_pos t1, if_pos t1]
    · have hk : cn p (x + 1) = cn p x := by rw [cn, px, if_neg (by decide)]
      refine Ev.of (a := .inl (nI (5 * dr + cn p x), nI (x + 1), s)) ?_ ⟨by rw [hk], rfl, i1, by rw [hk]; exact i2, fun y hy py => ?_⟩
      · dsimp only
        refine q_if_f (by rw [h11]; exact nI_ge hx (by omega)) ?_
        refine q_ck x rfl (by omega) (by decide) ?_
        exact q_bd (a := (nI (5 * dr + cn p x), s)) (q_if_t (by rw [a3]; exact nI_le (by omega) (by omega)) rfl) (by rw [nI_1])
      · refine i3 y ?_ py
        by_cases e : y = x
        · subst e; rw [px] at py; exact absurd py (by decide)
        · omega
  · rintro ⟨z1, z2, s⟩ ⟨rfl, rfl, i1, i2, i3⟩
    dsimp only at i1 i2 i3
    have hs := h.cg (s := s) (fun a ha => i1 a (by omega) (by omega))
    obtain ⟨h11, -⟩ := hs
    exact Ev.of (a := .inr (nI (5 * dr + cn p M), s)) (q_if_t (by show s 27 11 ≤ nI M; rw [h11]; exact Int32.le_refl _) rfl) ⟨rfl, i1, i2, i3⟩
theorem c_writeRound {M t dr cost : Nat} {day : Int32} {who : Nat → Nat} {tn : Nat → Nat → Nat} {w : Nat → Nat} {p : Nat → Bool} {g : G} (ht : t < 4) (M10 : M ≤ 10) (h : Wsrc M who tn w p g) (d5 : dr < 6) (m5 : cn p M ≤ 5) (h2 : g (47 + 28 * t) 2 = nI dr) (h12 : g 27 12 = nI cost) : Ev (f_X0_writeRound (47 + 28 * t) day g) (fun q => q.1 = nI (cn p M) ∧ (∀ a, ¬ (47 + 28 * t ≤ a ∧ a < 61 + 28 * t) → q.2 a = g a) ∧ (∀ a k, 47 + 28 * t ≤ a → a < 61 + 28 * t → ¬ (a = 47 + 28 * t ∧ k = 2) → ¬ (47 + 28 * t + 4 ≤ a ∧ a ≤ 47 + 28 * t + 6 ∧ k = dr) → ¬ (47 + 28 * t + 7 ≤ a ∧ a ≤ 47 + 28 * t + 8 ∧ 5 * dr ≤ k ∧ k < 5 * dr + cn p M) → q.2 a k = g a k) ∧ q.2 (47 + 28 * t) 2 = nI (dr + 1) ∧ q.2 (47 + 28 * t + 4) dr = day ∧ q.2 (47 + 28 * t + 5) dr = nI (cn p M) ∧ q.2 (47 + 28 * t + 6) dr = nI cost ∧ ∀ x, x < M → p x = true → q.2 (47 + 28 * t + 7) (5 * dr + cn p x) = nI (wPl who tn w x) ∧ q.2 (47 + 28 * t + 8) (5 * dr + cn p x) = nI (bPl who tn w x)) := by
  unfold f_X0_writeRound
  have e5 : nI dr * 5 = nI (5 * dr) := by rw [l_5, pk_mul, Nat.mul_comm]
  refine ev_bd ?_
  rw [h2, e5]
  refine (c_write1 (dr := dr) ht M10 h d5 m5).imp ?_
  rintro ⟨c0, s⟩ ⟨rfl, i1, i2, i3⟩
  dsimp only at i1 i2 i3
  refine ev_ck dr rfl d5 (by decide) ?_
  refine ev_wr ?_
  refine ev_ck dr rfl d5 (by decide) ?_
  refine ev_wr ?_
  refine ev_ck dr rfl d5 (by decide) ?_
  refine ev_wr ?_
  refine ev_wr ?_
  refine ev_ck dr rfl d5 (by decide) ?_
  have e1 : nI (5 * dr + cn p M) - nI (5 * dr) = nI (cn p M) := by rw [pk_sub (by omega)]; congr 1; omega
  have s27 : s 27 12 = nI cost := by rw [i1 27 (by omega) (by omega)]; exact h12
  have s2 : s (47 + 28 * t) 2 = nI dr := by rw [i1 _ (by omega) (by omega)]; exact h2
  rw [e1]
  refine ev_some ⟨?_, fun a ha => ?_, fun a k a1 a2 n1 n2 n3 => ?_, ?_, ?_, ?_, ?_, fun x hx px => ?_⟩
  · simp (disch := omega) only [up2_ne, up2_eq, upd_ne, upd_eq]
  · dsimp only
    rw [up2_ne (by omega), up2_ne (by omega), up2_ne (by omega), up2_ne (by omega)]
    exact i1 a (by omega) (by omega)
  · dsimp only
    have hs : s a k = g a k := by
      by_cases q7 : a = 47 + 28 * t + 7
      · subst q7
        exact (i2 k (by omega)).1
      · by_cases q8 : a = 47 + 28 * t + 8
        · subst q8
          exact (i2 k (by omega)).2
        · rw [i1 a q7 q8]
    by_cases q0 : a = 47 + 28 * t
    · subst q0
      rw [up2_eq, upd_ne (by omega), up2_ne (by omega), up2_ne (by omega), up2_ne (by omega)]
      exact hs
    · rw [up2_ne q0]
      by_cases q6 : a = 47 + 28 * t + 6
      · subst q6
        rw [up2_eq, upd_ne (by omega), up2_ne (by omega), up2_ne (by omega)]
        exact hs
      · rw [up2_ne q6]
        by_cases q5 : a = 47 + 28 * t + 5
        · subst q5
          rw [up2_eq, upd_ne (by omega), up2_ne (by omega)]
          exact hs
        · rw [up2_ne q5]
          by_cases q4 : a = 47 + 28 * t + 4
          · subst q4
            rw [up2_eq, upd_ne (by omega)]
            exact hs
          · rw [up2_ne q4]
            exact hs
  · simp (disch := omega) only [up2_ne, up2_eq, upd_ne, upd_eq, s2]
    rw [nI_1]
  · simp (disch := omega) only [up2_ne, up2_eq, upd_ne, upd_eq]
  · simp (disch := omega) only [up2_ne, up2_eq, upd_ne, upd_eq]
  · simp (disch := omega) only [up2_ne, up2_eq, upd_ne, upd_eq, s27]
  · dsimp only
    rw [up2_ne (by omega), up2_ne (by omega), up2_ne (by omega), up2_ne (by omega), up2_ne (by omega), up2_ne (by omega), up2_ne (by omega), up2_ne (by omega)]
    exact i3 x hx px
theorem c_findWay {M : Nat} {c : Nat → Nat → Nat} {al : Nat → Nat} {g : G} (hc : ∀ i j, i < j → j < M → c i j ≤ 4000000) (ha : ∀ i, i < M → al i ≤ 4000000) (M10 : M ≤ 10) (h11 : g 27 11 = nI M) (h36 : ∀ i j, i < j → j < M → g 36 (11 * i + j) = nI (c i j)) (h10 : ∀ i, i < M → g 36 (11 * i + 10) = nI (al i)) : Ev (f_X0_findWay g) (fun q => (∀ a, a ≠ 27 → a ≠ 37 → a ≠ 38 → q.2 a = g a) ∧ (∀ k, k ≠ 12 → q.2 27 k = g 27 k) ∧ q.2 27 12 = nI (opt M c al (fsM M)).1 ∧ ∀ x, x < M → q.2 38 x = nI (wy M c al x)) := by
  have hb := opt_bd hc ha _ (fsM M) rfl
  rw [fs_cn] at hb
  unfold f_X0_findWay
  rw [j_fill (by decide)]
  refine ev_call rfl ?_
  refine ev_wr ?_
  have s11 : up2 (fl g 37 10 (-1)) 27 12 2147483647 27 11 = nI M := by rw [up2_eq, upd_ne (by decide), fl_ne (by decide)]; exact h11
  have hrec := c_search hc ha M10 12 (fsM M) 0 0 2147483647 (up2 (fl g 37 10 (-1)) 27 12 2147483647) (by rw [fs_cn]; omega) (by rw [fs_cn]; omega) (by rw [fs_cn]; omega) (Nat.le_refl _) (fun k hk => decide_eq_false (by omega)) ⟨s11, fun k hk => Or.inl ⟨decide_eq_true hk, by rw [up2_ne (by decide), fl_in (by omega)]; rfl⟩, fun i j hij hj => by rw [up2_ne (by decide), fl_ne (by decide)]; exact h36 i j hij hj, fun i hi => by rw [up2_ne (by decide), fl_ne (by decide)]; exact h10 i hi⟩ (by rw [up2_eq, upd_eq]; rfl)
  rw [fs_cn] at hrec
  have hlt : 0 + (opt M c al (fsM M)).1 < 2147483647 := by omega
  obtain ⟨⟨r, s⟩, e, u1, u2, u3, u4⟩ := hrec
  dsimp only at u1 u2 u3 u4
  rw [if_pos hlt, Nat.zero_add] at u3
  have fin : (∀ a, a ≠ 27 → a ≠ 37 → a ≠ 38 → s a = g a) ∧ (∀ k, k ≠ 12 → s 27 k = g 27 k) ∧ s 27 12 = nI (opt M c al (fsM M)).1 ∧ ∀ x, x < M → s 38 x = nI (wy M c al x) := by
    refine ⟨fun a a1 a2 a3 => ?_, fun k hk => ?_, u3, fun x hx => ?_⟩
    · rw [u1 a a1 a3, up2_ne a1, fl_ne a2]
    · rw [u2 k hk, up2_eq, upd_ne hk, fl_ne (by decide)]
    · rw [u4 x (by omega), if_pos hlt, if_pos (show fsM M x = true from decide_eq_true hx)]
      rfl
  have hrem : nI M - nI M / 2 * 2 = nI (M % 2) := by rw [l_2, pk_rem (by omega) (by omega) (by omega)]
  rw [s11, hrem]
  have : M % 2 = 0 ∨ M % 2 = 1 := by omega
  rcases this with q | q
  · rw [q] at e ⊢
    refine ev_f (by decide) ?_
    exact ev_call e (ev_some fin)
  · rw [q] at e ⊢
    refine ev_t rfl ?_
    exact ev_call e (ev_some fin)
