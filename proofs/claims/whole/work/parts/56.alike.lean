/-! The call alike. -/
theorem c_isSame {b0 n0 b1 n1 lo hi : Nat} {g : G} (hlh : lo ≤ hi) (h0 : hi ≤ n0) (h1 : hi ≤ n1) (hn : n0 < 1000 ∧ n1 < 1000) : (f_X7_isSame b0 n0 b1 n1 (nI lo) (nI hi) g = some (nI 1, g) ∧ ∀ k, lo ≤ k → k < hi → g b0 k = g b1 k) ∨ (f_X7_isSame b0 n0 b1 n1 (nI lo) (nI hi) g = some (nI 0, g) ∧ ∃ k, lo ≤ k ∧ k < hi ∧ g b0 k ≠ g b1 k) := by
  have step : ∀ i, lo + i < hi → g b0 (lo + i) = g b1 (lo + i) → (if nI hi ≤ nI (lo + i) then some (.inr (.inl ())) else ck (nI (lo + i)) n0 fun j5 => ck (nI (lo + i)) n1 fun j6 => if (g b0 j5) = (g b1 j6) then some (.inl ((nI (lo + i) + (1 : Int32)))) else some (.inr (.inr (((0 : Int32), g)))) : Option ((Int32) ⊕ ((Unit) ⊕ (Int32 × G)))) = some (.inl (nI (lo + (i + 1)))) := by
    intro i hi' he
    refine q_if_f (nI_ge hi' (by omega)) ?_
    refine q_ck (lo + i) rfl (by omega) (by omega) ?_
    refine q_ck (lo + i) rfl (by omega) (by omega) ?_
    refine q_if_t he ?_
    rw [nI_1]
    rfl
  rcases first_or (fun i => ¬ g b0 (lo + i) = g b1 (lo + i)) (hi - lo) with ⟨m, q1, q2, q3⟩ | q
  · refine Or.inr ⟨?_, lo + m, by omega, by omega, q2⟩
    unfold f_X7_isSame
    refine q_bd (a := .inr (nI 0, g)) ?_ rfl
    refine q_lp (fun i => nI (lo + i)) m (fun i hi' => step i (by omega) (Classical.not_not.mp (q3 i hi'))) ?_ (by omega) rfl
    refine q_if_f (nI_ge (by omega) (by omega)) ?_
    refine q_ck (lo + m) rfl (by omega) (by omega) ?_
    refine q_ck (lo + m) rfl (by omega) (by omega) ?_
    exact q_if_f q2 rfl
  · refine Or.inl ⟨?_, fun k k1 k2 => ?_⟩
    · unfold f_X7_isSame
      refine q_bd (a := .inl ()) ?_ rfl
      refine q_lp (fun i => nI (lo + i)) (hi - lo) (fun i hi' => step i (by omega) (Classical.not_not.mp (q i hi'))) ?_ (by omega) rfl
      refine q_if_t ?_ rfl
      rw [show lo + (hi - lo) = hi from by omega]
      exact Int32.le_refl _
    · have := Classical.not_not.mp (q (k - lo) (by omega))
      rw [show lo + (k - lo) = k from by omega] at this
      exact this
def LkC (n dr e : Nat) (F F' : Nat → Nat → Int32) : Prop := (F 0 1 = F' 0 1 ∧ F 0 2 = F' 0 2 ∧ F 0 3 = F' 0 3) ∧ (∀ k, k < n → F 1 k = F' 1 k) ∧ (∀ k, k < 24 → F 2 k = F' 2 k) ∧ (∀ k, k < 5 → F 3 k = F' 3 k) ∧ ((∀ k, k < dr → F 4 k = F' 4 k) ∧ (∀ k, k < dr → F 5 k = F' 5 k) ∧ ∀ k, k < dr → F 6 k = F' 6 k) ∧ (∀ r, r < dr → ∀ m, F 5 r = nI m → m ≤ 5 → (∀ k, k < m → F 7 (5 * r + k) = F' 7 (5 * r + k)) ∧ ∀ k, k < m → F 8 (5 * r + k) = F' 8 (5 * r + k)) ∧ ((∀ k, k < e → F 9 k = F' 9 k) ∧ (∀ k, k < e → F 10 k = F' 10 k) ∧ (∀ k, k < e → F 11 k = F' 11 k) ∧ (∀ k, k < e → F 12 k = F' 12 k) ∧ ∀ k, k < e → F 13 k = F' 13 k)
theorem c_likeR {t0 t1 dr : Nat} {g : G} (d6 : dr ≤ 6) (hd : g t0 2 = nI dr) (hm : ∀ r, r < dr → ∃ m, m ≤ 5 ∧ g (t0 + 5) r = nI m) : (f_X7_hasLikeRounds t0 t1 g = some (nI 1, g) ∧ ((∀ k, k < dr → g (t0 + 4) k = g (t1 + 4) k) ∧ (∀ k, k < dr → g (t0 + 5) k = g (t1 + 5) k) ∧ ∀ k, k < dr → g (t0 + 6) k = g (t1 + 6) k) ∧ ∀ r, r < dr → ∀ m, g (t0 + 5) r = nI m → m ≤ 5 → (∀ k, k < m → g (t0 + 7) (5 * r + k) = g (t1 + 7) (5 * r + k)) ∧ ∀ k, k < m → g (t0 + 8) (5 * r + k) = g (t1 + 8) (5 * r + k)) ∨ (f_X7_hasLikeRounds t0 t1 g = some (nI 0, g) ∧ ¬ (((∀ k, k < dr → g (t0 + 4) k = g (t1 + 4) k) ∧ (∀ k, k < dr → g (t0 + 5) k = g (t1 + 5) k) ∧ ∀ k, k < dr → g (t0 + 6) k = g (t1 + 6) k) ∧ ∀ r, r < dr → ∀ m, g (t0 + 5) r = nI m → m ≤ 5 → (∀ k, k < m → g (t0 + 7) (5 * r + k) = g (t1 + 7) (5 * r + k)) ∧ ∀ k, k < m → g (t0 + 8) (5 * r + k) = g (t1 + 8) (5 * r + k))) := by
  unfold f_X7_hasLikeRounds
  rw [hd]
  rcases c_isSame (b0 := t0 + 4) (n0 := 6) (b1 := t1 + 4) (n1 := 6) (lo := 0) (hi := dr) (g := g) (by omega) d6 d6 (by omega) with ⟨e4, h4⟩ | ⟨e4, k, -, k2, k3⟩
  · rcases c_isSame (b0 := t0 + 5) (n0 := 6) (b1 := t1 + 5) (n1 := 6) (lo := 0) (hi := dr) (g := g) (by omega) d6 d6 (by omega) with ⟨e5, h5⟩ | ⟨e5, k, -, k2, k3⟩
    · rcases c_isSame (b0 := t0 + 6) (n0 := 6) (b1 := t1 + 6) (n1 := 6) (lo := 0) (hi := dr) (g := g) (by omega) d6 d6 (by omega) with ⟨e6, h6⟩ | ⟨e6, k, -, k2, k3⟩
      · -- the rounds
        have row : ∀ r, r < dr → ∃ m, m ≤ 5 ∧ g (t0 + 5) r = nI m ∧ nI r * 5 = nI (5 * r) ∧ nI (5 * r) + g (t0 + 5) r = nI (5 * r + m) := by
          intro r hr
          obtain ⟨m, m5, em⟩ := hm r hr
          refine ⟨m, m5, em, ?_, by rw [em, nI_add]⟩
          rw [l_5, pk_mul, Nat.mul_comm]
        have lk : ∀ r, r < dr → (((bd2 (f_X7_isSame (t0 + 7) 30 (t1 + 7) 30 (nI r * (5 : Int32)) ((nI r * (5 : Int32)) + (g (t0 + 5) r)) g) fun r17 g18 => if r17 = 0 then some (.inr (.inr (((0 : Int32), g18)))) else bd2 (f_X7_isSame (t0 + 8) 30 (t1 + 8) 30 (nI r * (5 : Int32)) ((nI r * (5 : Int32)) + (g (t0 + 5) r)) g18) fun r20 g21 => if r20 = 0 then some (.inr (.inr (((0 : Int32), g21)))) else some (.inl ((nI r + (1 : Int32)), g21)) : Option ((Int32 × G) ⊕ ((G) ⊕ (Int32 × G)))) = some (.inl (nI (r + 1), g)) ∧ ∀ m, g (t0 + 5) r = nI m → m ≤ 5 → (∀ k, k < m → g (t0 + 7) (5 * r + k) = g (t1 + 7) (5 * r + k)) ∧ ∀ k, k < m → g (t0 + 8) (5 * r + k) = g (t1 + 8) (5 * r + k)) ∨ ((bd2 (f_X7_isSame (t0 + 7) 30 (t1 + 7) 30 (nI r * (5 : Int32)) ((nI r * (5 : Int32)) + (g (t0 + 5) r)) g) fun r17 g18 => if r17 = 0 then some (.inr (.inr (((0 : Int32), g18)))) else bd2 (f_X7_isSame (t0 + 8) 30 (t1 + 8) 30 (nI r * (5 : Int32)) ((nI r * (5 : Int32)) + (g (t0 + 5) r)) g18) fun r20 g21 => if r20 = 0 then some (.inr (.inr (((0 : Int32), g21)))) else some (.inl ((nI r + (1 : Int32)), g21)) : Option ((Int32 × G) ⊕ ((G) ⊕ (Int32 × G)))) = some (.inr (.inr (nI 0, g))) ∧ ¬ ∀ m, g (t0 + 5) r = nI m → m ≤ 5 → (∀ k, k < m → g (t0 + 7) (5 * r + k) = g (t1 + 7) (5 * r + k)) ∧ ∀ k, k < m → g (t0 + 8) (5 * r + k) = g (t1 + 8) (5 * r + k))) := by
          intro r hr
          obtain ⟨m, m5, em, q1, q2⟩ := row r hr
          rw [q1, q2]
          rcases c_isSame (b0 := t0 + 7) (n0 := 30) (b1 := t1 + 7) (n1 := 30) (lo := 5 * r) (hi := 5 * r + m) (g := g) (by omega) (by omega) (by omega) (by omega) with ⟨e7, h7⟩ | ⟨e7, k, k1, k2, k3⟩
          · rcases c_isSame (b0 := t0 + 8) (n0 := 30) (b1 := t1 + 8) (n1 := 30) (lo := 5 * r) (hi := 5 * r + m) (g := g) (by omega) (by omega) (by omega) (by omega) with ⟨e8, h8⟩ | ⟨e8, k, k1, k2, k3⟩
            · refine Or.inl ⟨q_call e7 (q_if_f (by decide) (q_call e8 (q_if_f (by decide) (by rw [nI_1])))), fun m' em' m5' => ?_⟩
              have : m' = m := nI_inj (by omega) (by omega) (em'.symm.trans em)
              subst this
              exact ⟨fun k hk => h7 _ (by omega) (by omega), fun k hk => h8 _ (by omega) (by omega)⟩
            · refine Or.inr ⟨q_call e7 (q_if_f (by decide) (q_call e8 (q_if_t rfl rfl))), fun hh => k3 ?_⟩
              have := (hh m em m5).2 (k - 5 * r) (by omega)
              rw [show 5 * r + (k - 5 * r) = k from by omega] at this
              exact this
          · refine Or.inr ⟨q_call e7 (q_if_t rfl rfl), fun hh => k3 ?_⟩
            have := (hh m em m5).1 (k - 5 * r) (by omega)
            rw [show 5 * r + (k - 5 * r) = k from by omega] at this
            exact this
        rcases first_or (fun r => ¬ ∀ m, g (t0 + 5) r = nI m → m ≤ 5 → (∀ k, k < m → g (t0 + 7) (5 * r + k) = g (t1 + 7) (5 * r + k)) ∧ ∀ k, k < m → g (t0 + 8) (5 * r + k) = g (t1 + 8) (5 * r + k)) dr with ⟨r0, z1, z2, z3⟩ | z
        · refine Or.inr ⟨?_, fun hh => z2 (hh.2 r0 z1)⟩
          refine q_call e4 (q_if_f (by decide) ?_)
          refine q_call (by rw [hd]; exact e5) (q_if_f (by decide) ?_)
          refine q_call (by rw [hd]; exact e6) (q_if_f (by decide) ?_)
          refine q_bd (a := .inr (nI 0, g)) ?_ rfl
          refine q_lp (fun r => (nI r, g)) r0 (fun r hr => ?_) ?_ (by omega) rfl
          · dsimp only
            refine q_if_f (by rw [hd]; exact nI_ge (by omega) (by omega)) ?_
            refine q_ck r rfl (by omega) (by decide) ?_
            rcases lk r (by omega) with ⟨q, -⟩ | ⟨-, q⟩
            · exact q
            · exact absurd (Classical.not_not.mp (z3 r hr)) q
          · dsimp only
            refine q_if_f (by rw [hd]; exact nI_ge (by omega) (by omega)) ?_
            refine q_ck r0 rfl (by omega) (by decide) ?_
            rcases lk r0 z1 with ⟨-, q⟩ | ⟨q, -⟩
            · exact absurd q z2
            · exact q
        · refine Or.inl ⟨?_, ⟨fun k hk => h4 k (by omega) hk, fun k hk => h5 k (by omega) hk, fun k hk => h6 k (by omega) hk⟩, fun r hr => Classical.not_not.mp (z r hr)⟩
          refine q_call e4 (q_if_f (by decide) ?_)
          refine q_call (by rw [hd]; exact e5) (q_if_f (by decide) ?_)
          refine q_call (by rw [hd]; exact e6) (q_if_f (by decide) ?_)
          refine q_bd (a := .inl g) ?_ rfl
          refine q_lp (fun r => (nI r, g)) dr (fun r hr => ?_) ?_ (by omega) rfl
          · dsimp only
            refine q_if_f (by rw [hd]; exact nI_ge (by omega) (by omega)) ?_
            refine q_ck r rfl (by omega) (by decide) ?_
            rcases lk r hr with ⟨q, -⟩ | ⟨-, q⟩
            · exact q
            · exact absurd (Classical.not_not.mp (z r hr)) q
          · exact q_if_t (by show g t0 2 ≤ nI dr; rw [hd]; exact Int32.le_refl _) rfl
      · refine Or.inr ⟨?_, fun hh => k3 (hh.1.2.2 k k2)⟩
        refine q_call e4 (q_if_f (by decide) ?_)
        refine q_call (by rw [hd]; exact e5) (q_if_f (by decide) ?_)
        exact q_call (by rw [hd]; exact e6) (q_if_t rfl rfl)
    · refine Or.inr ⟨?_, fun hh => k3 (hh.1.2.1 k k2)⟩
      refine q_call e4 (q_if_f (by decide) ?_)
      exact q_call (by rw [hd]; exact e5) (q_if_t rfl rfl)
  · refine Or.inr ⟨?_, fun hh => k3 (hh.1.1 k k2)⟩
    exact q_call e4 (q_if_t rfl rfl)
theorem c_likeE {t0 t1 e : Nat} {g : G} (e60 : e ≤ 60) (he : g t0 3 = nI e) : (f_X7_hasLikeEntries t0 t1 g = some (nI 1, g) ∧ ((∀ k, k < e → g (t0 + 9) k = g (t1 + 9) k) ∧ (∀ k, k < e → g (t0 + 10) k = g (t1 + 10) k) ∧ (∀ k, k < e → g (t0 + 11) k = g (t1 + 11) k) ∧ (∀ k, k < e → g (t0 + 12) k = g (t1 + 12) k) ∧ ∀ k, k < e → g (t0 + 13) k = g (t1 + 13) k)) ∨ (f_X7_hasLikeEntries t0 t1 g = some (nI 0, g) ∧ ¬ ((∀ k, k < e → g (t0 + 9) k = g (t1 + 9) k) ∧ (∀ k, k < e → g (t0 + 10) k = g (t1 + 10) k) ∧ (∀ k, k < e → g (t0 + 11) k = g (t1 + 11) k) ∧ (∀ k, k < e → g (t0 + 12) k = g (t1 + 12) k) ∧ ∀ k, k < e → g (t0 + 13) k = g (t1 + 13) k)) := by
  unfold f_X7_hasLikeEntries
  rw [he]
  have cs := fun j => c_isSame (b0 := t0 + j) (n0 := 60) (b1 := t1 + j) (n1 := 60) (lo := 0) (hi := e) (g := g) (by omega) e60 e60 (by omega)
  rcases cs 9 with ⟨a9, h9⟩ | ⟨a9, k, -, k2, k3⟩
  · rcases cs 10 with ⟨a10, h10⟩ | ⟨a10, k, -, k2, k3⟩
    · rcases cs 11 with ⟨a11, h11⟩ | ⟨a11, k, -, k2, k3⟩
      · rcases cs 12 with ⟨a12, h12⟩ | ⟨a12, k, -, k2, k3⟩
        · rcases cs 13 with ⟨a13, h13⟩ | ⟨a13, k, -, k2, k3⟩
          · refine Or.inl ⟨?_, fun k hk => h9 k (by omega) hk, fun k hk => h10 k (by omega) hk, fun k hk => h11 k (by omega) hk, fun k hk => h12 k (by omega) hk, fun k hk => h13 k (by omega) hk⟩
            refine q_call a9 (q_if_f (by decide) ?_)
            refine q_call (by rw [he]; exact a10) (q_if_f (by decide) ?_)
            refine q_call (by rw [he]; exact a11) (q_if_f (by decide) ?_)
            refine q_call (by rw [he]; exact a12) (q_if_f (by decide) ?_)
            exact q_call (by rw [he]; exact a13) (q_if_f (by decide) rfl)
          · refine Or.inr ⟨?_, fun hh => k3 (hh.2.2.2.2 k k2)⟩
            refine q_call a9 (q_if_f (by decide) ?_)
            refine q_call (by rw [he]; exact a10) (q_if_f (by decide) ?_)
            refine q_call (by rw [he]; exact a11) (q_if_f (by decide) ?_)
            refine q_call (by rw [he]; exact a12) (q_if_f (by decide) ?_)
            exact q_call (by rw [he]; exact a13) (q_if_t rfl rfl)
        · refine Or.inr ⟨?_, fun hh => k3 (hh.2.2.2.1 k k2)⟩
          refine q_call a9 (q_if_f (by decide) ?_)
          refine q_call (by rw [he]; exact a10) (q_if_f (by decide) ?_)
          refine q_call (by rw [he]; exact a11) (q_if_f (by decide) ?_)
          exact q_call (by rw [he]; exact a12) (q_if_t rfl rfl)
      · refine Or.inr ⟨?_, fun hh => k3 (hh.2.2.1 k k2)⟩
        refine q_call a9 (q_if_f (by decide) ?_)
        refine q_call (by rw [he]; exact a10) (q_if_f (by decide) ?_)
        exact q_call (by rw [he]; exact a11) (q_if_t rfl rfl)
    · refine Or.inr ⟨?_, fun hh => k3 (hh.2.1 k k2)⟩
      refine q_call a9 (q_if_f (by decide) ?_)
      exact q_call (by rw [he]; exact a10) (q_if_t rfl rfl)
  · exact Or.inr ⟨q_call a9 (q_if_t rfl rfl), fun hh => k3 (hh.1 k k2)⟩
theorem c_isLike {t0 t1 n dr e : Nat} {g : G} (n10 : n ≤ 10) (hn : g t0 1 = nI n) (d6 : dr ≤ 6) (hd : g t0 2 = nI dr) (e60 : e ≤ 60) (he : g t0 3 = nI e) (hm : ∀ r, r < dr → ∃ m, m ≤ 5 ∧ g (t0 + 5) r = nI m) : (f_X7_isLike t0 t1 g = some (nI 1, g) ∧ LkC n dr e (fun j => g (t0 + j)) (fun j => g (t1 + j))) ∨ (f_X7_isLike t0 t1 g = some (nI 0, g) ∧ ¬ LkC n dr e (fun j => g (t0 + j)) (fun j => g (t1 + j))) := by
  unfold f_X7_isLike
  by_cases c1 : g t0 1 = g t1 1
  · rw [if_pos c1]
    by_cases c2 : g t0 2 = g t1 2
    · rw [if_pos c2]
      by_cases c3 : g t0 3 = g t1 3
      · rw [if_pos c3, hn]
        rcases c_isSame (b0 := t0 + 1) (n0 := 10) (b1 := t1 + 1) (n1 := 10) (lo := 0) (hi := n) (g := g) (by omega) n10 n10 (by omega) with ⟨e4, h4⟩ | ⟨e4, k, -, k2, k3⟩
        · rcases c_isSame (b0 := t0 + 2) (n0 := 24) (b1 := t1 + 2) (n1 := 24) (lo := 0) (hi := 24) (g := g) (by omega) (by omega) (by omega) (by omega) with ⟨e5, h5⟩ | ⟨e5, k, -, k2, k3⟩
          · rcases c_isSame (b0 := t0 + 3) (n0 := 5) (b1 := t1 + 3) (n1 := 5) (lo := 0) (hi := 5) (g := g) (by omega) (by omega) (by omega) (by omega) with ⟨e6, h6⟩ | ⟨e6, k, -, k2, k3⟩
            · rcases c_likeR (t1 := t1) d6 hd hm with ⟨e7, h7, h7'⟩ | ⟨e7, h7⟩
              · rcases c_likeE (t1 := t1) e60 he with ⟨e8, h8⟩ | ⟨e8, h8⟩
                · refine Or.inl ⟨?_, ⟨c1, c2, c3⟩, fun k hk => h4 k (by omega) hk, fun k hk => h5 k (by omega) hk, fun k hk => h6 k (by omega) hk, h7, h7', h8⟩
                  refine q_call e4 (q_if_f (by decide) ?_)
                  refine q_call e5 (q_if_f (by decide) ?_)
                  refine q_call e6 (q_if_f (by decide) ?_)
                  refine q_call e7 (q_if_f (by decide) ?_)
                  exact q_call e8 (q_if_f (by decide) rfl)
                · refine Or.inr ⟨?_, fun hh => h8 hh.2.2.2.2.2.2⟩
                  refine q_call e4 (q_if_f (by decide) ?_)
                  refine q_call e5 (q_if_f (by decide) ?_)
                  refine q_call e6 (q_if_f (by decide) ?_)
                  refine q_call e7 (q_if_f (by decide) ?_)
                  exact q_call e8 (q_if_t rfl rfl)
              · refine Or.inr ⟨?_, fun hh => h7 ⟨hh.2.2.2.2.1, hh.2.2.2.2.2.1⟩⟩
                refine q_call e4 (q_if_f (by decide) ?_)
                refine q_call e5 (q_if_f (by decide) ?_)
                refine q_call e6 (q_if_f (by decide) ?_)
                exact q_call e7 (q_if_t rfl rfl)
            · refine Or.inr ⟨?_, fun hh => k3 (hh.2.2.2.1 k k2)⟩
              refine q_call e4 (q_if_f (by decide) ?_)
              refine q_call e5 (q_if_f (by decide) ?_)
              exact q_call e6 (q_if_t rfl rfl)
          · refine Or.inr ⟨?_, fun hh => k3 (hh.2.2.1 k k2)⟩
            refine q_call e4 (q_if_f (by decide) ?_)
            exact q_call e5 (q_if_t rfl rfl)
        · exact Or.inr ⟨q_call e4 (q_if_t rfl rfl), fun hh => k3 (hh.2.1 k k2)⟩
      · rw [if_neg c3]
        exact Or.inr ⟨rfl, fun hh => c3 hh.1.2.2⟩
    · rw [if_neg c2]
      exact Or.inr ⟨rfl, fun hh => c2 hh.1.2.1⟩
  · rw [if_neg c1]
    exact Or.inr ⟨rfl, fun hh => c1 hh.1.1⟩
