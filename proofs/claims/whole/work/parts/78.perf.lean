/-! One act of a plan: class and model. -/
theorem keep171 {K : G → Option (Int32 × G)} {g c : G} {r : Int32} (hl : ∀ (b : Nat × G) x x', S8 b x x' → Rl (K x) (K x') (Q8 b)) (h : K g = some (r, c)) : c 171 = g 171 := by
  obtain ⟨⟨r', c'⟩, e, e1, e2⟩ := hl (0, g) g g (S8.of (fun _ _ => rfl)) _ h
  rw [h] at e
  have z : c = c' := congrArg Prod.snd (Option.some.inj e)
  rw [z]
  exact e2.1.2.1 171 (by decide)
theorem act_one {x k d : Nat} {v : Nat → Int32} {g : G} (hI : Inv g) (hx : x + 4 < 200) (e0 : g 44 x = nI k) (f0 : g 171 x = nI k) (hk : k ≤ 10) (ev : ∀ j, 1 ≤ j → j ≤ 4 → g 44 (x + j) = v j ∧ g 171 (x + j) = v j) (e3 : g 45 3 = nI d) (hd : d < 60) : ∃ r c m, -nI 5 ≤ r ∧ f_X8_perform (nI x) g = some (r, c) ∧ f_X9_answer (nI x) c = some (r, m) ∧ Inv m := by
  have w1 := (ev 1 (by decide) (by decide)).1
  have w2 := (ev 2 (by decide) (by decide)).1
  have w3 := (ev 3 (by decide) (by decide)).1
  have w4 := (ev 4 (by decide) (by decide)).1
  have u1 := (ev 1 (by decide) (by decide)).2
  have u2 := (ev 2 (by decide) (by decide)).2
  have u3 := (ev 3 (by decide) (by decide)).2
  have u4 := (ev 4 (by decide) (by decide)).2
  have nx : ∀ j : Nat, nI x + nI j = nI (x + j) := fun j => by rw [nI_add]
  have n11 : ¬ nI k = 11 := by rw [l_11]; exact nI_ne (by omega) (by decide) (by omega)
  have m60 : g 45 3 < 60 := by rw [e3, l_60, nI_ltI (by omega) (by decide)]; exact hd
  have hk2 : k = 0 ∨ k = 1 ∨ k = 2 ∨ k = 3 ∨ k = 4 ∨ k = 5 ∨ k = 6 ∨ k = 7 ∨ k = 8 ∨ k = 9 ∨ k = 10 := by omega
  rcases hk2 with rfl | rfl | rfl | rfl | rfl | rfl | rfl | rfl | rfl | rfl | rfl
  · obtain ⟨r, c, m, h8, h9, hm⟩ := sp_player (v 1) (v 2) g hI
    have hc := keep171 (fun _ _ _ h => l_X8_player rfl rfl h) h8
    refine ⟨r, c, m, rg_player _ h8, ?_, ?_, hm⟩
    · unfold f_X8_perform
      refine q_ck x rfl (by omega) (by decide) ?_
      refine q_if_f (by rw [e0]; exact n11) (q_if_t m60 ?_)
      refine q_ck (x + 1) (nx 1) (by omega) (by decide) ?_
      refine q_ck (x + 2) (nx 2) (by omega) (by decide) ?_
      refine q_ck (x + 3) (nx 3) (by omega) (by decide) ?_
      refine q_ck (x + 4) (nx 4) (by omega) (by decide) ?_
      rw [e0, w1, w2, w3, w4]
      exact q_if_t rfl (q_call h8 rfl)
    · unfold f_X9_answer
      refine q_ck (x + 1) (nx 1) (by omega) (by decide) ?_
      refine q_ck (x + 2) (nx 2) (by omega) (by decide) ?_
      refine q_ck (x + 3) (nx 3) (by omega) (by decide) ?_
      refine q_ck (x + 4) (nx 4) (by omega) (by decide) ?_
      refine q_ck x rfl (by omega) (by decide) ?_
      rw [hc, f0, u1, u2, u3, u4]
      exact q_if_t rfl (q_call h9 rfl)
  · obtain ⟨r, c, m, h8, h9, hm⟩ := sp_places (v 1) (v 2) g hI
    have hc := keep171 (fun _ _ _ h => l_X8_places rfl rfl h) h8
    refine ⟨r, c, m, rg_places _ h8, ?_, ?_, hm⟩
    · unfold f_X8_perform
      refine q_ck x rfl (by omega) (by decide) ?_
      refine q_if_f (by rw [e0]; exact n11) (q_if_t m60 ?_)
      refine q_ck (x + 1) (nx 1) (by omega) (by decide) ?_
      refine q_ck (x + 2) (nx 2) (by omega) (by decide) ?_
      refine q_ck (x + 3) (nx 3) (by omega) (by decide) ?_
      refine q_ck (x + 4) (nx 4) (by omega) (by decide) ?_
      rw [e0, w1, w2, w3, w4]
      refine q_if_f (by decide) ?_
      exact q_if_t rfl (q_call h8 rfl)
    · unfold f_X9_answer
      refine q_ck (x + 1) (nx 1) (by omega) (by decide) ?_
      refine q_ck (x + 2) (nx 2) (by omega) (by decide) ?_
      refine q_ck (x + 3) (nx 3) (by omega) (by decide) ?_
      refine q_ck (x + 4) (nx 4) (by omega) (by decide) ?_
      refine q_ck x rfl (by omega) (by decide) ?_
      rw [hc, f0, u1, u2, u3, u4]
      refine q_if_f (by decide) ?_
      exact q_if_t rfl (q_call h9 rfl)
  · obtain ⟨r, c, m, h8, h9, hm⟩ := sp_seat (v 1) (v 2) (v 3) g hI
    have hc := keep171 (fun _ _ _ h => l_X8_seat rfl rfl rfl h) h8
    refine ⟨r, c, m, rg_seat _ h9, ?_, ?_, hm⟩
    · unfold f_X8_perform
      refine q_ck x rfl (by omega) (by decide) ?_
      refine q_if_f (by rw [e0]; exact n11) (q_if_t m60 ?_)
      refine q_ck (x + 1) (nx 1) (by omega) (by decide) ?_
      refine q_ck (x + 2) (nx 2) (by omega) (by decide) ?_
      refine q_ck (x + 3) (nx 3) (by omega) (by decide) ?_
      refine q_ck (x + 4) (nx 4) (by omega) (by decide) ?_
      rw [e0, w1, w2, w3, w4]
      refine q_if_f (by decide) ?_
      refine q_if_f (by decide) ?_
      exact q_if_t rfl (q_call h8 rfl)
    · unfold f_X9_answer
      refine q_ck (x + 1) (nx 1) (by omega) (by decide) ?_
      refine q_ck (x + 2) (nx 2) (by omega) (by decide) ?_
      refine q_ck (x + 3) (nx 3) (by omega) (by decide) ?_
      refine q_ck (x + 4) (nx 4) (by omega) (by decide) ?_
      refine q_ck x rfl (by omega) (by decide) ?_
      rw [hc, f0, u1, u2, u3, u4]
      refine q_if_f (by decide) ?_
      refine q_if_f (by decide) ?_
      exact q_if_t rfl (q_call h9 rfl)
  · obtain ⟨r, c, m, h8, h9, hm⟩ := sp_tournament  g hI
    have hc := keep171 (fun _ _ _ h => l_X8_tournament  h) h8
    refine ⟨r, c, m, rg_tournament _ h8, ?_, ?_, hm⟩
    · unfold f_X8_perform
      refine q_ck x rfl (by omega) (by decide) ?_
      refine q_if_f (by rw [e0]; exact n11) (q_if_t m60 ?_)
      refine q_ck (x + 1) (nx 1) (by omega) (by decide) ?_
      refine q_ck (x + 2) (nx 2) (by omega) (by decide) ?_
      refine q_ck (x + 3) (nx 3) (by omega) (by decide) ?_
      refine q_ck (x + 4) (nx 4) (by omega) (by decide) ?_
      rw [e0, w1, w2, w3, w4]
      refine q_if_f (by decide) ?_
      refine q_if_f (by decide) ?_
      refine q_if_f (by decide) ?_
      exact q_if_t rfl (q_call h8 rfl)
    · unfold f_X9_answer
      refine q_ck (x + 1) (nx 1) (by omega) (by decide) ?_
      refine q_ck (x + 2) (nx 2) (by omega) (by decide) ?_
      refine q_ck (x + 3) (nx 3) (by omega) (by decide) ?_
      refine q_ck (x + 4) (nx 4) (by omega) (by decide) ?_
      refine q_ck x rfl (by omega) (by decide) ?_
      rw [hc, f0, u1, u2, u3, u4]
      refine q_if_f (by decide) ?_
      refine q_if_f (by decide) ?_
      refine q_if_f (by decide) ?_
      exact q_if_t rfl (q_call h9 rfl)
  · obtain ⟨r, c, m, h8, h9, hm⟩ := sp_enter (v 1) (v 2) g hI
    have hc := keep171 (fun _ _ _ h => l_X8_enter rfl rfl h) h8
    refine ⟨r, c, m, rg_enter _ h8, ?_, ?_, hm⟩
    · unfold f_X8_perform
      refine q_ck x rfl (by omega) (by decide) ?_
      refine q_if_f (by rw [e0]; exact n11) (q_if_t m60 ?_)
      refine q_ck (x + 1) (nx 1) (by omega) (by decide) ?_
      refine q_ck (x + 2) (nx 2) (by omega) (by decide) ?_
      refine q_ck (x + 3) (nx 3) (by omega) (by decide) ?_
      refine q_ck (x + 4) (nx 4) (by omega) (by decide) ?_
      rw [e0, w1, w2, w3, w4]
      refine q_if_f (by decide) ?_
      refine q_if_f (by decide) ?_
      refine q_if_f (by decide) ?_
      refine q_if_f (by decide) ?_
      exact q_if_t rfl (q_call h8 rfl)
    · unfold f_X9_answer
      refine q_ck (x + 1) (nx 1) (by omega) (by decide) ?_
      refine q_ck (x + 2) (nx 2) (by omega) (by decide) ?_
      refine q_ck (x + 3) (nx 3) (by omega) (by decide) ?_
      refine q_ck (x + 4) (nx 4) (by omega) (by decide) ?_
      refine q_ck x rfl (by omega) (by decide) ?_
      rw [hc, f0, u1, u2, u3, u4]
      refine q_if_f (by decide) ?_
      refine q_if_f (by decide) ?_
      refine q_if_f (by decide) ?_
      refine q_if_f (by decide) ?_
      exact q_if_t rfl (q_call h9 rfl)
  · obtain ⟨r, c, m, h8, h9, hm⟩ := sp_withdraw (v 1) (v 2) g hI
    have hc := keep171 (fun _ _ _ h => l_X8_withdraw rfl rfl h) h8
    refine ⟨r, c, m, rg_withdraw _ h8, ?_, ?_, hm⟩
    · unfold f_X8_perform
      refine q_ck x rfl (by omega) (by decide) ?_
      refine q_if_f (by rw [e0]; exact n11) (q_if_t m60 ?_)
      refine q_ck (x + 1) (nx 1) (by omega) (by decide) ?_
      refine q_ck (x + 2) (nx 2) (by omega) (by decide) ?_
      refine q_ck (x + 3) (nx 3) (by omega) (by decide) ?_
      refine q_ck (x + 4) (nx 4) (by omega) (by decide) ?_
      rw [e0, w1, w2, w3, w4]
      refine q_if_f (by decide) ?_
      refine q_if_f (by decide) ?_
      refine q_if_f (by decide) ?_
      refine q_if_f (by decide) ?_
      refine q_if_f (by decide) ?_
      exact q_if_t rfl (q_call h8 rfl)
    · unfold f_X9_answer
      refine q_ck (x + 1) (nx 1) (by omega) (by decide) ?_
      refine q_ck (x + 2) (nx 2) (by omega) (by decide) ?_
      refine q_ck (x + 3) (nx 3) (by omega) (by decide) ?_
      refine q_ck (x + 4) (nx 4) (by omega) (by decide) ?_
      refine q_ck x rfl (by omega) (by decide) ?_
      rw [hc, f0, u1, u2, u3, u4]
      refine q_if_f (by decide) ?_
      refine q_if_f (by decide) ?_
      refine q_if_f (by decide) ?_
      refine q_if_f (by decide) ?_
      refine q_if_f (by decide) ?_
      exact q_if_t rfl (q_call h9 rfl)
  · obtain ⟨r, c, m, hr, h8, h9, hm⟩ := sp_drawRoundR (v 1) (v 2) g hI
    have hc := keep171 (fun _ _ _ h => l_X8_drawRound rfl rfl h) h8
    refine ⟨r, c, m, hr, ?_, ?_, hm⟩
    · unfold f_X8_perform
      refine q_ck x rfl (by omega) (by decide) ?_
      refine q_if_f (by rw [e0]; exact n11) (q_if_t m60 ?_)
      refine q_ck (x + 1) (nx 1) (by omega) (by decide) ?_
      refine q_ck (x + 2) (nx 2) (by omega) (by decide) ?_
      refine q_ck (x + 3) (nx 3) (by omega) (by decide) ?_
      refine q_ck (x + 4) (nx 4) (by omega) (by decide) ?_
      rw [e0, w1, w2, w3, w4]
      refine q_if_f (by decide) ?_
      refine q_if_f (by decide) ?_
      refine q_if_f (by decide) ?_
      refine q_if_f (by decide) ?_
      refine q_if_f (by decide) ?_
      refine q_if_f (by decide) ?_
      exact q_if_t rfl (q_call h8 rfl)
    · unfold f_X9_answer
      refine q_ck (x + 1) (nx 1) (by omega) (by decide) ?_
      refine q_ck (x + 2) (nx 2) (by omega) (by decide) ?_
      refine q_ck (x + 3) (nx 3) (by omega) (by decide) ?_
      refine q_ck (x + 4) (nx 4) (by omega) (by decide) ?_
      refine q_ck x rfl (by omega) (by decide) ?_
      rw [hc, f0, u1, u2, u3, u4]
      refine q_if_f (by decide) ?_
      refine q_if_f (by decide) ?_
      refine q_if_f (by decide) ?_
      refine q_if_f (by decide) ?_
      refine q_if_f (by decide) ?_
      refine q_if_f (by decide) ?_
      exact q_if_t rfl (q_call h9 rfl)
  · obtain ⟨r, c, m, h8, h9, hm⟩ := sp_tell (v 1) (v 2 / 10) (v 2 - v 2 / 10 * 10) (v 3) (v 4) (v 4) g hI
    have hc := keep171 (fun _ _ _ h => l_X8_tell rfl rfl rfl rfl rfl rfl h) h8
    refine ⟨r, c, m, rg_tell hI _ h8, ?_, ?_, hm⟩
    · unfold f_X8_perform
      refine q_ck x rfl (by omega) (by decide) ?_
      refine q_if_f (by rw [e0]; exact n11) (q_if_t m60 ?_)
      refine q_ck (x + 1) (nx 1) (by omega) (by decide) ?_
      refine q_ck (x + 2) (nx 2) (by omega) (by decide) ?_
      refine q_ck (x + 3) (nx 3) (by omega) (by decide) ?_
      refine q_ck (x + 4) (nx 4) (by omega) (by decide) ?_
      rw [e0, w1, w2, w3, w4]
      refine q_if_f (by decide) ?_
      refine q_if_f (by decide) ?_
      refine q_if_f (by decide) ?_
      refine q_if_f (by decide) ?_
      refine q_if_f (by decide) ?_
      refine q_if_f (by decide) ?_
      refine q_if_f (by decide) ?_
      exact q_if_t rfl (q_call h8 rfl)
    · unfold f_X9_answer
      refine q_ck (x + 1) (nx 1) (by omega) (by decide) ?_
      refine q_ck (x + 2) (nx 2) (by omega) (by decide) ?_
      refine q_ck (x + 3) (nx 3) (by omega) (by decide) ?_
      refine q_ck (x + 4) (nx 4) (by omega) (by decide) ?_
      refine q_ck x rfl (by omega) (by decide) ?_
      rw [hc, f0, u1, u2, u3, u4]
      refine q_if_f (by decide) ?_
      refine q_if_f (by decide) ?_
      refine q_if_f (by decide) ?_
      refine q_if_f (by decide) ?_
      refine q_if_f (by decide) ?_
      refine q_if_f (by decide) ?_
      refine q_if_f (by decide) ?_
      exact q_if_t rfl (q_call h9 rfl)
  · obtain ⟨r, c, m, h8, h9, hm⟩ := sp_takeBack (v 1) (v 2) (v 3) g hI
    have hc := keep171 (fun _ _ _ h => l_X8_takeBack rfl rfl rfl h) h8
    refine ⟨r, c, m, rg_takeBack _ h8, ?_, ?_, hm⟩
    · unfold f_X8_perform
      refine q_ck x rfl (by omega) (by decide) ?_
      refine q_if_f (by rw [e0]; exact n11) (q_if_t m60 ?_)
      refine q_ck (x + 1) (nx 1) (by omega) (by decide) ?_
      refine q_ck (x + 2) (nx 2) (by omega) (by decide) ?_
      refine q_ck (x + 3) (nx 3) (by omega) (by decide) ?_
      refine q_ck (x + 4) (nx 4) (by omega) (by decide) ?_
      rw [e0, w1, w2, w3, w4]
      refine q_if_f (by decide) ?_
      refine q_if_f (by decide) ?_
      refine q_if_f (by decide) ?_
      refine q_if_f (by decide) ?_
      refine q_if_f (by decide) ?_
      refine q_if_f (by decide) ?_
      refine q_if_f (by decide) ?_
      refine q_if_f (by decide) ?_
      exact q_if_t rfl (q_call h8 rfl)
    · unfold f_X9_answer
      refine q_ck (x + 1) (nx 1) (by omega) (by decide) ?_
      refine q_ck (x + 2) (nx 2) (by omega) (by decide) ?_
      refine q_ck (x + 3) (nx 3) (by omega) (by decide) ?_
      refine q_ck (x + 4) (nx 4) (by omega) (by decide) ?_
      refine q_ck x rfl (by omega) (by decide) ?_
      rw [hc, f0, u1, u2, u3, u4]
      refine q_if_f (by decide) ?_
      refine q_if_f (by decide) ?_
      refine q_if_f (by decide) ?_
      refine q_if_f (by decide) ?_
      refine q_if_f (by decide) ?_
      refine q_if_f (by decide) ?_
      refine q_if_f (by decide) ?_
      refine q_if_f (by decide) ?_
      exact q_if_t rfl (q_call h9 rfl)
  · obtain ⟨r, c, m, hr, h8, h9, hm⟩ := sr_ask (v 1) g hI
    have hc := keep171 (fun _ _ _ h => l_X8_askWorth rfl h) h8
    refine ⟨r, c, m, hr, ?_, ?_, hm⟩
    · unfold f_X8_perform
      refine q_ck x rfl (by omega) (by decide) ?_
      refine q_if_f (by rw [e0]; exact n11) (q_if_t m60 ?_)
      refine q_ck (x + 1) (nx 1) (by omega) (by decide) ?_
      refine q_ck (x + 2) (nx 2) (by omega) (by decide) ?_
      refine q_ck (x + 3) (nx 3) (by omega) (by decide) ?_
      refine q_ck (x + 4) (nx 4) (by omega) (by decide) ?_
      rw [e0, w1, w2, w3, w4]
      refine q_if_f (by decide) ?_
      refine q_if_f (by decide) ?_
      refine q_if_f (by decide) ?_
      refine q_if_f (by decide) ?_
      refine q_if_f (by decide) ?_
      refine q_if_f (by decide) ?_
      refine q_if_f (by decide) ?_
      refine q_if_f (by decide) ?_
      refine q_if_f (by decide) ?_
      exact q_if_t rfl (q_call h8 rfl)
    · unfold f_X9_answer
      refine q_ck (x + 1) (nx 1) (by omega) (by decide) ?_
      refine q_ck (x + 2) (nx 2) (by omega) (by decide) ?_
      refine q_ck (x + 3) (nx 3) (by omega) (by decide) ?_
      refine q_ck (x + 4) (nx 4) (by omega) (by decide) ?_
      refine q_ck x rfl (by omega) (by decide) ?_
      rw [hc, f0, u1, u2, u3, u4]
      refine q_if_f (by decide) ?_
      refine q_if_f (by decide) ?_
      refine q_if_f (by decide) ?_
      refine q_if_f (by decide) ?_
      refine q_if_f (by decide) ?_
      refine q_if_f (by decide) ?_
      refine q_if_f (by decide) ?_
      refine q_if_f (by decide) ?_
      refine q_if_f (by decide) ?_
      exact q_if_t rfl h9
  · obtain ⟨r, c, m, hr, h8, h9, hm⟩ := sr_need (v 1) (v 2) (v 3) (v 4) g hI
    have hc := keep171 (fun _ _ _ h => l_X8_need rfl rfl rfl rfl h) h8
    refine ⟨r, c, m, hr, ?_, ?_, hm⟩
    · unfold f_X8_perform
      refine q_ck x rfl (by omega) (by decide) ?_
      refine q_if_f (by rw [e0]; exact n11) (q_if_t m60 ?_)
      refine q_ck (x + 1) (nx 1) (by omega) (by decide) ?_
      refine q_ck (x + 2) (nx 2) (by omega) (by decide) ?_
      refine q_ck (x + 3) (nx 3) (by omega) (by decide) ?_
      refine q_ck (x + 4) (nx 4) (by omega) (by decide) ?_
      rw [e0, w1, w2, w3, w4]
      refine q_if_f (by decide) ?_
      refine q_if_f (by decide) ?_
      refine q_if_f (by decide) ?_
      refine q_if_f (by decide) ?_
      refine q_if_f (by decide) ?_
      refine q_if_f (by decide) ?_
      refine q_if_f (by decide) ?_
      refine q_if_f (by decide) ?_
      refine q_if_f (by decide) ?_
      refine q_if_f (by decide) ?_
      exact q_call h8 rfl
    · unfold f_X9_answer
      refine q_ck (x + 1) (nx 1) (by omega) (by decide) ?_
      refine q_ck (x + 2) (nx 2) (by omega) (by decide) ?_
      refine q_ck (x + 3) (nx 3) (by omega) (by decide) ?_
      refine q_ck (x + 4) (nx 4) (by omega) (by decide) ?_
      refine q_ck x rfl (by omega) (by decide) ?_
      rw [hc, f0, u1, u2, u3, u4]
      refine q_if_f (by decide) ?_
      refine q_if_f (by decide) ?_
      refine q_if_f (by decide) ?_
      refine q_if_f (by decide) ?_
      refine q_if_f (by decide) ?_
      refine q_if_f (by decide) ?_
      refine q_if_f (by decide) ?_
      refine q_if_f (by decide) ?_
      refine q_if_f (by decide) ?_
      refine q_if_f (by decide) ?_
      exact q_call h9 rfl
