/-! Running a plan's steps: class and model. -/
def RunOk (n P : Nat) : Prop := ∀ g, Inv g → DN g → ∃ r c m, (r = 0 ∨ r = 1) ∧ f_X8_runSteps n (nI P) g = some (r, c) ∧ f_X9_goes n (nI P) c = some (r, m) ∧ Inv m ∧ DN m
theorem fails_of {r : Int32} (h : -nI 5 ≤ r) : (-1 ≤ r ∧ ∀ s, f_X8_fails r s = some (0, s)) ∨ (¬ -1 ≤ r ∧ ∀ s, f_X8_fails r s = some (1, s)) := by
  rcases i32_split r with ⟨j, hj, e⟩ | ⟨j, hj0, hj, e⟩
  · left
    rw [e]
    refine ⟨(ng_le (b := 1) hj (by decide) (by decide)).mpr trivial, fun s => ?_⟩
    have z : ∀ k : Nat, 0 < k → k ≤ 2 ^ 31 → ¬ nI j = -nI k := fun k k0 k1 => by rw [eq_ng hj k0 k1]; exact not_false
    unfold f_X8_fails
    exact q_if_f (z 2 (by decide) (by decide)) (q_if_f (z 3 (by decide) (by decide)) (q_if_f (z 4 (by decide) (by decide)) (q_if_f (z 5 (by decide) (by decide)) rfl)))
  · rw [e] at h ⊢
    rw [ng_ngl (by decide) hj] at h
    rcases (show j = 1 ∨ j = 2 ∨ j = 3 ∨ j = 4 ∨ j = 5 by omega) with rfl | rfl | rfl | rfl | rfl
    · left
      refine ⟨by decide, fun s => ?_⟩
      unfold f_X8_fails
      exact q_if_f (by decide) (q_if_f (by decide) (q_if_f (by decide) (q_if_f (by decide) rfl)))
    · right
      refine ⟨by decide, fun s => ?_⟩
      unfold f_X8_fails
      exact q_if_t rfl rfl
    · right
      refine ⟨by decide, fun s => ?_⟩
      unfold f_X8_fails
      exact q_if_f (by decide) (q_if_t rfl rfl)
    · right
      refine ⟨by decide, fun s => ?_⟩
      unfold f_X8_fails
      exact q_if_f (by decide) (q_if_f (by decide) (q_if_t rfl rfl))
    · right
      refine ⟨by decide, fun s => ?_⟩
      unfold f_X8_fails
      exact q_if_f (by decide) (q_if_f (by decide) (q_if_f (by decide) (q_if_t rfl rfl)))
theorem lw8_done : Lw8 (fun s => some (0, up2 s 45 3 (s 45 3 + 1))) := fun _ _ _ h => rl_some ⟨rfl, h.up (by decide) trivial trivial (by rw [h.rd (a := 45) (by decide)])⟩
theorem lw8_fl {a b c : Int32} : Lw8 (fun s => some (0, fl8 a b c s)) := fun _ _ _ h => rl_some ⟨rfl, ((h.up (by decide) trivial trivial rfl).up (by decide) trivial trivial rfl).up (by decide) trivial trivial rfl⟩
theorem lw9_done {a : Int32} : Lw9 (fun s => bd2 (f_X9_answer a s) fun r s => some (r, up2 s 159 24 (s 159 24 + 1))) := by
  intro b x x' h
  refine rl_bd2 (S := W9 b) (lw9_ans b x x' h) (fun r s s' h => ?_)
  exact rl_some ⟨rfl, h.up (by decide) trivial trivial (by rw [h.rd (a := 159) (by decide)])⟩
theorem lw9_tried {P : Nat} : Lw9 (fun s => some (0, up2 s 173 P (s 173 P + 1))) := fun _ _ _ h => rl_some ⟨rfl, h.up (by decide) trivial trivial (by rw [h.rd (a := 173) (by decide)])⟩
theorem run_loop {n P : Nat} (hP : P < 4) (ihn : ∀ P', P' < P → RunOk n P') : ∀ (f i : Nat) (g : G), i ≤ 10 → 11 ≤ f + i → Inv g → DN g → ∃ r c m, (r = 0 ∨ r = 1) ∧ L8 n (nI P) f (nI i) g = some (r, c) ∧ L9 n (nI P) f (nI i) c = some (r, m) ∧ Inv m ∧ DN m := by
  intro f
  induction f with
  | zero => intro i g hi hf; omega
  | succ f ih =>
    intro i g hi hf hI hD
    obtain ⟨N, hN10, eN, eN', hrow⟩ := (hI.2.2.1 P hP).2
    by_cases hN : N ≤ i
    · exact ⟨1, g, g, Or.inr rfl, L8_r (b8_end hP hi hN eN) rfl, L9_r (b9_end hP hi hN eN') rfl, hI, hD⟩
    have hN' : i < N := by omega
    have hi' : i < 10 := by omega
    obtain ⟨⟨k, hk, f0⟩, hv⟩ := hrow i hN'
    have e0 : g 44 (50 * P + 5 * i) = nI k := (hv 0 (by decide)).trans f0
    have ev1 : g 44 (50 * P + 5 * i + 1) = g 171 (50 * P + 5 * i + 1) := hv 1 (by decide)
    obtain ⟨d, hd, ed⟩ := hD
    by_cases k11 : k = 11
    · subst k11
      by_cases bad : g 171 (50 * P + 5 * i + 1) < 0 ∨ nI P ≤ g 171 (50 * P + 5 * i + 1)
      · have h8 : f_X8_perform (nI (50 * P + 5 * i)) g = some (-2, g) := by
          unfold f_X8_perform
          refine q_ck (50 * P + 5 * i) rfl (by omega) (by decide) ?_
          exact q_if_t e0 rfl
        have hf2 : f_X8_fails (-2) g = some (1, g) := by
          unfold f_X8_fails
          exact q_if_t rfl rfl
        have x8 := (b8_act (n := n) hP hi' hN' hN10 eN (Or.inr (by rw [ev1]; exact bad)) h8).2 hf2
        generalize hG : fl8 (-2) (nI P) (nI i) g = G1
        have y1 : G1 172 P = nI N := by rw [← hG]; exact eN'
        have y2 : G1 171 (50 * P + 5 * i) = 11 := by rw [← hG]; exact f0
        have y3 : G1 171 (50 * P + 5 * i + 1) < 0 ∨ nI P ≤ G1 171 (50 * P + 5 * i + 1) := by rw [← hG]; exact bad
        have x9 := b9_bad (n := n) (g := G1) hP hi' hN' hN10 y1 y2 y3
        refine ⟨0, G1, fl9 (-2) (nI P) (nI i) G1, Or.inl rfl, L8_r x8 (by rw [← hG]; rfl), L9_r x9 rfl, ?_, ?_⟩
        · rw [← hG]; exact hI.fail _ _ _
        · rw [← hG]; exact ⟨d, hd, ed⟩
      · obtain ⟨P', hP', ev⟩ : ∃ P', P' < P ∧ g 171 (50 * P + 5 * i + 1) = nI P' := by
          rcases i32_split (g 171 (50 * P + 5 * i + 1)) with ⟨v, hv, ev⟩ | ⟨v, hv0, hv, ev⟩
          · refine ⟨v, ?_, ev⟩
            rw [ev, nI_leI (by omega) hv] at bad
            omega
          · exfalso
            apply bad
            left
            rw [ev, l_0, ng_lt (by omega) hv0 hv]
            trivial
        obtain ⟨r, c1, m1, hr, h8, h9, hm, hdm⟩ := ihn P' hP' g hI ⟨d, hd, ed⟩
        have o1 := off8 lw8_run h8
        rcases hr with rfl | rfl
        · exact ⟨0, c1, m1, Or.inl rfl, L8_r ((b8_sub hP hi' hN' hN10 eN e0 (ev1.trans ev) hP' h8).1 rfl) rfl, L9_r ((b9_sub hP hi' hN' hN10 (by rw [o1 172 (by decide)]; exact eN') (by rw [o1 171 (by decide)]; exact f0) (by rw [o1 171 (by decide)]; exact ev) hP' h9).1 rfl) rfl, hm, hdm⟩
        · obtain ⟨r2, c2', m2, hr2, l8, l9, hm2, hd2⟩ := ih (i + 1) m1 (by omega) (by omega) hm hdm
          obtain ⟨c2, k1, k2⟩ := seqq h9 l8 lw8_L lw9_goes
          have o2 : ∀ a, 159 ≤ a → c2 a = g a := fun a ha => (off8 lw8_L k1 a ha).trans (o1 a ha)
          refine ⟨r2, c2, m2, hr2, ?_, ?_, hm2, hd2⟩
          · rw [L8_l ((b8_sub hP hi' hN' hN10 eN e0 (ev1.trans ev) hP' h8).2 (by decide))]
            exact k1
          · rw [L9_l ((b9_sub hP hi' hN' hN10 (by rw [o2 172 (by decide)]; exact eN') (by rw [o2 171 (by decide)]; exact f0) (by rw [o2 171 (by decide)]; exact ev) hP' k2).2 (by decide))]
            exact l9
    · have n11 : g 44 (50 * P + 5 * i) ≠ 11 := by rw [e0, l_11]; exact nI_ne (by omega) (by decide) k11
      have n11' : g 171 (50 * P + 5 * i) ≠ 11 := by rw [f0, l_11]; exact nI_ne (by omega) (by decide) k11
      have e24 : g 159 24 = nI d := hI.2.2.2.1.2.2.2.symm.trans ed
      by_cases d60 : d = 60
      · have h8 : f_X8_perform (nI (50 * P + 5 * i)) g = some (-4, g) := by
          unfold f_X8_perform
          refine q_ck (50 * P + 5 * i) rfl (by omega) (by decide) ?_
          refine q_if_f n11 ?_
          exact q_if_f (by rw [ed, d60]; decide) rfl
        have hf4 : f_X8_fails (-4) g = some (1, g) := by
          unfold f_X8_fails
          exact q_if_f (by decide) (q_if_f (by decide) (q_if_t rfl rfl))
        have x8 := (b8_act (n := n) hP hi' hN' hN10 eN (Or.inl n11) h8).2 hf4
        generalize hG : fl8 (-4) (nI P) (nI i) g = G1
        have y1 : G1 172 P = nI N := by rw [← hG]; exact eN'
        have y2 : G1 171 (50 * P + 5 * i) ≠ 11 := by rw [← hG]; exact n11'
        have y3 : G1 159 24 = 60 := by
          rw [← hG]
          show g 159 24 = 60
          rw [e24, d60]
          rfl
        have x9 := (b9_act (n := n) (g := G1) (c := G1) (r := -4) hP hi' hN' hN10 y1 y2 (Or.inl ⟨y3, rfl, rfl⟩)).2 (by decide)
        refine ⟨0, G1, fl9 (-4) (nI P) (nI i) G1, Or.inl rfl, L8_r x8 (by rw [← hG]; rfl), L9_r x9 rfl, ?_, ?_⟩
        · rw [← hG]; exact hI.fail _ _ _
        · rw [← hG]; exact ⟨d, hd, ed⟩
      · have hdlt : d < 60 := by omega
        have n24 : g 159 24 ≠ 60 := by rw [e24, l_60]; exact nI_ne (by omega) (by decide) d60
        obtain ⟨r, c1, m1, hr, h8, h9, hm⟩ := act_one (x := 50 * P + 5 * i) (k := k) (d := d) (v := fun j => g 171 (50 * P + 5 * i + j)) hI (by omega) e0 f0 (by omega) (fun j j1 j4 => ⟨hv j (by omega), rfl⟩) ed hdlt
        have c45 : c1 45 = g 45 := perf45 h8
        have m45 : m1 45 = g 45 := (off9 lw9_ans h9 45 (by decide)).trans c45
        have o1 := off8 lw8_perf h8
        rcases fails_of hr with ⟨hr1, hf⟩ | ⟨hr1, hf⟩
        · obtain ⟨c1u, q1, q2⟩ := seqq (K := fun s => some (0, up2 s 45 3 (s 45 3 + 1))) h9 rfl lw8_done lw9_ans
          have z : up2 c1 45 3 (c1 45 3 + 1) = c1u := congrArg Prod.snd (Option.some.inj q1)
          subst z
          have hB2 : (fun s => bd2 (f_X9_answer (nI (50 * P + 5 * i)) s) fun r s => some (r, up2 s 159 24 (s 159 24 + 1))) (up2 c1 45 3 (c1 45 3 + 1)) = some (r, up2 (up2 m1 45 3 (m1 45 3 + 1)) 159 24 (m1 159 24 + 1)) := q_call q2 rfl
          have hdn : DN (up2 (up2 m1 45 3 (m1 45 3 + 1)) 159 24 (m1 159 24 + 1)) := by
            refine ⟨d + 1, by omega, ?_⟩
            show m1 45 3 + 1 = _
            rw [m45, ed, l_1, nI_add]
          obtain ⟨r2, c2', m2, hr2, l8, l9, hm2, hd2⟩ := ih (i + 1) _ (by omega) (by omega) hm.done hdn
          obtain ⟨c2, k1, k2⟩ := seqq hB2 l8 lw8_L lw9_done
          have o2 : ∀ a, 159 ≤ a → c2 a = g a := fun a ha => by
            rw [off8 lw8_L k1 a ha, up2_ne (by omega)]
            exact o1 a ha
          obtain ⟨y, y1, y2⟩ : ∃ y, f_X9_answer (nI (50 * P + 5 * i)) c2 = some (r, y) ∧ up2 y 159 24 (y 159 24 + 1) = c2' := by
            cases hx : f_X9_answer (nI (50 * P + 5 * i)) c2 with
            | none => rw [hx] at k2; exact absurd k2 (fun z => by cases z)
            | some q =>
              obtain ⟨q1, q2⟩ := q
              rw [hx] at k2
              have w := Option.some.inj k2
              have w1 : q1 = r := congrArg Prod.fst w
              have w2 : up2 q2 159 24 (q2 159 24 + 1) = c2' := congrArg Prod.snd w
              rw [w1]
              exact ⟨q2, rfl, w2⟩
          refine ⟨r2, c2, m2, hr2, ?_, ?_, hm2, hd2⟩
          · rw [L8_l ((b8_act hP hi' hN' hN10 eN (Or.inl n11) h8).1 (hf c1))]
            exact k1
          · rw [L9_l ((b9_act hP hi' hN' hN10 (by rw [o2 172 (by decide)]; exact eN') (by rw [o2 171 (by decide)]; exact n11') (Or.inr ⟨by rw [o2 159 (by decide)]; exact n24, y1⟩)).1 hr1), y2]
            exact l9
        · obtain ⟨c1f, q1, q2⟩ := seqq (K := fun s => some (0, fl8 r (nI P) (nI i) s)) h9 rfl lw8_fl lw9_ans
          have z : fl8 r (nI P) (nI i) c1 = c1f := congrArg Prod.snd (Option.some.inj q1)
          subst z
          have o2 : ∀ a, 159 ≤ a → fl8 r (nI P) (nI i) c1 a = g a := fun a ha => by
            unfold fl8
            rw [up2_ne (by omega), up2_ne (by omega), up2_ne (by omega)]
            exact o1 a ha
          refine ⟨0, fl8 r (nI P) (nI i) c1, fl9 r (nI P) (nI i) (fl8 r (nI P) (nI i) m1), Or.inl rfl, L8_r ((b8_act hP hi' hN' hN10 eN (Or.inl n11) h8).2 (hf c1)) rfl, L9_r ((b9_act hP hi' hN' hN10 (by rw [o2 172 (by decide)]; exact eN') (by rw [o2 171 (by decide)]; exact n11') (Or.inr ⟨by rw [o2 159 (by decide)]; exact n24, q2⟩)).2 hr1) rfl, hm.fail _ _ _, ⟨d, hd, ?_⟩⟩
          show m1 45 3 = nI d
          rw [m45, ed]
theorem run_ok : ∀ n P : Nat, P < n → P < 4 → RunOk n P := by
  intro n
  induction n with
  | zero => intro P h; omega
  | succ n ih =>
    intro P hP hP4 g hI hD
    obtain ⟨r, c', m, hr, l8, l9, hm, hdm⟩ := run_loop (n := n) hP4 (fun P' h => ih P' (by omega) (by omega)) 2000 0 _ (by decide) (by decide) (hI.tried P) hD
    obtain ⟨c, k1, k2⟩ := seqq (B := fun s => some (0, up2 s 173 P (s 173 P + 1))) (c1 := up2 g 43 P (g 43 P + 1)) rfl l8 lw8_L lw9_tried
    have z : up2 c 173 P (c 173 P + 1) = c' := congrArg Prod.snd (Option.some.inj k2)
    refine ⟨r, c, m, hr, ?_, ?_, hm, hdm⟩
    · rw [f_X8_runSteps]
      refine q_ck P rfl hP4 (by decide) ?_
      refine q_ck P rfl hP4 (by decide) ?_
      refine q_wr ?_
      exact k1
    · rw [f_X9_goes]
      refine q_ck P rfl hP4 (by decide) ?_
      refine q_ck P rfl hP4 (by decide) ?_
      refine q_wr ?_
      rw [z]
      exact l9
