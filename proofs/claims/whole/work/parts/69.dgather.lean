/-! Drawing: gathering and asking in the class; points are small; the new round. -/
theorem c_gather {t M : Nat} {g : G} {sel : Nat → Bool} (hM : cn sel 24 = M) (M10 : M ≤ 10) (ht : t < 4) (hsel : ∀ p, p < 24 → (sel p = true ↔ g (47 + 28 * t + 2) p = nI 1)) : Ev (f_X0_gather (47 + 28 * t) g) (fun q => q.1 = nI M ∧ (∀ a, a ≠ 27 → a ≠ 28 → a ≠ 29 → q.2 a = g a) ∧ (∀ k, k ≠ 11 → q.2 27 k = g 27 k) ∧ q.2 27 11 = nI M ∧ (∀ x, x < M → q.2 28 x = nI (wf sel 24 x)) ∧ ∀ p, p < 24 → q.2 29 p = if sel p = true then nI (cn sel p) else -nI 1) := by
  unfold f_X0_gather
  refine ev_wr ?_
  refine ev_bd ?_
  refine ev_lp (I := fun p s => s.1 = nI p ∧ (∀ a, a ≠ 27 → a ≠ 28 → a ≠ 29 → s.2 a = g a) ∧ (∀ k, k ≠ 11 → s.2 27 k = g 27 k) ∧ s.2 27 11 = nI (cn sel p) ∧ (∀ x, x < cn sel p → s.2 28 x = nI (wf sel 24 x)) ∧ ∀ q, q < p → s.2 29 q = if sel q = true then nI (cn sel q) else -nI 1) 24 ?_ ?_ 2000 0 _ (Nat.zero_le _) (by omega) ⟨rfl, fun a a1 _ _ => up2_ne a1, fun k hk => ?_, rfl, fun x hx => absurd hx (Nat.not_lt_zero x), fun q hq => absurd hq (Nat.not_lt_zero q)⟩
  · rintro p ⟨y, s⟩ hp ⟨rfl, h1, h2, h3, h4, h5⟩
    dsimp only at h1 h2 h3 h4 h5
    have st : s (47 + 28 * t + 2) p = g (47 + 28 * t + 2) p := by rw [h1 _ (by omega) (by omega) (by omega)]
    by_cases hs : sel p = true
    · have c10 : cn sel p < 10 := by have := cn_lt sel hp hs; omega
      have hst : up2 s 29 p (-1) (47 + 28 * t + 2) p = 1 := by rw [up2_ne (by omega), st]; exact (hsel p hp).mp hs
      have e27 : up2 s 29 p (-1) 27 11 = nI (cn sel p) := by rw [up2_ne (by decide)]; exact h3
      refine Ev.of (a := .inl (nI (p + 1), up2 (up2 (up2 (up2 s 29 p (-1)) 29 p (nI (cn sel p))) 28 (cn sel p) (nI p)) 27 11 (nI (cn sel p + 1)))) ?_ ⟨rfl, fun a a1 a2 a3 => ?_, fun k hk => ?_, ?_, fun x hx => ?_, fun q hq => ?_⟩
      · dsimp only
        refine q_if_f (by rw [l_24]; exact nI_ge hp (by omega)) ?_
        refine q_ck p rfl hp (by decide) ?_
        refine q_wr ?_
        refine q_ck p rfl hp (by decide) ?_
        refine q_bd (a := up2 (up2 (up2 (up2 s 29 p (-1)) 29 p (nI (cn sel p))) 28 (cn sel p) (nI p)) 27 11 (nI (cn sel p + 1))) (q_if_t hst (q_if_f (by rw [e27, l_10]; exact nI_ge c10 (by omega)) ?_)) (by rw [nI_1])
        refine q_ck p rfl hp (by decide) ?_
        rw [e27]
        refine q_wr ?_
        refine q_ck (cn sel p) (by rw [up2_ne (by decide)]; exact e27) c10 (by decide) ?_
        refine q_wr ?_
        have e27' : up2 (up2 (up2 s 29 p (-1)) 29 p (nI (cn sel p))) 28 (cn sel p) (nI p) 27 11 = nI (cn sel p) := by rw [up2_ne (by decide), up2_ne (by decide)]; exact e27
        rw [e27', nI_1]
        rfl
      · dsimp only
        rw [up2_ne a1, up2_ne a2, up2_ne a3, up2_ne a3]; exact h1 a a1 a2 a3
      · dsimp only
        rw [up2_eq, upd_ne hk, up2_ne (by decide), up2_ne (by decide), up2_ne (by decide)]; exact h2 k hk
      · dsimp only
        rw [up2_eq, upd_eq, cn, if_pos hs]
      · dsimp only
        rw [cn, if_pos hs] at hx
        rw [up2_ne (by decide), up2_eq]
        by_cases e : x = cn sel p
        · subst e; rw [upd_eq, wf_at sel hp hs]
        · rw [upd_ne e, up2_ne (by decide), up2_ne (by decide)]; exact h4 x (by omega)
      · dsimp only
        rw [up2_ne (by decide), up2_ne (by decide), up2_eq]
        by_cases e : q = p
        · subst e; rw [upd_eq, if_pos hs]
        · rw [upd_ne e, up2_eq, upd_ne e]; exact h5 q (by omega)
    · have hst : ¬ up2 s 29 p (-1) (47 + 28 * t + 2) p = 1 := by rw [up2_ne (by omega), st]; exact fun q => hs ((hsel p hp).mpr q)
      refine Ev.of (a := .inl (nI (p + 1), up2 s 29 p (-1))) ?_ ⟨rfl, fun a a1 a2 a3 => ?_, fun k hk => ?_, ?_, fun x hx => ?_, fun q hq => ?_⟩
      · dsimp only
        refine q_if_f (by rw [l_24]; exact nI_ge hp (by omega)) ?_
        refine q_ck p rfl hp (by decide) ?_
        refine q_wr ?_
        refine q_ck p rfl hp (by decide) ?_
        exact q_bd (a := up2 s 29 p (-1)) (q_if_f hst rfl) (by rw [nI_1])
      · dsimp only
        rw [up2_ne a3]; exact h1 a a1 a2 a3
      · dsimp only
        rw [up2_ne (by decide)]; exact h2 k hk
      · dsimp only
        rw [up2_ne (by decide), cn, if_neg hs]; exact h3
      · dsimp only
        rw [cn, if_neg hs] at hx
        rw [up2_ne (by decide)]; exact h4 x hx
      · dsimp only
        rw [up2_eq]
        by_cases e : q = p
        · subst e; rw [upd_eq, if_neg hs]; rfl
        · rw [upd_ne e]; exact h5 q (by omega)
  · rintro ⟨y, s⟩ ⟨rfl, h1, h2, h3, h4, h5⟩
    dsimp only at h1 h2 h3 h4 h5
    rw [hM] at h3 h4
    exact Ev.of (a := .inr s) (by simp (disch := omega) only [bd2_s, bd_s, wr_s, ck_s, bz_s0, bz_s1, dz_s, nI_litS, nI_add, pk_mul, pk_sub, nI_leI, nI_ltI, nI_eq, ng_lt, ng_le, lt_ng, le_ng, eq_ng, ng_eq, ng_ngE, ng_ngL, ng_ngl, sub1_lt, sub1_ng, eq_self, if_pos, if_neg, if_true, if_false, Nat.zero_add, Nat.add_zero]) (ev_some ⟨h3, h1, h2, h3, h4, h5⟩)
  · dsimp only
    rw [up2_eq, upd_ne hk]
theorem c_askX {np m M : Nat} {g : G} {who : Nat → Nat} {w : Nat → List Int32 × Int32 × Int32} (hR : RW np (g 4) (g 5) (g 6) (g 7)) (hw : ∀ p, p < np → woE (g 4) (g 5) (g 6) (g 7) p = w p) (hL : Lc g) (hM : g 27 11 = nI M) (M10 : M ≤ 10) (hwho : ∀ i, i < M → who i < np ∧ g 28 i = nI (who i)) (hm : m ≤ M) (hok : ∀ i, i < m → (w (who i)).2.2 = 0) (hend : m = M ∨ (m < M ∧ ¬ (w (who m)).2.2 = 0)) : Ev (f_X0_askWorths g) (fun q => (m = M ∧ q.1 = nI 1 ∧ (∀ a, a ≠ 30 → q.2 a = cE (tI w who M) 0 g a) ∧ ∀ i, i < M → q.2 30 i = (w (who i)).2.1) ∨ (m < M ∧ q.1 = nI 0 ∧ ∀ a, a ≠ 30 → q.2 a = cE (tI w who (m + 1)) (w (who m)).2.2 g a)) := by
  unfold f_X0_askWorths
  refine ev_bd ?_
  have call : ∀ (s : G) (T : List Int32) (i : Nat), i < M → (∀ a, a ≠ 30 → s a = cE T 0 g a) → f_X5_worthFor (nI (who i)) s = some ((w (who i)).2.1, cE (w (who i)).1 (w (who i)).2.2 s) := by
    intro s T i hi h
    have z : ∀ a, a ≠ 30 → a ≠ 1 → a ≠ 2 → s a = g a := fun a q1 q2 q3 => (h a q1).trans (cE_off q2 q3)
    have e4 : s 4 = g 4 := z 4 (by omega) (by omega) (by omega)
    have e5 : s 5 = g 5 := z 5 (by omega) (by omega) (by omega)
    have e6 : s 6 = g 6 := z 6 (by omega) (by omega) (by omega)
    have e7 : s 7 = g 7 := z 7 (by omega) (by omega) (by omega)
    have q := c_worthFor (g := s) (p := who i) (np := np) (by rw [e4, e5, e6, e7]; exact hR) (hwho i hi).1 ((hL.cE (tr := T) (f := 0)).fr (h 1 (by omega)))
    rw [e4, e5, e6, e7, hw _ (hwho i hi).1] at q
    exact q
  have val : ∀ i, i < M → ((w (who i)).2.2 = 0 ∧ ∃ v, v ≤ 3025 ∧ (w (who i)).2.1 = nI v) ∨ ((w (who i)).2.1 = -nI 5 ∧ ∃ f, 0 < f ∧ f < 6 ∧ (w (who i)).2.2 = nI f) := by
    intro i hi
    have q := wo_val hR (hwho i hi).1
    rw [hw _ (hwho i hi).1] at q
    exact q
  refine ev_lp (I := fun i s => s.1 = nI i ∧ (∀ a, a ≠ 30 → s.2 a = cE (tI w who i) 0 g a) ∧ ∀ j, j < i → s.2 30 j = (w (who j)).2.1) m ?_ ?_ 2000 0 _ (Nat.zero_le _) (by omega) ⟨rfl, fun a ha => ?_, fun q hq => absurd hq (Nat.not_lt_zero q)⟩
  · rintro i ⟨x, s⟩ hi ⟨rfl, h1, h2⟩
    dsimp only at h1 h2
    have p30 : s 27 11 = nI M := by rw [h1 27 (by omega), cE_off (by omega) (by omega)]; exact hM
    have p175 : s 28 i = nI (who i) := by rw [h1 28 (by omega), cE_off (by omega) (by omega)]; exact (hwho i (by omega)).2
    have hc := call s _ i (by omega) h1
    have f0 := hok i hi
    rcases val i (by omega) with ⟨-, v, v1, v2⟩ | ⟨-, f, q1, q2, q3⟩
    · rw [f0, v2] at hc
      refine Ev.of (a := .inl (nI (i + 1), up2 (cE (w (who i)).1 0 s) 30 i (nI v))) (by simp (disch := omega) only [bd2_s, bd_s, wr_s, ck_s, bz_s0, bz_s1, dz_s, nI_litS, nI_add, pk_mul, pk_sub, nI_leI, nI_ltI, nI_eq, ng_lt, ng_le, lt_ng, le_ng, eq_ng, ng_eq, ng_ngE, ng_ngL, ng_ngl, sub1_lt, sub1_ng, eq_self, if_pos, if_neg, if_true, if_false, Nat.zero_add, Nat.add_zero, p30, p175, hc, up2_eq, upd_eq]) ⟨rfl, fun a ha => ?_, fun j hj => ?_⟩
      · show up2 _ 30 i _ a = _
        rw [up2_ne ha, tI, cE_frame (by decide) (by decide) h1 _ _ a ha, cE_cE]
        rfl
      · show up2 _ 30 i _ 30 j = _
        by_cases e : j = i
        · subst e
          rw [up2_eq, upd_eq, v2]
        · rw [up2_eq, upd_ne e, cE_off (by decide) (by decide)]
          exact h2 j (by omega)
    · rw [f0] at q3
      exact absurd q3.symm (nI_ne0 q1 (by omega))
  · rintro ⟨x, s⟩ ⟨rfl, h1, h2⟩
    dsimp only at h1 h2
    have p30 : s 27 11 = nI M := by rw [h1 27 (by omega), cE_off (by omega) (by omega)]; exact hM
    rcases hend with e | ⟨hlt, hf⟩
    · subst e
      exact Ev.of (a := .inr (.inl s)) (by simp (disch := omega) only [bd2_s, bd_s, wr_s, ck_s, bz_s0, bz_s1, dz_s, nI_litS, nI_add, pk_mul, pk_sub, nI_leI, nI_ltI, nI_eq, ng_lt, ng_le, lt_ng, le_ng, eq_ng, ng_eq, ng_ngE, ng_ngL, ng_ngl, sub1_lt, sub1_ng, eq_self, if_pos, if_neg, if_true, if_false, Nat.zero_add, Nat.add_zero, p30]) (ev_some (Or.inl ⟨rfl, rfl, h1, h2⟩))
    · have p175 : s 28 m = nI (who m) := by rw [h1 28 (by omega), cE_off (by omega) (by omega)]; exact (hwho m hlt).2
      have hc := call s _ m hlt h1
      rcases val m hlt with ⟨q1, -⟩ | ⟨v2, -⟩
      · exact absurd q1 hf
      · rw [v2] at hc
        refine Ev.of (a := .inr (.inr (nI 0, up2 (cE (w (who m)).1 (w (who m)).2.2 s) 30 m (-nI 5)))) (by simp (disch := omega) only [bd2_s, bd_s, wr_s, ck_s, bz_s0, bz_s1, dz_s, nI_litS, nI_add, pk_mul, pk_sub, nI_leI, nI_ltI, nI_eq, ng_lt, ng_le, lt_ng, le_ng, eq_ng, ng_eq, ng_ngE, ng_ngL, ng_ngl, sub1_lt, sub1_ng, eq_self, if_pos, if_neg, if_true, if_false, Nat.zero_add, Nat.add_zero, p30, p175, hc, up2_eq, upd_eq]) (ev_some (Or.inr ⟨hlt, rfl, fun a ha => ?_⟩))
        show up2 _ 30 m _ a = _
        rw [up2_ne ha, tI, cE_frame (by decide) (by decide) h1 _ _ a ha, cE_cE, if_neg hf]
  · dsimp only
    rw [tI, cE_nil]
theorem wh_bd (o : Int32) : (∃ v, v ≤ 2 ∧ wh o = nI v) ∧ ∃ v, v ≤ 2 ∧ bh o = nI v := by
  unfold wh bh
  refine ⟨?_, ?_⟩
  · split
    · exact ⟨1, by omega, rfl⟩
    · split
      · exact ⟨2, by omega, rfl⟩
      · split
        · exact ⟨2, by omega, rfl⟩
        · exact ⟨0, by omega, rfl⟩
  · split
    · exact ⟨1, by omega, rfl⟩
    · split
      · exact ⟨2, by omega, rfl⟩
      · split
        · exact ⟨2, by omega, rfl⟩
        · exact ⟨0, by omega, rfl⟩
theorem pt_bd {t np n dr p : Nat} {mk : Nat → Int32} {F : Nat → Nat → Int32} {R : Nat → Int32} {d : Int32} {o : Nat → Int32} (ht : t < 4) (hp : p < 24) (h24 : np ≤ 24) (hin : T_in np mk F R n) (hrd : T_rndW F R n dr) : ∀ r, r ≤ dr → ∃ v, v ≤ 2 * r ∧ ptS R d o p r = nI v := by
  obtain ⟨d6, c2, m25, hr, -⟩ := hrd
  intro r
  induction r with
  | zero => intro _; exact ⟨0, by omega, rfl⟩
  | succ r ih =>
    intro h
    obtain ⟨v, hv, ev⟩ := ih (by omega)
    obtain ⟨m, hm⟩ := hr r (by omega)
    have hs : ptS R d o p (r + 1) = itK (fun k a => ptst R d o p r k a) m (ptS R d o p r) := by
      show itK _ (mm R r) _ = _
      rw [hm.mmE]
      rfl
    rw [hs, ev]
    rcases hm.who (np := np) (mk := mk) (p := p) ht (by omega) hp with ⟨q1, -⟩ | ⟨k, hk, q1, q2, -⟩
    · rw [itK_none (fun k hk a => ptst_out (q1 k hk) a)]
      exact ⟨v, by omega, rfl⟩
    · rw [itK_one hk (fun i hi hne a => ptst_out (q2 i hi hne) a)]
      unfold ptst
      obtain ⟨⟨w1, w2, w3⟩, b1, b2, b3⟩ := wh_bd (o (5 * r + k))
      split
      · split
        · split
          · exact ⟨v + 2, by omega, by rw [nI_add]⟩
          · exact ⟨v, by omega, rfl⟩
        · exact ⟨v, by omega, rfl⟩
      · split
        · exact ⟨v + w1, by omega, by rw [w3, nI_add]⟩
        · split
          · exact ⟨v + b1, by omega, by rw [b3, nI_add]⟩
          · exact ⟨v, by omega, rfl⟩
/-- tournament t has changed, and scratch -/
theorem Inv.at2 {g s : G} {np nt t : Nat} (h : Inv g) (e0 : g 159 3 = nI np) (h24 : np ≤ 24) (e1 : g 0 12 = nI nt) (h4 : nt ≤ 4) (ht : t < nt) (x : ∀ a, ¬ (47 + 28 * t ≤ a ∧ a < 61 + 28 * t) → a ≠ 165 → ¬ (15 ≤ a ∧ a ≤ 41) → ¬ (174 ≤ a ∧ a ≤ 183) → a ≠ 159 → s a = g a) (y : ∀ k, ¬ (30 ≤ k ∧ k ≤ 34) → s 159 k = g 159 k) (er : ∀ k, ¬ (412 * t ≤ k ∧ k < 412 * t + 412) → s 165 k = g 165 k) (hn : T_t np (g 161) (blkT s t) (rowT s t)) : Inv s := by
  have hm : Inv (fun a => if (47 + 28 * t ≤ a ∧ a < 61 + 28 * t) ∨ a = 165 then g a else s a) := by
    refine h.scr ⟨fun a q1 q2 q3 => ?_, fun k q => ?_⟩
    · dsimp only
      by_cases c : (47 + 28 * t ≤ a ∧ a < 61 + 28 * t) ∨ a = 165
      · rw [if_pos c]
      · rw [if_neg c]
        exact x a (fun z => c (Or.inl z)) (fun z => c (Or.inr z)) q1 q2 q3
    · show (if (47 + 28 * t ≤ 159 ∧ 159 < 61 + 28 * t) ∨ 159 = 165 then g 159 else s 159) k = _
      rw [if_neg (by omega)]
      exact y k q
  have e0' : (if (47 + 28 * t ≤ 159 ∧ 159 < 61 + 28 * t) ∨ 159 = 165 then g 159 else s 159) 3 = nI np := by
    rw [if_neg (by omega)]; exact (y 3 (by omega)).trans e0
  have e1' : (if (47 + 28 * t ≤ 0 ∧ 0 < 61 + 28 * t) ∨ 0 = 165 then g 0 else s 0) 12 = nI nt := by
    rw [if_neg (by omega), x 0 (by omega) (by omega) (by omega) (by omega) (by omega)]; exact e1
  refine hm.at e0' h24 e1' h4 ht (fun a a1 a2 => ?_) (fun k hk => ?_) ?_
  · rw [if_neg (fun z => z.elim a1 a2)]
  · show s 165 k = (if (47 + 28 * t ≤ 165 ∧ 165 < 61 + 28 * t) ∨ 165 = 165 then g 165 else s 165) k
    rw [if_pos (Or.inr rfl)]
    exact er k hk
  · have : (if (47 + 28 * t ≤ 161 ∧ 161 < 61 + 28 * t) ∨ 161 = 165 then g 161 else s 161) = g 161 := by
      rw [if_neg (by omega)]
      exact x 161 (by omega) (by omega) (by omega) (by omega) (by omega)
    rw [this]
    exact hn
