/-! What the class recalls. -/
def RCx (who : Nat → Nat) (M : Nat) (s : G) (hi : Nat → H4) (wa : Nat → Nat → Nat) : Prop := (∀ x, x < M → s 31 x = nI (hi (who x)).1 - nI (hi (who x)).2.1 ∧ s 32 x = dcC (hi (who x)).2.2.1 ∧ s 33 x = dcC (hi (who x)).2.2.2) ∧ (∀ x y, x < M → y < M → x ≠ y → s 34 (11 * x + y) = nI (wa (who x) (who y))) ∧ ∀ x, x < M → s 34 (11 * x + 10) = nI (wa (who x) 99)
theorem c_spot1 {x y : Nat} {s : G} (hx : x < 10) (hy : y ≤ 10) : f_X0_recallSpot (nI x) (nI y) s = some (nI 0, up2 s 34 (11 * x + y) (nI 1)) := by
  have e : nI x * 11 + nI y = nI (11 * x + y) := by rw [show (11 : Int32) = nI 11 from rfl, pk_mul, nI_add, Nat.mul_comm]
  unfold f_X0_recallSpot
  refine q_if_f (nI_nneg (by omega) (by decide)) (q_if_f (nI_nneg (by omega) (by decide)) ?_)
  refine q_ck (11 * x + y) e (by omega) (by decide) ?_
  rfl
theorem c_spot0 {a b : Int32} {s : G} (h : a = -nI 1 ∨ b = -nI 1) : f_X0_recallSpot a b s = some (nI 0, s) := by
  unfold f_X0_recallSpot
  by_cases q : a = -1
  · exact q_if_t q rfl
  · exact q_if_f q (q_if_t (h.resolve_left q) rfl)
theorem c_col1 {x : Nat} {c : Int32} {s : G} (hx : x < 10) : f_X0_recallColour (nI x) c s = some (nI 0, up2 (up2 (up2 s 31 x (s 31 x + c)) 33 x (s 32 x)) 32 x c) := by
  unfold f_X0_recallColour
  refine q_if_f (nI_nneg (by omega) (by decide)) ?_
  refine q_ck x rfl hx (by decide) ?_
  refine q_ck x rfl hx (by decide) ?_
  refine q_wr ?_
  refine q_ck x rfl hx (by decide) ?_
  refine q_ck x rfl hx (by decide) ?_
  rw [up2_ne (show 32 ≠ 31 by decide)]
  refine q_wr ?_
  refine q_ck x rfl hx (by decide) ?_
  rfl
theorem c_col0 {c : Int32} {s : G} : f_X0_recallColour (-nI 1) c s = some (nI 0, s) := rfl
theorem hcK_w {R : Nat → Int32} {p r k b : Nat} (hb : b < 24) (ew : R (50 + (5 * r + k)) = nI p) (eb : R (80 + (5 * r + k)) = nI b) (a : H4) : hcK R p r k a = (a.1 + 1, a.2.1, 1, a.2.2.1) := by
  unfold hcK act
  rw [eb, if_neg (nI_ne (by omega) (by decide) (by omega)), if_pos ew]
theorem hcK_b {R : Nat → Int32} {p r k w : Nat} (hp : p < 24) (hw : w < 24) (hne : w ≠ p) (ew : R (50 + (5 * r + k)) = nI w) (eb : R (80 + (5 * r + k)) = nI p) (a : H4) : hcK R p r k a = (a.1, a.2.1 + 1, 2, a.2.2.1) := by
  unfold hcK act
  rw [eb, if_neg (nI_ne (by omega) (by decide) (by omega)), ew, if_neg (nI_ne (by omega) (by omega) hne), if_pos rfl]
theorem c_recallPair {R : Nat → Int32} {sel : Nat → Bool} {M w r k : Nat} {s : G} {hi : Nat → H4} {wa : Nat → Nat → Nat} (hM : cn sel 24 = M) (M10 : M ≤ 10) (h29 : ∀ p, p < 24 → s 29 p = if sel p = true then nI (cn sel p) else -nI 1) (hw : w < 24) (ew : R (50 + (5 * r + k)) = nI w) (eb : R (80 + (5 * r + k)) = nI 99 ∨ ∃ b, b < 24 ∧ R (80 + (5 * r + k)) = nI b ∧ b ≠ w) (h : RCx (wf sel 24) M s hi wa) : Ev (f_X0_recallPair (nI w) (R (80 + (5 * r + k))) s) (fun q => (∀ a, ¬ (31 ≤ a ∧ a ≤ 34) → q.2 a = s a) ∧ RCx (wf sel 24) M q.2 (fun p => hcK R p r k (hi p)) (fun p q => waK R p q r k (wa p q))) := by
  obtain ⟨h1, h2, h3⟩ := h
  have wok : ∀ x, x < M → wf sel 24 x < 24 ∧ sel (wf sel 24 x) = true ∧ cn sel (wf sel 24 x) = x := fun x hx => wf_ok sel (by omega)
  have e29w := h29 w hw
  unfold f_X0_recallPair
  refine ev_ck w rfl hw (by decide) ?_
  rcases eb with eb | ⟨b, hb, eb, hne⟩
  · rw [eb]
    refine ev_t rfl ?_
    by_cases sw : sel w = true
    · rw [if_pos sw] at e29w
      have hxw : cn sel w < M := by rw [← hM]; exact cn_lt sel hw sw
      rw [e29w]
      refine ev_call (c_spot1 (x := cn sel w) (y := 10) (by omega) (by omega)) ?_
      refine ev_some ⟨fun a ha => up2_ne (by omega), fun x hx => ?_, fun x y hx hy hxy => ?_, fun x hx => ?_⟩
      · obtain ⟨o1, o2, o3⟩ := wok x hx
        have : hcK R (wf sel 24 x) r k (hi (wf sel 24 x)) = hi (wf sel 24 x) := by
          unfold hcK act
          rw [if_pos eb]
        dsimp only
        rw [this, up2_ne (by decide), up2_ne (by decide), up2_ne (by decide)]
        exact h1 x hx
      · obtain ⟨o1, o2, o3⟩ := wok x hx
        obtain ⟨u1, u2, u3⟩ := wok y hy
        have : waK R (wf sel 24 x) (wf sel 24 y) r k (wa (wf sel 24 x) (wf sel 24 y)) = wa (wf sel 24 x) (wf sel 24 y) := by
          unfold waK
          rw [if_neg]
          rintro (z | z)
          · have := nI_inj (by omega) (by omega) (eb.symm.trans z.2); omega
          · have := nI_inj (by omega) (by omega) (eb.symm.trans z.2); omega
        dsimp only
        rw [this, up2_eq, upd_ne (by omega)]
        exact h2 x y hx hy hxy
      · obtain ⟨o1, o2, o3⟩ := wok x hx
        dsimp only
        rw [up2_eq]
        unfold waK
        by_cases e : x = cn sel w
        · subst e
          rw [upd_eq, if_pos (Or.inl ⟨by rw [wf_at sel hw sw]; exact ew, eb⟩)]
        · rw [upd_ne (by omega), if_neg]
          · exact h3 x hx
          · rintro (z | z)
            · have := nI_inj (by omega) (by omega) (ew.symm.trans z.1)
              exact e (by rw [this]; exact o3.symm)
            · have := nI_inj (by omega) (by omega) (ew.symm.trans z.1); omega
    · rw [if_neg sw] at e29w
      rw [e29w]
      refine ev_call (c_spot0 (Or.inl rfl)) ?_
      refine ev_some ⟨fun a ha => rfl, fun x hx => ?_, fun x y hx hy hxy => ?_, fun x hx => ?_⟩
      · have : hcK R (wf sel 24 x) r k (hi (wf sel 24 x)) = hi (wf sel 24 x) := by
          unfold hcK act
          rw [if_pos eb]
        dsimp only
        rw [this]
        exact h1 x hx
      · obtain ⟨o1, o2, o3⟩ := wok x hx
        obtain ⟨u1, u2, u3⟩ := wok y hy
        have : waK R (wf sel 24 x) (wf sel 24 y) r k (wa (wf sel 24 x) (wf sel 24 y)) = wa (wf sel 24 x) (wf sel 24 y) := by
          unfold waK
          rw [if_neg]
          rintro (z | z)
          · have := nI_inj (by omega) (by omega) (eb.symm.trans z.2); omega
          · have := nI_inj (by omega) (by omega) (eb.symm.trans z.2); omega
        dsimp only
        rw [this]
        exact h2 x y hx hy hxy
      · obtain ⟨o1, o2, o3⟩ := wok x hx
        dsimp only
        unfold waK
        rw [if_neg]
        · exact h3 x hx
        · rintro (z | z)
          · have := nI_inj (by omega) (by omega) (ew.symm.trans z.1)
            exact sw (by rw [this]; exact o2)
          · have := nI_inj (by omega) (by omega) (ew.symm.trans z.1); omega
  · have e29b := h29 b hb
    rw [eb]
    refine ev_f (nI_ne (b := 99) (by omega) (by decide) (by omega)) ?_
    refine ev_ck b rfl hb (by decide) ?_
    -- who is who
    have isw : ∀ x, x < M → (wf sel 24 x = w ↔ (sel w = true ∧ x = cn sel w)) := by
      intro x hx
      obtain ⟨o1, o2, o3⟩ := wok x hx
      constructor
      · intro e; rw [← e]; exact ⟨o2, o3.symm⟩
      · rintro ⟨z1, z2⟩; rw [z2]; exact wf_at sel hw z1
    have isb : ∀ x, x < M → (wf sel 24 x = b ↔ (sel b = true ∧ x = cn sel b)) := by
      intro x hx
      obtain ⟨o1, o2, o3⟩ := wok x hx
      constructor
      · intro e; rw [← e]; exact ⟨o2, o3.symm⟩
      · rintro ⟨z1, z2⟩; rw [z2]; exact wf_at sel hb z1
    have outK : ∀ x, x < M → wf sel 24 x ≠ w → wf sel 24 x ≠ b → hcK R (wf sel 24 x) r k (hi (wf sel 24 x)) = hi (wf sel 24 x) := by
      intro x hx n1 n2
      obtain ⟨o1, -, -⟩ := wok x hx
      exact hcK_out ⟨by rw [ew]; exact nI_ne (by omega) (by omega) (Ne.symm n1), by rw [eb]; exact nI_ne (by omega) (by omega) (Ne.symm n2)⟩ _
    have wa99 : ∀ x, x < M → waK R (wf sel 24 x) 99 r k (wa (wf sel 24 x) 99) = wa (wf sel 24 x) 99 := by
      intro x hx
      unfold waK
      rw [if_neg]
      rintro (z | z)
      · have := nI_inj (by omega) (by omega) (eb.symm.trans z.2); omega
      · have := nI_inj (by omega) (by omega) (ew.symm.trans z.1); omega
    have waxy : ∀ x y, x < M → y < M → waK R (wf sel 24 x) (wf sel 24 y) r k (wa (wf sel 24 x) (wf sel 24 y)) = if (wf sel 24 x = w ∧ wf sel 24 y = b) ∨ (wf sel 24 x = b ∧ wf sel 24 y = w) then 1 else wa (wf sel 24 x) (wf sel 24 y) := by
      intro x y hx hy
      obtain ⟨o1, -, -⟩ := wok x hx
      obtain ⟨u1, -, -⟩ := wok y hy
      unfold waK
      rw [ew, eb]
      by_cases q : (wf sel 24 x = w ∧ wf sel 24 y = b) ∨ (wf sel 24 x = b ∧ wf sel 24 y = w)
      · rw [if_pos q, if_pos]
        rcases q with q | q
        · exact Or.inl ⟨by rw [q.1], by rw [q.2]⟩
        · exact Or.inr ⟨by rw [q.2], by rw [q.1]⟩
      · rw [if_neg q, if_neg]
        rintro (z | z)
        · exact q (Or.inl ⟨(nI_inj (by omega) (by omega) z.1).symm, (nI_inj (by omega) (by omega) z.2).symm⟩)
        · exact q (Or.inr ⟨(nI_inj (by omega) (by omega) z.2).symm, (nI_inj (by omega) (by omega) z.1).symm⟩)
    have wK : hcK R w r k (hi w) = ((hi w).1 + 1, (hi w).2.1, 1, (hi w).2.2.1) := hcK_w hb ew eb _
    have bK : hcK R b r k (hi b) = ((hi b).1, (hi b).2.1 + 1, 2, (hi b).2.2.1) := hcK_b hb hw (Ne.symm hne) ew eb _
    have wne : sel w = true → sel b = true → cn sel w ≠ cn sel b := fun z1 z2 z3 => hne (cn_inj sel z2 z1 z3.symm)
    by_cases sw : sel w = true
    · rw [if_pos sw] at e29w
      have hxw : cn sel w < M := by rw [← hM]; exact cn_lt sel hw sw
      have ww := wf_at sel hw sw
      obtain ⟨a1, a2, a3⟩ := h1 _ hxw
      rw [ww] at a1 a2 a3
      by_cases sb : sel b = true
      · rw [if_pos sb] at e29b
        have hxb : cn sel b < M := by rw [← hM]; exact cn_lt sel hb sb
        have bb := wf_at sel hb sb
        obtain ⟨b1, b2, b3⟩ := h1 _ hxb
        rw [bb] at b1 b2 b3
        have ne := wne sw sb
        rw [e29w, e29b]
        generalize hI : cn sel w = I at *
        generalize hJ : cn sel b = J at *
        refine ev_call (c_spot1 (by omega) (by omega)) ?_
        refine ev_call (c_spot1 (by omega) (by omega)) ?_
        refine ev_call (c_col1 (by omega)) ?_
        refine ev_call (c_col1 (by omega)) ?_
        refine ev_some ⟨fun a ha => ?_, fun x hx => ?_, fun x y hx hy hxy => ?_, fun x hx => ?_⟩
        · dsimp only
          simp (disch := omega) only [up2_ne]
        · dsimp only
          by_cases e1 : x = I
          · subst e1
            rw [ww, wK]
            simp (disch := omega) only [up2_ne, up2_eq, upd_ne, upd_eq]
            exact ⟨by rw [a1]; exact bal_w, rfl, a2⟩
          · by_cases e2 : x = J
            · subst e2
              rw [bb, bK]
              simp (disch := omega) only [up2_ne, up2_eq, upd_ne, upd_eq]
              exact ⟨by rw [b1]; exact bal_b, rfl, b2⟩
            · rw [outK x hx (fun z => e1 ((isw x hx).mp z).2) (fun z => e2 ((isb x hx).mp z).2)]
              simp (disch := omega) only [up2_ne, up2_eq, upd_ne, upd_eq]
              exact h1 x hx
        · dsimp only
          rw [waxy x y hx hy]
          by_cases q : (x = I ∧ y = J) ∨ (x = J ∧ y = I)
          · rw [if_pos (q.imp (fun z => ⟨(isw x hx).mpr ⟨sw, z.1⟩, (isb y hy).mpr ⟨sb, z.2⟩⟩) (fun z => ⟨(isb x hx).mpr ⟨sb, z.1⟩, (isw y hy).mpr ⟨sw, z.2⟩⟩))]
            rcases q with ⟨rfl, rfl⟩ | ⟨rfl, rfl⟩
            · simp (disch := omega) only [up2_ne, up2_eq, upd_ne, upd_eq]
            · simp (disch := omega) only [up2_ne, up2_eq, upd_ne, upd_eq]
          · rw [if_neg (fun z => q (z.imp (fun z => ⟨((isw x hx).mp z.1).2, ((isb y hy).mp z.2).2⟩) (fun z => ⟨((isb x hx).mp z.1).2, ((isw y hy).mp z.2).2⟩)))]
            simp (disch := omega) only [up2_ne, up2_eq, upd_ne, upd_eq]
            exact h2 x y hx hy hxy
        · dsimp only
          rw [wa99 x hx]
          simp (disch := omega) only [up2_ne, up2_eq, upd_ne, upd_eq]
          exact h3 x hx
      · rw [if_neg sb] at e29b
        rw [e29w, e29b]
        generalize hI : cn sel w = I at *
        refine ev_call (c_spot0 (Or.inr rfl)) ?_
        refine ev_call (c_spot0 (Or.inl rfl)) ?_
        refine ev_call (c_col1 (by omega)) ?_
        refine ev_call c_col0 ?_
        refine ev_some ⟨fun a ha => ?_, fun x hx => ?_, fun x y hx hy hxy => ?_, fun x hx => ?_⟩
        · dsimp only
          simp (disch := omega) only [up2_ne]
        · dsimp only
          by_cases e1 : x = I
          · subst e1
            rw [ww, wK]
            simp (disch := omega) only [up2_ne, up2_eq, upd_ne, upd_eq]
            exact ⟨by rw [a1]; exact bal_w, rfl, a2⟩
          · rw [outK x hx (fun z => e1 ((isw x hx).mp z).2) (fun z => sb ((isb x hx).mp z).1)]
            simp (disch := omega) only [up2_ne, up2_eq, upd_ne, upd_eq]
            exact h1 x hx
        · dsimp only
          rw [waxy x y hx hy, if_neg (fun z => z.elim (fun z => sb ((isb y hy).mp z.2).1) (fun z => sb ((isb x hx).mp z.1).1))]
          simp (disch := omega) only [up2_ne]
          exact h2 x y hx hy hxy
        · dsimp only
          rw [wa99 x hx]
          simp (disch := omega) only [up2_ne]
          exact h3 x hx
    · rw [if_neg sw] at e29w
      by_cases sb : sel b = true
      · rw [if_pos sb] at e29b
        have hxb : cn sel b < M := by rw [← hM]; exact cn_lt sel hb sb
        have bb := wf_at sel hb sb
        obtain ⟨b1, b2, b3⟩ := h1 _ hxb
        rw [bb] at b1 b2 b3
        rw [e29w, e29b]
        generalize hJ : cn sel b = J at *
        refine ev_call (c_spot0 (Or.inl rfl)) ?_
        refine ev_call (c_spot0 (Or.inr rfl)) ?_
        refine ev_call c_col0 ?_
        refine ev_call (c_col1 (by omega)) ?_
        refine ev_some ⟨fun a ha => ?_, fun x hx => ?_, fun x y hx hy hxy => ?_, fun x hx => ?_⟩
        · dsimp only
          simp (disch := omega) only [up2_ne]
        · dsimp only
          by_cases e2 : x = J
          · subst e2
            rw [bb, bK]
            simp (disch := omega) only [up2_ne, up2_eq, upd_ne, upd_eq]
            exact ⟨by rw [b1]; exact bal_b, rfl, b2⟩
          · rw [outK x hx (fun z => sw ((isw x hx).mp z).1) (fun z => e2 ((isb x hx).mp z).2)]
            simp (disch := omega) only [up2_ne, up2_eq, upd_ne, upd_eq]
            exact h1 x hx
        · dsimp only
          rw [waxy x y hx hy, if_neg (fun z => z.elim (fun z => sw ((isw x hx).mp z.1).1) (fun z => sw ((isw y hy).mp z.2).1))]
          simp (disch := omega) only [up2_ne]
          exact h2 x y hx hy hxy
        · dsimp only
          rw [wa99 x hx]
          simp (disch := omega) only [up2_ne]
          exact h3 x hx
      · rw [if_neg sb] at e29b
        rw [e29w, e29b]
        refine ev_call (c_spot0 (Or.inl rfl)) ?_
        refine ev_call (c_spot0 (Or.inl rfl)) ?_
        refine ev_call c_col0 ?_
        refine ev_call c_col0 ?_
        refine ev_some ⟨fun a ha => rfl, fun x hx => ?_, fun x y hx hy hxy => ?_, fun x hx => ?_⟩
        · dsimp only
          rw [outK x hx (fun z => sw ((isw x hx).mp z).1) (fun z => sb ((isb x hx).mp z).1)]
          exact h1 x hx
        · dsimp only
          rw [waxy x y hx hy, if_neg (fun z => z.elim (fun z => sw ((isw x hx).mp z.1).1) (fun z => sw ((isw y hy).mp z.2).1))]
          exact h2 x y hx hy hxy
        · dsimp only
          rw [wa99 x hx]
          exact h3 x hx
theorem c_recall {np t n dr e M : Nat} {g : G} {sel : Nat → Bool} (hT : TT g np t n dr e) (hM : cn sel 24 = M) (M10 : M ≤ 10) (h29 : ∀ p, p < 24 → g 29 p = if sel p = true then nI (cn sel p) else -nI 1) : Ev (f_X0_recall (47 + 28 * t) g) (fun q => (∀ a, ¬ (31 ≤ a ∧ a ≤ 34) → q.2 a = g a) ∧ RCx (wf sel 24) M q.2 (fun p => hcS (rowT g t) p dr) (fun p q => waS (rowT g t) p q dr)) := by
  obtain ⟨h24, ht, hin, hsm, ⟨d6, c2, m25, hr, hz⟩, hen⟩ := hT
  unfold f_X0_recall
  rw [j_fill (by decide)]
  refine ev_call rfl ?_
  rw [j_fill (by decide)]
  refine ev_call rfl ?_
  rw [j_fill (by decide)]
  refine ev_call rfl ?_
  refine ev_bd ?_
  refine Ev.imp (P := fun s : G => (∀ a, ¬ (31 ≤ a ∧ a ≤ 34) → s a = g a) ∧ (∀ x, x < 10 → s 31 x = nI 0 ∧ s 32 x = nI 0 ∧ s 33 x = nI 0) ∧ ∀ x, x < 110 → s 34 x = nI 0) ?_ ?_
  · refine ev_lp (I := fun i s => s.1 = nI i ∧ (∀ a, ¬ (31 ≤ a ∧ a ≤ 34) → s.2 a = g a) ∧ (∀ x, x < 10 → s.2 31 x = nI 0 ∧ s.2 32 x = nI 0 ∧ s.2 33 x = nI 0) ∧ ∀ x, x < i → s.2 34 x = nI 0) 110 ?_ ?_ 2000 0 _ (Nat.zero_le _) (by omega) ⟨rfl, fun a ha => ?_, fun x hx => ?_, fun x hx => absurd hx (Nat.not_lt_zero x)⟩
    · rintro i ⟨y, s⟩ hi ⟨rfl, h1, h2, h3⟩
      dsimp only at h1 h2 h3
      refine Ev.of (a := .inl (nI (i + 1), up2 s 34 i (nI 0))) (by simp (disch := omega) only [bd2_s, bd_s, wr_s, ck_s, bz_s0, bz_s1, dz_s, nI_litS, nI_add, pk_mul, pk_sub, nI_leI, nI_ltI, nI_eq, ng_lt, ng_le, lt_ng, le_ng, eq_ng, ng_eq, ng_ngE, ng_ngL, ng_ngl, sub1_lt, sub1_ng, eq_self, if_pos, if_neg, if_true, if_false, Nat.zero_add, Nat.add_zero]) ⟨rfl, fun a ha => ?_, fun x hx => ?_, fun x hx => ?_⟩
      · dsimp only
        rw [up2_ne (by omega)]; exact h1 a ha
      · dsimp only
        rw [up2_ne (by decide), up2_ne (by decide), up2_ne (by decide)]; exact h2 x hx
      · dsimp only
        rw [up2_eq]
        by_cases e : x = i
        · subst e; rw [upd_eq]
        · rw [upd_ne e]; exact h3 x (by omega)
    · rintro ⟨y, s⟩ ⟨rfl, h1, h2, h3⟩
      exact Ev.of (a := .inr s) (by simp (disch := omega) only [bd2_s, bd_s, wr_s, ck_s, bz_s0, bz_s1, dz_s, nI_litS, nI_add, pk_mul, pk_sub, nI_leI, nI_ltI, nI_eq, ng_lt, ng_le, lt_ng, le_ng, eq_ng, ng_eq, ng_ngE, ng_ngL, ng_ngl, sub1_lt, sub1_ng, eq_self, if_pos, if_neg, if_true, if_false, Nat.zero_add, Nat.add_zero]) ⟨h1, h2, h3⟩
    · dsimp only
      rw [fl_ne (by omega), fl_ne (by omega), fl_ne (by omega)]
    · dsimp only
      simp (disch := omega) only [fl_ne, fl_in]
      exact ⟨rfl, rfl, rfl⟩
  · rintro s0 ⟨z1, z2, z3⟩
    refine ev_bd ?_
    refine ev_lp (I := fun r s => s.1 = nI r ∧ (∀ a, ¬ (31 ≤ a ∧ a ≤ 34) → s.2 a = g a) ∧ RCx (wf sel 24) M s.2 (fun p => hcS (rowT g t) p r) (fun p q => waS (rowT g t) p q r)) dr ?_ ?_ 2000 0 _ (Nat.zero_le _) (by omega) ⟨rfl, z1, fun x hx => ?_, fun x y hx hy _ => ?_, fun x hx => ?_⟩
    · rintro r ⟨x, s⟩ hrr ⟨rfl, h1, h2⟩
      dsimp only at h1 h2
      have c2' : s (47 + 28 * t) 2 = nI dr := by rw [h1 _ (by omega)]; exact c2
      dsimp only
      refine ev_f (by rw [c2']; exact nI_ge hrr (by omega)) ?_
      obtain ⟨m, hm⟩ := hr r hrr
      have m5 := hm.2.1
      have e5 := hm.2.2.2.2.1
      refine ev_bd ?_
      refine ev_lp (I := fun k s => s.1 = nI k ∧ (∀ a, ¬ (31 ≤ a ∧ a ≤ 34) → s.2 a = g a) ∧ RCx (wf sel 24) M s.2 (fun p => itK (fun k a => hcK (rowT g t) p r k a) k (hcS (rowT g t) p r)) (fun p q => itK (fun k a => waK (rowT g t) p q r k a) k (waS (rowT g t) p q r))) m ?_ ?_ 2000 0 _ (Nat.zero_le _) (by omega) ⟨rfl, h1, h2⟩
      · rintro k ⟨x, s'⟩ hk ⟨rfl, i1, i2⟩
        dsimp only at i1 i2
        obtain ⟨f7, f8, w, hw, ew, eb⟩ := hm.pk hin h24 hk
        have e5' : s' (47 + 28 * t + 5) r = nI m := by rw [i1 _ (by omega), bk_j g t 5 (by decide)]; exact e5
        have f7' : s' (47 + 28 * t + 7) (5 * r + k) = nI w := by rw [i1 _ (by omega), bk_j g t 7 (by decide), f7, ew]
        have f8' : s' (47 + 28 * t + 8) (5 * r + k) = rowT g t (80 + (5 * r + k)) := by rw [i1 _ (by omega), bk_j g t 8 (by decide), f8]
        have hcomm : nI r * 5 + nI k = nI (5 * r + k) := by
          rw [l_5, pk_mul, nI_add]
          congr 1
          omega
        have hrec := c_recallPair (R := rowT g t) (r := r) (k := k) hM M10 (fun p hp => by rw [i1 29 (by omega)]; exact h29 p hp) (show w < 24 by omega) ew (eb.imp id (fun ⟨b, hb, e1, e2⟩ => ⟨b, by omega, e1, e2⟩)) i2
        obtain ⟨⟨r3, s3⟩, e3, u1, u2⟩ := hrec
        dsimp only at u1 u2
        refine Ev.of (a := .inl (nI (k + 1), s3)) ?_ ⟨rfl, fun a ha => (u1 a ha).trans (i1 a ha), u2⟩
        dsimp only
        refine q_ck r rfl (by omega) (by decide) ?_
        refine q_if_f (by rw [e5']; exact nI_ge hk (by omega)) ?_
        refine q_ck (5 * r + k) hcomm (by omega) (by decide) ?_
        refine q_ck (5 * r + k) hcomm (by omega) (by decide) ?_
        rw [f7', f8']
        refine q_call e3 ?_
        rw [nI_1]
      · rintro ⟨x, s'⟩ ⟨rfl, i1, i2⟩
        dsimp only at i1 i2
        have e5' : s' (47 + 28 * t + 5) r = nI m := by rw [i1 _ (by omega), bk_j g t 5 (by decide)]; exact e5
        refine Ev.of (a := .inr s') (by simp (disch := omega) only [bd2_s, bd_s, wr_s, ck_s, bz_s0, bz_s1, dz_s, nI_litS, nI_add, pk_mul, pk_sub, nI_leI, nI_ltI, nI_eq, ng_lt, ng_le, lt_ng, le_ng, eq_ng, ng_eq, ng_ngE, ng_ngL, ng_ngl, sub1_lt, sub1_ng, eq_self, if_pos, if_neg, if_true, if_false, Nat.zero_add, Nat.add_zero, e5']) ?_
        refine ev_some ⟨nI_1 r, i1, ?_⟩
        have q1 : (fun p => hcS (rowT g t) p (r + 1)) = fun p => itK (fun k a => hcK (rowT g t) p r k a) m (hcS (rowT g t) p r) := funext (fun p => hcS_s hm)
        have q2 : (fun p q => waS (rowT g t) p q (r + 1)) = fun p q => itK (fun k a => waK (rowT g t) p q r k a) m (waS (rowT g t) p q r) := funext (fun p => funext (fun q => waS_s hm))
        rw [q1, q2]
        exact i2
    · rintro ⟨x, s⟩ ⟨rfl, h1, h2⟩
      dsimp only at h1 h2
      have c2' : s (47 + 28 * t) 2 = nI dr := by rw [h1 _ (by omega)]; exact c2
      exact Ev.of (a := .inr s) (by simp (disch := omega) only [bd2_s, bd_s, wr_s, ck_s, bz_s0, bz_s1, dz_s, nI_litS, nI_add, pk_mul, pk_sub, nI_leI, nI_ltI, nI_eq, ng_lt, ng_le, lt_ng, le_ng, eq_ng, ng_eq, ng_ngE, ng_ngL, ng_ngl, sub1_lt, sub1_ng, eq_self, if_pos, if_neg, if_true, if_false, Nat.zero_add, Nat.add_zero, c2']) (ev_some ⟨h1, h2⟩)
    · obtain ⟨a1, a2, a3⟩ := z2 x (by omega)
      refine ⟨?_, a2, a3⟩
      dsimp only
      rw [a1]
      show nI 0 = nI 0 - nI 0
      decide
    · exact z3 _ (by omega)
    · exact z3 _ (by omega)
