/-! The class's search finds the best way. -/
def Dst (M : Nat) (c : Nat → Nat → Nat) (al : Nat → Nat) (s : Nat → Bool) (g : G) : Prop := g 27 11 = nI M ∧ (∀ k, k < M → (s k = true ∧ g 37 k = -nI 1) ∨ (s k = false ∧ ∃ x, x ≤ 10 ∧ g 37 k = nI x)) ∧ (∀ i j, i < j → j < M → g 36 (11 * i + j) = nI (c i j)) ∧ ∀ i, i < M → g 36 (11 * i + 10) = nI (al i)
theorem c_free {M : Nat} {s : Nat → Bool} {g : G} (M10 : M ≤ 10) (h11 : g 27 11 = nI M) (h37 : ∀ k, k < M → (s k = true ∧ g 37 k = -nI 1) ∨ (s k = false ∧ ∃ x, x ≤ 10 ∧ g 37 k = nI x)) : f_X0_firstFree g = some (if cn s M = 0 then -nI 1 else nI (wf s M 0), g) := by
  have step : ∀ i, i < M → s i = false → (if (g 27 11) ≤ nI i then some (.inr (.inl ())) else ck (nI i) 10 fun j5 => if (g 37 j5) = (-1 : Int32) then some (.inr (.inr ((nI i, g)))) else some (.inl ((nI i + (1 : Int32)))) : Option ((Int32) ⊕ ((Unit) ⊕ (Int32 × G)))) = some (.inl (nI (i + 1))) := by
    intro i hi hs
    refine q_if_f (by rw [h11]; exact nI_ge hi (by omega)) ?_
    refine q_ck i rfl (by omega) (by decide) ?_
    refine q_if_f ?_ (by rw [nI_1])
    rcases h37 i hi with ⟨q, -⟩ | ⟨-, x, hx, ex⟩
    · rw [hs] at q; exact absurd q (by decide)
    · rw [ex]; exact nI_nneg (by omega) (by decide)
  unfold f_X0_firstFree
  by_cases h0 : cn s M = 0
  · rw [if_pos h0]
    have hall : ∀ i, i < M → s i = false := by
      intro i hi
      cases hs : s i with
      | false => rfl
      | true => have := cn_lt s hi hs; omega
    refine q_bd (a := .inl ()) ?_ rfl
    refine q_lp (fun i => nI i) M (fun i hi => step i hi (hall i hi)) ?_ (by omega) rfl
    exact q_if_t (by rw [h11]; exact Int32.le_refl _) rfl
  · rw [if_neg h0]
    obtain ⟨l1, l2, l3⟩ := lo_ok (s := s) (M := M) (by omega)
    refine q_bd (a := .inr (nI (wf s M 0), g)) ?_ rfl
    refine q_lp (fun i => nI i) (wf s M 0) (fun i hi => step i (by omega) (l3 i hi)) ?_ (by omega) rfl
    refine q_if_f (by rw [h11]; exact nI_ge l1 (by omega)) ?_
    refine q_ck (wf s M 0) rfl (by omega) (by decide) ?_
    refine q_if_t ?_ rfl
    rcases h37 _ l1 with ⟨-, q⟩ | ⟨q, -⟩
    · exact q
    · rw [l2] at q; exact absurd q (by decide)
def asg (M : Nat) (c : Nat → Nat → Nat) (al : Nat → Nat) (s : Nat → Bool) (i j : Nat) (f : Nat → Int32) (k : Nat) : Int32 := if j = 10 then (if k = i then nI 10 else if s k = true then nI (way M c al (rm s i) k) else f k) else if k = i then nI j else if k = j then nI i else if s k = true then nI (way M c al (rm (rm s i) j) k) else f k
theorem c_search {M : Nat} {c : Nat → Nat → Nat} {al : Nat → Nat} (hc : ∀ i j, i < j → j < M → c i j ≤ 4000000) (ha : ∀ i, i < M → al i ≤ 4000000) (M10 : M ≤ 10) : ∀ (n : Nat) (s : Nat → Bool) (sp dp B : Nat) (g : G), cn s M < n → cn s M + dp ≤ 10 → sp + cn s M * 4000000 ≤ 40000000 → B ≤ 2147483647 → (∀ k, M ≤ k → s k = false) → Dst M c al s g → g 27 12 = nI B → Ev (f_X0_search n (nI sp) (nI (cn s M % 2)) (nI dp) g) (fun q => (∀ a, a ≠ 27 → a ≠ 38 → q.2 a = g a) ∧ (∀ k, k ≠ 12 → q.2 27 k = g 27 k) ∧ q.2 27 12 = nI (if sp + (opt M c al s).1 < B then sp + (opt M c al s).1 else B) ∧ ∀ k, k < 10 → q.2 38 k = if sp + (opt M c al s).1 < B then (if s k = true then nI (way M c al s k) else g 37 k) else g 38 k) := by
  have hC : M * 4000000 < 2147483647 := by omega
  intro n
  induction n with
  | zero => intro s sp dp B g h; omega
  | succ n ih =>
    intro s sp dp B g hn hdp hsp hB hs0 hD h12
    have hD0 := hD
    obtain ⟨h11, h37, h36, hal⟩ := hD
    rw [f_X0_search]
    by_cases hpr : B ≤ sp
    · refine ev_t (by rw [h12, nI_leI (by omega) (by omega)]; exact hpr) ?_
      have hno : ¬ sp + (opt M c al s).1 < B := by omega
      refine ev_some ⟨fun _ _ _ => rfl, fun _ _ => rfl, ?_, fun k _ => ?_⟩
      · rw [if_neg hno]; exact h12
      · rw [if_neg hno]
    refine ev_f (by rw [h12, nI_leI (by omega) (by omega)]; omega) ?_
    refine ev_t (by rw [l_10, nI_leI (by omega) (by omega)]; omega) ?_
    refine ev_call (c_free M10 h11 h37) ?_
    by_cases h0 : cn s M = 0
    · rw [if_pos h0]
      refine ev_t rfl ?_
      refine ev_wr ?_
      refine ev_cpy (n := 10) rfl (by omega) (by omega) (fun g2 p2 q2 => ?_)
      have hb : sp + (opt M c al s).1 < B := by rw [opt_0 h0]; dsimp only; omega
      refine ev_some ⟨fun a a1 a2 => ?_, fun k hk => ?_, ?_, fun k hk => ?_⟩
      · dsimp only
        rw [p2 a a2, up2_ne a1]
      · dsimp only
        rw [p2 27 (by decide), up2_eq, upd_ne hk]
      · dsimp only
        rw [p2 27 (by decide), up2_eq, upd_eq, if_pos hb, opt_0 h0]
        rfl
      · dsimp only
        rw [q2 k hk, up2_ne (by decide), if_pos hb]
        have : ¬ s k = true := by
          intro q
          by_cases hkM : k < M
          · have := cn_lt s hkM q; omega
          · rw [hs0 k (by omega)] at q; exact absurd q (by decide)
        rw [if_neg this]
    · rw [if_neg h0]
      obtain ⟨l1, l2, l3⟩ := lo_ok (s := s) (M := M) (by omega)
      have hr := cn_rm l2 l1
      have es := opt_s (c := c) (al := al) (show 0 < cn s M by omega)
      have eway := way_s hc ha hC M10 (show 0 < cn s M by omega)
      have earg := opt_arg hc ha hC (show 0 < cn s M by omega)
      generalize hi0 : wf s M 0 = i at *
      refine ev_f (nI_nneg (by omega) (by decide)) ?_
      refine ev_bd ?_
      -- the pairs of i
      refine Ev.imp (P := fun st : G => (∀ a, a ≠ 27 → a ≠ 37 → a ≠ 38 → st a = g a) ∧ (∀ k, k ≠ i → st 37 k = g 37 k) ∧ (∀ k, k ≠ 12 → st 27 k = g 27 k) ∧ st 27 12 = nI (if sp + (fdJ c (opt M c al) s i M).1 < B then sp + (fdJ c (opt M c al) s i M).1 else B) ∧ ∀ k, k < 10 → st 38 k = if sp + (fdJ c (opt M c al) s i M).1 < B then asg M c al s i (fdJ c (opt M c al) s i M).2 (g 37) k else g 38 k) ?_ ?_
      · refine ev_lp (I := fun x st => st.1 = nI (i + 1 + x) ∧ (∀ a, a ≠ 27 → a ≠ 37 → a ≠ 38 → st.2 a = g a) ∧ (∀ k, k ≠ i → st.2 37 k = g 37 k) ∧ (∀ k, k ≠ 12 → st.2 27 k = g 27 k) ∧ st.2 27 12 = nI (if sp + (fdJ c (opt M c al) s i (i + 1 + x)).1 < B then sp + (fdJ c (opt M c al) s i (i + 1 + x)).1 else B) ∧ ∀ k, k < 10 → st.2 38 k = if sp + (fdJ c (opt M c al) s i (i + 1 + x)).1 < B then asg M c al s i (fdJ c (opt M c al) s i (i + 1 + x)).2 (g 37) k else g 38 k) (M - (i + 1)) ?_ ?_ 2000 0 _ (Nat.zero_le _) (by omega) ⟨nI_1 i, fun _ _ _ _ => rfl, fun _ _ => rfl, fun _ _ => rfl, ?_, fun k hk => ?_⟩
        · rintro x ⟨y, st⟩ hx ⟨rfl, i1, i2, i3, i4, i5⟩
          dsimp only at i1 i2 i3 i4 i5
          have hjM : i + 1 + x < M := by omega
          have s11 : st 27 11 = nI M := (i3 11 (by decide)).trans h11
          rw [show i + 1 + (x + 1) = i + 1 + x + 1 from rfl]
          generalize hj : i + 1 + x = j at *
          have hij : i < j := by omega
          dsimp only
          refine ev_f (by rw [s11]; exact nI_ge hjM (by omega)) ?_
          refine ev_ck j rfl (by omega) (by decide) ?_
          rcases h37 j hjM with ⟨sj, ej⟩ | ⟨sj, z, hz, ej⟩
          · -- j is free
            have hx11 : nI i * 11 + nI j = nI (11 * i + j) := by
              rw [show (11 : Int32) = nI 11 from rfl, pk_mul, nI_add, Nat.mul_comm]
            have e36 : up2 (up2 st 37 i (nI j)) 37 j (nI i) 36 (11 * i + j) = nI (c i j) := by
              rw [up2_ne (by decide), up2_ne (by decide), i1 36 (by decide) (by decide) (by decide)]
              exact h36 i j hij hjM
            have hcn := cn_rm2 l2 sj hij hjM
            have hcij := hc i j hij hjM
            have hrec := ih (rm (rm s i) j) (sp + c i j) (dp + 1) (if sp + (fdJ c (opt M c al) s i j).1 < B then sp + (fdJ c (opt M c al) s i j).1 else B) (up2 (up2 st 37 i (nI j)) 37 j (nI i)) (by omega) (by omega) (by omega) (by split <;> omega) (fun k hk => by
                by_cases kj : k = j
                · omega
                · rw [rm_ne kj]
                  by_cases ki : k = i
                  · omega
                  · rw [rm_ne ki]; exact hs0 k hk) ⟨by rw [up2_ne (by decide), up2_ne (by decide)]; exact s11, fun k hk => by
                rw [up2_eq]
                by_cases kj : k = j
                · subst kj
                  rw [upd_eq]
                  exact Or.inr ⟨rm_eq, i, by omega, rfl⟩
                · rw [upd_ne kj, up2_eq, rm_ne kj]
                  by_cases ki : k = i
                  · subst ki
                    rw [upd_eq]
                    exact Or.inr ⟨rm_eq, j, by omega, rfl⟩
                  · rw [upd_ne ki, i2 k ki, rm_ne ki]
                    exact h37 k hk, fun a b hab hb => by
                rw [up2_ne (by decide), up2_ne (by decide), i1 36 (by decide) (by decide) (by decide)]
                exact h36 a b hab hb, fun a hb => by
                rw [up2_ne (by decide), up2_ne (by decide), i1 36 (by decide) (by decide) (by decide)]
                exact hal a hb⟩ (by rw [up2_ne (by decide), up2_ne (by decide)]; exact i4)
            have hpar : cn (rm (rm s i) j) M % 2 = cn s M % 2 := by omega
            rw [hpar] at hrec
            obtain ⟨⟨r2, g2⟩, e2, u1, u2, u3, u4⟩ := hrec
            dsimp only at u1 u2 u3 u4
            have efd : fdJ c (opt M c al) s i (j + 1) = if c i j + (opt M c al (rm (rm s i) j)).1 < (fdJ c (opt M c al) s i j).1 then (c i j + (opt M c al (rm (rm s i) j)).1, j) else fdJ c (opt M c al) s i j := by
              rw [fdJ]
              by_cases q : c i j + (opt M c al (rm (rm s i) j)).1 < (fdJ c (opt M c al) s i j).1
              · rw [if_pos ⟨hij, sj, q⟩, if_pos q]
              · rw [if_neg (fun z => q z.2.2), if_neg q]
            refine Ev.of (a := .inl (nI (j + 1), up2 g2 37 j (-nI 1))) ?_ ⟨rfl, fun a a1 a2 a3 => ?_, fun k hk => ?_, fun k hk => ?_, ?_, fun k hk => ?_⟩
            · refine q_bd (a := up2 g2 37 j (-nI 1)) (q_if_t (by rw [i2 j (by omega)]; exact ej) ?_) (by rw [nI_1])
              refine q_ck i rfl (by omega) (by decide) ?_
              refine q_wr ?_
              refine q_ck j rfl (by omega) (by decide) ?_
              refine q_wr ?_
              refine q_ck (11 * i + j) hx11 (by omega) (by decide) ?_
              rw [e36, nI_add, nI_1]
              refine q_call e2 ?_
              refine q_ck j rfl (by omega) (by decide) ?_
              rfl
            · dsimp only
              rw [up2_ne a2, u1 a a1 a3, up2_ne a2, up2_ne a2]
              exact i1 a a1 a2 a3
            · dsimp only
              rw [up2_eq]
              by_cases kj : k = j
              · subst kj
                rw [upd_eq]; exact ej.symm
              · rw [upd_ne kj, u1 37 (by decide) (by decide), up2_eq, upd_ne kj, up2_eq, upd_ne hk]
                exact i2 k hk
            · dsimp only
              rw [up2_ne (by decide), u2 k hk, up2_ne (by decide), up2_ne (by decide)]
              exact i3 k hk
            · dsimp only
              rw [up2_ne (by decide), u3, efd]
              congr 1
              by_cases q : c i j + (opt M c al (rm (rm s i) j)).1 < (fdJ c (opt M c al) s i j).1
              · rw [if_pos q]
                dsimp only
                by_cases b1 : sp + (fdJ c (opt M c al) s i j).1 < B
                · rw [if_pos b1, if_pos (by omega), if_pos (by omega)]
                  omega
                · rw [if_neg b1]
                  by_cases b2 : sp + (c i j + (opt M c al (rm (rm s i) j)).1) < B
                  · rw [if_pos (by omega), if_pos b2]
                    omega
                  · rw [if_neg (by omega), if_neg b2]
              · rw [if_neg q]
                by_cases b1 : sp + (fdJ c (opt M c al) s i j).1 < B
                · rw [if_pos b1, if_neg (by omega)]
                · rw [if_neg b1, if_neg (by omega)]
            · dsimp only
              have e38 : up2 (up2 st 37 i (nI j)) 37 j (nI i) 38 = st 38 := by rw [up2_ne (by decide), up2_ne (by decide)]
              rw [up2_ne (by decide), u4 k hk, e38, i5 k hk, efd]
              have upc : asg M c al s i j (g 37) k = if rm (rm s i) j k = true then nI (way M c al (rm (rm s i) j) k) else up2 (up2 st 37 i (nI j)) 37 j (nI i) 37 k := by
                unfold asg
                rw [if_neg (show ¬ j = 10 by omega)]
                by_cases ki : k = i
                · subst ki
                  rw [if_pos rfl, rm_ne (by omega), rm_eq, if_neg (by decide), up2_eq, upd_ne (by omega), up2_eq, upd_eq]
                · rw [if_neg ki]
                  by_cases kj : k = j
                  · subst kj
                    rw [if_pos rfl, rm_eq, if_neg (by decide), up2_eq, upd_eq]
                  · rw [if_neg kj, rm_ne kj, rm_ne ki, up2_eq, upd_ne kj, up2_eq, upd_ne ki, i2 k ki]
              rw [← upc]
              by_cases q : c i j + (opt M c al (rm (rm s i) j)).1 < (fdJ c (opt M c al) s i j).1
              · rw [if_pos q]
                dsimp only
                by_cases b1 : sp + (fdJ c (opt M c al) s i j).1 < B
                · rw [if_pos b1, if_pos (by omega), if_pos (by omega)]
                · rw [if_neg b1]
                  by_cases b2 : sp + (c i j + (opt M c al (rm (rm s i) j)).1) < B
                  · rw [if_pos (by omega), if_pos b2]
                  · rw [if_neg (by omega), if_neg b2, if_neg b1]
              · rw [if_neg q]
                by_cases b1 : sp + (fdJ c (opt M c al) s i j).1 < B
                · rw [if_pos b1, if_neg (by omega), if_pos b1]
                · rw [if_neg b1, if_neg (by omega), if_neg b1]
          · -- j is not
            have efd : fdJ c (opt M c al) s i (j + 1) = fdJ c (opt M c al) s i j := by
              rw [fdJ, if_neg (fun q => by rw [sj] at q; exact absurd q.2.1 (by decide))]
            rw [efd]
            refine Ev.of (a := .inl (nI (j + 1), st)) ?_ ⟨rfl, i1, i2, i3, i4, i5⟩
            refine q_bd (a := st) (q_if_f (by rw [i2 j (by omega), ej]; exact nI_nneg (by omega) (by decide)) rfl) (by rw [nI_1])
        · rintro ⟨y, st⟩ ⟨rfl, i1, i2, i3, i4, i5⟩
          dsimp only at i1 i2 i3 i4 i5
          rw [show i + 1 + (M - (i + 1)) = M from by omega] at i4 i5 ⊢
          refine Ev.of (a := .inr st) (q_if_t (by show st 27 11 ≤ nI M; rw [i3 11 (by decide), h11]; exact Int32.le_refl _) rfl) ⟨i1, i2, i3, i4, i5⟩
        · dsimp only
          rw [fd_0 _ (by omega), if_neg (by dsimp only; omega)]
          exact h12
        · dsimp only
          rw [fd_0 _ (by omega), if_neg (by dsimp only; omega)]
      · -- with nobody
        rintro st ⟨i1, i2, i3, i4, i5⟩
        have fin : ∀ (g3 : G), (∀ a, a ≠ 27 → a ≠ 37 → a ≠ 38 → g3 a = g a) → (∀ k, k ≠ i → g3 37 k = g 37 k) → (∀ k, k ≠ 12 → g3 27 k = g 27 k) → g3 27 12 = nI (if sp + (opt M c al s).1 < B then sp + (opt M c al s).1 else B) → (∀ k, k < 10 → g3 38 k = if sp + (opt M c al s).1 < B then asg M c al s i (opt M c al s).2 (g 37) k else g 38 k) → Ev (ck (nI i) 10 fun j29 => wr (up2 g3 37 j29 (-1 : Int32)) fun g30 => some (((0 : Int32), g30))) (fun q => (∀ a, a ≠ 27 → a ≠ 38 → q.2 a = g a) ∧ (∀ k, k ≠ 12 → q.2 27 k = g 27 k) ∧ q.2 27 12 = nI (if sp + (opt M c al s).1 < B then sp + (opt M c al s).1 else B) ∧ ∀ k, k < 10 → q.2 38 k = if sp + (opt M c al s).1 < B then (if s k = true then nI (way M c al s k) else g 37 k) else g 38 k) := by
          intro g3 j1 j2 j3 j4 j5
          refine ev_ck i rfl (by omega) (by decide) ?_
          refine ev_wr ?_
          refine ev_some ⟨fun a a1 a2 => ?_, fun k hk => ?_, ?_, fun k hk => ?_⟩
          · dsimp only
            by_cases a37 : a = 37
            · subst a37
              funext k
              rw [up2_eq]
              by_cases ki : k = i
              · subst ki
                rw [upd_eq]
                rcases h37 k l1 with ⟨-, q⟩ | ⟨q, -⟩
                · exact q.symm
                · rw [l2] at q; exact absurd q (by decide)
              · rw [upd_ne ki]; exact j2 k ki
            · rw [up2_ne a37]; exact j1 a a1 a37 a2
          · dsimp only
            rw [up2_ne (by decide)]; exact j3 k hk
          · dsimp only
            rw [up2_ne (by decide)]; exact j4
          · dsimp only
            rw [up2_ne (by decide), j5 k hk]
            by_cases b : sp + (opt M c al s).1 < B
            · rw [if_pos b, if_pos b]
              rcases earg with ⟨e10, -⟩ | ⟨j, ej, h1, h2, h3, -⟩
              · unfold asg
                rw [if_pos e10]
                by_cases hs : s k = true
                · rw [if_pos hs, if_pos hs, eway k, if_pos e10]
                  by_cases ki : k = i
                  · rw [if_pos ki, if_pos ki]
                  · rw [if_neg ki, if_neg ki]
                · rw [if_neg hs, if_neg hs, if_neg (fun q => hs (by rw [q]; exact l2))]
              · have hne : ¬ (opt M c al s).2 = 10 := by omega
                unfold asg
                rw [if_neg hne]
                by_cases hs : s k = true
                · rw [if_pos hs, if_pos hs, eway k, if_neg hne]
                  by_cases ki : k = i
                  · rw [if_pos ki, if_pos ki]
                  · rw [if_neg ki, if_neg ki]
                    by_cases kj : k = (opt M c al s).2
                    · rw [if_pos kj, if_pos kj]
                    · rw [if_neg kj, if_neg kj]
                · rw [if_neg hs, if_neg hs, if_neg (fun q => hs (by rw [q]; exact l2)), if_neg (fun q => hs (by rw [q, ej]; exact h3))]
            · rw [if_neg b, if_neg b]
        unfold stp at es
        rw [hi0] at es
        refine ev_bd ?_
        by_cases odd : cn s M % 2 = 1
        · -- odd: nobody is free
          have e36 : up2 st 37 i (10 : Int32) 36 (11 * i + 10) = nI (al i) := by
            rw [up2_ne (by decide), i1 36 (by decide) (by decide) (by decide)]
            exact hal i l1
          have hx11 : nI i * 11 + 10 = nI (11 * i + 10) := by
            rw [show (11 : Int32) = nI 11 from rfl, pk_mul, l_10, nI_add, Nat.mul_comm]
          have hai := ha i l1
          have hrec := ih (rm s i) (sp + al i) (dp + 1) (if sp + (fdJ c (opt M c al) s i M).1 < B then sp + (fdJ c (opt M c al) s i M).1 else B) (up2 st 37 i 10) (by omega) (by omega) (by omega) (by split <;> omega) (fun k hk => by
              rw [rm_ne (by omega)]; exact hs0 k hk) ⟨by rw [up2_ne (by decide)]; exact (i3 11 (by decide)).trans h11, fun k hk => by
              rw [up2_eq]
              by_cases ki : k = i
              · subst ki
                rw [upd_eq]
                exact Or.inr ⟨rm_eq, 10, by omega, rfl⟩
              · rw [upd_ne ki, i2 k ki, rm_ne ki]
                exact h37 k hk, fun a b hab hb => by
              rw [up2_ne (by decide), i1 36 (by decide) (by decide) (by decide)]
              exact h36 a b hab hb, fun a hb => by
              rw [up2_ne (by decide), i1 36 (by decide) (by decide) (by decide)]
              exact hal a hb⟩ (by rw [up2_ne (by decide)]; exact i4)
          have hpar : cn (rm s i) M % 2 = 0 := by omega
          rw [hpar] at hrec
          obtain ⟨⟨r2, g2⟩, e2, u1, u2, u3, u4⟩ := hrec
          dsimp only at u1 u2 u3 u4
          refine Ev.of (a := g2) ?_ ?_
          · refine q_if_f (by rw [odd]; decide) ?_
            refine q_ck i rfl (by omega) (by decide) ?_
            refine q_wr ?_
            refine q_ck (11 * i + 10) hx11 (by omega) (by decide) ?_
            rw [e36, nI_add, nI_1]
            refine q_call e2 ?_
            rfl
          · refine fin g2 (fun a a1 a2 a3 => ?_) (fun k hk => ?_) (fun k hk => ?_) ?_ (fun k hk => ?_)
            · rw [u1 a a1 a3, up2_ne a2]; exact i1 a a1 a2 a3
            · rw [u1 37 (by decide) (by decide), up2_eq, upd_ne hk]; exact i2 k hk
            · rw [u2 k hk, up2_ne (by decide)]; exact i3 k hk
            · rw [u3]
              congr 1
              by_cases q : al i + (opt M c al (rm s i)).1 < (fdJ c (opt M c al) s i M).1
              · have est : opt M c al s = (al i + (opt M c al (rm s i)).1, 10) := by rw [es, if_pos ⟨odd, q⟩]
                rw [est]
                dsimp only
                by_cases b1 : sp + (fdJ c (opt M c al) s i M).1 < B
                · rw [if_pos b1, if_pos (by omega), if_pos (by omega)]
                  omega
                · rw [if_neg b1]
                  by_cases b2 : sp + (al i + (opt M c al (rm s i)).1) < B
                  · rw [if_pos (by omega), if_pos b2]
                    omega
                  · rw [if_neg (by omega), if_neg b2]
              · have est : opt M c al s = fdJ c (opt M c al) s i M := by rw [es, if_neg (fun z => q z.2)]
                rw [est]
                by_cases b1 : sp + (fdJ c (opt M c al) s i M).1 < B
                · rw [if_pos b1, if_neg (by omega)]
                · rw [if_neg b1, if_neg (by omega)]
            · have e38 : up2 st 37 i 10 38 = st 38 := by rw [up2_ne (by decide)]
              rw [u4 k hk, e38, i5 k hk]
              have upc : asg M c al s i 10 (g 37) k = if rm s i k = true then nI (way M c al (rm s i) k) else up2 st 37 i 10 37 k := by
                unfold asg
                rw [if_pos rfl]
                by_cases ki : k = i
                · subst ki
                  rw [if_pos rfl, rm_eq, if_neg (by decide), up2_eq, upd_eq]
                  rfl
                · rw [if_neg ki, rm_ne ki, up2_eq, upd_ne ki, i2 k ki]
              rw [← upc]
              by_cases q : al i + (opt M c al (rm s i)).1 < (fdJ c (opt M c al) s i M).1
              · have est : opt M c al s = (al i + (opt M c al (rm s i)).1, 10) := by rw [es, if_pos ⟨odd, q⟩]
                rw [est]
                dsimp only
                by_cases b1 : sp + (fdJ c (opt M c al) s i M).1 < B
                · rw [if_pos b1, if_pos (by omega), if_pos (by omega)]
                · rw [if_neg b1]
                  by_cases b2 : sp + (al i + (opt M c al (rm s i)).1) < B
                  · rw [if_pos (by omega), if_pos b2]
                  · rw [if_neg (by omega), if_neg b2, if_neg b1]
              · have est : opt M c al s = fdJ c (opt M c al) s i M := by rw [es, if_neg (fun z => q z.2)]
                rw [est]
                by_cases b1 : sp + (fdJ c (opt M c al) s i M).1 < B
                · rw [if_pos b1, if_neg (by omega), if_pos b1]
                · rw [if_neg b1, if_neg (by omega), if_neg b1]
        · -- even
          have ev0 : cn s M % 2 = 0 := by omega
          rw [if_neg (fun z => odd z.1)] at es
          refine Ev.of (a := st) (q_if_t (by rw [ev0]; rfl) rfl) ?_
          exact fin st i1 i2 i3 (by rw [es]; exact i4) (by rw [es]; exact i5)
