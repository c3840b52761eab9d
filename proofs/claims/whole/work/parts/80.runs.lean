/-! A plan's steps, one after another: class and model. -/
theorem Inv.rp {g g' : G} (h : Inv g) (x : ∀ a, a ≠ 45 → a ≠ 43 → a ≠ 173 → a ≠ 159 → g' a = g a) (y : ∀ k, ¬ (21 ≤ k ∧ k ≤ 24) → g' 159 k = g 159 k) (hr : J_rep g') (hp : ∀ p, p < 4 → g' 43 p = g' 173 p) : Inv g' := by
  obtain ⟨i1, i2, i3, i4, i5, i6, i7⟩ := h
  refine ⟨?_, ?_, ?_, hr, ?_, ?_, ?_⟩
  · unfold J_pl
    rw [x 3 (by decide) (by decide) (by decide) (by decide), x 4 (by decide) (by decide) (by decide) (by decide), x 5 (by decide) (by decide) (by decide) (by decide), x 6 (by decide) (by decide) (by decide) (by decide), x 7 (by decide) (by decide) (by decide) (by decide), x 161 (by decide) (by decide) (by decide) (by decide), x 162 (by decide) (by decide) (by decide) (by decide), x 163 (by decide) (by decide) (by decide) (by decide), x 164 (by decide) (by decide) (by decide) (by decide), y 3 (by omega)]
    exact i1
  · unfold J_log
    rw [x 1 (by decide) (by decide) (by decide) (by decide), x 2 (by decide) (by decide) (by decide) (by decide), x 160 (by decide) (by decide) (by decide) (by decide), y 2 (by omega), y 0 (by omega)]
    exact i2
  · intro p hp4
    obtain ⟨-, n, h10, e1, e2, e3⟩ := i3 p hp4
    refine ⟨hp p hp4, n, h10, ?_, ?_, ?_⟩
    · rw [x 42 (by decide) (by decide) (by decide) (by decide)]; exact e1
    · rw [x 172 (by decide) (by decide) (by decide) (by decide)]; exact e2
    · rw [x 44 (by decide) (by decide) (by decide) (by decide), x 171 (by decide) (by decide) (by decide) (by decide)]; exact e3
  · unfold J_fnd
    rw [x 0 (by decide) (by decide) (by decide) (by decide), x 46 (by decide) (by decide) (by decide) (by decide), x 184 (by decide) (by decide) (by decide) (by decide), y 42 (by omega)]
    exact i5
  · obtain ⟨np, nt, e0, h24, h4, ec, em, es, hT⟩ := i6
    refine ⟨np, nt, by rw [y 3 (by omega)]; exact e0, h24, h4, by rw [x 0 (by decide) (by decide) (by decide) (by decide)]; exact ec, by rw [y 8 (by omega)]; exact em, by rw [x 0 (by decide) (by decide) (by decide) (by decide), y 10 (by omega)]; exact es, fun t ht => ?_⟩
    rw [x 161 (by decide) (by decide) (by decide) (by decide), rowT_ne (x 165 (by decide) (by decide) (by decide) (by decide)), blkT_ne (fun j hj => x _ (by omega) (by omega) (by omega) (by omega))]
    exact hT t ht
  · rw [y 25 (by omega)]; exact i7
abbrev fl8 (a b c : Int32) (g : G) : G := up2 (up2 (up2 g 45 0 a) 45 1 b) 45 2 c
abbrev fl9 (a b c : Int32) (g : G) : G := up2 (up2 (up2 g 159 21 a) 159 22 b) 159 23 c
def DN (g : G) : Prop := ∃ d, d ≤ 60 ∧ g 45 3 = nI d
theorem Inv.fail {g : G} (h : Inv g) (a b c : Int32) : Inv (fl9 a b c (fl8 a b c g)) := by
  refine h.rp (fun k k1 _ _ k4 => ?_) (fun k hk => ?_) ⟨rfl, rfl, rfl, ?_⟩ (fun p hp => ?_)
  · unfold fl9 fl8
    rw [up2_ne k4, up2_ne k4, up2_ne k4, up2_ne k1, up2_ne k1, up2_ne k1]
  · unfold fl9 fl8
    rw [up2_eq, upd_ne (by omega), up2_eq, upd_ne (by omega), up2_eq, upd_ne (by omega), up2_ne (by decide), up2_ne (by decide), up2_ne (by decide)]
  · exact h.2.2.2.1.2.2.2
  · exact (h.2.2.1 p hp).1
theorem DN.fail {g : G} (h : DN g) (a b c : Int32) : DN (fl9 a b c (fl8 a b c g)) := h
theorem Inv.done {g : G} (h : Inv g) : Inv (up2 (up2 g 45 3 (g 45 3 + 1)) 159 24 (g 159 24 + 1)) := by
  refine h.rp (fun k k1 _ _ k4 => ?_) (fun k hk => ?_) ⟨h.2.2.2.1.1, h.2.2.2.1.2.1, h.2.2.2.1.2.2.1, ?_⟩ (fun p hp => ?_)
  · rw [up2_ne k4, up2_ne k1]
  · rw [up2_eq, upd_ne (by omega), up2_ne (by decide)]
  · show g 45 3 + 1 = g 159 24 + 1
    rw [h.2.2.2.1.2.2.2]
  · exact (h.2.2.1 p hp).1
theorem Inv.tried {g : G} (h : Inv g) (P : Nat) : Inv (up2 (up2 g 43 P (g 43 P + 1)) 173 P (g 173 P + 1)) := by
  refine h.rp (fun k k1 k2 k3 k4 => ?_) (fun k hk => rfl) h.2.2.2.1 (fun p hp => ?_)
  · rw [up2_ne k3, up2_ne k2]
  · rw [up2_ne (by decide : (43 : Nat) ≠ 173), up2_eq, up2_eq]
    by_cases q : p = P
    · subst q
      rw [upd_eq, upd_eq, (h.2.2.1 p hp).1]
    · rw [upd_ne q, upd_ne q]
      exact (h.2.2.1 p hp).1
theorem off8 {K : G → Option (Int32 × G)} {g c : G} {r : Int32} (hl : Lw8 K) (h : K g = some (r, c)) : ∀ a, 159 ≤ a → c a = g a := by
  obtain ⟨⟨r', c'⟩, e, e1, e2⟩ := hl g g g ⟨fun _ _ => rfl, fun _ _ => rfl⟩ _ h
  rw [h] at e
  have z : c = c' := congrArg Prod.snd (Option.some.inj e)
  rw [z]
  exact e2.2
theorem off9 {K : G → Option (Int32 × G)} {g c : G} {r : Int32} (hl : Lw9 K) (h : K g = some (r, c)) : ∀ a, a < 159 → c a = g a := by
  obtain ⟨⟨r', c'⟩, e, e1, e2⟩ := hl g g g ⟨fun _ _ => rfl, fun _ _ => rfl⟩ _ h
  rw [h] at e
  have z : c = c' := congrArg Prod.snd (Option.some.inj e)
  rw [z]
  exact e2.2
theorem lw8_run {n : Nat} {a : Int32} : Lw8 (f_X8_runSteps n a) := Lw8.t (fun _ _ _ h => kk_X8_runSteps n rfl h)
theorem lw8_L {n f : Nat} {a i : Int32} : Lw8 (L8 n a f i) := Lw8.t (fun _ _ _ h => kk_L8 (fun e h => kk_X8_runSteps n e h) h)
theorem lw8_perf {a : Int32} : Lw8 (f_X8_perform a) := Lw8.s (fun _ _ _ h => l_X8_perform rfl h)
theorem lw9_ans {a : Int32} : Lw9 (f_X9_answer a) := Lw9.s (fun _ _ _ h => l_X9_answer rfl h)
theorem lw9_goes {n : Nat} {a : Int32} : Lw9 (f_X9_goes n a) := Lw9.s (fun _ _ _ h => l_X9_goes n rfl h)
theorem perf45 {a r : Int32} {g c : G} (h : f_X8_perform a g = some (r, c)) : c 45 = g 45 := by
  obtain ⟨⟨r', c'⟩, e, e1, e2⟩ := l_X8_perform (b := (0, g)) rfl (S8.of (fun _ _ => rfl)) _ h
  rw [h] at e
  have z : c = c' := congrArg Prod.snd (Option.some.inj e)
  rw [z]
  exact e2.2
-- one round of a loop
theorem lp_l {σ ρ : Type} {body : σ → Option (σ ⊕ ρ)} {s s' : σ} {f : Nat} (h : body s = some (.inl s')) : lp body (f + 1) s = lp body f s' := by rw [lp, h]
theorem lp_r {σ ρ : Type} {body : σ → Option (σ ⊕ ρ)} {s : σ} {y : ρ} {f : Nat} (h : body s = some (.inr y)) : lp body (f + 1) s = some y := by rw [lp, h]
theorem L8_l {n f : Nat} {a1 i i' : Int32} {g g' : G} (h : b8 n a1 (i, g) = some (.inl (i', g'))) : L8 n a1 (f + 1) i g = L8 n a1 f i' g' := by
  unfold L8
  rw [lp_l h]
theorem L8_r {n f : Nat} {a1 i : Int32} {g : G} {y : (Int32 × Int32 × G) ⊕ (Int32 × G)} {q : Int32 × G} (h : b8 n a1 (i, g) = some (.inr y)) (h2 : k8 a1 y = some q) : L8 n a1 (f + 1) i g = some q := by
  unfold L8
  rw [lp_r h]
  exact h2
theorem L9_l {n f : Nat} {a1 i i' : Int32} {g g' : G} (h : b9 n a1 (i, g) = some (.inl (i', g'))) : L9 n a1 (f + 1) i g = L9 n a1 f i' g' := by
  unfold L9
  rw [lp_l h]
theorem L9_r {n f : Nat} {a1 i : Int32} {g : G} {y : G ⊕ (Int32 × G)} {q : Int32 × G} (h : b9 n a1 (i, g) = some (.inr y)) (h2 : k9 a1 y = some q) : L9 n a1 (f + 1) i g = some q := by
  unfold L9
  rw [lp_r h]
  exact h2
-- the class's step
theorem b8_end {n P N i : Nat} {g : G} (hP : P < 4) (hi : i ≤ 10) (hN : N ≤ i) (e : g 42 P = nI N) : b8 n (nI P) (nI i, g) = some (.inr (.inr (1, g))) := by
  unfold b8
  refine q_ck P rfl hP (by decide) ?_
  exact q_if_t (by dsimp only; rw [e]; exact nI_le hN (by omega)) rfl
theorem b8_in {n P N i : Nat} {g : G} {z : Option ((Int32 × G) ⊕ ((Int32 × G) ⊕ ((Int32 × Int32 × G) ⊕ (Int32 × G))))} {w : (Int32 × G) ⊕ ((Int32 × Int32 × G) ⊕ (Int32 × G))} (hP : P < 4) (hi : i < 10) (hN : i < N) (hN10 : N ≤ 10) (e : g 42 P = nI N)
    (hz : (if (g 44 (50 * P + 5 * i)) = (11 : Int32) then if (g 44 (50 * P + 5 * i + 1)) < 0 then some (.inl (nI i, g)) else if nI P ≤ (g 44 (50 * P + 5 * i + 1)) then some (.inl (nI i, g)) else bd2 (f_X8_runSteps n (g 44 (50 * P + 5 * i + 1)) g) fun r29 g30 => if r29 = 0 then some (.inr (.inr (.inr (((0 : Int32), g30))))) else some (.inr (.inl ((nI i + (1 : Int32)), g30))) else some (.inl (nI i, g)) : Option ((Int32 × G) ⊕ ((Int32 × G) ⊕ ((Int32 × Int32 × G) ⊕ (Int32 × G))))) = z)
    (hw : bd z (fun s32m => (match s32m with | .inl s19 => (bd2 (f_X8_perform (nI (50 * P + 5 * i)) s19.2) fun r20 g21 => bd2 (f_X8_fails r20 g21) fun r22 g23 => if r22 = 0 then wr (up2 g23 45 3 ((g23 45 3) + (1 : Int32))) fun g25 => some (.inl ((s19.1 + (1 : Int32)), g25)) else some (.inr (.inl (s19.1, r20, g23)))) | .inr y => some y)) = some w) : b8 n (nI P) (nI i, g) = some w := by
  have ex : (nI P * nI 10 + nI i) * nI 5 = nI (50 * P + 5 * i) := by
    rw [pk_mul, nI_add, pk_mul]
    exact congrArg nI (by omega)
  unfold b8
  refine q_ck P rfl hP (by decide) ?_
  refine q_if_f (by dsimp only; rw [e]; exact nI_ge (by omega) (by omega)) ?_
  refine q_call (v := nI (50 * P + 5 * i)) (g' := g) (by unfold f_X2_rowOf; exact congrArg (fun x => some (x, g)) ex) ?_
  refine q_ck (50 * P + 5 * i + 1) (by rw [l_1, nI_add]) (by omega) (by decide) ?_
  refine q_ck (50 * P + 5 * i) rfl (by omega) (by decide) ?_
  rw [← hz] at hw
  exact hw
theorem b8_sub {n P N i P' : Nat} {g c : G} {r : Int32} (hP : P < 4) (hi : i < 10) (hN : i < N) (hN10 : N ≤ 10) (e : g 42 P = nI N) (e0 : g 44 (50 * P + 5 * i) = 11) (e1 : g 44 (50 * P + 5 * i + 1) = nI P') (hP' : P' < P) (h : f_X8_runSteps n (nI P') g = some (r, c)) : (r = 0 → b8 n (nI P) (nI i, g) = some (.inr (.inr (0, c)))) ∧ (r ≠ 0 → b8 n (nI P) (nI i, g) = some (.inl (nI (i + 1), c))) := by
  have hs : ∀ w, (if r = 0 then some (.inr (.inr (.inr (((0 : Int32), c))))) else some (.inr (.inl ((nI i + (1 : Int32)), c))) : Option ((Int32 × G) ⊕ ((Int32 × G) ⊕ ((Int32 × Int32 × G) ⊕ (Int32 × G))))) = some (.inr w) → b8 n (nI P) (nI i, g) = some w := by
    intro w hw
    refine b8_in hP hi hN hN10 e (z := some (.inr w)) ?_ rfl
    refine q_if_t e0 ?_
    rw [e1]
    refine q_if_f (nI_lt0 (by omega)) ?_
    refine q_if_f (nI_ge (by omega) (by omega)) ?_
    exact q_call h hw
  refine ⟨fun hr => hs _ (q_if_t hr rfl), fun hr => ?_⟩
  rw [hs _ (q_if_f hr rfl), l_1, nI_add]
theorem b8_act {n P N i : Nat} {g c : G} {r : Int32} (hP : P < 4) (hi : i < 10) (hN : i < N) (hN10 : N ≤ 10) (e : g 42 P = nI N) (e0 : g 44 (50 * P + 5 * i) ≠ 11 ∨ g 44 (50 * P + 5 * i + 1) < 0 ∨ nI P ≤ g 44 (50 * P + 5 * i + 1)) (h : f_X8_perform (nI (50 * P + 5 * i)) g = some (r, c)) : (f_X8_fails r c = some (0, c) → b8 n (nI P) (nI i, g) = some (.inl (nI (i + 1), up2 c 45 3 (c 45 3 + 1)))) ∧ (f_X8_fails r c = some (1, c) → b8 n (nI P) (nI i, g) = some (.inr (.inl (nI i, r, c)))) := by
  have hs : ∀ w, (bd2 (f_X8_fails r c) fun r22 g23 => if r22 = 0 then wr (up2 g23 45 3 ((g23 45 3) + (1 : Int32))) fun g25 => some (.inl ((nI i + (1 : Int32)), g25)) else some (.inr (.inl (nI i, r, g23)))) = some w → b8 n (nI P) (nI i, g) = some w := by
    intro w hw
    refine b8_in hP hi hN hN10 e (z := some (.inl (nI i, g))) ?_ ?_
    · by_cases k : g 44 (50 * P + 5 * i) = 11
      · refine q_if_t k ?_
        by_cases k1 : g 44 (50 * P + 5 * i + 1) < 0
        · exact q_if_t k1 rfl
        · refine q_if_f k1 ?_
          refine q_if_t ?_ rfl
          rcases e0 with z | z | z
          · exact absurd k z
          · exact absurd z k1
          · exact z
      · exact q_if_f k rfl
    · refine q_bd rfl ?_
      exact q_call h hw
  refine ⟨fun hr => ?_, fun hr => hs _ (q_call hr (q_if_f (by decide) rfl))⟩
  rw [hs _ (q_call hr (q_if_t rfl (q_wr rfl))), l_1, nI_add]
-- the model's step
theorem b9_end {n P N i : Nat} {g : G} (hP : P < 4) (hi : i ≤ 10) (hN : N ≤ i) (e : g 172 P = nI N) : b9 n (nI P) (nI i, g) = some (.inr (.inl g)) := by
  unfold b9
  refine q_ck P rfl hP (by decide) ?_
  exact q_if_t (by dsimp only; rw [e]; exact nI_le hN (by omega)) rfl
theorem b9_in {n P N i : Nat} {g : G} {z : Option (G ⊕ ((Int32 × G) ⊕ (G ⊕ (Int32 × G))))} {w : (Int32 × G) ⊕ (G ⊕ (Int32 × G))} (hP : P < 4) (hi : i < 10) (hN : i < N) (hN10 : N ≤ 10) (e : g 172 P = nI N)
    (hz : (if (g 171 (50 * P + 5 * i)) = (11 : Int32) then ck (nI (50 * P + 5 * i) + (1 : Int32)) 200 fun j26 => bd2 (f_X9_in (g 171 j26) (0 : Int32) (nI P - (1 : Int32)) g) fun r27 g28 => if r27 = 0 then bd2 (f_X9_fails (-2 : Int32) (nI P) (nI i) g28) fun r34 g35 => some (.inr (.inr (.inr (((0 : Int32), g35))))) else ck (nI (50 * P + 5 * i) + (1 : Int32)) 200 fun j30 => bd2 (f_X9_goes n (g28 171 j30) g28) fun r31 g32 => if r31 = 0 then some (.inr (.inr (.inr (((0 : Int32), g32))))) else some (.inl (g32)) else bd ((if (g 159 24) = (60 : Int32) then some (((-4 : Int32), g)) else bd2 (f_X9_answer (nI (50 * P + 5 * i)) g) fun r23 g24 => some ((r23, g24)) : Option (Int32 × G))) fun (s17 : Int32 × G) => if (-1 : Int32) ≤ s17.1 then wr (up2 s17.2 159 24 ((s17.2 159 24) + (1 : Int32))) fun g19 => some (.inl (g19)) else bd2 (f_X9_fails s17.1 (nI P) (nI i) s17.2) fun r20 g21 => some (.inr (.inr (.inr (((0 : Int32), g21))))) : Option (G ⊕ ((Int32 × G) ⊕ (G ⊕ (Int32 × G))))) = z)
    (hw : bd z (fun s36m => (match s36m with | .inl s13 => (some (.inl ((nI i + (1 : Int32)), s13))) | .inr y => some y)) = some w) : b9 n (nI P) (nI i, g) = some w := by
  have ex : nI 50 * nI P + nI 5 * nI i = nI (50 * P + 5 * i) := by rw [pk_mul, pk_mul, nI_add]
  have ex' : (50 : Int32) * nI P + (5 : Int32) * nI i = nI (50 * P + 5 * i) := ex
  unfold b9
  refine q_ck P rfl hP (by decide) ?_
  refine q_if_f (by dsimp only; rw [e]; exact nI_ge (by omega) (by omega)) ?_
  dsimp only
  rw [ex']
  refine q_ck (50 * P + 5 * i) rfl (by omega) (by decide) ?_
  rw [← hz] at hw
  exact hw
theorem in_sub {P v : Nat} {g : G} (hP : P < 4) (hv : v < 2 ^ 31) : f_X9_in (nI v) 0 (nI P - 1) g = some (if v < P then 1 else 0, g) := by
  unfold f_X9_in
  refine q_if_f (nI_lt0 hv) ?_
  by_cases k : v < P
  · rw [if_pos k]
    refine q_if_f ?_ rfl
    rw [l_1, pk_sub (by omega), nI_ltI (by omega) hv]
    omega
  · rw [if_neg k]
    refine q_if_t ?_ rfl
    by_cases p0 : P = 0
    · subst p0
      show (-nI 1 : Int32) < nI v
      rw [ng_lt hv (by decide) (by decide)]
      trivial
    · rw [l_1, pk_sub (by omega), nI_ltI (by omega) hv]
      omega
theorem b9_sub {n P N i P' : Nat} {g c : G} {r : Int32} (hP : P < 4) (hi : i < 10) (hN : i < N) (hN10 : N ≤ 10) (e : g 172 P = nI N) (e0 : g 171 (50 * P + 5 * i) = 11) (e1 : g 171 (50 * P + 5 * i + 1) = nI P') (hP' : P' < P) (h : f_X9_goes n (nI P') g = some (r, c)) : (r = 0 → b9 n (nI P) (nI i, g) = some (.inr (.inr (0, c)))) ∧ (r ≠ 0 → b9 n (nI P) (nI i, g) = some (.inl (nI (i + 1), c))) := by
  have hs : ∀ y, (if r = 0 then some (.inr (.inr (.inr (((0 : Int32), c))))) else some (.inl (c)) : Option (G ⊕ ((Int32 × G) ⊕ (G ⊕ (Int32 × G))))) = some y → ∀ w, bd (some y) (fun s36m => (match s36m with | .inl s13 => (some (.inl ((nI i + (1 : Int32)), s13))) | .inr y => some y)) = some w → b9 n (nI P) (nI i, g) = some w := by
    intro y hy w hw
    refine b9_in hP hi hN hN10 e (z := some y) ?_ hw
    refine q_if_t e0 ?_
    refine q_ck (50 * P + 5 * i + 1) (by rw [l_1, nI_add]) (by omega) (by decide) ?_
    rw [e1]
    refine q_call (in_sub hP (by omega)) ?_
    refine q_if_f (by rw [if_pos hP']; decide) ?_
    refine q_ck (50 * P + 5 * i + 1) (by rw [l_1, nI_add]) (by omega) (by decide) ?_
    rw [e1]
    exact q_call h hy
  refine ⟨fun hr => hs _ (q_if_t hr rfl) _ rfl, fun hr => ?_⟩
  rw [hs _ (q_if_f hr rfl) _ rfl, l_1, nI_add]
theorem b9_bad {n P N i : Nat} {g : G} (hP : P < 4) (hi : i < 10) (hN : i < N) (hN10 : N ≤ 10) (e : g 172 P = nI N) (e0 : g 171 (50 * P + 5 * i) = 11) (e1 : g 171 (50 * P + 5 * i + 1) < 0 ∨ nI P ≤ g 171 (50 * P + 5 * i + 1)) : b9 n (nI P) (nI i, g) = some (.inr (.inr (0, fl9 (-2) (nI P) (nI i) g))) := by
  refine b9_in hP hi hN hN10 e (z := some (.inr (.inr (.inr (0, fl9 (-2) (nI P) (nI i) g))))) ?_ rfl
  refine q_if_t e0 ?_
  refine q_ck (50 * P + 5 * i + 1) (by rw [l_1, nI_add]) (by omega) (by decide) ?_
  refine q_call (v := 0) (g' := g) ?_ (q_if_t rfl (q_call (v := 0) (g' := fl9 (-2) (nI P) (nI i) g) rfl rfl))
  rcases i32_split (g 171 (50 * P + 5 * i + 1)) with ⟨v, hv, ev⟩ | ⟨v, hv0, hv, ev⟩
  · rw [ev] at e1 ⊢
    rw [in_sub hP hv]
    have : ¬ v < P := by
      rcases e1 with z | z
      · exact absurd z (nI_lt0 hv)
      · rw [nI_leI (by omega) hv] at z
        omega
    rw [if_neg this]
  · rw [ev]
    unfold f_X9_in
    exact q_if_t (by rw [l_0, ng_lt (by omega) hv0 hv]; trivial) rfl
theorem b9_act {n P N i : Nat} {g c : G} {r : Int32} (hP : P < 4) (hi : i < 10) (hN : i < N) (hN10 : N ≤ 10) (e : g 172 P = nI N) (e0 : g 171 (50 * P + 5 * i) ≠ 11) (h : (g 159 24 = 60 ∧ r = -4 ∧ c = g) ∨ (g 159 24 ≠ 60 ∧ f_X9_answer (nI (50 * P + 5 * i)) g = some (r, c))) : (-1 ≤ r → b9 n (nI P) (nI i, g) = some (.inl (nI (i + 1), up2 c 159 24 (c 159 24 + 1)))) ∧ (¬ -1 ≤ r → b9 n (nI P) (nI i, g) = some (.inr (.inr (0, fl9 r (nI P) (nI i) c)))) := by
  have hs : ∀ y, (if (-1 : Int32) ≤ r then wr (up2 c 159 24 ((c 159 24) + (1 : Int32))) fun g19 => some (.inl (g19)) else bd2 (f_X9_fails r (nI P) (nI i) c) fun r20 g21 => some (.inr (.inr (.inr (((0 : Int32), g21))))) : Option (G ⊕ ((Int32 × G) ⊕ (G ⊕ (Int32 × G))))) = some y → ∀ w, bd (some y) (fun s36m => (match s36m with | .inl s13 => (some (.inl ((nI i + (1 : Int32)), s13))) | .inr y => some y)) = some w → b9 n (nI P) (nI i, g) = some w := by
    intro y hy w hw
    refine b9_in hP hi hN hN10 e (z := some y) ?_ hw
    refine q_if_f e0 ?_
    refine q_bd (a := (r, c)) ?_ hy
    rcases h with ⟨k1, k2, k3⟩ | ⟨k1, k2⟩
    · rw [k2, k3]
      exact q_if_t k1 rfl
    · exact q_if_f k1 (q_call k2 rfl)
  refine ⟨fun hr => ?_, fun hr => hs _ (q_if_f hr (q_call (v := 0) (g' := fl9 r (nI P) (nI i) c) rfl rfl)) _ rfl⟩
  rw [hs _ (q_if_t hr (q_wr rfl)) _ rfl, l_1, nI_add]
