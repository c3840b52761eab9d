/-! What an act of a plan may answer; asking for a worth and needing points within a plan. -/
def Ro {α : Type} (x : Option α) (P : α → Prop) : Prop := ∀ a, x = some a → P a
abbrev Rg (q : Int32 × G) : Prop := -nI 5 ≤ q.1
theorem ro_some {α : Type} {a : α} {P : α → Prop} (h : P a) : Ro (some a) P := by
  intro b hb
  rw [← Option.some.inj hb]
  exact h
theorem ro_if {α : Type} {c : Prop} [Decidable c] {a b : Option α} {P : α → Prop} (h1 : c → Ro a P) (h2 : ¬ c → Ro b P) : Ro (if c then a else b) P := by
  by_cases q : c
  · rw [if_pos q]; exact h1 q
  · rw [if_neg q]; exact h2 q
theorem ro_ck {α : Type} {i : Int32} {n : Nat} {k : Nat → Option α} {P : α → Prop} (hn : n < 2 ^ 31) (h : ∀ j, j < n → i = nI j → Ro (k j) P) : Ro (ck i n k) P := by
  unfold ck
  by_cases q : i < 0 ∨ n ≤ i.toNatClampNeg
  · rw [if_pos q]
    intro a ha
    exact absurd ha (fun z => by cases z)
  · rw [if_neg q]
    rcases i32_split i with ⟨j, hj, e⟩ | ⟨j, hj0, hj, e⟩
    · rw [e, nI_clamp hj] at q ⊢
      exact h j (by omega) e
    · exfalso
      apply q
      left
      rw [e, l_0, ng_lt (by omega) hj0 hj]
      trivial
theorem ro_wr {α β : Type} {v : β} {k : β → Option α} {P : α → Prop} (h : Ro (k v) P) : Ro (wr v k) P := h
theorem ro_bd {α β : Type} {x : Option β} {k : β → Option α} {P1 : β → Prop} {P : α → Prop} (h1 : Ro x P1) (h : ∀ a, P1 a → Ro (k a) P) : Ro (bd x k) P := by
  intro q hq
  cases hx : x with
  | none => rw [hx] at hq; exact absurd hq (fun z => by cases z)
  | some a => rw [hx] at hq; exact h a (h1 a hx) q hq
theorem ro_bd2 {α : Type} {x : Option (Int32 × G)} {k : Int32 → G → Option α} {P1 : Int32 × G → Prop} {P : α → Prop} (h1 : Ro x P1) (h : ∀ r s, P1 (r, s) → Ro (k r s) P) : Ro (bd2 x k) P := by
  intro q hq
  cases hx : x with
  | none => rw [hx] at hq; exact absurd hq (fun z => by cases z)
  | some a =>
    obtain ⟨r, s⟩ := a
    rw [hx] at hq
    exact h r s (h1 _ hx) q hq
theorem ro_any {α : Type} {x : Option α} : Ro x (fun _ => True) := fun _ _ => trivial
theorem ro_bdA {α β : Type} {x : Option β} {k : β → Option α} {P : α → Prop} (h : ∀ a, Ro (k a) P) : Ro (bd x k) P := ro_bd ro_any (fun a _ => h a)
theorem ro_bdS {α : Type} {x : Option (Int32 × G)} {k : Int32 → G → Option α} {P : α → Prop} (h : ∀ r s, Ro (k r s) P) : Ro (bd2 x k) P := ro_bd2 ro_any (fun r s _ => h r s)
theorem rg_n {n : Nat} (h : n < 2 ^ 31) : -nI 5 ≤ nI n := (ng_le h (by decide) (by decide)).mpr trivial
theorem rg_0 {x : Int32} (h : 0 ≤ x) : -nI 5 ≤ x := by
  rcases i32_split x with ⟨j, hj, e⟩ | ⟨j, hj0, hj, e⟩
  · rw [e]; exact rg_n hj
  · rw [e, l_0, le_ng (by omega) hj0 hj] at h
    exact h.elim
theorem ro_l {x : Int32} {s : G} (h : -nI 5 ≤ x) : Ro (some (x, s)) Rg := ro_some h
theorem ro_call {α : Type} {x : Option (Int32 × G)} {v : Int32} {g' : G} {k : Int32 → G → Option α} {P : α → Prop} (e : x = some (v, g')) (h : Ro (k v g') P) : Ro (bd2 x k) P := by rw [e]; exact h
theorem rg_met {f : Int32} {g : G} : Ro (f_X1_met f g) Rg := by
  unfold f_X1_met
  exact ro_wr (ro_l (by decide))
theorem rg_player {a1 a2 : Int32} {g : G} : Ro (f_X8_player a1 a2 g) Rg := by
  unfold f_X8_player
  refine ro_if (fun _ => ro_l (by decide)) (fun _ => ro_if (fun _ => ro_l (by decide)) (fun _ => ro_if (fun _ => ro_l (by decide)) (fun _ => ro_if (fun _ => ?_) (fun _ => ro_l (by decide)))))
  refine ro_bd2 (P1 := Rg) ?_ (fun r s h => ro_some h)
  unfold f_X5_add
  refine ro_if (fun _ => ?_) (fun _ => ro_l (by decide))
  refine ro_ck (by decide) (fun j hj ej => ?_)
  refine ro_wr (ro_ck (by decide) (fun j2 hj2 ej2 => ?_))
  refine ro_wr (ro_ck (by decide) (fun j3 hj3 ej3 => ?_))
  refine ro_wr (ro_wr (ro_some ?_))
  show -nI 5 ≤ (up2 _ 3 4 _) 3 4 - 1
  rw [up2_eq, upd_eq, up2_ne (by decide), ej3, l_1, nI_add, pk_sub (by omega)]
  exact rg_n (by omega)
theorem rg_places {a1 a2 : Int32} {g : G} : Ro (f_X8_places a1 a2 g) Rg := by
  unfold f_X8_places
  refine ro_bdS (fun r s => ro_if (fun _ => ro_l (by decide)) (fun _ => ro_if (fun _ => ?_) (fun _ => ro_l (by decide))))
  refine ro_bdS (fun r s => ro_if (fun _ => ro_bd2 rg_met (fun r s h => ro_some h)) (fun _ => ro_if (fun h0 => ?_) (fun _ => ro_bd2 rg_met (fun r s h => ro_some h))))
  exact ro_bdS (fun r s => ro_some (rg_0 h0))
theorem rg_meets {f : Int32} {g : G} : Ro (f_X9_meets f g) Rg := by
  unfold f_X9_meets
  exact ro_wr (ro_l (by decide))
theorem rg_seat {a1 a2 a3 : Int32} {g : G} : Ro (f_X9_seat a1 a2 a3 g) Rg := by
  unfold f_X9_seat
  refine ro_bdS (fun r s => ro_if (fun _ => ro_l (by decide)) (fun _ => ?_))
  refine ro_bd (P1 := fun y => match y with | .inl _ => True | .inr q => Rg q) ?_ ?_
  · refine ro_if (fun _ => ro_some trivial) (fun _ => ro_bdS (fun r s => ro_if (fun _ => ro_some ?_) (fun _ => ro_some trivial)))
    show -nI 5 ≤ -2
    decide
  · rintro (s5 | q) hq
    · dsimp only
      refine ro_ck (by decide) (fun j hj ej => ?_)
      refine ro_bd (P1 := fun y => match y with | .inl _ => True | .inr q => Rg q) ?_ ?_
      · refine ro_if (fun _ => ?_) (fun _ => ro_some trivial)
        refine ro_bd (P1 := fun y => match y with | .inl _ => True | .inr (.inl _) => True | .inr (.inr q) => Rg q) ?_ ?_
        · exact ro_if (fun _ => ro_some trivial) (fun _ => ro_ck (by decide) (fun _ _ _ => ro_if (fun _ => ro_some trivial) (fun _ => ro_some trivial)))
        · rintro (y | y | y) hy
          · dsimp only
            refine ro_ck (by decide) (fun j hj ej => ?_)
            refine ro_if (fun _ => ro_bd2 rg_meets (fun r s h => ro_some h)) (fun _ => ?_)
            refine ro_ck (by decide) (fun j hj ej => ?_)
            refine ro_bdS (fun r s => ro_if (fun _ => ro_bd2 rg_meets (fun r s h => ro_some h)) (fun _ => ?_))
            refine ro_ck (by decide) (fun j hj ej => ro_wr (ro_some ?_))
            show -nI 5 ≤ 1
            decide
          · exact ro_some trivial
          · exact ro_some hy
      · rintro (y | y) hy
        · exact ro_bd2 rg_meets (fun r s h => ro_some h)
        · exact ro_some hy
    · exact ro_some hq
theorem rg_tournament {g : G} : Ro (f_X8_tournament g) Rg := by
  unfold f_X8_tournament
  refine ro_if (fun _ => ro_ck (by decide) (fun j hj ej => ro_wr (ro_bdS (fun r s => ro_bd2 (P1 := Rg) ?_ (fun r s h => ro_some h))))) (fun _ => ro_l (by decide))
  unfold f_X8_openNext
  refine ro_wr (ro_ck (by decide) (fun j hj ej => ro_wr (ro_wr (ro_wr (ro_some ?_)))))
  show -nI 5 ≤ (up2 _ 0 12 _) 0 12 - 1
  rw [up2_eq, upd_eq, up2_ne (by omega), ej, l_1, nI_add, pk_sub (by omega)]
  exact rg_n (by omega)
theorem rg_enter {a1 a2 : Int32} {g : G} : Ro (f_X8_enter a1 a2 g) Rg := by
  unfold f_X8_enter
  refine ro_bdS (fun r s => ro_if (fun _ => ro_l (by decide)) (fun _ => ?_))
  refine ro_bdS (fun r s => ro_if (fun _ => ro_l (by decide)) (fun _ => ?_))
  refine ro_ck (by decide) (fun j hj ej => ro_wr ?_)
  refine ro_bdS (fun r s => ro_if (fun _ => ?_) (fun _ => ro_l (by decide)))
  refine ro_if (fun _ => ?_) (fun _ => ro_l (by decide))
  refine ro_if (fun _ => ?_) (fun _ => ro_l (by decide))
  refine ro_bdS (fun r s => ro_if (fun _ => ro_bd2 rg_met (fun r s h => ro_some h)) (fun _ => ?_))
  refine ro_bd2 (P1 := Rg) ?_ (fun r s h => ro_some h)
  unfold f_X7_letIn
  refine ro_ck (by decide) (fun j1 hj1 ej1 => ro_wr (ro_ck (by decide) (fun j2 hj2 ej2 => ro_wr (ro_wr (ro_some ?_)))))
  show -nI 5 ≤ (up2 _ _ 1 _) (47 + 28 * j) 1
  rw [up2_eq, upd_eq, up2_ne (by omega), ej2, l_1, nI_add]
  exact rg_n (by omega)
theorem rg_withdraw {a1 a2 : Int32} {g : G} : Ro (f_X8_withdraw a1 a2 g) Rg := by
  unfold f_X8_withdraw
  refine ro_bdS (fun r s => ro_if (fun _ => ro_l (by decide)) (fun _ => ?_))
  refine ro_bdS (fun r s => ro_if (fun _ => ro_l (by decide)) (fun _ => ?_))
  refine ro_ck (by decide) (fun j hj ej => ro_wr (ro_ck (by decide) (fun j2 hj2 ej2 => ?_)))
  exact ro_if (fun _ => ro_ck (by decide) (fun _ _ _ => ro_wr (ro_l (by decide)))) (fun _ => ro_l (by decide))
theorem rg_takeBack {a1 a2 a3 : Int32} {g : G} : Ro (f_X8_takeBack a1 a2 a3 g) Rg := by
  unfold f_X8_takeBack
  refine ro_bdS (fun r s => ro_if (fun _ => ro_l (by decide)) (fun _ => ?_))
  refine ro_if (fun _ => ?_) (fun _ => ro_l (by decide))
  refine ro_ck (by decide) (fun j hj ej => ro_wr ?_)
  refine ro_if (fun _ => ro_l (by decide)) (fun _ => ?_)
  refine ro_if (fun _ => ro_l (by decide)) (fun _ => ?_)
  refine ro_ck (by decide) (fun j2 hj2 ej2 => ?_)
  refine ro_if (fun _ => ?_) (fun _ => ro_l (by decide))
  refine ro_ck (by decide) (fun j2 hj2 ej2 => ?_)
  exact ro_if (fun _ => ro_ck (by decide) (fun _ _ _ => ro_wr (ro_l (by decide)))) (fun _ => ro_l (by decide))
theorem rg_tell {a1 a2 a3 a4 a5 a6 : Int32} {g : G} (hI : Inv g) : Ro (f_X8_tell a1 a2 a3 a4 a5 a6 g) Rg := by
  obtain ⟨np, nt, h24, h4, e1, e2, ec, em, es, hP, hT⟩ := hI.pre
  unfold f_X8_tell
  rcases c_isT (a := a1) (s := g) h4 ec with ⟨q, hno⟩ | ⟨t, htn, rfl, q⟩
  · exact ro_call q (ro_if (fun _ => ro_l (by decide)) (fun z => absurd rfl z))
  obtain ⟨n, dr, e, q0, hin, hsm, hrd, hen⟩ := hT t htn
  refine ro_call q (ro_if (fun _ => ro_l (by decide)) (fun _ => ?_))
  refine ro_if (fun _ => ro_l (by decide)) (fun _ => ?_)
  refine ro_if (fun _ => ro_l (by decide)) (fun _ => ?_)
  refine ro_if (fun _ => ro_l (by decide)) (fun _ => ?_)
  refine ro_if (fun _ => ?_) (fun _ => ro_l (by decide))
  refine ro_ck (by decide) (fun j hj ej => ro_wr ?_)
  have : j = t := nI_inj (by omega) (by omega) ej.symm
  subst this
  refine ro_bd2 (P1 := Rg) ?_ ?_
  · unfold f_X7_cellOf
    refine ro_bd2 (P1 := fun q => Rg q ∧ (0 ≤ q.1 → q.2 = g ∧ ∃ i, i < dr ∧ q.1 = nI i)) ?_ ?_
    · unfold f_X7_roundOf
      refine ro_bd (P1 := fun y => match y with | .inl _ => True | .inr q => Rg q ∧ (0 ≤ q.1 → q.2 = g ∧ ∃ i, i < dr ∧ q.1 = nI i)) ?_ ?_
      · refine ro_if (fun _ => ro_some trivial) (fun h0 => ro_if (fun h6 => ro_if (fun h7 => ro_some ?_) (fun _ => ?_)) (fun _ => ro_some trivial))
        · show Rg _ ∧ _
          rcases i32_split a2 with ⟨i, hi, e⟩ | ⟨i, hi0, hi, e⟩
          · rw [e, show g (47 + 28 * j) 2 = nI dr from hrd.2.1, nI_ltI hi (by have := hrd.1; omega)] at h7
            rw [e]
            exact ⟨rg_n (by omega), fun _ => ⟨rfl, i, h7, rfl⟩⟩
          · exfalso
            apply h0
            rw [e, l_0, ng_lt (by omega) hi0 hi]
            trivial
        · unfold f_X1_met
          refine ro_bd2 (P1 := fun q => q.1 = -5) (ro_wr (ro_some rfl)) (fun r s h => ro_some ?_)
          show Rg _ ∧ _
          dsimp only at h
          rw [h]
          exact ⟨(by decide : -nI 5 ≤ (-5 : Int32)), fun h => absurd (show (0 : Int32) ≤ -5 from h) (by decide)⟩
      · rintro (y | y) hy
        · unfold f_X1_met
          refine ro_bd2 (P1 := fun q => q.1 = -5) (ro_wr (ro_some rfl)) (fun r s h => ro_some ?_)
          dsimp only at h ⊢
          rw [h]
          exact ⟨(by decide : -nI 5 ≤ (-5 : Int32)), fun h => absurd (show (0 : Int32) ≤ -5 from h) (by decide)⟩
        · exact ro_some hy
    · rintro r s ⟨h1, h2⟩
      refine ro_if (fun hr => ?_) (fun _ => ro_some h1)
      obtain ⟨es, i, hi, ei⟩ := h2 hr
      dsimp only at es ei
      subst es
      subst ei
      obtain ⟨m, hm⟩ := hrd.2.2.2.1 i hi
      have d6 := hrd.1
      refine ro_bd (P1 := fun y => match y with | .inl _ => True | .inr q => Rg q) ?_ ?_
      · refine ro_if (fun _ => ro_some trivial) (fun h0 => ro_ck (by decide) (fun j2 hj2 ej2 => ro_if (fun h6 => ro_some ?_) (fun _ => ro_some trivial)))
        show -nI 5 ≤ nI i * 5 + a3
        have ej3 : j2 = i := nI_inj (by omega) (by omega) ej2.symm
        subst ej3
        have m5 := hm.2.1
        have e5 : s (47 + 28 * j + 5) j2 = nI m := by rw [bk_j s j 5 (by decide)]; exact hm.2.2.2.2.1
        rw [e5] at h6
        rcases i32_split a3 with ⟨k, hk, e⟩ | ⟨k, hk0, hk, e⟩
        · rw [e, nI_ltI hk (by omega)] at h6
          rw [e, l_5, pk_mul, nI_add]
          exact rg_n (by omega)
        · exfalso
          apply h0
          rw [e, l_0, ng_lt (by omega) hk0 hk]
          trivial
      · rintro (y | y) hy
        · exact ro_bd2 rg_met (fun r s h => ro_some h)
        · exact ro_some hy
  · intro r s h
    refine ro_if (fun _ => ?_) (fun _ => ro_some h)
    refine ro_ck (by decide) (fun j2 hj2 ej2 => ro_if (fun _ => ro_l (by decide)) (fun _ => ?_))
    refine ro_bd2 (P1 := Rg) ?_ (fun r s h => ro_some h)
    unfold f_X7_addEntry
    refine ro_if (fun _ => ?_) (fun _ => ro_l (by decide))
    refine ro_ck (by decide) (fun _ _ _ => ro_wr (ro_ck (by decide) (fun _ _ _ => ro_wr (ro_ck (by decide) (fun _ _ _ => ro_wr (ro_ck (by decide) (fun _ _ _ => ro_wr (ro_ck (by decide) (fun i hi ei => ro_wr (ro_wr (ro_some ?_)))))))))))
    show -nI 5 ≤ (up2 _ _ 3 _) (47 + 28 * j) 3 - 1
    rw [up2_eq, upd_eq, up2_ne (by omega), ei, l_1, nI_add, pk_sub (by omega)]
    exact rg_n (by omega)
-- worth within a plan
theorem sr_ask (a : Int32) (g : G) (hI : Inv g) : ∃ r c m, -nI 5 ≤ r ∧ f_X8_askWorth a g = some (r, c) ∧ (bd2 (f_X9_isPlayer a c) fun r34 g35 => if r34 = 0 then some (((-2 : Int32), g35)) else bd2 (f_X9_worthOf a g35) fun r37 g38 => some ((r37, g38))) = some (r, m) ∧ Inv m := by
  obtain ⟨np, n24, e1, e2, hRc, hRm, hq, hw⟩ := hI.1.rw
  obtain ⟨hLc, hLm⟩ := hI.2.1.lc
  rcases i32_cases a np (by omega) with h | ⟨p, hp, rfl⟩
  · refine ⟨-2, g, g, by decide, c_ask_0 e1 h, ?_, hI⟩
    refine q_call (m_is_0 e2 n24 h) ?_
    exact q_if_t rfl rfl
  · refine ⟨(woE (g 4) (g 5) (g 6) (g 7) p).2.1, cE (woE (g 4) (g 5) (g 6) (g 7) p).1 (woE (g 4) (g 5) (g 6) (g 7) p).2.2 g, mE (woE (g 4) (g 5) (g 6) (g 7) p).1 (woE (g 4) (g 5) (g 6) (g 7) p).2.2 (cE (woE (g 4) (g 5) (g 6) (g 7) p).1 (woE (g 4) (g 5) (g 6) (g 7) p).2.2 g), ?_, c_ask_1 e1 hRc hp hLc, ?_, hI.eff _ _⟩
    · rcases wo_val hRc hp with ⟨-, v, v1, v2⟩ | ⟨v2, -⟩
      · rw [v2]; exact rg_n (by omega)
      · rw [v2]; decide
    · rw [hw p hp]
      generalize hE : cE (woE (g 161) (g 162) (g 163) (g 164) p).1 (woE (g 161) (g 162) (g 163) (g 164) p).2.2 g = G1
      have x1 : ∀ a, a ≠ 1 → a ≠ 2 → G1 a = g a := by
        intro a h1 h2
        rw [← hE, cE_off h1 h2]
      have x2 : G1 159 3 = nI np := by rw [x1 159 (by decide) (by decide)]; exact e2
      have x3 : Lm G1 := hLm.fr (by rw [x1 159 (by decide) (by decide)])
      have x4 : RW np (G1 161) (G1 162) (G1 163) (G1 164) := by
        rw [x1 161 (by decide) (by decide), x1 162 (by decide) (by decide), x1 163 (by decide) (by decide), x1 164 (by decide) (by decide)]
        exact hRm
      refine q_call (m_is_1 x2 hp n24) ?_
      refine q_if_f (by decide) ?_
      refine q_call (m_worthOf x4 hp x3) ?_
      rw [x1 161 (by decide) (by decide), x1 162 (by decide) (by decide), x1 163 (by decide) (by decide), x1 164 (by decide) (by decide)]
-- points within a plan
theorem sr_points (a1 a2 a3 a4 : Int32) (g : G) (hI : Inv g) : ∃ r c m, (r = -nI 2 ∨ r = -nI 3 ∨ ∃ v, v ≤ 12 ∧ r = nI v) ∧ f_X8_points a1 a2 a3 a4 g = some (r, c) ∧ f_X9_points a1 a2 a3 a4 c = some (r, m) ∧ Inv m := by
  rcases ask_cases hI a1 a2 a3 a4 with ⟨x, hx, x8, x9⟩ | ⟨np, t, p, d, W, n, dr, e, k, rfl, rfl, rfl, rfl, hp, hd, hW, hT, hk, hkp, enp, hst, x8, x9⟩
  · have y8 := x8 g (fun _ _ _ => rfl)
    have y9 := x9 g rfl rfl rfl
    refine ⟨x, g, g, ?_, ?_, ?_, hI⟩
    · rcases hx with rfl | rfl
      · exact Or.inl rfl
      · exact Or.inr (Or.inl rfl)
    · unfold f_X8_points
      refine q_call y8 ?_
      rcases hx with rfl | rfl
      · exact q_if_f (by decide) rfl
      · exact q_if_f (by decide) rfl
    · unfold f_X9_points
      refine q_call y9 ?_
      rcases hx with rfl | rfl
      · exact q_if_f (by decide) rfl
      · exact q_if_f (by decide) rfl
  · obtain ⟨r, c, m, h1, h2, h3⟩ := sp_points (nI t) (nI p) (nI d) (nI W) g hI
    refine ⟨r, c, m, ?_, h1, h2, h3⟩
    right
    right
    have h24 := hT.1
    have y8 := x8 g (fun _ _ _ => rfl)
    have : Ev (f_X8_points (nI t) (nI p) (nI d) (nI W) g) (fun q => q.1 = PT (rowT g t) (nI d) (oc (rowT g t) (nI d) (nI W) e) dr p) := by
      unfold f_X8_points
      refine ev_call y8 ?_
      refine ev_t rfl ?_
      refine ev_ck t rfl hT.2.1 (by decide) ?_
      refine ev_wr ?_
      refine hT.score (fun r s z1 z2 z3 => ?_)
      refine ev_ck p rfl (by omega) (by decide) ?_
      exact ev_some (z3 p (by omega))
    obtain ⟨q, eq, e2⟩ := this
    rw [h1] at eq
    have : r = q.1 := congrArg Prod.fst (Option.some.inj eq)
    rw [this, e2]
    obtain ⟨-, ht4, hin, hsm, hrd, hen⟩ := hT
    obtain ⟨v, v1, v2⟩ := pt_bd (d := nI d) (o := oc (rowT g t) (nI d) (nI W) e) ht4 (by omega) h24 hin hrd.w dr (Nat.le_refl _) (p := p)
    exact ⟨v, by have := hrd.1; omega, v2⟩
theorem sr_need (a1 a2 a3 a4 : Int32) (g : G) (hI : Inv g) : ∃ r c m, -nI 5 ≤ r ∧ f_X8_need a1 a2 a3 a4 g = some (r, c) ∧ f_X9_need a1 a2 a3 a4 c = some (r, m) ∧ Inv m := by
  obtain ⟨r, c, m, hr, h1, h2, h3⟩ := sr_points a1 a2 a3 a3 g hI
  rcases hr with rfl | rfl | ⟨v, hv, rfl⟩
  · refine ⟨-nI 2, c, m, by decide, ?_, ?_, h3⟩
    · unfold f_X8_need
      refine q_call h1 ?_
      refine q_call (v := 1) (g' := c) (by unfold f_X8_fails; exact q_if_t rfl rfl) ?_
      exact q_if_f (by decide) rfl
    · unfold f_X9_need
      refine q_call h2 ?_
      exact q_if_f (by decide) rfl
  · refine ⟨-nI 3, c, m, by decide, ?_, ?_, h3⟩
    · unfold f_X8_need
      refine q_call h1 ?_
      refine q_call (v := 1) (g' := c) (by unfold f_X8_fails; exact q_if_f (by decide) (q_if_t rfl rfl)) ?_
      exact q_if_f (by decide) rfl
    · unfold f_X9_need
      refine q_call h2 ?_
      exact q_if_f (by decide) rfl
  · have hf : ∀ s : G, f_X8_fails (nI v) s = some (0, s) := by
      intro s
      unfold f_X8_fails
      have z : ∀ k : Nat, 0 < k → k ≤ 2 ^ 31 → ¬ nI v = -nI k := fun k k0 k1 => by rw [eq_ng (by omega) k0 k1]; exact not_false
      exact q_if_f (z 2 (by decide) (by decide)) (q_if_f (z 3 (by decide) (by decide)) (q_if_f (z 4 (by decide) (by decide)) (q_if_f (z 5 (by decide) (by decide)) rfl)))
    by_cases ha : a4 ≤ nI v
    · refine ⟨nI v, c, m, rg_n (by omega), ?_, ?_, h3⟩
      · unfold f_X8_need
        exact q_call h1 (q_call (hf c) (q_if_t rfl (q_if_t ha rfl)))
      · unfold f_X9_need
        exact q_call h2 (q_if_t (nI_pos' (by omega)) (q_if_t ha rfl))
    · obtain ⟨c2, k1, k2⟩ := seqq (K := f_X1_met 6) h2 (c_met (by decide)) (Lw8.s (fun _ _ _ h => l_X1_met rfl h)) (Lw9.s (fun _ _ _ h => l_X9_points rfl rfl rfl rfl h))
      refine ⟨-5, c2, mE [] 6 (cE [] 6 m), by decide, ?_, ?_, h3.eff [] 6⟩
      · unfold f_X8_need
        exact q_call h1 (q_call (hf c) (q_if_t rfl (q_if_f ha (q_call k1 rfl))))
      · unfold f_X9_need
        exact q_call k2 (q_if_t (nI_pos' (by omega)) (q_if_f ha (q_call (m_meets (by decide)) rfl)))
