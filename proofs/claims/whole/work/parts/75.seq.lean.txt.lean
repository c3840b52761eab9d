/-! One call behind another: each side keeps to its own cells, so the two sides may be told act by act. -/
def Lw8 (K : G → Option (Int32 × G)) : Prop := ∀ b x x', W8 b x x' → Rl (K x) (K x') (QW8 b)
def Lw9 (K : G → Option (Int32 × G)) : Prop := ∀ b x x', W9 b x x' → Rl (K x) (K x') (QW9 b)
theorem T8.of {x x' : G} (h : ∀ a, a < 159 → x a = x' a) : T8 (0, x') x x' := ⟨h, fun _ _ => rfl, fun _ _ => rfl, rfl, fun _ _ => rfl, Or.inl rfl⟩
theorem S8.of {x x' : G} (h : ∀ a, a < 159 → x a = x' a) : S8 (0, x') x x' := ⟨T8.of h, rfl⟩
theorem S9.of {x x' : G} (h : ∀ a, 159 ≤ a → x a = x' a) : S9 x' x x' := ⟨h, fun _ _ => rfl, fun _ _ _ => rfl, rfl, rfl⟩
theorem Lw8.s {K : G → Option (Int32 × G)} (h : ∀ (b : Nat × G) x x', S8 b x x' → Rl (K x) (K x') (Q8 b)) : Lw8 K := by
  intro b x x' hw q hq
  obtain ⟨q', e, e1, e2⟩ := h (0, x') x x' (S8.of hw.1) q hq
  exact ⟨q', e, e1, e2.1.1, fun a ha => (e2.1.2.1 a ha).trans (hw.2 a ha)⟩
theorem Lw8.t {K : G → Option (Int32 × G)} (h : ∀ (b : Nat × G) x x', T8 b x x' → Rl (K x) (K x') (QT8 b)) : Lw8 K := by
  intro b x x' hw q hq
  obtain ⟨q', e, e1, e2⟩ := h (0, x') x x' (T8.of hw.1) q hq
  exact ⟨q', e, e1, e2.1, fun a ha => (e2.2.1 a ha).trans (hw.2 a ha)⟩
theorem Lw9.s {K : G → Option (Int32 × G)} (h : ∀ (b : G) x x', S9 b x x' → Rl (K x) (K x') (Q9 b)) : Lw9 K := by
  intro b x x' hw q hq
  obtain ⟨q', e, e1, e2⟩ := h x' x x' (S9.of hw.1) q hq
  exact ⟨q', e, e1, e2.1, fun a ha => (e2.2.1 a ha).trans (hw.2 a ha)⟩
/-- the class's second act may be moved before the model's first -/
theorem seqq {B K : G → Option (Int32 × G)} {c1 m1 c2' : G} {r q : Int32} (hB : B c1 = some (r, m1)) (hK : K m1 = some (q, c2')) (l8 : Lw8 K) (l9 : Lw9 B) : ∃ c2, K c1 = some (q, c2) ∧ B c2 = some (r, c2') := by
  have a1 : ∀ a, a < 159 → m1 a = c1 a := by
    obtain ⟨⟨r', m'⟩, e, e1, e2⟩ := l9 c1 c1 c1 ⟨fun _ _ => rfl, fun _ _ => rfl⟩ _ hB
    rw [hB] at e
    have := Option.some.inj e
    have z : m1 = m' := congrArg Prod.snd this
    subst z
    exact e2.2
  have a2 : ∀ a, 159 ≤ a → c2' a = m1 a := by
    obtain ⟨⟨r', m'⟩, e, e1, e2⟩ := l8 m1 m1 m1 ⟨fun _ _ => rfl, fun _ _ => rfl⟩ _ hK
    rw [hK] at e
    have := Option.some.inj e
    have z : c2' = m' := congrArg Prod.snd this
    subst z
    exact e2.2
  obtain ⟨⟨q', c2⟩, e, e1, e2⟩ := l8 c1 m1 c1 ⟨a1, fun _ _ => rfl⟩ _ hK
  dsimp only at e1 e2
  subst e1
  refine ⟨c2, e, ?_⟩
  obtain ⟨⟨r', m2⟩, f, f1, f2⟩ := l9 c2 c1 c2 ⟨fun a ha => (e2.2 a ha).symm, fun _ _ => rfl⟩ _ hB
  dsimp only at f1 f2
  subst f1
  rw [f]
  have : m2 = c2' := by
    funext a
    by_cases ha : a < 159
    · rw [f2.2 a ha, e2.1 a ha]
    · rw [← f2.1 a (by omega), a2 a (by omega)]
  rw [this]
theorem lw9_up {k : Nat} {v : Int32} : Lw9 (fun s => some (0, up2 s 159 k v)) := fun _ _ _ h => rl_some ⟨rfl, h.up (by omega) trivial trivial rfl⟩
theorem sp_draw : Sp2 Inv f_X8_draw f_X9_draw := by
  intro a1 a2 g hI
  obtain ⟨r, c, m, h1, h2, h3⟩ := sp_drawRound a1 a2 (up2 (up2 g 1 1 0) 159 2 0) hI.clear
  obtain ⟨c2, h4, h5⟩ := seqq (B := fun s => some (0, up2 s 159 2 0)) (c1 := up2 g 1 1 0) rfl h1 (Lw8.s (fun _ _ _ h => l_X8_drawRound rfl rfl h)) lw9_up
  have h6 : up2 c2 159 2 0 = c := congrArg Prod.snd (Option.some.inj h5)
  refine ⟨r, c2, m, ?_, ?_, h3⟩
  · show bd2 (f_X8_drawRound a1 a2 (up2 g 1 1 0)) _ = _
    rw [h4]
    rfl
  · show bd2 (f_X9_drawOf a1 a2 (up2 c2 159 2 0)) _ = _
    rw [h6, h2]
    rfl
theorem k_X8_perform {b : Nat × G} {a1 a1' : Int32} (e_a1 : a1 = a1') {g g' : G} (h0 : T8 b g g') : Rl (f_X8_perform a1 g) (f_X8_perform a1' g') (QT8 b) := by
  intro q hq
  obtain ⟨i1, i2, i3, i4, i5, i6⟩ := h0
  obtain ⟨q', e, e1, e2, -⟩ := l_X8_perform (b := (b.1, g')) e_a1 (g := g) (g' := g') ⟨⟨i1, fun _ _ => rfl, fun _ _ => rfl, rfl, fun _ _ => rfl, i6⟩, rfl⟩ q hq
  obtain ⟨j1, j2, j3, j4, j5, j6⟩ := e2
  exact ⟨q', e, e1, j1, fun a ha => (j2 a ha).trans (i2 a ha), fun a ha => (j3 a ha).trans (i3 a ha), j4.trans i4, fun t ht => (j5 t ht).trans (i5 t ht), j6⟩
