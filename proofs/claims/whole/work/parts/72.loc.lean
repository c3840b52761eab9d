/-! Each side keeps to its own cells: rows. -/
def Rl {α β : Type} (x : Option α) (x' : Option β) (P : α → β → Prop) : Prop := ∀ a, x = some a → ∃ a', x' = some a' ∧ P a a'
def SumR {α α' β β' : Type} (A : α → α' → Prop) (B : β → β' → Prop) : α ⊕ β → α' ⊕ β' → Prop
  | .inl a, .inl a' => A a a'
  | .inr b, .inr b' => B b b'
  | .inl _, .inr _ => False
  | .inr _, .inl _ => False
theorem SumR.l {α α' β β' : Type} {A : α → α' → Prop} {B : β → β' → Prop} {a : α} {a' : α'} (h : A a a') : SumR A B (.inl a) (.inl a') := h
theorem SumR.r {α α' β β' : Type} {A : α → α' → Prop} {B : β → β' → Prop} {a : β} {a' : β'} (h : B a a') : SumR A B (.inr a) (.inr a') := h
theorem rl_some {α β : Type} {a : α} {a' : β} {P : α → β → Prop} (h : P a a') : Rl (some a) (some a') P := by
  intro q hq
  rw [← Option.some.inj hq]
  exact ⟨a', rfl, h⟩
theorem rl_wr {α β σ τ : Type} {v : σ} {v' : τ} {k : σ → Option α} {k' : τ → Option β} {P : α → β → Prop} {Q : σ → τ → Prop} (hv : Q v v') (h : ∀ x x', Q x x' → Rl (k x) (k' x') P) : Rl (wr v k) (wr v' k') P := h v v' hv
theorem rl_wrN {α β : Type} {v : Nat} {k : Nat → Option α} {k' : Nat → Option β} {P : α → β → Prop} (h : Rl (k v) (k' v) P) : Rl (wr v k) (wr v k') P := h
theorem rl_if {α β : Type} {c c' : Prop} [Decidable c] [Decidable c'] {a b : Option α} {a' b' : Option β} {P : α → β → Prop} (hc : c ↔ c') (h1 : Rl a a' P) (h2 : Rl b b' P) : Rl (if c then a else b) (if c' then a' else b') P := by
  by_cases q : c
  · rw [if_pos q, if_pos (hc.mp q)]; exact h1
  · rw [if_neg q, if_neg (fun z => q (hc.mpr z))]; exact h2
theorem rl_ck {α β : Type} {i i' : Int32} {n : Nat} {k : Nat → Option α} {k' : Nat → Option β} {P : α → β → Prop} (e : i = i') (h : ∀ j, j < n → Rl (k j) (k' j) P) : Rl (ck i n k) (ck i' n k') P := by
  subst e
  unfold ck
  by_cases q : i < 0 ∨ n ≤ i.toNatClampNeg
  · rw [if_pos q]
    intro a ha
    exact absurd ha (fun z => by cases z)
  · rw [if_neg q, if_neg q]
    exact h _ (by omega)
theorem rl_dz {α β : Type} {y y' : Int32} {k : Option α} {k' : Option β} {P : α → β → Prop} (e : y = y') (h : Rl k k' P) : Rl (dz y k) (dz y' k') P := by
  subst e
  unfold dz
  by_cases q : y = 0
  · rw [if_pos q]
    intro a ha
    exact absurd ha (fun z => by cases z)
  · rw [if_neg q, if_neg q]; exact h
theorem rl_bz {α β : Type} {y y' : Int32} {k : Option α} {k' : Option β} {P : α → β → Prop} (e : y = y') (h : Rl k k' P) : Rl (bz y k) (bz y' k') P := by
  subst e
  unfold bz
  by_cases q : y = 0 ∨ y = 1
  · rw [if_pos q, if_pos q]; exact h
  · rw [if_neg q]
    intro a ha
    exact absurd ha (fun z => by cases z)
theorem rl_cz {α β : Type} {a a' b b' c c' : Int32} {n m : Nat} {k : Option α} {k' : Option β} {P : α → β → Prop} (e1 : a = a') (e2 : b = b') (e3 : c = c') (h : Rl k k' P) : Rl (cz a b c n m k) (cz a' b' c' n m k') P := by
  subst e1
  subst e2
  subst e3
  unfold cz
  split
  · intro a ha
    exact absurd ha (fun z => by cases z)
  · exact h
theorem rl_bd {α α' β β' : Type} {x : Option α} {x' : Option α'} {k : α → Option β} {k' : α' → Option β'} {P : β → β' → Prop} {P1 : α → α' → Prop} (h1 : Rl x x' P1) (h2 : ∀ a a', P1 a a' → Rl (k a) (k' a') P) : Rl (bd x k) (bd x' k') P := by
  intro b hb
  cases hx : x with
  | none => rw [hx] at hb; exact absurd hb (fun z => by cases z)
  | some a =>
    obtain ⟨a', e, q⟩ := h1 a hx
    rw [hx] at hb
    rw [e]
    exact h2 a a' q b hb
theorem rl_bd2 {β β' : Type} {S : G → G → Prop} {x x' : Option (Int32 × G)} {k : Int32 → G → Option β} {k' : Int32 → G → Option β'} {P : β → β' → Prop} (h1 : Rl x x' (fun q q' => q.1 = q'.1 ∧ S q.2 q'.2)) (h2 : ∀ r s s', S s s' → Rl (k r s) (k' r s') P) : Rl (bd2 x k) (bd2 x' k') P := by
  intro b hb
  cases hx : x with
  | none => rw [hx] at hb; exact absurd hb (fun z => by cases z)
  | some a =>
    obtain ⟨r, s⟩ := a
    obtain ⟨⟨r', s'⟩, e, q1, q2⟩ := h1 _ hx
    rw [hx] at hb
    rw [e]
    dsimp only at q1 q2
    subst q1
    exact h2 r s s' q2 b hb
theorem rl_lp {σ σ' ρ ρ' : Type} {body : σ → Option (σ ⊕ ρ)} {body' : σ' → Option (σ' ⊕ ρ')} {I : σ → σ' → Prop} {P : ρ → ρ' → Prop} (hb : ∀ s s', I s s' → Rl (body s) (body' s') (SumR I P)) : ∀ {n : Nat} {s : σ} {s' : σ'}, I s s' → Rl (lp body n s) (lp body' n s') P := by
  intro n
  induction n with
  | zero =>
    intro s s' _ q hq
    exact absurd hq (fun z => by cases z)
  | succ n ih =>
    intro s s' hI q hq
    cases hx : body s with
    | none =>
      rw [lp, hx] at hq
      exact absurd hq (fun z => by cases z)
    | some y =>
      obtain ⟨y', e, hy⟩ := hb s s' hI y hx
      rw [lp, hx] at hq
      rw [lp, e]
      rcases y with a | a <;> rcases y' with a' | a'
      · exact ih hy q hq
      · exact hy.elim
      · exact hy.elim
      · exact rl_some (P := P) hy q hq
-- the class's cells
abbrev sv8 (a : Nat) : Prop := (8 ≤ a ∧ a ≤ 12) ∨ (61 ≤ a ∧ a ≤ 74) ∨ (89 ≤ a ∧ a ≤ 102) ∨ (117 ≤ a ∧ a ≤ 130) ∨ (145 ≤ a ∧ a ≤ 158)
def T8 (b : Nat × G) (s s' : G) : Prop := (∀ a, a < 159 → s a = s' a) ∧ (∀ a, 159 ≤ a → s' a = b.2 a) ∧ (∀ a, sv8 a → s' a = b.2 a) ∧ s' 0 13 = b.2 0 13 ∧ (∀ t, t < b.1 → s' (47 + 28 * t) 0 = b.2 (47 + 28 * t) 0) ∧ (b.1 = 0 ∨ (b.1 ≤ 4 ∧ nI b.1 ≤ s' 0 12))
def S8 (b : Nat × G) (s s' : G) : Prop := T8 b s s' ∧ s' 45 = b.2 45
abbrev QT8 (b : Nat × G) : Int32 × G → Int32 × G → Prop := fun q q' => q.1 = q'.1 ∧ T8 b q.2 q'.2
abbrev Q8 (b : Nat × G) : Int32 × G → Int32 × G → Prop := fun q q' => q.1 = q'.1 ∧ S8 b q.2 q'.2
theorem T8.rd {b : Nat × G} {s s' : G} (h : T8 b s s') {a : Nat} (ha : a < 159) : s a = s' a := h.1 a ha
theorem S8.rd {b : Nat × G} {s s' : G} (h : S8 b s s') {a : Nat} (ha : a < 159) : s a = s' a := h.1.1 a ha
theorem T8.up {b : Nat × G} {s s' : G} (h : T8 b s s') {a k : Nat} {v v' : Int32} (h1 : a < 159) (h2 : ¬ sv8 a) (h3 : (a ≠ 0 ∨ (k ≠ 13 ∧ k ≠ 12)) ∧ (k ≠ 0 ∨ (a ≠ 47 ∧ a ≠ 75 ∧ a ≠ 103 ∧ a ≠ 131))) (e : v = v') : T8 b (up2 s a k v) (up2 s' a k v') := by
  subst e
  obtain ⟨i1, i2, i3, i4, i5, i6⟩ := h
  refine ⟨fun c hc => ?_, fun c hc => ?_, fun c hc => ?_, ?_, fun t ht => ?_, ?_⟩
  · by_cases q : c = a
    · subst q; rw [up2_eq, up2_eq, i1 c hc]
    · rw [up2_ne q, up2_ne q, i1 c hc]
  · rw [up2_ne (by omega)]; exact i2 c hc
  · rw [up2_ne (fun q => h2 (by rw [← q]; exact hc))]; exact i3 c hc
  · by_cases q : a = 0
    · subst q
      rw [up2_eq, upd_ne (by omega)]; exact i4
    · rw [up2_ne (fun z => q z.symm)]; exact i4
  · by_cases q : 47 + 28 * t = a
    · rw [q, up2_eq, upd_ne (by omega), ← q]; exact i5 t ht
    · rw [up2_ne q]; exact i5 t ht
  · by_cases q : a = 0
    · subst q
      rw [up2_eq, upd_ne (by omega)]; exact i6
    · rw [up2_ne (fun z => q z.symm)]; exact i6
theorem S8.up {b : Nat × G} {s s' : G} (h : S8 b s s') {a k : Nat} {v v' : Int32} (h1 : a < 159) (h2 : ¬ sv8 a) (h3 : (a ≠ 0 ∨ (k ≠ 13 ∧ k ≠ 12)) ∧ (k ≠ 0 ∨ (a ≠ 47 ∧ a ≠ 75 ∧ a ≠ 103 ∧ a ≠ 131)) ∧ a ≠ 45) (e : v = v') : S8 b (up2 s a k v) (up2 s' a k v') := by
  refine ⟨h.1.up h1 h2 ⟨h3.1, h3.2.1⟩ e, ?_⟩
  rw [up2_ne (fun z => h3.2.2 z.symm)]
  exact h.2
theorem T8.up1 {b : Nat × G} {s s' : G} (h : T8 b s s') {a : Nat} {f f' : Nat → Int32} (h1 : a < 159) (h2 : ¬ sv8 a) (h3 : a ≠ 0 ∧ a ≠ 47 ∧ a ≠ 75 ∧ a ≠ 103 ∧ a ≠ 131) (e : f = f') : T8 b (up1 s a f) (up1 s' a f') := by
  subst e
  obtain ⟨i1, i2, i3, i4, i5, i6⟩ := h
  refine ⟨fun c hc => ?_, fun c hc => ?_, fun c hc => ?_, ?_, fun t ht => ?_, ?_⟩
  · by_cases q : c = a
    · subst q; rw [up1_eq, up1_eq]
    · rw [up1_ne q, up1_ne q, i1 c hc]
  · rw [up1_ne (by omega)]; exact i2 c hc
  · rw [up1_ne (fun q => h2 (by rw [← q]; exact hc))]; exact i3 c hc
  · rw [up1_ne (fun z => h3.1 z.symm)]; exact i4
  · rw [up1_ne (by omega)]; exact i5 t ht
  · rw [up1_ne (fun z => h3.1 z.symm)]; exact i6
theorem S8.up1 {b : Nat × G} {s s' : G} (h : S8 b s s') {a : Nat} {f f' : Nat → Int32} (h1 : a < 159) (h2 : ¬ sv8 a) (h3 : a ≠ 0 ∧ a ≠ 47 ∧ a ≠ 75 ∧ a ≠ 103 ∧ a ≠ 131 ∧ a ≠ 45) (e : f = f') : S8 b (up1 s a f) (up1 s' a f') := by
  refine ⟨h.1.up1 h1 h2 ⟨h3.1, h3.2.1, h3.2.2.1, h3.2.2.2.1, h3.2.2.2.2.1⟩ e, ?_⟩
  rw [up1_ne (fun z => h3.2.2.2.2.2 z.symm)]
  exact h.2
theorem l_J7_fill_53178 {b : Nat × G} {a : Nat} (h1 : a < 159) (h2 : ¬ sv8 a) (h3 : a ≠ 0 ∧ a ≠ 47 ∧ a ≠ 75 ∧ a ≠ 103 ∧ a ≠ 131 ∧ a ≠ 45) {n : Nat} (hn : n < 1000) {v v' : Int32} (e : v = v') {g g' : G} (h : S8 b g g') : Rl (f_J7_fill_53178 a n v g) (f_J7_fill_53178 a n v' g') (Q8 b) := by
  subst e
  rw [j_fill hn, j_fill hn]
  refine rl_some ⟨rfl, ?_⟩
  show S8 b (fl g a n v) (fl g' a n v)
  unfold fl
  exact h.up1 h1 h2 h3 (by rw [h.rd h1])
theorem l_X8_openNext {b : Nat × G} {g g' : G} (h : S8 b g g') : Rl (f_X8_openNext g) (f_X8_openNext g') (Q8 b) := by
  unfold f_X8_openNext
  refine rl_wr (Q := S8 b) (h.up (by omega) (by omega) (by omega) (by rw [h.rd (a := 0) (by omega)])) (fun s s' h => ?_)
  have e0 : s 0 = s' 0 := h.rd (by omega)
  intro q hq
  rw [e0] at hq
  unfold ck at hq ⊢
  by_cases z : s' 0 12 < 0 ∨ 4 ≤ (s' 0 12).toNatClampNeg
  · rw [if_pos z] at hq
    exact absurd hq (fun z => by cases z)
  rw [if_neg z] at hq ⊢
  obtain ⟨j, hj, ej⟩ : ∃ j : Nat, j < 4 ∧ s' 0 12 = nI j := by
    refine ⟨(s' 0 12).toNatClampNeg, by omega, ?_⟩
    rcases i32_split (s' 0 12) with ⟨n, hn, e⟩ | ⟨n, hn0, hn, e⟩
    · rw [e, nI_clamp hn]
    · exfalso
      apply z
      left
      rw [e, l_0, ng_lt (by omega) hn0 hn]
      trivial
  have ec : (s' 0 12).toNatClampNeg = j := by rw [ej]; exact nI_clamp (by omega)
  rw [ec] at hq ⊢
  unfold wr at hq ⊢
  rw [← Option.some.inj hq]
  obtain ⟨⟨i1, i2, i3, i4, i5, i6⟩, i7⟩ := h
  refine ⟨_, rfl, ?_, ⟨⟨fun c hc => ?_, fun c hc => ?_, fun c hc => ?_, ?_, fun t ht => ?_, ?_⟩, ?_⟩⟩
  · show (up2 (up2 s (47 + 28 * j) 0 (s' 0 14)) 0 12 (up2 s (47 + 28 * j) 0 (s' 0 14) 0 12 + 1)) 0 12 - 1 = (up2 (up2 s' (47 + 28 * j) 0 (s' 0 14)) 0 12 (up2 s' (47 + 28 * j) 0 (s' 0 14) 0 12 + 1)) 0 12 - 1
    rw [up2_eq, up2_eq, upd_eq, upd_eq, up2_ne (by omega), up2_ne (by omega), e0]
  · show (up2 (up2 s (47 + 28 * j) 0 (s' 0 14)) 0 12 (up2 s (47 + 28 * j) 0 (s' 0 14) 0 12 + 1)) c = (up2 (up2 s' (47 + 28 * j) 0 (s' 0 14)) 0 12 (up2 s' (47 + 28 * j) 0 (s' 0 14) 0 12 + 1)) c
    by_cases q0 : c = 0
    · subst q0
      rw [up2_eq, up2_eq, up2_ne (by omega), up2_ne (by omega), e0]
    · rw [up2_ne q0, up2_ne q0]
      by_cases q1 : c = 47 + 28 * j
      · rw [q1, up2_eq, up2_eq, i1 _ (by omega)]
      · rw [up2_ne q1, up2_ne q1]; exact i1 c hc
  · show (up2 (up2 s' (47 + 28 * j) 0 (s' 0 14)) 0 12 (up2 s' (47 + 28 * j) 0 (s' 0 14) 0 12 + 1)) c = _
    rw [up2_ne (by omega), up2_ne (by omega)]; exact i2 c hc
  · show (up2 (up2 s' (47 + 28 * j) 0 (s' 0 14)) 0 12 (up2 s' (47 + 28 * j) 0 (s' 0 14) 0 12 + 1)) c = _
    rw [up2_ne (by omega), up2_ne (by omega)]; exact i3 c hc
  · show (up2 (up2 s' (47 + 28 * j) 0 (s' 0 14)) 0 12 (up2 s' (47 + 28 * j) 0 (s' 0 14) 0 12 + 1)) 0 13 = _
    rw [up2_eq, upd_ne (by omega), up2_ne (by omega)]; exact i4
  · show (up2 (up2 s' (47 + 28 * j) 0 (s' 0 14)) 0 12 (up2 s' (47 + 28 * j) 0 (s' 0 14) 0 12 + 1)) (47 + 28 * t) 0 = _
    rw [up2_ne (by omega)]
    have : b.1 ≤ j := by
      rcases i6 with z | z
      · omega
      · rw [ej, nI_leI (by omega) (by omega)] at z
        exact z.2
    rw [up2_ne (by omega)]; exact i5 t ht
  · show b.1 = 0 ∨ (b.1 ≤ 4 ∧ nI b.1 ≤ (up2 (up2 s' (47 + 28 * j) 0 (s' 0 14)) 0 12 (up2 s' (47 + 28 * j) 0 (s' 0 14) 0 12 + 1)) 0 12)
    rcases i6 with z | z
    · exact Or.inl z
    · refine Or.inr ⟨z.1, ?_⟩
      rw [up2_eq, upd_eq, up2_ne (by omega), ej, l_1, nI_add]
      rw [ej, nI_leI (by omega) (by omega)] at z
      rw [nI_leI (by omega) (by omega)]
      omega
  · show (up2 (up2 s' (47 + 28 * j) 0 (s' 0 14)) 0 12 (up2 s' (47 + 28 * j) 0 (s' 0 14) 0 12 + 1)) 45 = _
    rw [up2_ne (by omega), up2_ne (by omega)]; exact i7
-- the model's cells
def S9 (b s s' : G) : Prop := (∀ a, 159 ≤ a → s a = s' a) ∧ (∀ a, a < 159 → s' a = b a) ∧ (∀ a, 166 ≤ a → a ≤ 170 → s' a = b a) ∧ s' 159 11 = b 159 11 ∧ s' 159 16 = b 159 16
abbrev Q9 (b : G) : Int32 × G → Int32 × G → Prop := fun q q' => q.1 = q'.1 ∧ S9 b q.2 q'.2
theorem S9.rd {b s s' : G} (h : S9 b s s') {a : Nat} (ha : 159 ≤ a) : s a = s' a := h.1 a ha
theorem S9.up {b s s' : G} (h : S9 b s s') {a k : Nat} {v v' : Int32} (h1 : 159 ≤ a) (h2 : ¬ (166 ≤ a ∧ a ≤ 170)) (h3 : a ≠ 159 ∨ (k ≠ 11 ∧ k ≠ 16)) (e : v = v') : S9 b (up2 s a k v) (up2 s' a k v') := by
  subst e
  obtain ⟨i1, i2, i3, i4, i5⟩ := h
  refine ⟨fun c hc => ?_, fun c hc => ?_, fun c hc1 hc2 => ?_, ?_, ?_⟩
  · by_cases q : c = a
    · subst q; rw [up2_eq, up2_eq, i1 c hc]
    · rw [up2_ne q, up2_ne q, i1 c hc]
  · rw [up2_ne (by omega)]; exact i2 c hc
  · rw [up2_ne (by omega)]; exact i3 c hc1 hc2
  · by_cases q : a = 159
    · subst q
      rw [up2_eq, upd_ne (by omega)]; exact i4
    · rw [up2_ne (fun z => q z.symm)]; exact i4
  · by_cases q : a = 159
    · subst q
      rw [up2_eq, upd_ne (by omega)]; exact i5
    · rw [up2_ne (fun z => q z.symm)]; exact i5
-- without what is saved
def W8 (b s s' : G) : Prop := (∀ a, a < 159 → s a = s' a) ∧ (∀ a, 159 ≤ a → s' a = b a)
abbrev QW8 (b : G) : Int32 × G → Int32 × G → Prop := fun q q' => q.1 = q'.1 ∧ W8 b q.2 q'.2
theorem W8.rd {b s s' : G} (h : W8 b s s') {a : Nat} (ha : a < 159) : s a = s' a := h.1 a ha
theorem W8.up {b s s' : G} (h : W8 b s s') {a k : Nat} {v v' : Int32} (h1 : a < 159) (_ : True) (_ : True) (e : v = v') : W8 b (up2 s a k v) (up2 s' a k v') := by
  subst e
  refine ⟨fun c hc => ?_, fun c hc => ?_⟩
  · by_cases q : c = a
    · subst q; rw [up2_eq, up2_eq, h.1 c hc]
    · rw [up2_ne q, up2_ne q, h.1 c hc]
  · rw [up2_ne (by omega)]; exact h.2 c hc
theorem W8.up1 {b s s' : G} (h : W8 b s s') {a : Nat} {f f' : Nat → Int32} (h1 : a < 159) (_ : True) (_ : True) (e : f = f') : W8 b (up1 s a f) (up1 s' a f') := by
  subst e
  refine ⟨fun c hc => ?_, fun c hc => ?_⟩
  · by_cases q : c = a
    · subst q; rw [up1_eq, up1_eq]
    · rw [up1_ne q, up1_ne q, h.1 c hc]
  · rw [up1_ne (by omega)]; exact h.2 c hc
def W9 (b s s' : G) : Prop := (∀ a, 159 ≤ a → s a = s' a) ∧ (∀ a, a < 159 → s' a = b a)
abbrev QW9 (b : G) : Int32 × G → Int32 × G → Prop := fun q q' => q.1 = q'.1 ∧ W9 b q.2 q'.2
theorem W9.rd {b s s' : G} (h : W9 b s s') {a : Nat} (ha : 159 ≤ a) : s a = s' a := h.1 a ha
theorem W9.up {b s s' : G} (h : W9 b s s') {a k : Nat} {v v' : Int32} (h1 : 159 ≤ a) (_ : True) (_ : True) (e : v = v') : W9 b (up2 s a k v) (up2 s' a k v') := by
  subst e
  refine ⟨fun c hc => ?_, fun c hc => ?_⟩
  · by_cases q : c = a
    · subst q; rw [up2_eq, up2_eq, h.1 c hc]
    · rw [up2_ne q, up2_ne q, h.1 c hc]
  · rw [up2_ne (by omega)]; exact h.2 c hc
