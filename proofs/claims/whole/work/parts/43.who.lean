/-! Those who are selected, by their numbers; their worths. -/
def cn (sel : Nat → Bool) : Nat → Nat
  | 0 => 0
  | p + 1 => if sel p = true then cn sel p + 1 else cn sel p
theorem cn_le (sel : Nat → Bool) : ∀ {p q : Nat}, p ≤ q → cn sel p ≤ cn sel q := by
  intro p q h
  induction q with
  | zero =>
    have : p = 0 := by omega
    subst this
    exact Nat.le_refl _
  | succ q ih =>
    by_cases e : p = q + 1
    · subst e; exact Nat.le_refl _
    · have := ih (by omega)
      rw [cn]
      split <;> omega
theorem cn_lt (sel : Nat → Bool) {p q : Nat} (h : p < q) (hs : sel p = true) : cn sel p < cn sel q := by
  have := cn_le sel (show p + 1 ≤ q from h)
  rw [cn, if_pos hs] at this
  omega
theorem cn_inj (sel : Nat → Bool) {p q : Nat} (hp : sel p = true) (hq : sel q = true) (h : cn sel p = cn sel q) : p = q := by
  rcases Nat.lt_trichotomy p q with h1 | h1 | h1
  · have := cn_lt sel h1 hp; omega
  · exact h1
  · have := cn_lt sel h1 hq; omega
theorem cn_bd (sel : Nat → Bool) (p : Nat) : cn sel p ≤ p := by
  induction p with
  | zero => exact Nat.le_refl _
  | succ p ih =>
    rw [cn]
    split <;> omega
theorem cn_ex (sel : Nat → Bool) {N i : Nat} (h : i < cn sel N) : ∃ q, q < N ∧ sel q = true ∧ cn sel q = i := by
  induction N with
  | zero => rw [cn] at h; omega
  | succ N ih =>
    by_cases hs : sel N = true
    · rw [cn, if_pos hs] at h
      by_cases e : i = cn sel N
      · exact ⟨N, by omega, hs, e.symm⟩
      · obtain ⟨q, h1, h2, h3⟩ := ih (by omega)
        exact ⟨q, by omega, h2, h3⟩
    · rw [cn, if_neg hs] at h
      obtain ⟨q, h1, h2, h3⟩ := ih h
      exact ⟨q, by omega, h2, h3⟩
theorem cn_stop (sel : Nat → Bool) {p q : Nat} (h : p ≤ q) (hs : ∀ i, p ≤ i → i < q → sel i = false) : cn sel q = cn sel p := by
  induction q with
  | zero =>
    have : p = 0 := by omega
    subst this; rfl
  | succ q ih =>
    by_cases e : p = q + 1
    · subst e; rfl
    · rw [cn, hs q (by omega) (by omega), if_neg (by decide)]
      exact ih (by omega) (fun i h1 h2 => hs i h1 (by omega))
/-- the i-th of those below N -/
def wf (sel : Nat → Bool) : Nat → Nat → Nat
  | 0, _ => 0
  | p + 1, i => if sel p = true ∧ cn sel p = i then p else wf sel p i
theorem wf_at (sel : Nat → Bool) {N q : Nat} (hq : q < N) (hs : sel q = true) : wf sel N (cn sel q) = q := by
  induction N with
  | zero => omega
  | succ N ih =>
    rw [wf]
    by_cases h : sel N = true ∧ cn sel N = cn sel q
    · rw [if_pos h]
      exact cn_inj sel h.1 hs h.2
    · rw [if_neg h]
      by_cases e : q = N
      · subst e
        exact absurd ⟨hs, rfl⟩ h
      · exact ih (by omega)
theorem wf_ok (sel : Nat → Bool) {N i : Nat} (h : i < cn sel N) : wf sel N i < N ∧ sel (wf sel N i) = true ∧ cn sel (wf sel N i) = i := by
  obtain ⟨q, h1, h2, h3⟩ := cn_ex sel h
  subst h3
  rw [wf_at sel h1 h2]
  exact ⟨h1, h2, rfl⟩
-- sums over those who are selected
def sumS (sel : Nat → Bool) (v : Nat → Int32) : Nat → Int32
  | 0 => nI 0
  | p + 1 => if sel p = true then sumS sel v p + v p else sumS sel v p
def sumI (v : Nat → Int32) : Nat → Int32
  | 0 => nI 0
  | i + 1 => sumI v i + v i
theorem i32_0a (a : Int32) : nI 0 + a = a := Int32.zero_add a
theorem sumS_cg {sel sel' : Nat → Bool} {v : Nat → Int32} {N : Nat} (h : ∀ p, p < N → sel p = sel' p) : sumS sel v N = sumS sel' v N := by
  induction N with
  | zero => rfl
  | succ N ih => rw [sumS, sumS, ih (fun p hp => h p (by omega)), h N (by omega)]
theorem sumS_rem {sel : Nat → Bool} {v : Nat → Int32} {N q : Nat} (hq : q < N) (hs : sel q = true) : sumS sel v N = sumS (fun p => sel p && decide (p ≠ q)) v N + v q := by
  induction N with
  | zero => omega
  | succ N ih =>
    rw [sumS, sumS]
    by_cases e : q = N
    · subst e
      rw [if_pos hs, if_neg (by simp)]
      rw [sumS_cg (sel := sel) (sel' := fun p => sel p && decide (p ≠ q)) (fun p hp => by simp; intro _; omega)]
    · have := ih (by omega)
      rw [this]
      have hd : (sel N && decide (N ≠ q)) = sel N := by
        have : decide (N ≠ q) = true := decide_eq_true (fun h => e h.symm)
        rw [this, Bool.and_true]
      rw [hd]
      by_cases hN : sel N = true
      · rw [if_pos hN, if_pos hN, Int32.add_assoc, Int32.add_comm (v q), ← Int32.add_assoc]
      · rw [if_neg hN, if_neg hN]
theorem sumS_none {sel : Nat → Bool} {v : Nat → Int32} {N : Nat} (h : ∀ p, p < N → sel p = false) : sumS sel v N = nI 0 := by
  induction N with
  | zero => rfl
  | succ N ih => rw [sumS, h N (by omega), if_neg (by decide), ih (fun p hp => h p (by omega))]
theorem sum_perm {v : Nat → Int32} {N : Nat} : ∀ (n : Nat) (c : Nat → Nat) (sel : Nat → Bool), (∀ i, i < n → c i < N) → (∀ i j, i < n → j < n → c i = c j → i = j) → (∀ p, p < N → (sel p = true ↔ ∃ i, i < n ∧ c i = p)) → sumS sel v N = sumI (fun i => v (c i)) n := by
  intro n
  induction n with
  | zero =>
    intro c sel h1 h2 h3
    refine sumS_none (fun p hp => ?_)
    cases hs : sel p with
    | false => rfl
    | true =>
      obtain ⟨i, hi, -⟩ := (h3 p hp).mp hs
      omega
  | succ n ih =>
    intro c sel h1 h2 h3
    have hq := h1 n (by omega)
    have hs : sel (c n) = true := (h3 _ hq).mpr ⟨n, by omega, rfl⟩
    rw [sumS_rem hq hs, sumI]
    rw [ih c (fun p => sel p && decide (p ≠ c n)) (fun i hi => h1 i (by omega)) (fun i j hi hj => h2 i j (by omega) (by omega)) (fun p hp => ?_)]
    constructor
    · intro h
      rw [Bool.and_eq_true] at h
      obtain ⟨i, hi, hc⟩ := (h3 p hp).mp h.1
      refine ⟨i, ?_, hc⟩
      by_cases e : i = n
      · subst e
        exact absurd hc.symm (of_decide_eq_true h.2)
      · omega
    · rintro ⟨i, hi, hc⟩
      rw [Bool.and_eq_true]
      refine ⟨(h3 p hp).mpr ⟨i, by omega, hc⟩, decide_eq_true (fun e => ?_)⟩
      have := h2 i n (by omega) (by omega) (hc.trans e)
      omega
theorem sumS_one {sel : Nat → Bool} {N : Nat} : sumS sel (fun _ => nI 1) N = nI (cn sel N) := by
  induction N with
  | zero => rfl
  | succ N ih =>
    rw [sumS, cn, ih]
    split
    · rw [nI_add]
    · rfl
theorem sumI_one {n : Nat} : sumI (fun _ => nI 1) n = nI n := by
  induction n with
  | zero => rfl
  | succ n ih => rw [sumI, ih, nI_add]
theorem sumI_cg {v v' : Nat → Int32} {n : Nat} (h : ∀ i, i < n → v i = v' i) : sumI v n = sumI v' n := by
  induction n with
  | zero => rfl
  | succ n ih => rw [sumI, sumI, ih (fun i hi => h i (by omega)), h n (by omega)]
theorem sum_who {sel : Nat → Bool} {v : Nat → Int32} {N : Nat} : sumI (fun i => v (wf sel N i)) (cn sel N) = sumS sel v N := by
  have aux : ∀ p, p ≤ N → sumI (fun i => v (wf sel N i)) (cn sel p) = sumS sel v p := by
    intro p
    induction p with
    | zero => intro _; rfl
    | succ p ih =>
      intro hp
      rw [cn, sumS]
      by_cases hs : sel p = true
      · rw [if_pos hs, if_pos hs, sumI, ih (by omega), wf_at sel (by omega) hs]
      · rw [if_neg hs, if_neg hs]
        exact ih (by omega)
  exact aux N (Nat.le_refl N)
/-- at most so many as there are in -/
theorem cn_most {N : Nat} : ∀ (n : Nat) (c : Nat → Nat) (sel : Nat → Bool), (∀ p, p < N → sel p = true → ∃ i, i < n ∧ c i = p) → cn sel N ≤ n := by
  intro n
  induction n with
  | zero =>
    intro c sel h
    rw [cn_stop sel (Nat.zero_le N) (fun i _ hi => ?_)]
    · exact Nat.le_refl _
    · cases hs : sel i with
      | false => rfl
      | true =>
        obtain ⟨j, hj, -⟩ := h i hi hs
        omega
  | succ n ih =>
    intro c sel h
    have h1 := ih c (fun p => sel p && decide (p ≠ c n)) (fun p hp hs => by
      rw [Bool.and_eq_true] at hs
      obtain ⟨i, hi, hc⟩ := h p hp hs.1
      refine ⟨i, ?_, hc⟩
      by_cases e : i = n
      · subst e
        exact absurd hc.symm (of_decide_eq_true hs.2)
      · omega)
    have h2 : ∀ M, cn sel M ≤ cn (fun p => sel p && decide (p ≠ c n)) M + (if c n < M then 1 else 0) := by
      intro M
      induction M with
      | zero => exact Nat.zero_le _
      | succ M ihM =>
        rw [cn, cn]
        by_cases e : M = c n
        · rw [if_neg (show ¬ c n < M by omega)] at ihM
          rw [if_pos (show c n < M + 1 by omega)]
          split <;> split <;> omega
        · have hd : (sel M && decide (M ≠ c n)) = sel M := by
            rw [decide_eq_true e, Bool.and_true]
          rw [hd]
          have : (if c n < M + 1 then 1 else 0) = (if c n < M then 1 else 0) := by
            split <;> split <;> omega
          rw [this]
          split <;> omega
    have := h2 N
    split at this <;> omega
/-- what is written of the worths of the first i -/
def tI (w : Nat → List Int32 × Int32 × Int32) (who : Nat → Nat) : Nat → List Int32
  | 0 => []
  | i + 1 => tI w who i ++ (w (who i)).1
theorem Scr.cE {g s : G} (h : Scr g s) (T : List Int32) (f : Int32) : Scr (cE T f g) (cE T f s) := by
  have h1 : s 1 = g 1 := h.1 1 (by omega) (by omega) (by omega)
  have h2 : s 2 = g 2 := h.1 2 (by omega) (by omega) (by omega)
  refine ⟨fun a q1 q2 q3 => ?_, fun k q => ?_⟩
  · by_cases a1 : a = 1
    · subst a1
      show (fun k => if k = 1 then (aps T (s 1 1, s 2)).1 else if k = 2 then (if f = 0 then s 1 2 else f) else s 1 k) = (fun k => if k = 1 then (aps T (g 1 1, g 2)).1 else if k = 2 then (if f = 0 then g 1 2 else f) else g 1 k)
      rw [h1, h2]
    · by_cases a2 : a = 2
      · subst a2
        show (aps T (s 1 1, s 2)).2 = (aps T (g 1 1, g 2)).2
        rw [h1, h2]
      · rw [cE_off a1 a2, cE_off a1 a2]
        exact h.1 a q1 q2 q3
  · rw [cE_off (by decide) (by decide), cE_off (by decide) (by decide)]
    exact h.2 k q
theorem Scr.mE {g s : G} (h : Scr g s) (T : List Int32) (f : Int32) : Scr (mE T f g) (mE T f s) := by
  have h1 : s 159 2 = g 159 2 := h.2 2 (by omega)
  have h2 : s 160 = g 160 := h.1 160 (by omega) (by omega) (by omega)
  have h0 : s 159 0 = g 159 0 := h.2 0 (by omega)
  refine ⟨fun a q1 q2 q3 => ?_, fun k q => ?_⟩
  · by_cases a2 : a = 160
    · subst a2
      show (aps T (s 159 2, s 160)).2 = (aps T (g 159 2, g 160)).2
      rw [h1, h2]
    · rw [mE_off q3 a2, mE_off q3 a2]
      exact h.1 a q1 q2 q3
  · by_cases k2 : k = 2
    · subst k2
      show (aps T (s 159 2, s 160)).1 = (aps T (g 159 2, g 160)).1
      rw [h1, h2]
    · by_cases k0 : k = 0
      · subst k0
        show (if f = 0 then s 159 0 else f) = (if f = 0 then g 159 0 else f)
        rw [h0]
      · rw [mE_f k2 k0, mE_f k2 k0]
        exact h.2 k q
theorem te_val {np p : Nat} {kd bs pl hd : Nat → Int32} (h : RW np kd bs pl hd) : ∀ (n k v : Nat), v ≤ 3025 * k → k + n ≤ 4 → (∀ i, i < k + n → (hd (4 * p + i) = -1 ∨ ∃ w, w < np ∧ hd (4 * p + i) = nI w ∧ kd w ≠ nI 3)) → ((teL kd bs hd p n k (nI v)).2.2 = 0 ∧ ∃ v', v' ≤ 3025 * (k + n) ∧ (teL kd bs hd p n k (nI v)).2.1 = nI v') ∨ ((teL kd bs hd p n k (nI v)).2.1 = -nI 5 ∧ ∃ f, 0 < f ∧ f < 6 ∧ (teL kd bs hd p n k (nI v)).2.2 = nI f) := by
  have h24 := h.1
  intro n
  induction n with
  | zero =>
    intro k v hv hk hh
    exact Or.inl ⟨rfl, v, by omega, rfl⟩
  | succ n ih =>
    intro k v hv hk hh
    rw [teL]
    rcases hh k (by omega) with e | ⟨w, hw, e, -⟩
    · rw [if_pos e]
      exact Or.inr ⟨rfl, 1, by omega, by omega, rfl⟩
    · have e1 : ¬ hd (4 * p + k) = -1 := by rw [e]; exact nI_nneg (by omega) (by decide)
      have e2 : (hd (4 * p + k)).toNatClampNeg = w := by rw [e, nI_clamp (by omega)]
      rw [if_neg e1, e2]
      rcases so_val h hw with ⟨s1, -, u, hu, s2⟩ | ⟨s1, -⟩
      · rw [if_pos s1]
        dsimp only
        rw [s2, nI_add]
        rcases ih (k + 1) (v + u) (by omega) (by omega) (fun i hi => hh i (by omega)) with ⟨r1, v', r2, r3⟩ | r
        · exact Or.inl ⟨r1, v', by omega, r3⟩
        · exact Or.inr r
      · rw [s1, if_neg (by decide)]
        exact Or.inr ⟨rfl, 3, by omega, by omega, rfl⟩
theorem wo_val {np p : Nat} {kd bs pl hd : Nat → Int32} (h : RW np kd bs pl hd) (hp : p < np) : ((woE kd bs pl hd p).2.2 = 0 ∧ ∃ v, v ≤ 3025 ∧ (woE kd bs pl hd p).2.1 = nI v) ∨ ((woE kd bs pl hd p).2.1 = -nI 5 ∧ ∃ f, 0 < f ∧ f < 6 ∧ (woE kd bs pl hd p).2.2 = nI f) := by
  have h24 := h.1
  unfold woE
  by_cases h3 : kd p = 3
  · rw [if_pos h3]
    obtain ⟨-, -, hm | ⟨m, hm, em, hh⟩⟩ := h.2 p hp
    · rw [if_pos hm]
      exact Or.inr ⟨rfl, 1, by omega, by omega, rfl⟩
    · have e1 : ¬ pl p = -1 := by rw [em]; exact nI_nneg (by omega) (by decide)
      have e2 : (pl p).toNatClampNeg = m := by rw [em, nI_clamp (by omega)]
      rw [if_neg e1, e2]
      have q := te_val (p := p) h m 0 0 (by omega) (by omega) (fun i hi => hh i (by omega))
      rw [show nI 0 = (0 : Int32) from rfl] at q
      rcases q with ⟨r1, v, r2, r3⟩ | ⟨r1, f, f0, f6, r2⟩
      · rw [if_pos r1]
        by_cases hz : pl p = 0
        · rw [if_pos hz]
          exact Or.inr ⟨rfl, 4, by omega, by omega, rfl⟩
        · rw [if_neg hz]
          have m0 : 0 < m := by
            rcases Nat.eq_zero_or_pos m with q | q
            · subst q; exact absurd em hz
            · exact q
          refine Or.inl ⟨rfl, v / m, ?_, ?_⟩
          · have : v / m ≤ 3025 * m / m := Nat.div_le_div_right (by omega)
            rw [Nat.mul_div_cancel _ m0] at this
            exact this
          · show _ / pl p = _
            rw [em, r3, pk_div (by omega) m0 (by omega)]
      · rw [r2, if_neg (nI_ne0 f0 (by omega))]
        exact Or.inr ⟨rfl, f, f0, f6, rfl⟩
  · rw [if_neg h3]
    rcases so_val h hp with ⟨s1, -, v, hv, s2⟩ | ⟨s1, -⟩
    · exact Or.inl ⟨s1, v, hv, s2⟩
    · rw [s1]
      exact Or.inr ⟨rfl, 3, by omega, by omega, rfl⟩
