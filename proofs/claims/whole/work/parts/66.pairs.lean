/-! The pairs of the best way, one after the other: pure. -/
def fsM (M : Nat) : Nat → Bool := fun k => decide (k < M)
theorem fs_cn (M : Nat) : cn (fsM M) M = M := by
  have : ∀ m, m ≤ M → cn (fsM M) m = m := by
    intro m
    induction m with
    | zero => intro _; rfl
    | succ m ih =>
      intro h
      rw [cn, ih (by omega), if_pos (show fsM M m = true from decide_eq_true (by omega))]
  exact this M (Nat.le_refl M)
theorem bs_fs (M : Nat) : bs (2 ^ M - 1) = fsM M := by
  funext k
  have := Nat.two_pow_pos M
  by_cases h : k < M
  · rw [bs_full h]; exact (decide_eq_true h).symm
  · rw [bs_hi (n := M) (by omega) (by omega)]; exact (decide_eq_false h).symm
section
variable (M : Nat) (c : Nat → Nat → Nat) (al : Nat → Nat)
def rmS : Nat → (Nat → Bool)
  | 0 => fsM M
  | x + 1 => if rmS x x = true then (if (opt M c al (rmS x)).2 = 10 then rm (rmS x) x else rm (rm (rmS x) x) (opt M c al (rmS x)).2) else rmS x
def pf (x : Nat) : Bool := rmS M c al x x
def wy (x : Nat) : Nat := way M c al (fsM M) x
end
theorem rm_le {s : Nat → Bool} {i k : Nat} (h : rm s i k = true) : s k = true := by
  unfold rm at h
  rw [Bool.and_eq_true] at h
  exact h.1
/-- what is left at x -/
theorem rmS_ok {M C : Nat} {c : Nat → Nat → Nat} {al : Nat → Nat} (hc : ∀ i j, i < j → j < M → c i j ≤ C) (ha : ∀ i, i < M → al i ≤ C) (hC : M * C < 2147483647) (M10 : M ≤ 10) : ∀ x, x ≤ M →
    (∀ k, k < x → rmS M c al x k = false) ∧ (∀ k, rmS M c al x k = true → k < M) ∧ (∀ k, rmS M c al x k = true → wy M c al k = way M c al (rmS M c al x) k) ∧ (∀ k, k < M → rmS M c al x k = false → k < x ∨ wy M c al k < x) ∧
    (cn (rmS M c al x) M + 2 * cn (pf M c al) x = M ∨ (cn (rmS M c al x) M + 2 * cn (pf M c al) x = M + 1 ∧ cn (rmS M c al x) M % 2 = 0)) := by
  intro x
  induction x with
  | zero =>
    intro _
    refine ⟨fun k hk => absurd hk (Nat.not_lt_zero k), fun k hk => of_decide_eq_true hk, fun k _ => rfl, fun k hk hf => ?_, Or.inl ?_⟩
    · have : rmS M c al 0 k = true := decide_eq_true hk
      rw [this] at hf
      exact absurd hf (by decide)
    · show cn (fsM M) M + 2 * 0 = M
      rw [fs_cn]
      omega
  | succ x ih =>
    intro hx
    obtain ⟨h1, h2, h3, h4, h5⟩ := ih (by omega)
    by_cases hs : rmS M c al x x = true
    · have hpos : 0 < cn (rmS M c al x) M := by
        have := cn_lt (rmS M c al x) (show x < M by omega) hs
        omega
      obtain ⟨l1, l2, l3⟩ := lo_ok (s := rmS M c al x) (M := M) hpos
      have hlow : wf (rmS M c al x) M 0 = x := by
        rcases Nat.lt_trichotomy (wf (rmS M c al x) M 0) x with z | z | z
        · rw [h1 _ z] at l2; exact absurd l2 (by decide)
        · exact z
        · rw [l3 x z] at hs; exact absurd hs (by decide)
      have hr := cn_rm (s := rmS M c al x) (i := x) (M := M) hs (by omega)
      have earg := opt_arg hc ha hC hpos
      have eway := way_s hc ha hC M10 hpos
      rw [hlow] at earg eway
      have epf : cn (pf M c al) (x + 1) = cn (pf M c al) x + 1 := by
        rw [cn, if_pos (show pf M c al x = true from hs)]
      rcases earg with ⟨e10, odd, -⟩ | ⟨j, ej, j1, j2, j3, -⟩
      · have er : rmS M c al (x + 1) = rm (rmS M c al x) x := by
          rw [rmS, if_pos hs, if_pos e10]
        rw [er]
        refine ⟨fun k hk => ?_, fun k hk => h2 k (rm_le hk), fun k hk => ?_, fun k hk hf => ?_, ?_⟩
        · by_cases e : k = x
          · subst e; exact rm_eq
          · rw [rm_ne e]; exact h1 k (by omega)
        · have hkx : k ≠ x := fun e => by
            subst e
            rw [rm_eq] at hk; exact absurd hk (by decide)
          rw [h3 k (rm_le hk), eway k, if_pos e10, if_neg hkx]
        · by_cases e : k = x
          · exact Or.inl (by omega)
          · rw [rm_ne e] at hf
            rcases h4 k hk hf with z | z
            · exact Or.inl (by omega)
            · exact Or.inr (by omega)
        · rw [epf]
          rcases h5 with z | ⟨z1, z2⟩
          · exact Or.inr ⟨by omega, by omega⟩
          · omega
      · have hne : ¬ (opt M c al (rmS M c al x)).2 = 10 := by omega
        have er : rmS M c al (x + 1) = rm (rm (rmS M c al x) x) j := by
          rw [rmS, if_pos hs, if_neg hne, ej]
        have hr2 := cn_rm2 (s := rmS M c al x) hs j3 j1 j2
        rw [er]
        refine ⟨fun k hk => ?_, fun k hk => h2 k (rm_le (rm_le hk)), fun k hk => ?_, fun k hk hf => ?_, ?_⟩
        · rw [rm_ne (by omega)]
          by_cases e : k = x
          · subst e; exact rm_eq
          · rw [rm_ne e]; exact h1 k (by omega)
        · have hkj : k ≠ j := fun e => by
            subst e
            rw [rm_eq] at hk; exact absurd hk (by decide)
          have hkx : k ≠ x := fun e => by
            subst e
            have := rm_le hk
            rw [rm_eq] at this; exact absurd this (by decide)
          rw [h3 k (rm_le (rm_le hk)), eway k, if_neg hne, if_neg hkx, ej, if_neg hkj]
        · by_cases e : k = x
          · exact Or.inl (by omega)
          · by_cases e2 : k = j
            · subst e2
              right
              rw [h3 k j3, eway k, if_neg hne, if_neg e, ej, if_pos rfl]
              omega
            · rw [rm_ne e2, rm_ne e] at hf
              rcases h4 k hk hf with z | z
              · exact Or.inl (by omega)
              · exact Or.inr (by omega)
        · rw [epf]
          rcases h5 with z | ⟨z1, z2⟩
          · exact Or.inl (by omega)
          · exact Or.inr ⟨by omega, by omega⟩
    · have er : rmS M c al (x + 1) = rmS M c al x := by rw [rmS, if_neg hs]
      have epf : cn (pf M c al) (x + 1) = cn (pf M c al) x := by
        rw [cn, if_neg (show ¬ pf M c al x = true from hs)]
      rw [er, epf]
      refine ⟨fun k hk => ?_, h2, h3, fun k hk hf => ?_, h5⟩
      · by_cases e : k = x
        · subst e
          cases z : rmS M c al k k with
          | false => rfl
          | true => exact absurd z hs
        · exact h1 k (by omega)
      · rcases h4 k hk hf with z | z
        · exact Or.inl (by omega)
        · exact Or.inr (by omega)
/-- the pair of x, when x is the first of the rest -/
theorem pf_ok {M C : Nat} {c : Nat → Nat → Nat} {al : Nat → Nat} (hc : ∀ i j, i < j → j < M → c i j ≤ C) (ha : ∀ i, i < M → al i ≤ C) (hC : M * C < 2147483647) (M10 : M ≤ 10) {x : Nat} (hx : x < M) (hp : pf M c al x = true) : wf (rmS M c al x) M 0 = x ∧ 0 < cn (rmS M c al x) M ∧ wy M c al x = (opt M c al (rmS M c al x)).2 ∧ ((wy M c al x = 10 ∧ rmS M c al (x + 1) = rm (rmS M c al x) x) ∨ (x < wy M c al x ∧ wy M c al x < M ∧ rmS M c al x (wy M c al x) = true ∧ rmS M c al (x + 1) = rm (rm (rmS M c al x) x) (wy M c al x) ∧ wy M c al (wy M c al x) = x)) := by
  have hs : rmS M c al x x = true := hp
  obtain ⟨h1, h2, h3, h4, h5⟩ := rmS_ok hc ha hC M10 x (by omega)
  have hpos : 0 < cn (rmS M c al x) M := by
    have := cn_lt (rmS M c al x) hx hs
    omega
  obtain ⟨l1, l2, l3⟩ := lo_ok (s := rmS M c al x) (M := M) hpos
  have hlow : wf (rmS M c al x) M 0 = x := by
    rcases Nat.lt_trichotomy (wf (rmS M c al x) M 0) x with z | z | z
    · rw [h1 _ z] at l2; exact absurd l2 (by decide)
    · exact z
    · rw [l3 x z] at hs; exact absurd hs (by decide)
  have earg := opt_arg hc ha hC hpos
  have eway := way_s hc ha hC M10 hpos
  rw [hlow] at earg eway
  have ewx : wy M c al x = (opt M c al (rmS M c al x)).2 := by
    rw [h3 x hs, eway x]
    by_cases e10 : (opt M c al (rmS M c al x)).2 = 10
    · rw [if_pos e10, if_pos rfl, e10]
    · rw [if_neg e10, if_pos rfl]
  refine ⟨hlow, hpos, ewx, ?_⟩
  rcases earg with ⟨e10, -⟩ | ⟨j, ej, j1, j2, j3, -⟩
  · refine Or.inl ⟨ewx.trans e10, ?_⟩
    rw [rmS, if_pos hs, if_pos e10]
  · have hne : ¬ (opt M c al (rmS M c al x)).2 = 10 := by omega
    have ewj : wy M c al x = j := ewx.trans ej
    rw [ewj]
    refine Or.inr ⟨j1, j2, j3, ?_, ?_⟩
    · rw [rmS, if_pos hs, if_neg hne, ej]
    · rw [h3 j j3, eway j, if_neg hne, if_neg (by omega), ej, if_pos rfl]
theorem npf_ok {M C : Nat} {c : Nat → Nat → Nat} {al : Nat → Nat} (hc : ∀ i j, i < j → j < M → c i j ≤ C) (ha : ∀ i, i < M → al i ≤ C) (hC : M * C < 2147483647) (M10 : M ≤ 10) {x : Nat} (hx : x < M) (hp : ¬ pf M c al x = true) : wy M c al x < x ∧ rmS M c al (x + 1) = rmS M c al x := by
  obtain ⟨h1, h2, h3, h4, h5⟩ := rmS_ok hc ha hC M10 x (by omega)
  have hs : rmS M c al x x = false := by
    cases z : rmS M c al x x with
    | false => rfl
    | true => exact absurd z hp
  refine ⟨?_, ?_⟩
  · rcases h4 x hx hs with z | z
    · omega
    · exact z
  · rw [rmS, if_neg (by rw [hs]; decide)]
theorem pairs_n {M C : Nat} {c : Nat → Nat → Nat} {al : Nat → Nat} (hc : ∀ i j, i < j → j < M → c i j ≤ C) (ha : ∀ i, i < M → al i ≤ C) (hC : M * C < 2147483647) (M10 : M ≤ 10) (M2 : 2 ≤ M) : 1 ≤ cn (pf M c al) M ∧ cn (pf M c al) M ≤ 5 := by
  obtain ⟨h1, h2, h3, h4, h5⟩ := rmS_ok hc ha hC M10 M (Nat.le_refl M)
  have h0 : cn (rmS M c al M) M = 0 := by
    rw [cn_stop _ (Nat.zero_le M) (fun i _ hi => h1 i hi)]
    rfl
  omega
/-- partners of different first ones are different -/
theorem wy_dis {M C : Nat} {c : Nat → Nat → Nat} {al : Nat → Nat} (hc : ∀ i j, i < j → j < M → c i j ≤ C) (ha : ∀ i, i < M → al i ≤ C) (hC : M * C < 2147483647) (M10 : M ≤ 10) {x x' : Nat} (hx : x < M) (hx' : x' < M) (hp : pf M c al x = true) (hp' : pf M c al x' = true) (hne : wy M c al x ≠ 10) : wy M c al x ≠ x' ∧ (wy M c al x = wy M c al x' → x = x') := by
  obtain ⟨-, -, -, h⟩ := pf_ok hc ha hC M10 hx hp
  rcases h with ⟨z, -⟩ | ⟨k1, k2, k3, k4, k5⟩
  · exact absurd z hne
  · refine ⟨fun e => ?_, fun e => ?_⟩
    · obtain ⟨-, -, -, h'⟩ := pf_ok hc ha hC M10 hx' hp'
      rw [e] at k5
      rcases h' with ⟨z, -⟩ | ⟨z, -⟩
      · omega
      · omega
    · obtain ⟨-, -, -, h'⟩ := pf_ok hc ha hC M10 hx' hp'
      rcases h' with ⟨z, -⟩ | ⟨-, -, -, -, z⟩
      · omega
      · rw [← k5, ← z, e]
