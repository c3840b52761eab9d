/-! The best of all ways to pair: pure. -/
def rm (s : Nat → Bool) (i : Nat) : Nat → Bool := fun k => s k && decide (k ≠ i)
theorem rm_eq {s : Nat → Bool} {i : Nat} : rm s i i = false := by
  unfold rm
  rw [decide_eq_false (fun h => h rfl), Bool.and_false]
theorem rm_ne {s : Nat → Bool} {i k : Nat} (h : k ≠ i) : rm s i k = s k := by
  unfold rm
  rw [decide_eq_true h, Bool.and_true]
theorem cn_cg {s s' : Nat → Bool} {M : Nat} (h : ∀ k, k < M → s k = s' k) : cn s M = cn s' M := by
  induction M with
  | zero => rfl
  | succ M ih => rw [cn, cn, h M (by omega), ih (fun k hk => h k (by omega))]
theorem cn_rm {s : Nat → Bool} {i M : Nat} (hs : s i = true) (hi : i < M) : cn (rm s i) M + 1 = cn s M := by
  induction M with
  | zero => omega
  | succ M ih =>
    rw [cn, cn]
    by_cases e : i = M
    · subst e
      rw [rm_eq, if_neg (by decide), if_pos hs, cn_cg (s := rm s i) (s' := s) (fun k hk => rm_ne (by omega))]
    · have := ih (by omega)
      rw [rm_ne (fun h => e h.symm)]
      split <;> omega
def fdJ (c : Nat → Nat → Nat) (o : (Nat → Bool) → Nat × Nat) (s : Nat → Bool) (i : Nat) : Nat → Nat × Nat
  | 0 => (2147483647, 10)
  | j + 1 => if i < j ∧ s j = true ∧ c i j + (o (rm (rm s i) j)).1 < (fdJ c o s i j).1 then (c i j + (o (rm (rm s i) j)).1, j) else fdJ c o s i j
def stp (M : Nat) (c : Nat → Nat → Nat) (al : Nat → Nat) (o : (Nat → Bool) → Nat × Nat) (s : Nat → Bool) : Nat × Nat := if cn s M % 2 = 1 ∧ al (wf s M 0) + (o (rm s (wf s M 0))).1 < (fdJ c o s (wf s M 0) M).1 then (al (wf s M 0) + (o (rm s (wf s M 0))).1, 10) else fdJ c o s (wf s M 0) M
def opF (M : Nat) (c : Nat → Nat → Nat) (al : Nat → Nat) : Nat → (Nat → Bool) → Nat × Nat
  | 0, _ => (0, 10)
  | f + 1, s => if cn s M = 0 then (0, 10) else stp M c al (opF M c al f) s
theorem fd_cg {c : Nat → Nat → Nat} {o o' : (Nat → Bool) → Nat × Nat} {s : Nat → Bool} {i : Nat} : ∀ n, (∀ j, j < n → i < j → s j = true → o (rm (rm s i) j) = o' (rm (rm s i) j)) → fdJ c o s i n = fdJ c o' s i n := by
  intro n
  induction n with
  | zero => intro _; rfl
  | succ n ih =>
    intro h
    rw [fdJ, fdJ, ih (fun j hj => h j (by omega))]
    by_cases q : i < n ∧ s n = true
    · rw [h n (by omega) q.1 q.2]
    · rw [if_neg (fun z => q ⟨z.1, z.2.1⟩), if_neg (fun z => q ⟨z.1, z.2.1⟩)]
theorem fd_0 {c : Nat → Nat → Nat} {o : (Nat → Bool) → Nat × Nat} {s : Nat → Bool} {i : Nat} : ∀ n, n ≤ i + 1 → fdJ c o s i n = (2147483647, 10) := by
  intro n
  induction n with
  | zero => intro _; rfl
  | succ n ih =>
    intro h
    rw [fdJ, if_neg (fun z => by have := z.1; omega)]
    exact ih (by omega)
/-- the least of the rest, and that there is a first one -/
theorem lo_ok {s : Nat → Bool} {M : Nat} (h : 0 < cn s M) : wf s M 0 < M ∧ s (wf s M 0) = true ∧ ∀ k, k < wf s M 0 → s k = false := by
  obtain ⟨h1, h2, h3⟩ := wf_ok s h
  refine ⟨h1, h2, fun k hk => ?_⟩
  cases hs : s k with
  | false => rfl
  | true =>
    have := cn_lt s hk hs
    omega
theorem cn_rm2 {s : Nat → Bool} {i j M : Nat} (hi : s i = true) (hj : s j = true) (hij : i < j) (hM : j < M) : cn (rm (rm s i) j) M + 2 = cn s M := by
  have h1 := cn_rm (s := s) (i := i) (M := M) hi (by omega)
  have h2 := cn_rm (s := rm s i) (i := j) (M := M) (by rw [rm_ne (by omega)]; exact hj) hM
  omega
theorem opF_f {M : Nat} {c : Nat → Nat → Nat} {al : Nat → Nat} : ∀ (f f' : Nat) (s : Nat → Bool), cn s M ≤ f → cn s M ≤ f' → opF M c al f s = opF M c al f' s := by
  intro f
  induction f with
  | zero =>
    intro f' s h1 h2
    have h0 : cn s M = 0 := by omega
    cases f' with
    | zero => rfl
    | succ f' => rw [opF, opF, if_pos h0]
  | succ f ih =>
    intro f' s h1 h2
    by_cases h0 : cn s M = 0
    · cases f' with
      | zero => rw [opF, opF, if_pos h0]
      | succ f' => rw [opF, opF, if_pos h0, if_pos h0]
    · cases f' with
      | zero => omega
      | succ f' =>
        obtain ⟨l1, l2, l3⟩ := lo_ok (s := s) (M := M) (by omega)
        rw [opF, opF, if_neg h0, if_neg h0]
        have hr := cn_rm l2 l1
        have e1 : opF M c al f (rm s (wf s M 0)) = opF M c al f' (rm s (wf s M 0)) := ih f' _ (by omega) (by omega)
        have e2 : fdJ c (opF M c al f) s (wf s M 0) M = fdJ c (opF M c al f') s (wf s M 0) M := by
          refine fd_cg M (fun j hj hij hs => ?_)
          have := cn_rm2 l2 hs hij hj
          exact ih f' _ (by omega) (by omega)
        unfold stp
        rw [e1, e2]
abbrev opt (M : Nat) (c : Nat → Nat → Nat) (al : Nat → Nat) (s : Nat → Bool) : Nat × Nat := opF M c al M s
theorem opt_0 {M : Nat} {c : Nat → Nat → Nat} {al : Nat → Nat} {s : Nat → Bool} (h : cn s M = 0) : opt M c al s = (0, 10) := by
  unfold opt
  cases M with
  | zero => rfl
  | succ M => rw [opF, if_pos h]
theorem opt_s {M : Nat} {c : Nat → Nat → Nat} {al : Nat → Nat} {s : Nat → Bool} (h : 0 < cn s M) : opt M c al s = stp M c al (opt M c al) s := by
  have hb := cn_bd s M
  obtain ⟨l1, l2, l3⟩ := lo_ok (s := s) (M := M) h
  have hr := cn_rm l2 l1
  unfold opt
  obtain ⟨f, hf⟩ : ∃ f, M = f + 1 := ⟨M - 1, by omega⟩
  have e0 : opF M c al M s = stp M c al (opF M c al f) s := by
    have : opF M c al (f + 1) s = stp M c al (opF M c al f) s := by rw [opF, if_neg (by omega)]
    rw [← this, ← hf]
  rw [e0]
  have e1 : opF M c al f (rm s (wf s M 0)) = opF M c al M (rm s (wf s M 0)) := opF_f _ _ _ (by omega) (by omega)
  have e2 : fdJ c (opF M c al f) s (wf s M 0) M = fdJ c (opF M c al M) s (wf s M 0) M := by
    refine fd_cg M (fun j hj hij hs => ?_)
    have := cn_rm2 l2 hs hij hj
    exact opF_f _ _ _ (by omega) (by omega)
  unfold stp
  rw [e1, e2]
theorem fd_mono {c : Nat → Nat → Nat} {o : (Nat → Bool) → Nat × Nat} {s : Nat → Bool} {i : Nat} : ∀ n m, m ≤ n → (fdJ c o s i n).1 ≤ (fdJ c o s i m).1 := by
  intro n
  induction n with
  | zero =>
    intro m hm
    have : m = 0 := by omega
    subst this
    exact Nat.le_refl _
  | succ n ih =>
    intro m hm
    by_cases e : m = n + 1
    · subst e; exact Nat.le_refl _
    · have := ih m (by omega)
      rw [fdJ]
      split
      · rename_i z
        have := z.2.2
        dsimp only
        omega
      · exact this
theorem fd_least {c : Nat → Nat → Nat} {o : (Nat → Bool) → Nat × Nat} {s : Nat → Bool} {i j n : Nat} (hij : i < j) (hs : s j = true) (hj : j < n) : (fdJ c o s i n).1 ≤ c i j + (o (rm (rm s i) j)).1 := by
  refine Nat.le_trans (fd_mono n (j + 1) (by omega)) ?_
  rw [fdJ]
  split
  · exact Nat.le_refl _
  · rename_i z
    have : ¬ c i j + (o (rm (rm s i) j)).1 < (fdJ c o s i j).1 := fun q => z ⟨hij, hs, q⟩
    omega
theorem fd_arg {c : Nat → Nat → Nat} {o : (Nat → Bool) → Nat × Nat} {s : Nat → Bool} {i : Nat} : ∀ n, fdJ c o s i n = (2147483647, 10) ∨ ∃ j, j < n ∧ i < j ∧ s j = true ∧ fdJ c o s i n = (c i j + (o (rm (rm s i) j)).1, j) := by
  intro n
  induction n with
  | zero => exact Or.inl rfl
  | succ n ih =>
    rw [fdJ]
    split
    · rename_i z
      exact Or.inr ⟨n, by omega, z.1, z.2.1, rfl⟩
    · rcases ih with e | ⟨j, h1, h2, h3, h4⟩
      · exact Or.inl e
      · exact Or.inr ⟨j, by omega, h2, h3, h4⟩
theorem opt_bd {M C : Nat} {c : Nat → Nat → Nat} {al : Nat → Nat} (hc : ∀ i j, i < j → j < M → c i j ≤ C) (ha : ∀ i, i < M → al i ≤ C) : ∀ (n : Nat) (s : Nat → Bool), cn s M = n → (opt M c al s).1 ≤ n * C := by
  intro n
  induction n using Nat.strongRecOn with
  | ind n ih =>
    intro s hn
    by_cases h0 : cn s M = 0
    · rw [opt_0 h0]
      exact Nat.zero_le _
    · obtain ⟨l1, l2, l3⟩ := lo_ok (s := s) (M := M) (by omega)
      rw [opt_s (by omega)]
      unfold stp
      have hr := cn_rm l2 l1
      by_cases odd : cn s M % 2 = 1
      · have h1 := ih (n - 1) (by omega) (rm s (wf s M 0)) (by omega)
        have h2 := ha _ l1
        have h3 : (n - 1) * C + C = n * C := by
          rw [← Nat.succ_mul]
          congr 1
          omega
        by_cases q : al (wf s M 0) + (opt M c al (rm s (wf s M 0))).1 < (fdJ c (opt M c al) s (wf s M 0) M).1
        · rw [if_pos ⟨odd, q⟩]
          dsimp only
          omega
        · rw [if_neg (fun z => q z.2)]
          omega
      · rw [if_neg (fun z => odd z.1)]
        obtain ⟨k1, k2, k3⟩ := wf_ok s (N := M) (i := 1) (by omega)
        have hlt : wf s M 0 < wf s M 1 := by
          rcases Nat.lt_trichotomy (wf s M 0) (wf s M 1) with z | z | z
          · exact z
          · have := (wf_ok s (N := M) (i := 0) (by omega)).2.2
            rw [z, k3] at this
            omega
          · rw [l3 _ z] at k2
            exact absurd k2 (by decide)
        have h1 := fd_least (c := c) (o := opt M c al) hlt k2 k1
        have h4 := cn_rm2 l2 k2 hlt k1
        have h2 := ih (n - 2) (by omega) (rm (rm s (wf s M 0)) (wf s M 1)) (by omega)
        have h5 := hc _ _ hlt k1
        have h3 : (n - 2) * C + 2 * C = n * C := by
          rw [← Nat.add_mul]
          congr 1
          omega
        omega
theorem opt_arg {M C : Nat} {c : Nat → Nat → Nat} {al : Nat → Nat} (hc : ∀ i j, i < j → j < M → c i j ≤ C) (ha : ∀ i, i < M → al i ≤ C) (hC : M * C < 2147483647) {s : Nat → Bool} (h : 0 < cn s M) : ((opt M c al s).2 = 10 ∧ cn s M % 2 = 1 ∧ (opt M c al s).1 = al (wf s M 0) + (opt M c al (rm s (wf s M 0))).1) ∨ ∃ j, (opt M c al s).2 = j ∧ wf s M 0 < j ∧ j < M ∧ s j = true ∧ (opt M c al s).1 = c (wf s M 0) j + (opt M c al (rm (rm s (wf s M 0)) j)).1 := by
  have hb := opt_bd hc ha _ s rfl
  have hb2 : cn s M * C ≤ M * C := Nat.mul_le_mul_right _ (cn_bd s M)
  have e := opt_s (c := c) (al := al) h
  unfold stp at e
  by_cases q : cn s M % 2 = 1 ∧ al (wf s M 0) + (opt M c al (rm s (wf s M 0))).1 < (fdJ c (opt M c al) s (wf s M 0) M).1
  · rw [if_pos q] at e
    exact Or.inl ⟨by rw [e], q.1, by rw [e]⟩
  · rw [if_neg q] at e
    rcases fd_arg (c := c) (o := opt M c al) (s := s) (i := wf s M 0) M with z | ⟨j, h1, h2, h3, h4⟩
    · rw [z] at e
      rw [e] at hb
      dsimp only at hb
      omega
    · rw [h4] at e
      exact Or.inr ⟨j, by rw [e], h2, h1, h3, by rw [e]⟩
/-- who is with whom in the best way -/
def wyF (M : Nat) (c : Nat → Nat → Nat) (al : Nat → Nat) : Nat → (Nat → Bool) → Nat → Nat
  | 0, _, _ => 10
  | f + 1, s, x => if cn s M = 0 then 10 else if (opt M c al s).2 = 10 then (if x = wf s M 0 then 10 else wyF M c al f (rm s (wf s M 0)) x) else if x = wf s M 0 then (opt M c al s).2 else if x = (opt M c al s).2 then wf s M 0 else wyF M c al f (rm (rm s (wf s M 0)) (opt M c al s).2) x
theorem wyF_f {M C : Nat} {c : Nat → Nat → Nat} {al : Nat → Nat} (hc : ∀ i j, i < j → j < M → c i j ≤ C) (ha : ∀ i, i < M → al i ≤ C) (hC : M * C < 2147483647) (M10 : M ≤ 10) : ∀ (f f' : Nat) (s : Nat → Bool), cn s M ≤ f → cn s M ≤ f' → ∀ x, wyF M c al f s x = wyF M c al f' s x := by
  intro f
  induction f with
  | zero =>
    intro f' s h1 h2 x
    have h0 : cn s M = 0 := by omega
    cases f' with
    | zero => rfl
    | succ f' => rw [wyF, wyF, if_pos h0]
  | succ f ih =>
    intro f' s h1 h2 x
    by_cases h0 : cn s M = 0
    · cases f' with
      | zero => rw [wyF, wyF, if_pos h0]
      | succ f' => rw [wyF, wyF, if_pos h0, if_pos h0]
    · cases f' with
      | zero => omega
      | succ f' =>
        obtain ⟨l1, l2, l3⟩ := lo_ok (s := s) (M := M) (by omega)
        have hr := cn_rm l2 l1
        rw [wyF, wyF, if_neg h0, if_neg h0]
        rcases opt_arg hc ha hC (s := s) (by omega) with ⟨e, -⟩ | ⟨j, e, j1, j2, j3, -⟩
        · rw [if_pos e, if_pos e, ih f' (rm s (wf s M 0)) (by omega) (by omega) x]
        · have := cn_rm2 l2 j3 j1 j2
          have hne : ¬ (opt M c al s).2 = 10 := by omega
          rw [if_neg hne, if_neg hne, e, ih f' (rm (rm s (wf s M 0)) j) (by omega) (by omega) x]
abbrev way (M : Nat) (c : Nat → Nat → Nat) (al : Nat → Nat) (s : Nat → Bool) (x : Nat) : Nat := wyF M c al M s x
theorem way_s {M C : Nat} {c : Nat → Nat → Nat} {al : Nat → Nat} (hc : ∀ i j, i < j → j < M → c i j ≤ C) (ha : ∀ i, i < M → al i ≤ C) (hC : M * C < 2147483647) (M10 : M ≤ 10) {s : Nat → Bool} (h : 0 < cn s M) (x : Nat) : way M c al s x = if (opt M c al s).2 = 10 then (if x = wf s M 0 then 10 else way M c al (rm s (wf s M 0)) x) else if x = wf s M 0 then (opt M c al s).2 else if x = (opt M c al s).2 then wf s M 0 else way M c al (rm (rm s (wf s M 0)) (opt M c al s).2) x := by
  have hb := cn_bd s M
  obtain ⟨l1, l2, l3⟩ := lo_ok (s := s) (M := M) h
  have hr := cn_rm l2 l1
  unfold way
  obtain ⟨f, hf⟩ : ∃ f, M = f + 1 := ⟨M - 1, by omega⟩
  have e0 : wyF M c al M s x = wyF M c al (f + 1) s x := by rw [← hf]
  rw [e0, wyF, if_neg (by omega)]
  rcases opt_arg hc ha hC (s := s) h with ⟨e, -⟩ | ⟨j, e, j1, j2, j3, -⟩
  · rw [if_pos e, if_pos e, wyF_f hc ha hC M10 f M (rm s (wf s M 0)) (by omega) (by omega) x]
  · have := cn_rm2 l2 j3 j1 j2
    have hne : ¬ (opt M c al s).2 = 10 := by omega
    rw [if_neg hne, if_neg hne, e, wyF_f hc ha hC M10 f M (rm (rm s (wf s M 0)) j) (by omega) (by omega) x]
theorem way_bd {M C : Nat} {c : Nat → Nat → Nat} {al : Nat → Nat} (hc : ∀ i j, i < j → j < M → c i j ≤ C) (ha : ∀ i, i < M → al i ≤ C) (hC : M * C < 2147483647) (M10 : M ≤ 10) : ∀ (n : Nat) (s : Nat → Bool), cn s M = n → ∀ x, way M c al s x ≤ 10 := by
  intro n
  induction n using Nat.strongRecOn with
  | ind n ih =>
    intro s hn x
    by_cases h0 : cn s M = 0
    · unfold way
      cases M with
      | zero => exact Nat.le_refl _
      | succ M => rw [wyF, if_pos h0]; exact Nat.le_refl _
    · obtain ⟨l1, l2, l3⟩ := lo_ok (s := s) (M := M) (by omega)
      have hr := cn_rm l2 l1
      rw [way_s hc ha hC M10 (by omega)]
      rcases opt_arg hc ha hC (s := s) (by omega) with ⟨e, -⟩ | ⟨j, e, j1, j2, j3, -⟩
      · rw [if_pos e]
        split
        · exact Nat.le_refl _
        · exact ih (n - 1) (by omega) _ (by omega) x
      · have := cn_rm2 l2 j3 j1 j2
        rw [if_neg (by omega), e]
        split
        · omega
        · split
          · omega
          · exact ih (n - 2) (by omega) _ (by omega) x
