/-! Sets as numbers. -/
def bs (S i : Nat) : Bool := decide (S / 2 ^ i % 2 = 1)
def mkS (s : Nat → Bool) : Nat → Nat
  | 0 => 0
  | n + 1 => mkS s n + (if s n = true then 2 ^ n else 0)
theorem mk_lt (s : Nat → Bool) : ∀ n, mkS s n < 2 ^ n := by
  intro n
  induction n with
  | zero => exact Nat.one_pos
  | succ n ih =>
    rw [mkS, Nat.pow_succ]
    split <;> omega
theorem mk_bs (S : Nat) : ∀ n, mkS (bs S) n = S % 2 ^ n := by
  intro n
  induction n with
  | zero => rw [mkS, Nat.pow_zero, Nat.mod_one]
  | succ n ih =>
    rw [mkS, ih, Nat.mod_pow_succ]
    unfold bs
    have : S / 2 ^ n % 2 = 0 ∨ S / 2 ^ n % 2 = 1 := by omega
    rcases this with h | h
    · rw [h, if_neg (by decide), Nat.mul_zero]
    · rw [h, if_pos (by decide), Nat.mul_one]
theorem bs_mk (s : Nat → Bool) : ∀ n i, i < n → bs (mkS s n) i = s i := by
  intro n
  induction n with
  | zero => intro i hi; omega
  | succ n ih =>
    intro i hi
    rw [mkS]
    by_cases e : i = n
    · subst e
      unfold bs
      have hlt := mk_lt s i
      cases hs : s i with
      | false =>
        rw [if_neg (by decide), Nat.add_zero, Nat.div_eq_of_lt hlt]
        rfl
      | true =>
        rw [if_pos rfl, Nat.add_div_right _ (Nat.two_pow_pos i), Nat.div_eq_of_lt hlt]
        rfl
    · have := ih i (by omega)
      rw [← this]
      unfold bs
      cases hs : s n with
      | false => rw [if_neg (by decide), Nat.add_zero]
      | true =>
        rw [if_pos rfl]
        have e1 : (2 : Nat) ^ n = 2 ^ i * (2 * 2 ^ (n - i - 1)) := by
          rw [← Nat.pow_succ', ← Nat.pow_add]
          congr 1
          omega
        rw [e1, Nat.add_mul_div_left _ _ (Nat.two_pow_pos i)]
        congr 2
        omega
theorem bs_hi {S n k : Nat} (h : S < 2 ^ n) (hk : n ≤ k) : bs S k = false := by
  unfold bs
  have : S < 2 ^ k := Nat.lt_of_lt_of_le h (Nat.pow_le_pow_right (by omega) hk)
  rw [Nat.div_eq_of_lt this]
  rfl
theorem mk_cg {s s' : Nat → Bool} : ∀ n, (∀ k, k < n → s k = s' k) → mkS s n = mkS s' n := by
  intro n
  induction n with
  | zero => intro _; rfl
  | succ n ih =>
    intro h
    rw [mkS, mkS, ih (fun k hk => h k (by omega)), h n (by omega)]
theorem mk_rm {s : Nat → Bool} {i : Nat} (hs : s i = true) : ∀ n, i < n → mkS (rm s i) n + 2 ^ i = mkS s n := by
  intro n
  induction n with
  | zero => intro h; omega
  | succ n ih =>
    intro h
    rw [mkS, mkS]
    by_cases e : i = n
    · subst e
      rw [rm_eq, if_neg (by decide), if_pos hs, mk_cg (s := rm s i) (s' := s) i (fun k hk => rm_ne (by omega))]
      rfl
    · have := ih (by omega)
      rw [rm_ne (fun q => e q.symm)]
      omega
/-- taking i out -/
theorem bs_sub {S n i : Nat} (h : S < 2 ^ n) (hi : bs S i = true) : 2 ^ i ≤ S ∧ bs (S - 2 ^ i) = rm (bs S) i := by
  have hin : i < n := by
    rcases Nat.lt_or_ge i n with q | q
    · exact q
    · rw [bs_hi h q] at hi; exact absurd hi (by decide)
  have e0 : mkS (bs S) n = S := by rw [mk_bs, Nat.mod_eq_of_lt h]
  have e1 := mk_rm hi n hin
  rw [e0] at e1
  refine ⟨by omega, ?_⟩
  have e2 : S - 2 ^ i = mkS (rm (bs S) i) n := by omega
  rw [e2]
  funext k
  by_cases hk : k < n
  · exact bs_mk _ n k hk
  · rw [bs_hi (mk_lt _ n) (by omega)]
    by_cases e : k = i
    · subst e; rw [rm_eq]
    · rw [rm_ne e, bs_hi h (by omega)]
theorem bs_full {n k : Nat} (hk : k < n) : bs (2 ^ n - 1) k = true := by
  have h : ∀ m, mkS (fun _ => true) m + 1 = 2 ^ m := by
    intro m
    induction m with
    | zero => rfl
    | succ m ih =>
      rw [mkS, if_pos rfl, Nat.pow_succ]
      omega
  have : 2 ^ n - 1 = mkS (fun _ => true) n := by
    have := h n
    omega
  rw [this, bs_mk _ n k hk]
theorem cn_pos_bs {S n : Nat} (h : S < 2 ^ n) (h0 : 0 < S) : 0 < cn (bs S) n := by
  rcases Nat.eq_zero_or_pos (cn (bs S) n) with q | q
  · have e0 : mkS (bs S) n = S := by rw [mk_bs, Nat.mod_eq_of_lt h]
    have : ∀ m, m ≤ n → mkS (bs S) m = 0 := by
      intro m
      induction m with
      | zero => intro _; rfl
      | succ m ih =>
        intro hm
        rw [mkS, ih (by omega)]
        have : ¬ bs S m = true := fun z => by
          have := cn_lt (bs S) (show m < n by omega) z
          omega
        rw [if_neg this]
    have := this n (Nat.le_refl n)
    omega
  · exact q
-- the machine's bits
theorem sh_1 {i : Nat} (hi : i ≤ 10) : (1 : Int32) <<< (nI i &&& 31) = nI (2 ^ i) := by
  have : i = 0 ∨ i = 1 ∨ i = 2 ∨ i = 3 ∨ i = 4 ∨ i = 5 ∨ i = 6 ∨ i = 7 ∨ i = 8 ∨ i = 9 ∨ i = 10 := by omega
  rcases this with rfl | rfl | rfl | rfl | rfl | rfl | rfl | rfl | rfl | rfl | rfl <;> decide
theorem sh_rn {S i : Nat} (hS : S < 2 ^ 31) {x : Int32} (hx : (x.toBitVec.smod 32).toNat = i) : nI S >>> x = nI (S / 2 ^ i) := by
  apply Int32.toBitVec_inj.mp
  show BitVec.sshiftRight' (BitVec.ofNat 32 S) (x.toBitVec.smod 32) = BitVec.ofNat 32 (S / 2 ^ i)
  rw [BitVec.sshiftRight_eq', hx]
  have hm : (BitVec.ofNat 32 S).msb = false := by
    rw [BitVec.msb_eq_false_iff_two_mul_lt, BitVec.toNat_ofNat, Nat.mod_eq_of_lt (by omega)]
    omega
  rw [BitVec.sshiftRight_eq_of_msb_false hm]
  apply BitVec.eq_of_toNat_eq
  have hd : S / 2 ^ i ≤ S := Nat.div_le_self _ _
  rw [BitVec.toNat_ushiftRight, BitVec.toNat_ofNat, BitVec.toNat_ofNat, Nat.mod_eq_of_lt (by omega), Nat.mod_eq_of_lt (by omega), Nat.shiftRight_eq_div_pow]
theorem sh_r {S i : Nat} (hS : S < 2 ^ 31) (hi : i ≤ 10) : (nI S >>> (nI i &&& 31)) &&& 1 = nI (S / 2 ^ i % 2) := by
  have h : ((nI i &&& 31 : Int32).toBitVec.smod 32).toNat = i := by
    have : i = 0 ∨ i = 1 ∨ i = 2 ∨ i = 3 ∨ i = 4 ∨ i = 5 ∨ i = 6 ∨ i = 7 ∨ i = 8 ∨ i = 9 ∨ i = 10 := by omega
    rcases this with rfl | rfl | rfl | rfl | rfl | rfl | rfl | rfl | rfl | rfl | rfl <;> decide
  rw [sh_rn hS h, l_1, nI_and1]
theorem bit_cases {S i : Nat} (hS : S < 2 ^ 31) (hi : i ≤ 10) : (bs S i = true ∧ (nI S >>> (nI i &&& 31)) &&& 1 = nI 1) ∨ (bs S i = false ∧ (nI S >>> (nI i &&& 31)) &&& 1 = nI 0) := by
  rw [sh_r hS hi]
  unfold bs
  have : S / 2 ^ i % 2 = 0 ∨ S / 2 ^ i % 2 = 1 := by omega
  rcases this with h | h
  · rw [h]; exact Or.inr ⟨by decide, rfl⟩
  · rw [h]; exact Or.inl ⟨by decide, rfl⟩
theorem pow_le {M : Nat} (h : M ≤ 10) : 2 ^ M ≤ 1024 := Nat.pow_le_pow_right (n := 2) (by omega) h
/-- the lowest one, found by looking -/
theorem low_lp {S M : Nat} (hM : M ≤ 10) (hS : S < 2 ^ M) (h0 : 0 < S) : lp (fun (s45 : Int32) => (if ((nI S >>> (s45 &&& 31)) &&& (1 : Int32)) = 0 then some (.inl ((s45 + (1 : Int32)))) else some (.inr (s45)) : Option ((Int32) ⊕ (Int32)))) 2000 (0 : Int32) = some (nI (wf (bs S) M 0)) := by
  have hp := pow_le hM
  obtain ⟨l1, l2, l3⟩ := lo_ok (s := bs S) (M := M) (cn_pos_bs hS h0)
  refine q_lp (fun i => nI i) (wf (bs S) M 0) (fun i hi => ?_) ?_ (by omega) rfl
  · rcases bit_cases (S := S) (i := i) (by omega) (by omega) with ⟨q, -⟩ | ⟨-, q⟩
    · rw [l3 i hi] at q; exact absurd q (by decide)
    · exact q_if_t q (by rw [nI_1])
  · rcases bit_cases (S := S) (i := wf (bs S) M 0) (by omega) (by omega) with ⟨-, q⟩ | ⟨q, -⟩
    · exact q_if_f (by rw [q]; decide) rfl
    · rw [l2] at q; exact absurd q (by decide)
