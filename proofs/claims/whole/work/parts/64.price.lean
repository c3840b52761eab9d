/-! Prices: class and model. -/
def dif (a b : Nat) : Nat := (a - b) + (b - a)
def sq2 (a b : Nat) : Nat := 200 * dif a b * dif a b
theorem sub_cases (a b : Nat) : nI a - nI b = nI (dif a b) ∨ nI a - nI b = -nI (dif a b) := by
  unfold dif
  rcases Nat.le_total b a with h | h
  · left
    rw [pk_sub h]
    congr 1
    omega
  · right
    rw [← Int32.neg_sub, pk_sub h]
    congr 2
    omega
theorem sq_eq (a b : Nat) : (200 : Int32) * (nI a - nI b) * (nI a - nI b) = nI (sq2 a b) := by
  unfold sq2
  rw [show (200 : Int32) = nI 200 from rfl]
  rcases sub_cases a b with h | h
  · rw [h, pk_mul, pk_mul]
  · rw [h, Int32.mul_neg, Int32.mul_neg, Int32.neg_mul, Int32.neg_neg, pk_mul, pk_mul]
theorem abs_eq {a b : Nat} (ha : a < 10000) (hb : b < 10000) : (0 ≤ nI a - nI b ∧ nI a - nI b = nI (dif a b)) ∨ (¬ 0 ≤ nI a - nI b ∧ -(nI a - nI b) = nI (dif a b)) := by
  have e : (nI a - nI b).toInt = (a : Int) - b := pk_sub_toInt (by omega) (by omega)
  unfold dif
  rcases Nat.lt_or_ge a b with h | h
  rotate_left
  · left
    refine ⟨?_, ?_⟩
    · rw [Int32.le_iff_toInt_le, e, show (0 : Int32).toInt = 0 from rfl]
      omega
    · rw [pk_sub h]
      congr 1
      omega
  · right
    refine ⟨?_, ?_⟩
    · rw [Int32.le_iff_toInt_le, e, show (0 : Int32).toInt = 0 from rfl]
      omega
    · rw [Int32.neg_sub, pk_sub (by omega)]
      congr 1
      omega
/-- the least -/
def mnI (p : Nat → Nat) : Nat → Nat
  | 0 => 2147483647
  | i + 1 => if p i < mnI p i then p i else mnI p i
theorem mn_le (p : Nat → Nat) : ∀ i, mnI p i ≤ 2147483647 := by
  intro i
  induction i with
  | zero => exact Nat.le_refl _
  | succ i ih =>
    rw [mnI]
    split <;> omega
theorem mn_le2 {p : Nat → Nat} {B : Nat} (h : p 0 ≤ B) : ∀ i, 0 < i → mnI p i ≤ B ∨ mnI p i ≤ p 0 := by
  intro i
  induction i with
  | zero => intro q; omega
  | succ i ih =>
    intro _
    by_cases e : i = 0
    · subst e
      rw [mnI]
      split
      · exact Or.inr (Nat.le_refl _)
      · rename_i z
        rw [mnI] at z ⊢
        exact Or.inr (by omega)
    · rw [mnI]
      have := ih (by omega)
      split
      · rename_i z
        rcases this with q | q
        · exact Or.inl (by omega)
        · exact Or.inr (by omega)
      · exact this
section
variable (M : Nat) (pp vv : Nat → Nat) (hh : Nat → H4) (ww : Nat → Nat → Nat) (w9 : Nat → Nat)
def baC (x y : Nat) : Nat := sq2 (pp x) (pp y) + dif (vv x) (vv y) / 10 + 1000000 * ww x y
def stC (x y : Nat) : Nat := cpN (hh x) 1 + cpN (hh y) 2
def tuC (x y : Nat) : Nat := cpN (hh x) 2 + cpN (hh y) 1
def cC (x y : Nat) : Nat := baC pp vv ww x y + (if tuC hh x y < stC hh x y then tuC hh x y else stC hh x y)
def aC (x : Nat) : Nat := sq2 (pp x) (mnI pp M) + 1000000 * w9 x
end
theorem cp_bd (h : H4) (c : Nat) : cpN h c ≤ 1000040 := by
  unfold cpN
  split <;> split <;> omega
theorem sq_bd {a b : Nat} (ha : a ≤ 12) (hb : b ≤ 12) : sq2 a b ≤ 28800 := by
  unfold sq2
  have h : dif a b ≤ 12 := by unfold dif; omega
  have h1 : dif a b * dif a b ≤ 12 * 12 := Nat.mul_le_mul h h
  rw [Nat.mul_assoc]
  omega
theorem cC_bd {pp vv : Nat → Nat} {hh : Nat → H4} {ww : Nat → Nat → Nat} {x y : Nat} (h1 : pp x ≤ 12) (h2 : pp y ≤ 12) (h3 : vv x ≤ 3025) (h4 : vv y ≤ 3025) (h5 : ww x y ≤ 1) : cC pp vv hh ww x y ≤ 4000000 ∧ stC hh x y ≤ 2000080 ∧ tuC hh x y ≤ 2000080 ∧ baC pp vv ww x y ≤ 1100000 := by
  have q1 := sq_bd h1 h2
  have q2 : dif (vv x) (vv y) ≤ 3025 := by unfold dif; omega
  have c1 := cp_bd (hh x) 1
  have c2 := cp_bd (hh y) 2
  have c3 := cp_bd (hh x) 2
  have c4 := cp_bd (hh y) 1
  have s1 : stC hh x y ≤ 2000080 := by unfold stC; omega
  have s2 : tuC hh x y ≤ 2000080 := by unfold tuC; omega
  have b1 : baC pp vv ww x y ≤ 1100000 := by unfold baC; omega
  refine ⟨?_, s1, s2, b1⟩
  unfold cC
  split <;> omega
theorem aC_bd {M : Nat} {pp w9 : Nat → Nat} {x : Nat} (h1 : pp x ≤ 12) (h2 : pp 0 ≤ 12) (hM : 0 < M) (h5 : w9 x ≤ 1) : aC M pp w9 x ≤ 4000000 := by
  have h : mnI pp M ≤ 12 := by
    rcases mn_le2 h2 M hM with q | q <;> omega
  have := sq_bd h1 h
  unfold aC
  omega
/-- what the class prices from -/
def Psrc (M : Nat) (pp vv : Nat → Nat) (hh : Nat → H4) (ww : Nat → Nat → Nat) (w9 : Nat → Nat) (who : Nat → Nat) (g : G) : Prop := g 27 11 = nI M ∧ ∀ x, x < M → (who x < 24 ∧ g 28 x = nI (who x) ∧ g 19 (who x) = nI (pp x) ∧ pp x ≤ 12 ∧ g 30 x = nI (vv x) ∧ vv x ≤ 3025) ∧ (g 31 x = nI (hh x).1 - nI (hh x).2.1 ∧ g 32 x = dcC (hh x).2.2.1 ∧ g 33 x = dcC (hh x).2.2.2 ∧ (hh x).1 ≤ 6 ∧ (hh x).2.1 ≤ 6 ∧ (hh x).2.2.1 ≤ 2 ∧ (hh x).2.2.2 ≤ 2) ∧ (∀ y, y < M → x ≠ y → g 34 (11 * x + y) = nI (ww x y) ∧ ww x y ≤ 1) ∧ g 34 (11 * x + 10) = nI (w9 x) ∧ w9 x ≤ 1
theorem Psrc.cg {M : Nat} {pp vv : Nat → Nat} {hh : Nat → H4} {ww : Nat → Nat → Nat} {w9 : Nat → Nat} {who : Nat → Nat} {g s : G} (h : Psrc M pp vv hh ww w9 who g) (x : ∀ a, a ≠ 35 → a ≠ 36 → s a = g a) : Psrc M pp vv hh ww w9 who s := by
  unfold Psrc
  rw [x 27 (by decide) (by decide), x 28 (by decide) (by decide), x 19 (by decide) (by decide), x 30 (by decide) (by decide), x 31 (by decide) (by decide), x 32 (by decide) (by decide), x 33 (by decide) (by decide), x 34 (by decide) (by decide)]
  exact h
theorem c_colP {x col : Nat} {h : H4} {g : G} (hx : x < 10) (hcol : col = 1 ∨ col = 2) (e1 : g 31 x = nI h.1 - nI h.2.1) (e2 : g 32 x = dcC h.2.2.1) (e3 : g 33 x = dcC h.2.2.2) (b1 : h.1 ≤ 6) (b2 : h.2.1 ≤ 6) (b3 : h.2.2.1 ≤ 2) (b4 : h.2.2.2 ≤ 2) : f_X0_colourPrice (nI x) (if col = 1 then nI 1 else -nI 1) g = some (nI (cpN h col), g) := by
  obtain ⟨wc, bc, lat, bef⟩ := h
  dsimp only at e1 e2 e3 b1 b2 b3 b4
  have tip : (g 31 x) * (if col = 1 then nI 1 else -nI 1) ≤ 0 ↔ ¬ ((col = 1 ∧ bc < wc) ∨ (col = 2 ∧ wc < bc)) := by
    rw [e1]
    rcases hcol with rfl | rfl
    · rw [if_pos rfl, show nI 1 = 1 from rfl, Int32.mul_one, bal_le (by omega) (by omega)]
      omega
    · rw [if_neg (by decide), Int32.mul_neg, show nI 1 = 1 from rfl, Int32.mul_one, Int32.neg_sub, bal_le (by omega) (by omega)]
      omega
  have eL : g 32 x = (if col = 1 then nI 1 else -nI 1) ↔ lat = col := by
    rw [e2]
    have : lat = 0 ∨ lat = 1 ∨ lat = 2 := by omega
    unfold dcC
    rcases this with rfl | rfl | rfl <;> rcases hcol with rfl | rfl <;> decide
  have eB : g 33 x = (if col = 1 then nI 1 else -nI 1) ↔ bef = col := by
    rw [e3]
    have : bef = 0 ∨ bef = 1 ∨ bef = 2 := by omega
    unfold dcC
    rcases this with rfl | rfl | rfl <;> rcases hcol with rfl | rfl <;> decide
  generalize (if col = 1 then nI 1 else -nI 1) = cc at *
  unfold f_X0_colourPrice cpN
  refine q_ck x rfl hx (by decide) ?_
  have s3 : (if ((g 31 x) * cc) ≤ 0 then some ((0 : Int32)) else some ((1 : Int32)) : Option Int32) = some (if (col = 1 ∧ bc < wc) ∨ (col = 2 ∧ wc < bc) then nI 1 else nI 0) := by
    by_cases q : (col = 1 ∧ bc < wc) ∨ (col = 2 ∧ wc < bc)
    · rw [if_pos q]; exact q_if_f (fun z => tip.mp z q) rfl
    · rw [if_neg q]; exact q_if_t (tip.mpr q) rfl
  refine q_bd s3 ?_
  refine q_ck x rfl hx (by decide) ?_
  have s15 : ∀ (k : Int32 → Option (Int32 × G)), bd ((if (if (col = 1 ∧ bc < wc) ∨ (col = 2 ∧ wc < bc) then nI 1 else nI 0) = 0 then some ((0 : Int32)) else some ((40 : Int32)) : Option (Int32))) k = k (nI (if (col = 1 ∧ bc < wc) ∨ (col = 2 ∧ wc < bc) then 40 else 0)) := by
    intro k
    by_cases q : (col = 1 ∧ bc < wc) ∨ (col = 2 ∧ wc < bc)
    · rw [if_pos q, if_pos q]; rfl
    · rw [if_neg q, if_neg q]; rfl
  have s15' : ∀ (k : Int32 → Option (Unit ⊕ (Int32 × G))), bd ((if (if (col = 1 ∧ bc < wc) ∨ (col = 2 ∧ wc < bc) then nI 1 else nI 0) = 0 then some ((0 : Int32)) else some ((40 : Int32)) : Option (Int32))) k = k (nI (if (col = 1 ∧ bc < wc) ∨ (col = 2 ∧ wc < bc) then 40 else 0)) := by
    intro k
    by_cases q : (col = 1 ∧ bc < wc) ∨ (col = 2 ∧ wc < bc)
    · rw [if_pos q, if_pos q]; rfl
    · rw [if_neg q, if_neg q]; rfl
  generalize (if (col = 1 ∧ bc < wc) ∨ (col = 2 ∧ wc < bc) then 40 else 0) = z40 at *
  by_cases q : lat = col ∧ bef = col
  · rw [if_pos (show lat = col ∧ bef = col from q)]
    refine q_bd (a := .inr (nI (z40 + 1000000), g)) (q_if_t (eL.mpr q.1) (q_ck x rfl hx (by decide) (q_if_t (eB.mpr q.2) ?_))) rfl
    rw [s15']
    refine q_if_f (by decide) ?_
    rw [l_1000000, nI_add]
  · have e0 : (if lat = col ∧ bef = col then 1000000 else 0) = 0 := if_neg q
    rw [show ((if (wc, bc, lat, bef).2.2.1 = col ∧ (wc, bc, lat, bef).2.2.2 = col then 1000000 else 0) : Nat) = 0 from e0]
    have f1 : (if (g 32 x) = cc then ck (nI x) 10 fun j12 => if (g 33 j12) = cc then bd ((if (if (col = 1 ∧ bc < wc) ∨ (col = 2 ∧ wc < bc) then nI 1 else nI 0) = 0 then some ((0 : Int32)) else some ((40 : Int32)) : Option (Int32))) fun (s15 : Int32) => if (1 : Int32) = 0 then some (.inr (((s15 + (0 : Int32)), g))) else some (.inr (((s15 + (1000000 : Int32)), g))) else some (.inl ()) else some (.inl ()) : Option ((Unit) ⊕ (Int32 × G))) = some (.inl ()) := by
      by_cases l1 : lat = col
      · exact q_if_t (eL.mpr l1) (q_ck x rfl hx (by decide) (q_if_f (fun z => q ⟨l1, eB.mp z⟩) rfl))
      · exact q_if_f (fun z => l1 (eL.mp z)) rfl
    refine q_bd f1 ?_
    show bd _ _ = _
    rw [s15]
    refine q_if_t rfl ?_
    rw [l_0, nI_add]
theorem c_base {x y w a b : Nat} {g : G} (hx : x < 10) (hy : y ≤ 10) (e : g 34 (11 * x + y) = nI w) (hw : w ≤ 1) : f_X0_basePrice (nI x) (nI y) (nI a - nI b) g = some (nI (sq2 a b + 1000000 * w), g) := by
  have ix : nI x * 11 + nI y = nI (11 * x + y) := by rw [show (11 : Int32) = nI 11 from rfl, pk_mul, nI_add, Nat.mul_comm]
  unfold f_X0_basePrice
  refine q_ck (11 * x + y) ix (by omega) (by decide) ?_
  rw [sq_eq]
  have : w = 0 ∨ w = 1 := by omega
  rcases this with rfl | rfl
  · refine q_if_t e ?_
    rw [l_0, nI_add]
  · refine q_if_f (by rw [e]; decide) ?_
    rw [l_1000000, nI_add]
theorem c_priceTwo {M x y : Nat} {pp vv : Nat → Nat} {hh : Nat → H4} {ww : Nat → Nat → Nat} {w9 : Nat → Nat} {who : Nat → Nat} {g : G} (h : Psrc M pp vv hh ww w9 who g) (M10 : M ≤ 10) (hxy : x < y) (hy : y < M) : f_X0_priceTwo (nI x) (nI y) (nI (pp x) - nI (pp y)) g = some (nI 0, up2 (up2 g 35 (11 * x + y) (nI (if tuC hh x y < stC hh x y then 1 else 0))) 36 (11 * x + y) (nI (cC pp vv hh ww x y))) := by
  obtain ⟨-, hP⟩ := h
  obtain ⟨⟨a1, a2, a3, a4, a5, a6⟩, ⟨b1, b2, b3, b4, b5, b6, b7⟩, c1, -⟩ := hP x (by omega)
  obtain ⟨⟨-, -, -, d4, d5, d6⟩, ⟨e1, e2, e3, e4, e5, e6, e7⟩, -⟩ := hP y hy
  obtain ⟨c1, c2⟩ := c1 y hy (by omega)
  have p1 := c_colP (x := x) (col := 1) (h := hh x) (g := g) (by omega) (Or.inl rfl) b1 b2 b3 b4 b5 b6 b7
  have p2 := c_colP (x := y) (col := 2) (h := hh y) (g := g) (by omega) (Or.inr rfl) e1 e2 e3 e4 e5 e6 e7
  have p3 := c_colP (x := x) (col := 2) (h := hh x) (g := g) (by omega) (Or.inr rfl) b1 b2 b3 b4 b5 b6 b7
  have p4 := c_colP (x := y) (col := 1) (h := hh y) (g := g) (by omega) (Or.inl rfl) e1 e2 e3 e4 e5 e6 e7
  obtain ⟨k1, k2, k3, k4⟩ := cC_bd (hh := hh) a4 d4 a6 d6 c2
  have ix : nI x * 11 + nI y = nI (11 * x + y) := by rw [show (11 : Int32) = nI 11 from rfl, pk_mul, nI_add, Nat.mul_comm]
  have est : nI (cpN (hh x) 1) + nI (cpN (hh y) 2) = nI (stC hh x y) := nI_add _ _
  have etu : nI (cpN (hh x) 2) + nI (cpN (hh y) 1) = nI (tuC hh x y) := nI_add _ _
  unfold f_X0_priceTwo
  refine q_call p1 ?_
  refine q_call p2 ?_
  refine q_call p3 ?_
  refine q_call p4 ?_
  rw [est, etu]
  have s10 : (if nI (stC hh x y) ≤ nI (tuC hh x y) then some ((0 : Int32)) else some ((1 : Int32)) : Option Int32) = some (nI (if tuC hh x y < stC hh x y then 1 else 0)) := by
    by_cases q : tuC hh x y < stC hh x y
    · rw [if_pos q]; exact q_if_f (nI_ge q (by omega)) rfl
    · rw [if_neg q]; exact q_if_t (nI_le (by omega) (by omega)) rfl
  refine q_bd s10 ?_
  refine q_ck (11 * x + y) ix (by omega) (by decide) ?_
  refine q_bz (by split; exact Or.inr rfl; exact Or.inl rfl) ?_
  refine q_wr ?_
  refine q_call (c_base (x := x) (y := y) (by omega) (by omega) (by rw [up2_ne (by decide)]; exact c1) c2) ?_
  refine q_ck x rfl (by omega) (by decide) ?_
  refine q_ck y rfl (by omega) (by decide) ?_
  rw [up2_ne (show 30 ≠ 35 by decide), a5, d5]
  have hab : f_J9_abs_0f7a4 (nI (vv x) - nI (vv y)) (up2 g 35 (11 * x + y) (nI (if tuC hh x y < stC hh x y then 1 else 0))) = some (nI (dif (vv x) (vv y)), up2 g 35 (11 * x + y) (nI (if tuC hh x y < stC hh x y then 1 else 0))) := by
    unfold f_J9_abs_0f7a4
    rcases abs_eq (a := vv x) (b := vv y) (by omega) (by omega) with ⟨q1, q2⟩ | ⟨q1, q2⟩
    · rw [if_pos q1, q2]
    · rw [if_neg q1, q2]
  refine q_call hab ?_
  have hmin : f_J9_min_7cf53 (nI (stC hh x y)) (nI (tuC hh x y)) (up2 g 35 (11 * x + y) (nI (if tuC hh x y < stC hh x y then 1 else 0))) = some (nI (if tuC hh x y < stC hh x y then tuC hh x y else stC hh x y), up2 g 35 (11 * x + y) (nI (if tuC hh x y < stC hh x y then 1 else 0))) := by
    generalize up2 g 35 (11 * x + y) (nI (if tuC hh x y < stC hh x y then 1 else 0)) = gg
    unfold f_J9_min_7cf53
    by_cases q : tuC hh x y < stC hh x y
    · rw [if_pos (nI_lt q (by omega)), if_pos q]
    · rw [if_neg (nI_nlt (by omega) (by omega)), if_neg q]
  refine q_call hmin ?_
  refine q_ck (11 * x + y) ix (by omega) (by decide) ?_
  have hd : dif (vv x) (vv y) ≤ 3025 := by unfold dif; omega
  have ev : nI (sq2 (pp x) (pp y) + 1000000 * ww x y) + nI (dif (vv x) (vv y)) / 10 + nI (if tuC hh x y < stC hh x y then tuC hh x y else stC hh x y) = nI (cC pp vv hh ww x y) := by
    rw [l_10, pk_div (by omega) (by omega) (by omega), nI_add, nI_add]
    congr 1
    unfold cC baC
    omega
  rw [ev]
  rfl
theorem c_priceAll {M : Nat} {pp vv : Nat → Nat} {hh : Nat → H4} {ww : Nat → Nat → Nat} {w9 : Nat → Nat} {who : Nat → Nat} {g : G} (h : Psrc M pp vv hh ww w9 who g) (M10 : M ≤ 10) : Ev (f_X0_priceAll g) (fun q => (∀ a, a ≠ 35 → a ≠ 36 → q.2 a = g a) ∧ (∀ i j, i < j → j < M → q.2 36 (11 * i + j) = nI (cC pp vv hh ww i j) ∧ q.2 35 (11 * i + j) = nI (if tuC hh i j < stC hh i j then 1 else 0)) ∧ ∀ i, i < M → q.2 36 (11 * i + 10) = nI (aC M pp w9 i)) := by
  have h0 := h
  obtain ⟨h11, hP⟩ := h
  unfold f_X0_priceAll
  have lst : lp (fun (s4 : Int32 × Int32 × G) => (if (s4.2.2 27 11) ≤ s4.2.1 then some (.inr (s4.1, s4.2.2)) else ck s4.2.1 10 fun j9 => ck (s4.2.2 28 j9) 24 fun j10 => bd2 (f_J9_min_7cf53 s4.1 (s4.2.2 19 j10) s4.2.2) fun r11 g12 => some (.inl (r11, (s4.2.1 + (1 : Int32)), g12)) : Option ((Int32 × Int32 × G) ⊕ (Int32 × G)))) 2000 ((2147483647 : Int32), (0 : Int32), g) = some (nI (mnI pp M), g) := by
    refine q_lp (fun i => (nI (mnI pp i), nI i, g)) M (fun i hi => ?_) ?_ (by omega) rfl
    · obtain ⟨⟨a1, a2, a3, a4, -⟩, -⟩ := hP i hi
      have := mn_le pp i
      dsimp only
      refine q_if_f (by rw [h11]; exact nI_ge hi (by omega)) ?_
      refine q_ck i rfl (by omega) (by decide) ?_
      refine q_ck (who i) a2 a1 (by decide) ?_
      rw [a3, mnI]
      have hmin : f_J9_min_7cf53 (nI (mnI pp i)) (nI (pp i)) g = some (nI (if pp i < mnI pp i then pp i else mnI pp i), g) := by
        unfold f_J9_min_7cf53
        by_cases q : pp i < mnI pp i
        · rw [if_pos (nI_lt q (by omega)), if_pos q]
        · rw [if_neg (nI_nlt (by omega) (by omega)), if_neg q]
      refine q_call hmin ?_
      rw [nI_1]
    · exact q_if_t (by show g 27 11 ≤ nI M; rw [h11]; exact Int32.le_refl _) rfl
  refine ev_bd (Ev.of lst ?_)
  refine ev_bd ?_
  refine ev_lp (I := fun x s => s.1 = nI x ∧ (∀ a, a ≠ 35 → a ≠ 36 → s.2 a = g a) ∧ (∀ i j, i < j → j < M → i < x → s.2 36 (11 * i + j) = nI (cC pp vv hh ww i j) ∧ s.2 35 (11 * i + j) = nI (if tuC hh i j < stC hh i j then 1 else 0)) ∧ ∀ i, i < x → s.2 36 (11 * i + 10) = nI (aC M pp w9 i)) M ?_ ?_ 2000 0 _ (Nat.zero_le _) (by omega) ⟨rfl, fun _ _ _ => rfl, fun i j _ _ q => absurd q (Nat.not_lt_zero i), fun i q => absurd q (Nat.not_lt_zero i)⟩
  · rintro x ⟨z, s⟩ hx ⟨rfl, i1, i2, i3⟩
    dsimp only at i1 i2 i3
    have hs := h0.cg i1
    obtain ⟨s11, sP⟩ := hs
    obtain ⟨⟨a1, a2, a3, a4, -⟩, -, -, c1, c2⟩ := sP x hx
    have ix : nI x * 11 + 10 = nI (11 * x + 10) := by rw [show (11 : Int32) = nI 11 from rfl, pk_mul, l_10, nI_add, Nat.mul_comm]
    dsimp only
    refine ev_f (by rw [s11]; exact nI_ge hx (by omega)) ?_
    refine ev_ck x rfl (by omega) (by decide) ?_
    refine ev_ck (who x) a2 a1 (by decide) ?_
    rw [a3]
    refine ev_call (c_base (x := x) (y := 10) (by omega) (by omega) c1 c2) ?_
    refine ev_ck (11 * x + 10) ix (by omega) (by decide) ?_
    refine ev_wr ?_
    refine ev_bd ?_
    refine ev_lp (I := fun k s' => s'.1 = nI (x + 1 + k) ∧ (∀ a, a ≠ 35 → a ≠ 36 → s'.2 a = g a) ∧ (∀ i j, i < j → j < M → (i < x ∨ (i = x ∧ j < x + 1 + k)) → s'.2 36 (11 * i + j) = nI (cC pp vv hh ww i j) ∧ s'.2 35 (11 * i + j) = nI (if tuC hh i j < stC hh i j then 1 else 0)) ∧ ∀ i, i < x + 1 → s'.2 36 (11 * i + 10) = nI (aC M pp w9 i)) (M - (x + 1)) ?_ ?_ 2000 0 _ (Nat.zero_le _) (by omega) ⟨nI_1 x, fun a a1 a2 => ?_, fun i j hij hj q => ?_, fun i hi => ?_⟩
    · rintro k ⟨z, s'⟩ hk ⟨rfl, j1, j2, j3⟩
      dsimp only at j1 j2 j3
      have hs' := h0.cg j1
      obtain ⟨t11, tP⟩ := id hs'
      have hyM : x + 1 + k < M := by omega
      obtain ⟨⟨u1, u2, u3, u4, -⟩, -⟩ := tP x hx
      obtain ⟨⟨v1, v2, v3, v4, -⟩, -⟩ := tP _ hyM
      generalize hy : x + 1 + k = y at *
      have pr := c_priceTwo (x := x) (y := y) hs' M10 (by omega) hyM
      refine Ev.of (a := .inl (nI (y + 1), up2 (up2 s' 35 (11 * x + y) (nI (if tuC hh x y < stC hh x y then 1 else 0))) 36 (11 * x + y) (nI (cC pp vv hh ww x y)))) ?_ ⟨by rw [show x + 1 + (k + 1) = y + 1 from by omega], fun a a1 a2 => ?_, fun i j hij hj q => ?_, fun i hi => ?_⟩
      · dsimp only
        refine q_if_f (by rw [t11]; exact nI_ge hyM (by omega)) ?_
        refine q_ck x rfl (by omega) (by decide) ?_
        refine q_ck (who x) u2 u1 (by decide) ?_
        refine q_ck y rfl (by omega) (by decide) ?_
        refine q_ck (who y) v2 v1 (by decide) ?_
        rw [u3, v3]
        refine q_call pr ?_
        rw [nI_1]
      · dsimp only
        rw [up2_ne a2, up2_ne a1]; exact j1 a a1 a2
      · dsimp only
        by_cases e : i = x ∧ j = y
        · obtain ⟨rfl, rfl⟩ := e
          rw [up2_eq, upd_eq, up2_ne (by decide), up2_eq, upd_eq]
          exact ⟨rfl, rfl⟩
        · rw [up2_eq, upd_ne (by omega), up2_ne (by decide), up2_ne (by decide), up2_eq, upd_ne (by omega)]
          exact j2 i j hij hj (by omega)
      · dsimp only
        rw [up2_eq, upd_ne (by omega), up2_ne (by decide)]
        exact j3 i hi
    · rintro ⟨z, s'⟩ ⟨rfl, j1, j2, j3⟩
      dsimp only at j1 j2 j3
      rw [show x + 1 + (M - (x + 1)) = M from by omega] at j2 ⊢
      refine Ev.of (a := .inr s') (q_if_t (by show s' 27 11 ≤ nI M; rw [j1 27 (by decide) (by decide), h11]; exact Int32.le_refl _) rfl) ?_
      refine ev_some ⟨nI_1 x, j1, fun i j hij hj q => j2 i j hij hj (by omega), j3⟩
    · dsimp only
      rw [up2_ne a2]; exact i1 a a1 a2
    · dsimp only
      rw [up2_eq, upd_ne (by omega), up2_ne (by decide)]
      exact i2 i j hij hj (by omega)
    · dsimp only
      rw [up2_eq]
      by_cases e : i = x
      · subst e
        rw [upd_eq]
        rfl
      · rw [upd_ne (by omega)]; exact i3 i (by omega)
  · rintro ⟨z, s⟩ ⟨rfl, i1, i2, i3⟩
    dsimp only at i1 i2 i3
    exact Ev.of (a := .inr s) (q_if_t (by show s 27 11 ≤ nI M; rw [i1 27 (by decide) (by decide), h11]; exact Int32.le_refl _) rfl) (ev_some ⟨i1, fun i j hij hj => i2 i j hij hj (by omega), i3⟩)
