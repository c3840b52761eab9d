/-! Players: who there is; worth and step, as rows of bodies, an answer and a finding. -/
theorem c_has_0 {x : Int32} {np : Nat} {g : G} (e : g 3 4 = nI np) (h : x < 0 ∨ nI np ≤ x) : f_X5_has x g = some (0, g) := by
  unfold f_X5_has
  exact if_out e h
theorem c_has_1 {p np : Nat} {g : G} (e : g 3 4 = nI np) (hp : p < np) (hn : np ≤ 24) : f_X5_has (nI p) g = some (1, g) := by
  unfold f_X5_has
  exact if_inn e hp (by omega)
theorem m_is_0 {x : Int32} {np : Nat} {g : G} (e : g 159 3 = nI np) (hn : np ≤ 24) (h : x < 0 ∨ nI np ≤ x) : f_X9_isPlayer x g = some (0, g) := by
  unfold f_X9_isPlayer
  exact q_call (in_O (by rw [e]) (by omega) h) (q_bz (Or.inl rfl) rfl)
theorem m_is_1 {p np : Nat} {g : G} (e : g 159 3 = nI np) (hp : p < np) (hn : np ≤ 24) : f_X9_isPlayer (nI p) g = some (1, g) := by
  unfold f_X9_isPlayer
  exact q_call (in_I (by rw [e]) (by omega) hp) (q_bz (Or.inr rfl) rfl)
theorem c_isTeam {p : Nat} {g : G} (hp : p < 24) : f_X5_isTeam (nI p) g = some (if g 4 p = 3 then 1 else 0, g) := by
  unfold f_X5_isTeam
  refine q_ck p rfl hp (by decide) ?_
  by_cases h : g 4 p = 3
  · exact q_if_t h (by rw [if_pos h])
  · exact q_if_f h (by rw [if_neg h])
/-- a solo one: bodies, answer, finding -/
def soE (kd bs : Nat → Int32) (p : Nat) : List Int32 × Int32 × Int32 :=
  if kd p = 0 then ([10], bs p, 0) else if kd p = 1 then ([11], if bs p ≤ 1500 then bs p else 1500, 0) else if kd p = 2 then ([12, 10], bs p + 25, 0) else ([], -5, 3)
/-- those in the places k, k + 1, .. of a team (n of them) -/
def teL (kd bs hd : Nat → Int32) (p : Nat) : Nat → Nat → Int32 → List Int32 × Int32 × Int32
  | 0, _, acc => ([], acc, 0)
  | n + 1, k, acc => if hd (4 * p + k) = -1 then ([], -5, 1) else
      if (soE kd bs (hd (4 * p + k)).toNatClampNeg).2.2 = 0 then
        ((soE kd bs (hd (4 * p + k)).toNatClampNeg).1 ++ (teL kd bs hd p n (k + 1) (acc + (soE kd bs (hd (4 * p + k)).toNatClampNeg).2.1)).1, (teL kd bs hd p n (k + 1) (acc + (soE kd bs (hd (4 * p + k)).toNatClampNeg).2.1)).2)
      else ((soE kd bs (hd (4 * p + k)).toNatClampNeg).1, -5, (soE kd bs (hd (4 * p + k)).toNatClampNeg).2.2)
def woE (kd bs pl hd : Nat → Int32) (p : Nat) : List Int32 × Int32 × Int32 :=
  if kd p = 3 then
    if pl p = -1 then ([13], -5, 1) else
      if (teL kd bs hd p (pl p).toNatClampNeg 0 0).2.2 = 0 then
        if pl p = 0 then (13 :: (teL kd bs hd p (pl p).toNatClampNeg 0 0).1, -5, 4) else (13 :: (teL kd bs hd p (pl p).toNatClampNeg 0 0).1, (teL kd bs hd p (pl p).toNatClampNeg 0 0).2.1 / pl p, 0)
      else (13 :: (teL kd bs hd p (pl p).toNatClampNeg 0 0).1, -5, (teL kd bs hd p (pl p).toNatClampNeg 0 0).2.2)
  else soE kd bs p
theorem so_0 {kd bs : Nat → Int32} {p : Nat} (h : kd p = 0) : soE kd bs p = ([10], bs p, 0) := if_pos h
theorem so_1 {kd bs : Nat → Int32} {p : Nat} (h : kd p = 1) : soE kd bs p = ([11], if bs p ≤ 1500 then bs p else 1500, 0) := by
  unfold soE
  rw [if_neg (by rw [h]; decide), if_pos h]
theorem so_2 {kd bs : Nat → Int32} {p : Nat} (h : kd p = 2) : soE kd bs p = ([12, 10], bs p + 25, 0) := by
  unfold soE
  rw [if_neg (by rw [h]; decide), if_neg (by rw [h]; decide), if_pos h]
theorem so_x {kd bs : Nat → Int32} {p : Nat} (h0 : ¬ kd p = 0) (h1 : ¬ kd p = 1) (h2 : ¬ kd p = 2) : soE kd bs p = ([], -5, 3) := by
  unfold soE
  rw [if_neg h0, if_neg h1, if_neg h2]
theorem c_min {a b : Int32} {g : G} : f_J9_min_7cf53 a b g = some (if a ≤ b then a else b, g) := by
  unfold f_J9_min_7cf53
  by_cases h : a ≤ b
  · rw [if_pos h]
    exact q_if_f (Int32.not_lt.mpr h) rfl
  · rw [if_neg h]
    exact q_if_t (Int32.not_le.mp h) rfl
theorem c_solo {p : Nat} {g : G} (hp : p < 24) (hL : Lc g) : f_X5_soloWorth (nI p) g = some ((soE (g 4) (g 5) p).2.1, cE (soE (g 4) (g 5) p).1 (soE (g 4) (g 5) p).2.2 g) := by
  unfold f_X5_soloWorth
  refine q_ck p rfl hp (by decide) ?_
  by_cases h0 : g 4 p = 0
  · rw [so_0 h0]
    refine q_if_t h0 ?_
    refine q_call (c_write hL) ?_
    refine q_ck p rfl hp (by decide) ?_
    rfl
  · refine q_if_f h0 ?_
    by_cases h1 : g 4 p = 1
    · rw [so_1 h1]
      refine q_if_t h1 ?_
      refine q_call (c_write hL) ?_
      refine q_ck p rfl hp (by decide) ?_
      refine q_call c_min ?_
      rfl
    · refine q_if_f h1 ?_
      by_cases h2 : g 4 p = 2
      · rw [so_2 h2]
        refine q_if_t h2 ?_
        refine q_call (c_write hL) ?_
        refine q_call (c_write hL.cE) ?_
        refine q_ck p rfl hp (by decide) ?_
        rw [cE_cE]
        rfl
      · rw [so_x h0 h1 h2]
        refine q_if_f h2 ?_
        refine q_call (c_met (by decide)) ?_
        rfl
theorem m_solo {p : Nat} {g : G} (hp : p < 24) (hL : Lm g) (hk : g 161 p = 0 ∨ g 161 p = 1 ∨ g 161 p = 2) : f_X9_soloWorth (nI p) g = some ((soE (g 161) (g 162) p).2.1, mE (soE (g 161) (g 162) p).1 0 g) := by
  unfold f_X9_soloWorth
  refine q_ck p rfl hp (by decide) ?_
  rcases hk with h | h | h
  · rw [so_0 h]
    refine q_if_f (by rw [h]; decide) ?_
    refine q_ck p rfl hp (by decide) ?_
    refine q_bd (q_if_f (by rw [h]; decide) rfl) ?_
    refine q_call (m_began hL) ?_
    refine q_ck p rfl hp (by decide) ?_
    refine q_if_f (by show ¬ g 161 p = 2; rw [h]; decide) ?_
    refine q_ck p rfl hp (by decide) ?_
    rfl
  · rw [so_1 h]
    refine q_if_t h ?_
    refine q_call (m_began hL) ?_
    refine q_ck p rfl hp (by decide) ?_
    by_cases hb : g 162 p ≤ 1500
    · rw [if_pos hb]
      refine q_if_t hb ?_
      refine q_ck p rfl hp (by decide) ?_
      rfl
    · rw [if_neg hb]
      refine q_if_f hb ?_
      rfl
  · rw [so_2 h]
    refine q_if_f (by rw [h]; decide) ?_
    refine q_ck p rfl hp (by decide) ?_
    refine q_bd (q_if_t h (q_call (m_began hL) rfl)) ?_
    refine q_call (m_began hL.mE) ?_
    refine q_ck p rfl hp (by decide) ?_
    rw [mE_mE]
    refine q_if_t h ?_
    refine q_ck p rfl hp (by decide) ?_
    rfl
