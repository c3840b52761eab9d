/-! step. -/
theorem up2_1 {g : G} {a k : Nat} {f : Nat → Int32} {v : Int32} : up2 (up1 g a f) a k v = up1 g a (upd f k v) := by
  funext b
  unfold up2 up1
  by_cases h : b = a
  · subst h; simp
  · simp [h]
theorem up2_11 {g : G} {a k k' : Nat} {v v' : Int32} : up2 (up2 g a k v) a k' v' = up1 g a (upd (upd (g a) k v) k' v') := up2_1
def w5 (f : Nat → Int32) (B : Nat) (a b c d e : Int32) : Nat → Int32 := upd (upd (upd (upd (upd f B a) (B + 1) b) (B + 2) c) (B + 3) d) (B + 4) e
theorem up2_w5 {g : G} {a B : Nat} {x0 x1 x2 x3 x4 : Int32} : up2 (up2 (up2 (up2 (up2 g a B x0) a (B + 1) x1) a (B + 2) x2) a (B + 3) x3) a (B + 4) x4 = up1 g a (w5 (g a) B x0 x1 x2 x3 x4) := by
  funext b
  unfold up2 up1 w5
  by_cases h : b = a
  · subst h; simp
  · simp [h]
theorem w5_in {f f' : Nat → Int32} {B j : Nat} {a b c d e : Int32} (h : j < 5) : w5 f B a b c d e (B + j) = w5 f' B a b c d e (B + j) := by
  unfold w5 upd
  rcases (show j = 0 ∨ j = 1 ∨ j = 2 ∨ j = 3 ∨ j = 4 by omega) with rfl | rfl | rfl | rfl | rfl <;> simp
theorem w5_off {f : Nat → Int32} {B k : Nat} {a b c d e : Int32} (h : k < B ∨ B + 5 ≤ k) : w5 f B a b c d e k = f k := by
  unfold w5
  rw [upd_ne (by omega), upd_ne (by omega), upd_ne (by omega), upd_ne (by omega), upd_ne (by omega)]
theorem w5_0 {f : Nat → Int32} {B : Nat} {a b c d e : Int32} : w5 f B a b c d e B = a := by
  unfold w5
  rw [upd_ne (by omega), upd_ne (by omega), upd_ne (by omega), upd_ne (by omega), upd_eq]
theorem nI_le' {x : Int32} {n : Nat} (hn : n < 2 ^ 31) : ¬ x ≤ nI n ↔ nI n < x := Int32.not_le
/-- a number between 0 and m, or not -/
theorem if_rng {α : Type} {x m : Int32} {n : Nat} {X Y : α} (e : m = nI n) (hn : n + 1 < 2 ^ 30) (h : x < 0 ∨ nI (n + 1) ≤ x) : (if x < 0 then X else if x ≤ m then Y else X) = X := by
  subst e
  by_cases h0 : x < 0
  · rw [if_pos h0]
  · rw [if_neg h0, if_neg]
    intro q
    have h1 := Int32.le_iff_toInt_le.mp q
    have h2 := Int32.le_iff_toInt_le.mp (h.resolve_left h0)
    rw [nI_toInt (by omega)] at h1 h2
    omega
theorem if_rni {α : Type} {m : Int32} {j n : Nat} {X Y : α} (e : m = nI n) (hn : n < 2 ^ 31) (hj : j < n + 1) : (if nI j < 0 then X else if nI j ≤ m then Y else X) = Y := by
  subst e
  rw [if_neg (nI_pos (by omega)), if_pos (nI_le (by omega) hn)]
theorem c_step_out {a1 a2 a3 a4 a5 a6 : Int32} {g : G} (h : a1 < 0 ∨ nI 4 ≤ a1) : f_X8_step a1 a2 a3 a4 a5 a6 g = some (-2, g) := by
  unfold f_X8_step
  rw [isPlan_0 h]
  rfl
theorem c_step_act {p : Nat} {a2 a3 a4 a5 a6 : Int32} {g : G} (hp : p < 4) (h : a2 < 0 ∨ nI 12 ≤ a2) : f_X8_step (nI p) a2 a3 a4 a5 a6 g = some (-2, g) := by
  unfold f_X8_step
  refine q_call (isPlan_1 hp) (q_if_f (by decide) ?_)
  exact if_rng (n := 11) rfl (by decide) h
theorem openRow_full {p : Nat} {g : G} (hp : p < 4) (h : g 42 p = nI 10) : f_X2_openRow (nI p) g = some (-1, g) := by
  unfold f_X2_openRow
  rw [ck_nI p rfl hp (by decide), h, if_neg (by decide)]
theorem openRow_ok {p n : Nat} {g : G} (hp : p < 4) (hn : n < 10) (h : g 42 p = nI n) : f_X2_openRow (nI p) g = some (nI (50 * p + 5 * n), up2 g 42 p (nI (n + 1))) := by
  unfold f_X2_openRow f_X2_rowOf
  refine q_ck p rfl hp (by decide) (q_if_t (by rw [h]; exact nI_lt hn (by decide)) (q_ck p rfl hp (by decide) (q_wre (w := up2 g 42 p (nI (n + 1))) (by rw [h, l_1, nI_add]) ?_)))
  refine q_call rfl (q_some ?_ rfl)
  rw [h, l_10, l_5, pk_mul, nI_add, pk_mul, show (p * 10 + n) * 5 = 50 * p + 5 * n by omega]
theorem c_step_full {p a : Nat} {a3 a4 a5 a6 : Int32} {g : G} (hp : p < 4) (ha : a < 12) (h : g 42 p = nI 10) : f_X8_step (nI p) (nI a) a3 a4 a5 a6 g = some (-4, g) := by
  unfold f_X8_step
  refine q_call (isPlan_1 hp) (q_if_f (by decide) (q_if_f (nI_pos (by omega)) (q_if_t (nI_le (b := 11) (by omega) (by decide)) ?_)))
  exact q_call (openRow_full hp h) (q_if_f (by decide) rfl)
theorem c_step_ok {p n a : Nat} {a3 a4 a5 a6 : Int32} {g : G} (hp : p < 4) (hn : n < 10) (ha : a < 12) (h : g 42 p = nI n) : f_X8_step (nI p) (nI a) a3 a4 a5 a6 g = some (nI (n + 1), up1 (up2 g 42 p (nI (n + 1))) 44 (w5 (g 44) (50 * p + 5 * n) (nI a) a3 a4 a5 a6)) := by
  unfold f_X8_step
  refine q_call (isPlan_1 hp) (q_if_f (by decide) (q_if_f (nI_pos (by omega)) (q_if_t (nI_le (b := 11) (by omega) (by decide)) ?_)))
  refine q_call (openRow_ok hp hn h) (q_if_t (nI_pos' (by omega)) ?_)
  refine q_ck _ rfl (by omega) (by decide) (q_wr ?_)
  refine q_ck (50 * p + 5 * n + 1) (by rw [l_1, nI_add]) (by omega) (by decide) (q_wr ?_)
  refine q_ck (50 * p + 5 * n + 2) (by rw [l_2, nI_add]) (by omega) (by decide) (q_wr ?_)
  refine q_ck (50 * p + 5 * n + 3) (by rw [l_3, nI_add]) (by omega) (by decide) (q_wr ?_)
  refine q_ck (50 * p + 5 * n + 4) (by rw [l_4, nI_add]) (by omega) (by decide) (q_wr ?_)
  refine q_ck p rfl hp (by decide) ?_
  rw [up2_w5]
  exact q_some (upd_eq (g 42) p _) rfl
theorem m_step_out {a1 a2 a3 a4 a5 a6 : Int32} {g : G} (h : a1 < 0 ∨ nI 4 ≤ a1) : f_X9_step a1 a2 a3 a4 a5 a6 g = some (-2, g) := by
  unfold f_X9_step
  rw [in_O (m := 3) (n := 4) rfl (by decide) h]
  rfl
theorem m_step_act {p : Nat} {a2 a3 a4 a5 a6 : Int32} {g : G} (hp : p < 4) (h : a2 < 0 ∨ nI 12 ≤ a2) : f_X9_step (nI p) a2 a3 a4 a5 a6 g = some (-2, g) := by
  unfold f_X9_step
  refine q_call (in_I (m := 3) (n := 4) rfl (by decide) hp) (q_if_f (by decide) ?_)
  exact q_call (in_O (m := 11) (n := 12) rfl (by decide) h) (q_if_t rfl rfl)
theorem m_step_full {p a : Nat} {a3 a4 a5 a6 : Int32} {g : G} (hp : p < 4) (ha : a < 12) (h : g 172 p = nI 10) : f_X9_step (nI p) (nI a) a3 a4 a5 a6 g = some (-4, g) := by
  unfold f_X9_step
  refine q_call (in_I (m := 3) (n := 4) rfl (by decide) hp) (q_if_f (by decide) ?_)
  refine q_call (in_I (m := 11) (n := 12) rfl (by decide) ha) (q_if_f (by decide) ?_)
  exact q_ck p rfl hp (by decide) (q_if_t h rfl)
theorem m_step_ok {p n a : Nat} {a3 a4 a5 a6 : Int32} {g : G} (hp : p < 4) (hn : n < 10) (ha : a < 12) (h : g 172 p = nI n) : f_X9_step (nI p) (nI a) a3 a4 a5 a6 g = some (nI (n + 1), up2 (up1 g 171 (w5 (g 171) (50 * p + 5 * n) (nI a) a3 a4 a5 a6)) 172 p (nI (n + 1))) := by
  unfold f_X9_step
  refine q_call (in_I (m := 3) (n := 4) rfl (by decide) hp) (q_if_f (by decide) ?_)
  refine q_call (in_I (m := 11) (n := 12) rfl (by decide) ha) (q_if_f (by decide) ?_)
  refine q_ck p rfl hp (by decide) (q_if_f (by rw [h]; exact nI_ne (b := 10) (by omega) (by decide) (by omega)) ?_)
  have e : (50 : Int32) * nI p + 5 * nI n = nI (50 * p + 5 * n) := by rw [l_50, l_5, pk_mul, pk_mul, nI_add]
  refine q_ck p rfl hp (by decide) ?_
  rw [h, e]
  refine q_ck _ rfl (by omega) (by decide) (q_wr ?_)
  refine q_ck (50 * p + 5 * n + 1) (by rw [l_1, nI_add]) (by omega) (by decide) (q_wr ?_)
  refine q_ck (50 * p + 5 * n + 2) (by rw [l_2, nI_add]) (by omega) (by decide) (q_wr ?_)
  refine q_ck (50 * p + 5 * n + 3) (by rw [l_3, nI_add]) (by omega) (by decide) (q_wr ?_)
  refine q_ck (50 * p + 5 * n + 4) (by rw [l_4, nI_add]) (by omega) (by decide) (q_wr ?_)
  refine q_ck p rfl hp (by decide) (q_ck p rfl hp (by decide) ?_)
  rw [up2_w5]
  refine q_wre (w := up2 (up1 g 171 (w5 (g 171) (50 * p + 5 * n) (nI a) a3 a4 a5 a6)) 172 p (nI (n + 1))) ?_ ?_
  · rw [up1_ne (by decide), h, l_1, nI_add]
  · exact q_ck p rfl hp (by decide) (q_some (up2_at _ _ _ _) rfl)
theorem sp_step : Sp6 Inv f_X8_step f_X9_step := by
  intro a1 a2 a3 a4 a5 a6 g hI
  rcases i32_cases a1 4 (by decide) with h | ⟨p, hp, rfl⟩
  · exact ⟨-2, g, g, c_step_out h, m_step_out h, hI⟩
  · rcases i32_cases a2 12 (by decide) with h | ⟨a, ha, rfl⟩
    · exact ⟨-2, g, g, c_step_act hp h, m_step_act hp h, hI⟩
    · obtain ⟨i1, i2, i3, i4, i5, i6, i7⟩ := id hI
      obtain ⟨h1, n, h2, h3, h4, h5⟩ := i3 p hp
      by_cases hn : n = 10
      · subst hn
        exact ⟨-4, g, g, c_step_full hp ha h3, m_step_full hp ha h4, hI⟩
      · have hn : n < 10 := by omega
        refine ⟨_, _, _, c_step_ok hp hn ha h3, m_step_ok hp hn ha h4, ?_⟩
        refine ⟨i1, i2, fun q hq => ?_, i4, i5, i6.off rfl rfl rfl rfl rfl rfl rfl (fun a h1 h2 => ?_), i7⟩
        · obtain ⟨q1, m, q2, q3, q4, q5⟩ := i3 q hq
          refine ⟨q1, ?_⟩
          by_cases e : q = p
          · subst e
            have hm : m = n := nI_inj (by omega) (by omega) (q3.symm.trans h3)
            subst hm
            refine ⟨m + 1, by omega, up2_at g 42 q _, up2_at _ 172 q _, fun i hi => ?_⟩
            show (∃ a', a' ≤ 11 ∧ w5 (g 171) (50 * q + 5 * m) (nI a) a3 a4 a5 a6 (50 * q + 5 * i) = nI a') ∧ ∀ j, j < 5 → w5 (g 44) (50 * q + 5 * m) (nI a) a3 a4 a5 a6 (50 * q + 5 * i + j) = w5 (g 171) (50 * q + 5 * m) (nI a) a3 a4 a5 a6 (50 * q + 5 * i + j)
            by_cases e : i = m
            · subst e
              exact ⟨⟨a, by omega, w5_0⟩, fun j hj => w5_in hj⟩
            · obtain ⟨r1, r2⟩ := q5 i (by omega)
              refine ⟨?_, fun j hj => ?_⟩
              · rw [w5_off (by omega)]
                exact r1
              · rw [w5_off (by omega), w5_off (by omega)]
                exact r2 j hj
          · refine ⟨m, q2, ?_, ?_, fun i hi => ?_⟩
            · show upd (g 42) p _ q = nI m
              rw [upd_ne e, q3]
            · show upd (g 172) p _ q = nI m
              rw [upd_ne e, q4]
            · obtain ⟨r1, r2⟩ := q5 i hi
              show (∃ a', a' ≤ 11 ∧ w5 (g 171) (50 * p + 5 * n) (nI a) a3 a4 a5 a6 (50 * q + 5 * i) = nI a') ∧ ∀ j, j < 5 → w5 (g 44) (50 * p + 5 * n) (nI a) a3 a4 a5 a6 (50 * q + 5 * i + j) = w5 (g 171) (50 * p + 5 * n) (nI a) a3 a4 a5 a6 (50 * q + 5 * i + j)
              refine ⟨?_, fun j hj => ?_⟩
              · rw [w5_off (by omega)]
                exact r1
              · rw [w5_off (by omega), w5_off (by omega)]
                exact r2 j hj
        · rw [up2_ne (by omega), up1_ne (by omega), up1_ne (by omega), up2_ne (by omega)]
