/-! Rows for going through a read-off function by rewriting; every number is nI n or -nI n. -/
theorem bd2_s {β : Type} {v : Int32} {g : G} {k : Int32 → G → Option β} : bd2 (some (v, g)) k = k v g := rfl
theorem bd_s {α β : Type} {a : α} {k : α → Option β} : bd (some a) k = k a := rfl
theorem wr_s {α β : Type} {v : α} {k : α → Option β} : wr v k = k v := rfl
theorem ck_s {α : Type} {j n : Nat} {k : Nat → Option α} (hj : j < n) (hn : n < 2 ^ 31) : ck (nI j) n k = k j := ck_nI j rfl hj hn
theorem bz_s0 {α : Type} {k : Option α} : bz (nI 0) k = k := rfl
theorem bz_s1 {α : Type} {k : Option α} : bz (nI 1) k = k := rfl
theorem dz_s {α : Type} {n : Nat} {k : Option α} (h0 : 0 < n) (h : n < 2 ^ 31) : dz (nI n) k = k := by
  unfold dz
  rw [if_neg (nI_ne0 h0 h)]
theorem nI_litS {n : Nat} : (OfNat.ofNat n : Int32) = nI n := rfl
-- numbers below 0
theorem ng_toInt {b : Nat} (hb : b ≤ 2 ^ 31) : (-nI b).toInt = -(b : Int) := by
  rcases Nat.lt_or_ge b (2 ^ 31) with h | h
  · rw [Int32.toInt_neg, nI_toInt h]
    rw [Int.bmod_eq_of_le (by omega) (by omega)]
  · have e : b = 2 ^ 31 := by omega
    subst e
    decide
theorem i32_split (x : Int32) : (∃ j : Nat, j < 2 ^ 31 ∧ x = nI j) ∨ (∃ j : Nat, 0 < j ∧ j ≤ 2 ^ 31 ∧ x = -nI j) := by
  by_cases h : x < 0
  · right
    have h1 : x.toInt < 0 := Int32.lt_iff_toInt_lt.mp h
    have h2 : -2 ^ 31 ≤ x.toInt := Int32.le_toInt x
    refine ⟨(-x.toInt).toNat, by omega, by omega, ?_⟩
    apply Int32.toInt_inj.mp
    rw [ng_toInt (by omega)]
    omega
  · obtain ⟨j, h1, h2⟩ := nI_of h
    exact Or.inl ⟨j, h1, h2⟩
theorem ng_lt {a b : Nat} (ha : a < 2 ^ 31) (h0 : 0 < b) (hb : b ≤ 2 ^ 31) : (-nI b < nI a) = True := eq_true (by
  rw [Int32.lt_iff_toInt_lt, ng_toInt hb, nI_toInt ha]
  omega)
theorem ng_le {a b : Nat} (ha : a < 2 ^ 31) (h0 : 0 < b) (hb : b ≤ 2 ^ 31) : (-nI b ≤ nI a) = True := eq_true (by
  rw [Int32.le_iff_toInt_le, ng_toInt hb, nI_toInt ha]
  omega)
theorem lt_ng {a b : Nat} (ha : a < 2 ^ 31) (h0 : 0 < b) (hb : b ≤ 2 ^ 31) : (nI a < -nI b) = False := eq_false (by
  rw [Int32.lt_iff_toInt_lt, ng_toInt hb, nI_toInt ha]
  omega)
theorem le_ng {a b : Nat} (ha : a < 2 ^ 31) (h0 : 0 < b) (hb : b ≤ 2 ^ 31) : (nI a ≤ -nI b) = False := eq_false (by
  rw [Int32.le_iff_toInt_le, ng_toInt hb, nI_toInt ha]
  omega)
theorem eq_ng {a b : Nat} (ha : a < 2 ^ 31) (h0 : 0 < b) (hb : b ≤ 2 ^ 31) : (nI a = -nI b) = False := eq_false (fun h => by
  have h := congrArg Int32.toInt h
  rw [ng_toInt hb, nI_toInt ha] at h
  omega)
theorem ng_eq {a b : Nat} (ha : a < 2 ^ 31) (h0 : 0 < b) (hb : b ≤ 2 ^ 31) : (-nI b = nI a) = False := eq_false (fun h => by
  have h := congrArg Int32.toInt h
  rw [ng_toInt hb, nI_toInt ha] at h
  omega)
theorem ng_ngE {a b : Nat} (ha : a ≤ 2 ^ 31) (hb : b ≤ 2 ^ 31) : (-nI a = -nI b) = (a = b) := propext ⟨fun h => by
  have h := congrArg Int32.toInt h
  rw [ng_toInt hb, ng_toInt ha] at h
  omega, fun h => by rw [h]⟩
theorem ng_ngL {a b : Nat} (ha : a ≤ 2 ^ 31) (hb : b ≤ 2 ^ 31) : (-nI a < -nI b) = (b < a) := by
  rw [Int32.lt_iff_toInt_lt, ng_toInt hb, ng_toInt ha]
  exact propext ⟨fun h => by omega, fun h => by omega⟩
theorem ng_ngl {a b : Nat} (ha : a ≤ 2 ^ 31) (hb : b ≤ 2 ^ 31) : (-nI a ≤ -nI b) = (b ≤ a) := by
  rw [Int32.le_iff_toInt_le, ng_toInt hb, ng_toInt ha]
  exact propext ⟨fun h => by omega, fun h => by omega⟩
theorem sub1_lt {n j : Nat} (hn : n < 2 ^ 30) (hj : j < 2 ^ 31) : (nI n - nI 1 < nI j) = (n ≤ j) := by
  have h1 : (nI n - nI 1).toInt = (n : Int) - (1 : Nat) := pk_sub_toInt hn (by decide)
  rw [Int32.lt_iff_toInt_lt, h1, nI_toInt hj]
  exact propext ⟨fun h => by omega, fun h => by omega⟩
theorem sub1_ng {n b : Nat} (hn : n < 2 ^ 30) (h0 : 0 < b) (hb : b ≤ 2 ^ 31) : (nI n - nI 1 < -nI b) = False := eq_false (by
  have h1 : (nI n - nI 1).toInt = (n : Int) - (1 : Nat) := pk_sub_toInt hn (by decide)
  rw [Int32.lt_iff_toInt_lt, h1, ng_toInt hb]
  omega)
theorem upd_pos {f : Nat → Int32} {k j : Nat} {x : Int32} (h : j = k) : upd f k x j = x := if_pos h
theorem up2_pos {g : G} {a b k : Nat} {v : Int32} (h : b = a) : up2 g a k v b = upd (g b) k v := by subst h; exact up2_eq g b k v
-- calls
theorem c_metS {n : Nat} {g : G} (h0 : 0 < n) (h : n < 2 ^ 31) : f_X1_met (nI n) g = some (-nI 5, cE [] (nI n) g) := c_met (nI_ne0 h0 h)
theorem m_metS {n : Nat} {g : G} (h0 : 0 < n) (h : n < 2 ^ 31) : f_X9_meets (nI n) g = some (-nI 5, mE [] (nI n) g) := m_meets (nI_ne0 h0 h)
theorem cE_r {tr : List Int32} {f : Int32} {g : G} {a : Nat} (h1 : a ≠ 1) (h2 : a ≠ 2) : cE tr f g a = g a := cE_off h1 h2
theorem Sp1.of {Inv : G → Prop} {f8 f9 : Int32 → G → Option (Int32 × G)} (h : ∀ a g, Inv g → ∃ r g1 g2, f8 a g = some (r, g1) ∧ f9 a g1 = some (r, g2) ∧ Inv g2) : Sp1 Inv f8 f9 := h
theorem Sp2.to {Inv : G → Prop} {f8 f9 : Int32 → Int32 → G → Option (Int32 × G)} (h : ∀ a b g, Inv g → ∃ r g1 g2, f8 a b g = some (r, g1) ∧ f9 a b g1 = some (r, g2) ∧ Inv g2) : Sp2 Inv f8 f9 := h
/-- the call meets a finding in both -/
theorem sp_met {Inv : G → Prop} {x : Option (Int32 × G)} {k9 : G → Option (Int32 × G)} {g : G} (n : Nat) (hi : Inv (mE [] (nI n) (cE [] (nI n) g))) (h8 : x = some (-nI 5, cE [] (nI n) g)) (h9 : k9 (cE [] (nI n) g) = some (-nI 5, mE [] (nI n) (cE [] (nI n) g))) : ∃ r g1 g2, x = some (r, g1) ∧ k9 g1 = some (r, g2) ∧ Inv g2 := ⟨_, _, _, h8, h9, hi⟩
theorem sp_held : Sp2 Inv f_X8_held f_X9_held := by
  refine Sp2.to (fun a1 a2 g hI => ?_)
  obtain ⟨np, h24, e1, e2, h4⟩ := id hI.1
  rcases i32_split a1 with ⟨p, hp, rfl⟩ | ⟨p, hp0, hp, rfl⟩
  · by_cases hpn : p < np
    · obtain ⟨k1, k2, k3, k4, k5, k6⟩ := h4 p hpn
      obtain ⟨kd, hk, ek⟩ := k4
      rw [ek] at k1
      by_cases h3 : kd = 3
      · subst h3
        rcases k6 with hm | ⟨m, hm, em, hh⟩
        · rw [hm] at k3
          refine sp_met 1 (hI.eff _ _) ?_ ?_
          · simp (disch := omega) only [bd2_s, bd_s, wr_s, ck_s, bz_s0, bz_s1, dz_s, nI_litS, nI_add, pk_mul, pk_sub, nI_leI, nI_ltI, nI_eq, ng_lt, ng_le, lt_ng, le_ng, eq_ng, ng_eq, ng_ngE, ng_ngL, ng_ngl, sub1_lt, sub1_ng, eq_self, if_pos, if_neg, if_true, if_false, Nat.zero_add, Nat.add_zero, f_X8_held, f_X5_has, f_X5_isTeam, f_X5_chairOf, c_metS, e1, k1, k3]
          · simp (disch := omega) only [bd2_s, bd_s, wr_s, ck_s, bz_s0, bz_s1, dz_s, nI_litS, nI_add, pk_mul, pk_sub, nI_leI, nI_ltI, nI_eq, ng_lt, ng_le, lt_ng, le_ng, eq_ng, ng_eq, ng_ngE, ng_ngL, ng_ngl, sub1_lt, sub1_ng, eq_self, if_pos, if_neg, if_true, if_false, Nat.zero_add, Nat.add_zero, f_X9_held, f_X9_isPlayer, f_X9_in, m_metS, cE_r, e2, ek, hm]
        · rw [em] at k3
          by_cases ha : ∃ k, k < m ∧ a2 = nI k
          · obtain ⟨k, hk, rfl⟩ := ha
            refine ⟨g 7 (4 * p + k), g, g, ?_, ?_, hI⟩
            · simp (disch := omega) only [bd2_s, bd_s, wr_s, ck_s, bz_s0, bz_s1, dz_s, nI_litS, nI_add, pk_mul, pk_sub, nI_leI, nI_ltI, nI_eq, ng_lt, ng_le, lt_ng, le_ng, eq_ng, ng_eq, ng_ngE, ng_ngL, ng_ngl, sub1_lt, sub1_ng, eq_self, if_pos, if_neg, if_true, if_false, Nat.zero_add, Nat.add_zero, f_X8_held, f_X5_has, f_X5_isTeam, f_X5_chairOf, c_metS, e1, k1, k3, Nat.mul_comm p 4]
            · simp (disch := omega) only [bd2_s, bd_s, wr_s, ck_s, bz_s0, bz_s1, dz_s, nI_litS, nI_add, pk_mul, pk_sub, nI_leI, nI_ltI, nI_eq, ng_lt, ng_le, lt_ng, le_ng, eq_ng, ng_eq, ng_ngE, ng_ngL, ng_ngl, sub1_lt, sub1_ng, eq_self, if_pos, if_neg, if_true, if_false, Nat.zero_add, Nat.add_zero, f_X9_held, f_X9_isPlayer, f_X9_in, m_metS, e2, ek, em, (hh k hk).1]
          · refine sp_met 2 (hI.eff _ _) ?_ ?_
            · rcases i32_split a2 with ⟨k, hk, rfl⟩ | ⟨k, hk0, hk, rfl⟩
              · have hmk : m ≤ k := Nat.le_of_not_lt (fun q => ha ⟨k, q, rfl⟩)
                simp (disch := omega) only [bd2_s, bd_s, wr_s, ck_s, bz_s0, bz_s1, dz_s, nI_litS, nI_add, pk_mul, pk_sub, nI_leI, nI_ltI, nI_eq, ng_lt, ng_le, lt_ng, le_ng, eq_ng, ng_eq, ng_ngE, ng_ngL, ng_ngl, sub1_lt, sub1_ng, eq_self, if_pos, if_neg, if_true, if_false, Nat.zero_add, Nat.add_zero, f_X8_held, f_X5_has, f_X5_isTeam, f_X5_chairOf, c_metS, e1, k1, k3]
              · simp (disch := omega) only [bd2_s, bd_s, wr_s, ck_s, bz_s0, bz_s1, dz_s, nI_litS, nI_add, pk_mul, pk_sub, nI_leI, nI_ltI, nI_eq, ng_lt, ng_le, lt_ng, le_ng, eq_ng, ng_eq, ng_ngE, ng_ngL, ng_ngl, sub1_lt, sub1_ng, eq_self, if_pos, if_neg, if_true, if_false, Nat.zero_add, Nat.add_zero, f_X8_held, f_X5_has, f_X5_isTeam, f_X5_chairOf, c_metS, e1, k1, k3]
            · rcases i32_split a2 with ⟨k, hk, rfl⟩ | ⟨k, hk0, hk, rfl⟩
              · have hmk : m ≤ k := Nat.le_of_not_lt (fun q => ha ⟨k, q, rfl⟩)
                simp (disch := omega) only [bd2_s, bd_s, wr_s, ck_s, bz_s0, bz_s1, dz_s, nI_litS, nI_add, pk_mul, pk_sub, nI_leI, nI_ltI, nI_eq, ng_lt, ng_le, lt_ng, le_ng, eq_ng, ng_eq, ng_ngE, ng_ngL, ng_ngl, sub1_lt, sub1_ng, eq_self, if_pos, if_neg, if_true, if_false, Nat.zero_add, Nat.add_zero, f_X9_held, f_X9_isPlayer, f_X9_in, m_metS, cE_r, e2, ek, em]
              · simp (disch := omega) only [bd2_s, bd_s, wr_s, ck_s, bz_s0, bz_s1, dz_s, nI_litS, nI_add, pk_mul, pk_sub, nI_leI, nI_ltI, nI_eq, ng_lt, ng_le, lt_ng, le_ng, eq_ng, ng_eq, ng_ngE, ng_ngL, ng_ngl, sub1_lt, sub1_ng, eq_self, if_pos, if_neg, if_true, if_false, Nat.zero_add, Nat.add_zero, f_X9_held, f_X9_isPlayer, f_X9_in, m_metS, cE_r, e2, ek, em]
      · refine sp_met 3 (hI.eff _ _) ?_ ?_
        · simp (disch := omega) only [bd2_s, bd_s, wr_s, ck_s, bz_s0, bz_s1, dz_s, nI_litS, nI_add, pk_mul, pk_sub, nI_leI, nI_ltI, nI_eq, ng_lt, ng_le, lt_ng, le_ng, eq_ng, ng_eq, ng_ngE, ng_ngL, ng_ngl, sub1_lt, sub1_ng, eq_self, if_pos, if_neg, if_true, if_false, Nat.zero_add, Nat.add_zero, f_X8_held, f_X5_has, f_X5_isTeam, f_X5_chairOf, c_metS, e1, k1]
        · simp (disch := omega) only [bd2_s, bd_s, wr_s, ck_s, bz_s0, bz_s1, dz_s, nI_litS, nI_add, pk_mul, pk_sub, nI_leI, nI_ltI, nI_eq, ng_lt, ng_le, lt_ng, le_ng, eq_ng, ng_eq, ng_ngE, ng_ngL, ng_ngl, sub1_lt, sub1_ng, eq_self, if_pos, if_neg, if_true, if_false, Nat.zero_add, Nat.add_zero, f_X9_held, f_X9_isPlayer, f_X9_in, m_metS, cE_r, e2, ek]
    · exact ⟨-2, g, g, by simp (disch := omega) only [bd2_s, bd_s, wr_s, ck_s, bz_s0, bz_s1, dz_s, nI_litS, nI_add, pk_mul, pk_sub, nI_leI, nI_ltI, nI_eq, ng_lt, ng_le, lt_ng, le_ng, eq_ng, ng_eq, ng_ngE, ng_ngL, ng_ngl, sub1_lt, sub1_ng, eq_self, if_pos, if_neg, if_true, if_false, Nat.zero_add, Nat.add_zero, f_X8_held, f_X5_has, e1], by simp (disch := omega) only [bd2_s, bd_s, wr_s, ck_s, bz_s0, bz_s1, dz_s, nI_litS, nI_add, pk_mul, pk_sub, nI_leI, nI_ltI, nI_eq, ng_lt, ng_le, lt_ng, le_ng, eq_ng, ng_eq, ng_ngE, ng_ngL, ng_ngl, sub1_lt, sub1_ng, eq_self, if_pos, if_neg, if_true, if_false, Nat.zero_add, Nat.add_zero, f_X9_held, f_X9_isPlayer, f_X9_in, e2], hI⟩
  · exact ⟨-2, g, g, by simp (disch := omega) only [bd2_s, bd_s, wr_s, ck_s, bz_s0, bz_s1, dz_s, nI_litS, nI_add, pk_mul, pk_sub, nI_leI, nI_ltI, nI_eq, ng_lt, ng_le, lt_ng, le_ng, eq_ng, ng_eq, ng_ngE, ng_ngL, ng_ngl, sub1_lt, sub1_ng, eq_self, if_pos, if_neg, if_true, if_false, Nat.zero_add, Nat.add_zero, f_X8_held, f_X5_has, e1], by simp (disch := omega) only [bd2_s, bd_s, wr_s, ck_s, bz_s0, bz_s1, dz_s, nI_litS, nI_add, pk_mul, pk_sub, nI_leI, nI_ltI, nI_eq, ng_lt, ng_le, lt_ng, le_ng, eq_ng, ng_eq, ng_ngE, ng_ngL, ng_ngl, sub1_lt, sub1_ng, eq_self, if_pos, if_neg, if_true, if_false, Nat.zero_add, Nat.add_zero, f_X9_held, f_X9_isPlayer, f_X9_in, e2], hI⟩
theorem Sp3.to {Inv : G → Prop} {f8 f9 : Int32 → Int32 → Int32 → G → Option (Int32 × G)} (h : ∀ a b c g, Inv g → ∃ r g1 g2, f8 a b c g = some (r, g1) ∧ f9 a b c g1 = some (r, g2) ∧ Inv g2) : Sp3 Inv f8 f9 := h
theorem inv_seat {p k m np : Nat} {x : Int32} {g : G} (hI : Inv g) (e0 : g 159 3 = nI np) (hn : np ≤ 24) (hp : p < np) (hm : m ≤ 4) (em : g 163 p = nI m) (hk : k < m) (hx : x = -1 ∨ ∃ w, w < np ∧ x = nI w ∧ g 161 w ≠ nI 3) : Inv (up2 (up2 g 7 (4 * p + k) x) 164 (4 * p + k) x) := by
  obtain ⟨⟨np0, h1, h2, h3, h4⟩, i2, i3, i4, i5, i6, i7⟩ := hI
  have hnp : np0 = np := nI_inj (by omega) (by omega) (h3.symm.trans e0)
  subst hnp
  refine ⟨⟨np0, h1, h2, h3, fun q hq => ?_⟩, i2, i3, i4, i5, i6.off rfl rfl rfl rfl rfl rfl rfl (fun a q1 q2 => by rw [up2_ne (by omega), up2_ne (by omega)]), i7⟩
  obtain ⟨q1, q2, q3, q4, q5, q6⟩ := h4 q hq
  refine ⟨q1, q2, q3, q4, q5, ?_⟩
  rcases q6 with q6 | ⟨m', r1, r2, r3⟩
  · exact Or.inl q6
  · refine Or.inr ⟨m', r1, r2, fun j hj => ?_⟩
    show upd (g 7) (4 * p + k) x (4 * q + j) = upd (g 164) (4 * p + k) x (4 * q + j) ∧ (upd (g 164) (4 * p + k) x (4 * q + j) = -1 ∨ ∃ w, w < np0 ∧ upd (g 164) (4 * p + k) x (4 * q + j) = nI w ∧ g 161 w ≠ nI 3)
    by_cases e : 4 * q + j = 4 * p + k
    · rw [e, upd_eq, upd_eq]
      exact ⟨rfl, hx⟩
    · rw [upd_ne e, upd_ne e]
      exact r3 j hj
theorem sp_seat : Sp3 Inv f_X8_seat f_X9_seat := by
  refine Sp3.to (fun a1 a2 a3 g hI => ?_)
  obtain ⟨np, h24, e1, e2, h4⟩ := id hI.1
  rcases i32_split a1 with ⟨p, hp, rfl⟩ | ⟨p, hp0, hp, rfl⟩
  · by_cases hpn : p < np
    · obtain ⟨k1, k2, k3, k4, k5, k6⟩ := h4 p hpn
      obtain ⟨kd, hk, ek⟩ := k4
      rw [ek] at k1
      have main : ∀ (x : Int32) (b : Nat), (x = -1 ∧ b = 0) ∨ (∃ w kw, b = kw + 1 ∧ w < np ∧ kw ≤ 4 ∧ x = nI w ∧ g 161 w = nI kw ∧ g 4 w = nI kw) → ∃ r g1 g2, f_X8_seat (nI p) a2 x g = some (r, g1) ∧ f_X9_seat (nI p) a2 x g1 = some (r, g2) ∧ Inv g2 := by
        intro x b hx
        by_cases hu : kd = 3 ∧ b ≠ 4
        · obtain ⟨rfl, hb⟩ := hu
          have hx2 : x = -1 ∨ ∃ w, w < np ∧ x = nI w ∧ g 161 w ≠ nI 3 := by
            rcases hx with ⟨h, _⟩ | ⟨w, kw, rfl, hw, hkw, rfl, ew, ew4⟩
            · exact Or.inl h
            · exact Or.inr ⟨w, hw, rfl, by rw [ew]; exact nI_ne (by omega) (by decide) (by omega)⟩
          rcases k6 with hm | ⟨m, hm, em, hh⟩
          · rw [hm] at k3
            refine sp_met 1 (hI.eff _ _) ?_ ?_
            · rcases hx with ⟨rfl, _⟩ | ⟨w, kw, rfl, hw, hkw, rfl, ew, ew4⟩
              · simp (disch := omega) only [bd2_s, bd_s, wr_s, ck_s, bz_s0, bz_s1, dz_s, nI_litS, nI_add, pk_mul, pk_sub, nI_leI, nI_ltI, nI_eq, ng_lt, ng_le, lt_ng, le_ng, eq_ng, ng_eq, ng_ngE, ng_ngL, ng_ngl, sub1_lt, sub1_ng, eq_self, if_pos, if_neg, if_true, if_false, Nat.zero_add, Nat.add_zero, f_X8_seat, f_X5_has, f_X5_isTeam, f_X5_chairOf, c_metS, e1, k1, k3]
              · simp (disch := omega) only [bd2_s, bd_s, wr_s, ck_s, bz_s0, bz_s1, dz_s, nI_litS, nI_add, pk_mul, pk_sub, nI_leI, nI_ltI, nI_eq, ng_lt, ng_le, lt_ng, le_ng, eq_ng, ng_eq, ng_ngE, ng_ngL, ng_ngl, sub1_lt, sub1_ng, eq_self, if_pos, if_neg, if_true, if_false, Nat.zero_add, Nat.add_zero, f_X8_seat, f_X5_has, f_X5_isTeam, f_X5_chairOf, c_metS, e1, k1, k3, ew4]
            · rcases hx with ⟨rfl, _⟩ | ⟨w, kw, rfl, hw, hkw, rfl, ew, ew4⟩
              · simp (disch := omega) only [bd2_s, bd_s, wr_s, ck_s, bz_s0, bz_s1, dz_s, nI_litS, nI_add, pk_mul, pk_sub, nI_leI, nI_ltI, nI_eq, ng_lt, ng_le, lt_ng, le_ng, eq_ng, ng_eq, ng_ngE, ng_ngL, ng_ngl, sub1_lt, sub1_ng, eq_self, if_pos, if_neg, if_true, if_false, Nat.zero_add, Nat.add_zero, f_X9_seat, f_X9_isPlayer, f_X9_in, m_metS, cE_r, e2, ek, hm]
              · simp (disch := omega) only [bd2_s, bd_s, wr_s, ck_s, bz_s0, bz_s1, dz_s, nI_litS, nI_add, pk_mul, pk_sub, nI_leI, nI_ltI, nI_eq, ng_lt, ng_le, lt_ng, le_ng, eq_ng, ng_eq, ng_ngE, ng_ngL, ng_ngl, sub1_lt, sub1_ng, eq_self, if_pos, if_neg, if_true, if_false, Nat.zero_add, Nat.add_zero, f_X9_seat, f_X9_isPlayer, f_X9_in, m_metS, cE_r, e2, ek, hm, ew]
          · rw [em] at k3
            by_cases ha : ∃ k, k < m ∧ a2 = nI k
            · obtain ⟨k, hk, rfl⟩ := ha
              refine ⟨1, up2 g 7 (4 * p + k) x, up2 (up2 g 7 (4 * p + k) x) 164 (4 * p + k) x, ?_, ?_, inv_seat hI e2 h24 hpn hm em hk hx2⟩
              · rcases hx with ⟨rfl, _⟩ | ⟨w, kw, rfl, hw, hkw, rfl, ew, ew4⟩
                · simp (disch := omega) only [bd2_s, bd_s, wr_s, ck_s, bz_s0, bz_s1, dz_s, nI_litS, nI_add, pk_mul, pk_sub, nI_leI, nI_ltI, nI_eq, ng_lt, ng_le, lt_ng, le_ng, eq_ng, ng_eq, ng_ngE, ng_ngL, ng_ngl, sub1_lt, sub1_ng, eq_self, if_pos, if_neg, if_true, if_false, Nat.zero_add, Nat.add_zero, f_X8_seat, f_X5_has, f_X5_isTeam, f_X5_chairOf, c_metS, e1, k1, k3, Nat.mul_comm p 4]
                · simp (disch := omega) only [bd2_s, bd_s, wr_s, ck_s, bz_s0, bz_s1, dz_s, nI_litS, nI_add, pk_mul, pk_sub, nI_leI, nI_ltI, nI_eq, ng_lt, ng_le, lt_ng, le_ng, eq_ng, ng_eq, ng_ngE, ng_ngL, ng_ngl, sub1_lt, sub1_ng, eq_self, if_pos, if_neg, if_true, if_false, Nat.zero_add, Nat.add_zero, f_X8_seat, f_X5_has, f_X5_isTeam, f_X5_chairOf, c_metS, e1, k1, k3, ew4, Nat.mul_comm p 4]
              · rcases hx with ⟨rfl, _⟩ | ⟨w, kw, rfl, hw, hkw, rfl, ew, ew4⟩
                · simp (disch := omega) only [bd2_s, bd_s, wr_s, ck_s, bz_s0, bz_s1, dz_s, nI_litS, nI_add, pk_mul, pk_sub, nI_leI, nI_ltI, nI_eq, ng_lt, ng_le, lt_ng, le_ng, eq_ng, ng_eq, ng_ngE, ng_ngL, ng_ngl, sub1_lt, sub1_ng, eq_self, if_pos, if_neg, if_true, if_false, Nat.zero_add, Nat.add_zero, f_X9_seat, f_X9_isPlayer, f_X9_in, m_metS, up2_ne, e2, ek, em]
                · simp (disch := omega) only [bd2_s, bd_s, wr_s, ck_s, bz_s0, bz_s1, dz_s, nI_litS, nI_add, pk_mul, pk_sub, nI_leI, nI_ltI, nI_eq, ng_lt, ng_le, lt_ng, le_ng, eq_ng, ng_eq, ng_ngE, ng_ngL, ng_ngl, sub1_lt, sub1_ng, eq_self, if_pos, if_neg, if_true, if_false, Nat.zero_add, Nat.add_zero, f_X9_seat, f_X9_isPlayer, f_X9_in, m_metS, up2_ne, e2, ek, em, ew]
            · have ha2 : (∃ k, m ≤ k ∧ k < 2 ^ 31 ∧ a2 = nI k) ∨ ∃ k, 0 < k ∧ k ≤ 2 ^ 31 ∧ a2 = -nI k := by
                rcases i32_split a2 with ⟨k, hk, rfl⟩ | h
                · exact Or.inl ⟨k, Nat.le_of_not_lt (fun q => ha ⟨k, q, rfl⟩), hk, rfl⟩
                · exact Or.inr h
              refine sp_met 2 (hI.eff _ _) ?_ ?_
              · rcases ha2 with ⟨k, hmk, hk, rfl⟩ | ⟨k, hk0, hk, rfl⟩
                all_goals rcases hx with ⟨rfl, _⟩ | ⟨w, kw, rfl, hw, hkw, rfl, ew, ew4⟩
                · simp (disch := omega) only [bd2_s, bd_s, wr_s, ck_s, bz_s0, bz_s1, dz_s, nI_litS, nI_add, pk_mul, pk_sub, nI_leI, nI_ltI, nI_eq, ng_lt, ng_le, lt_ng, le_ng, eq_ng, ng_eq, ng_ngE, ng_ngL, ng_ngl, sub1_lt, sub1_ng, eq_self, if_pos, if_neg, if_true, if_false, Nat.zero_add, Nat.add_zero, f_X8_seat, f_X5_has, f_X5_isTeam, f_X5_chairOf, c_metS, e1, k1, k3]
                · simp (disch := omega) only [bd2_s, bd_s, wr_s, ck_s, bz_s0, bz_s1, dz_s, nI_litS, nI_add, pk_mul, pk_sub, nI_leI, nI_ltI, nI_eq, ng_lt, ng_le, lt_ng, le_ng, eq_ng, ng_eq, ng_ngE, ng_ngL, ng_ngl, sub1_lt, sub1_ng, eq_self, if_pos, if_neg, if_true, if_false, Nat.zero_add, Nat.add_zero, f_X8_seat, f_X5_has, f_X5_isTeam, f_X5_chairOf, c_metS, e1, k1, k3, ew4]
                · simp (disch := omega) only [bd2_s, bd_s, wr_s, ck_s, bz_s0, bz_s1, dz_s, nI_litS, nI_add, pk_mul, pk_sub, nI_leI, nI_ltI, nI_eq, ng_lt, ng_le, lt_ng, le_ng, eq_ng, ng_eq, ng_ngE, ng_ngL, ng_ngl, sub1_lt, sub1_ng, eq_self, if_pos, if_neg, if_true, if_false, Nat.zero_add, Nat.add_zero, f_X8_seat, f_X5_has, f_X5_isTeam, f_X5_chairOf, c_metS, e1, k1, k3]
                · simp (disch := omega) only [bd2_s, bd_s, wr_s, ck_s, bz_s0, bz_s1, dz_s, nI_litS, nI_add, pk_mul, pk_sub, nI_leI, nI_ltI, nI_eq, ng_lt, ng_le, lt_ng, le_ng, eq_ng, ng_eq, ng_ngE, ng_ngL, ng_ngl, sub1_lt, sub1_ng, eq_self, if_pos, if_neg, if_true, if_false, Nat.zero_add, Nat.add_zero, f_X8_seat, f_X5_has, f_X5_isTeam, f_X5_chairOf, c_metS, e1, k1, k3, ew4]
              · rcases ha2 with ⟨k, hmk, hk, rfl⟩ | ⟨k, hk0, hk, rfl⟩
                all_goals rcases hx with ⟨rfl, _⟩ | ⟨w, kw, rfl, hw, hkw, rfl, ew, ew4⟩
                · simp (disch := omega) only [bd2_s, bd_s, wr_s, ck_s, bz_s0, bz_s1, dz_s, nI_litS, nI_add, pk_mul, pk_sub, nI_leI, nI_ltI, nI_eq, ng_lt, ng_le, lt_ng, le_ng, eq_ng, ng_eq, ng_ngE, ng_ngL, ng_ngl, sub1_lt, sub1_ng, eq_self, if_pos, if_neg, if_true, if_false, Nat.zero_add, Nat.add_zero, f_X9_seat, f_X9_isPlayer, f_X9_in, m_metS, cE_r, e2, ek, em]
                · simp (disch := omega) only [bd2_s, bd_s, wr_s, ck_s, bz_s0, bz_s1, dz_s, nI_litS, nI_add, pk_mul, pk_sub, nI_leI, nI_ltI, nI_eq, ng_lt, ng_le, lt_ng, le_ng, eq_ng, ng_eq, ng_ngE, ng_ngL, ng_ngl, sub1_lt, sub1_ng, eq_self, if_pos, if_neg, if_true, if_false, Nat.zero_add, Nat.add_zero, f_X9_seat, f_X9_isPlayer, f_X9_in, m_metS, cE_r, e2, ek, em, ew]
                · simp (disch := omega) only [bd2_s, bd_s, wr_s, ck_s, bz_s0, bz_s1, dz_s, nI_litS, nI_add, pk_mul, pk_sub, nI_leI, nI_ltI, nI_eq, ng_lt, ng_le, lt_ng, le_ng, eq_ng, ng_eq, ng_ngE, ng_ngL, ng_ngl, sub1_lt, sub1_ng, eq_self, if_pos, if_neg, if_true, if_false, Nat.zero_add, Nat.add_zero, f_X9_seat, f_X9_isPlayer, f_X9_in, m_metS, cE_r, e2, ek, em]
                · simp (disch := omega) only [bd2_s, bd_s, wr_s, ck_s, bz_s0, bz_s1, dz_s, nI_litS, nI_add, pk_mul, pk_sub, nI_leI, nI_ltI, nI_eq, ng_lt, ng_le, lt_ng, le_ng, eq_ng, ng_eq, ng_ngE, ng_ngL, ng_ngl, sub1_lt, sub1_ng, eq_self, if_pos, if_neg, if_true, if_false, Nat.zero_add, Nat.add_zero, f_X9_seat, f_X9_isPlayer, f_X9_in, m_metS, cE_r, e2, ek, em, ew]
        · refine sp_met 3 (hI.eff _ _) ?_ ?_
          · rcases hx with ⟨rfl, hb⟩ | ⟨w, kw, rfl, hw, hkw, rfl, ew, ew4⟩
            · simp (disch := omega) only [bd2_s, bd_s, wr_s, ck_s, bz_s0, bz_s1, dz_s, nI_litS, nI_add, pk_mul, pk_sub, nI_leI, nI_ltI, nI_eq, ng_lt, ng_le, lt_ng, le_ng, eq_ng, ng_eq, ng_ngE, ng_ngL, ng_ngl, sub1_lt, sub1_ng, eq_self, if_pos, if_neg, if_true, if_false, Nat.zero_add, Nat.add_zero, f_X8_seat, f_X5_has, f_X5_isTeam, c_metS, e1, k1]
            · by_cases h3 : kd = 3
              · simp (disch := omega) only [bd2_s, bd_s, wr_s, ck_s, bz_s0, bz_s1, dz_s, nI_litS, nI_add, pk_mul, pk_sub, nI_leI, nI_ltI, nI_eq, ng_lt, ng_le, lt_ng, le_ng, eq_ng, ng_eq, ng_ngE, ng_ngL, ng_ngl, sub1_lt, sub1_ng, eq_self, if_pos, if_neg, if_true, if_false, Nat.zero_add, Nat.add_zero, f_X8_seat, f_X5_has, f_X5_isTeam, c_metS, e1, k1, ew4]
              · simp (disch := omega) only [bd2_s, bd_s, wr_s, ck_s, bz_s0, bz_s1, dz_s, nI_litS, nI_add, pk_mul, pk_sub, nI_leI, nI_ltI, nI_eq, ng_lt, ng_le, lt_ng, le_ng, eq_ng, ng_eq, ng_ngE, ng_ngL, ng_ngl, sub1_lt, sub1_ng, eq_self, if_pos, if_neg, if_true, if_false, Nat.zero_add, Nat.add_zero, f_X8_seat, f_X5_has, f_X5_isTeam, c_metS, e1, k1]
          · rcases hx with ⟨rfl, hb⟩ | ⟨w, kw, rfl, hw, hkw, rfl, ew, ew4⟩
            · simp (disch := omega) only [bd2_s, bd_s, wr_s, ck_s, bz_s0, bz_s1, dz_s, nI_litS, nI_add, pk_mul, pk_sub, nI_leI, nI_ltI, nI_eq, ng_lt, ng_le, lt_ng, le_ng, eq_ng, ng_eq, ng_ngE, ng_ngL, ng_ngl, sub1_lt, sub1_ng, eq_self, if_pos, if_neg, if_true, if_false, Nat.zero_add, Nat.add_zero, f_X9_seat, f_X9_isPlayer, f_X9_in, m_metS, cE_r, e2, ek]
            · by_cases h3 : kd = 3
              · simp (disch := omega) only [bd2_s, bd_s, wr_s, ck_s, bz_s0, bz_s1, dz_s, nI_litS, nI_add, pk_mul, pk_sub, nI_leI, nI_ltI, nI_eq, ng_lt, ng_le, lt_ng, le_ng, eq_ng, ng_eq, ng_ngE, ng_ngL, ng_ngl, sub1_lt, sub1_ng, eq_self, if_pos, if_neg, if_true, if_false, Nat.zero_add, Nat.add_zero, f_X9_seat, f_X9_isPlayer, f_X9_in, m_metS, cE_r, e2, ek, ew]
              · simp (disch := omega) only [bd2_s, bd_s, wr_s, ck_s, bz_s0, bz_s1, dz_s, nI_litS, nI_add, pk_mul, pk_sub, nI_leI, nI_ltI, nI_eq, ng_lt, ng_le, lt_ng, le_ng, eq_ng, ng_eq, ng_ngE, ng_ngL, ng_ngl, sub1_lt, sub1_ng, eq_self, if_pos, if_neg, if_true, if_false, Nat.zero_add, Nat.add_zero, f_X9_seat, f_X9_isPlayer, f_X9_in, m_metS, cE_r, e2, ek]
      rcases i32_split a3 with ⟨w, hw, rfl⟩ | ⟨w, hw0, hw, rfl⟩
      · by_cases hwn : w < np
        · obtain ⟨r1, r2, r3, ⟨kw, r4, r5⟩, r6⟩ := h4 w hwn
          exact main _ (kw + 1) (Or.inr ⟨w, kw, rfl, hwn, r4, rfl, r5, r1.trans r5⟩)
        · exact ⟨-2, g, g, by simp (disch := omega) only [bd2_s, bd_s, wr_s, ck_s, bz_s0, bz_s1, dz_s, nI_litS, nI_add, pk_mul, pk_sub, nI_leI, nI_ltI, nI_eq, ng_lt, ng_le, lt_ng, le_ng, eq_ng, ng_eq, ng_ngE, ng_ngL, ng_ngl, sub1_lt, sub1_ng, eq_self, if_pos, if_neg, if_true, if_false, Nat.zero_add, Nat.add_zero, f_X8_seat, f_X5_has, e1], by simp (disch := omega) only [bd2_s, bd_s, wr_s, ck_s, bz_s0, bz_s1, dz_s, nI_litS, nI_add, pk_mul, pk_sub, nI_leI, nI_ltI, nI_eq, ng_lt, ng_le, lt_ng, le_ng, eq_ng, ng_eq, ng_ngE, ng_ngL, ng_ngl, sub1_lt, sub1_ng, eq_self, if_pos, if_neg, if_true, if_false, Nat.zero_add, Nat.add_zero, f_X9_seat, f_X9_isPlayer, f_X9_in, e2], hI⟩
      · by_cases hw1 : w = 1
        · subst hw1
          exact main _ 0 (Or.inl ⟨rfl, rfl⟩)
        · exact ⟨-2, g, g, by simp (disch := omega) only [bd2_s, bd_s, wr_s, ck_s, bz_s0, bz_s1, dz_s, nI_litS, nI_add, pk_mul, pk_sub, nI_leI, nI_ltI, nI_eq, ng_lt, ng_le, lt_ng, le_ng, eq_ng, ng_eq, ng_ngE, ng_ngL, ng_ngl, sub1_lt, sub1_ng, eq_self, if_pos, if_neg, if_true, if_false, Nat.zero_add, Nat.add_zero, f_X8_seat, f_X5_has, e1], by simp (disch := omega) only [bd2_s, bd_s, wr_s, ck_s, bz_s0, bz_s1, dz_s, nI_litS, nI_add, pk_mul, pk_sub, nI_leI, nI_ltI, nI_eq, ng_lt, ng_le, lt_ng, le_ng, eq_ng, ng_eq, ng_ngE, ng_ngL, ng_ngl, sub1_lt, sub1_ng, eq_self, if_pos, if_neg, if_true, if_false, Nat.zero_add, Nat.add_zero, f_X9_seat, f_X9_isPlayer, f_X9_in, e2], hI⟩
    · exact ⟨-2, g, g, by simp (disch := omega) only [bd2_s, bd_s, wr_s, ck_s, bz_s0, bz_s1, dz_s, nI_litS, nI_add, pk_mul, pk_sub, nI_leI, nI_ltI, nI_eq, ng_lt, ng_le, lt_ng, le_ng, eq_ng, ng_eq, ng_ngE, ng_ngL, ng_ngl, sub1_lt, sub1_ng, eq_self, if_pos, if_neg, if_true, if_false, Nat.zero_add, Nat.add_zero, f_X8_seat, f_X5_has, e1], by simp (disch := omega) only [bd2_s, bd_s, wr_s, ck_s, bz_s0, bz_s1, dz_s, nI_litS, nI_add, pk_mul, pk_sub, nI_leI, nI_ltI, nI_eq, ng_lt, ng_le, lt_ng, le_ng, eq_ng, ng_eq, ng_ngE, ng_ngL, ng_ngl, sub1_lt, sub1_ng, eq_self, if_pos, if_neg, if_true, if_false, Nat.zero_add, Nat.add_zero, f_X9_seat, f_X9_isPlayer, f_X9_in, e2], hI⟩
  · exact ⟨-2, g, g, by simp (disch := omega) only [bd2_s, bd_s, wr_s, ck_s, bz_s0, bz_s1, dz_s, nI_litS, nI_add, pk_mul, pk_sub, nI_leI, nI_ltI, nI_eq, ng_lt, ng_le, lt_ng, le_ng, eq_ng, ng_eq, ng_ngE, ng_ngL, ng_ngl, sub1_lt, sub1_ng, eq_self, if_pos, if_neg, if_true, if_false, Nat.zero_add, Nat.add_zero, f_X8_seat, f_X5_has, e1], by simp (disch := omega) only [bd2_s, bd_s, wr_s, ck_s, bz_s0, bz_s1, dz_s, nI_litS, nI_add, pk_mul, pk_sub, nI_leI, nI_ltI, nI_eq, ng_lt, ng_le, lt_ng, le_ng, eq_ng, ng_eq, ng_ngE, ng_ngL, ng_ngl, sub1_lt, sub1_ng, eq_self, if_pos, if_neg, if_true, if_false, Nat.zero_add, Nat.add_zero, f_X9_seat, f_X9_isPlayer, f_X9_in, e2], hI⟩
