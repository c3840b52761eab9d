/-! Taking a tournament over: copying, and the call copy. -/
theorem ev_cpy {α : Type} {b c n N : Nat} {x : Int32} {g : G} {k : G → Option α} {Q : α → Prop} (hx : x = nI n) (hn : n ≤ N) (hN : N < 2 ^ 31) (h : ∀ g', (∀ a, a ≠ b → g' a = g a) → (∀ j, j < n → g' b j = g c j) → Ev (k g') Q) : Ev (cz (0 : Int32) (0 : Int32) x N N (wr (up1 g b (va_cpy (g c) (g b) (0 : Int32).toNatClampNeg (0 : Int32).toNatClampNeg x.toNatClampNeg)) k)) Q := by
  subst hx
  refine ev_cz 0 0 n rfl rfl rfl (by omega) (by omega) ⟨hN, hN⟩ ?_
  refine ev_wr ?_
  refine h _ (fun a ha => up1_ne ha) (fun j hj => ?_)
  rw [up1_eq, nI_clamp (by omega)]
  rw [pk_cpy_in (show (0 : Int32).toNatClampNeg ≤ j from Nat.zero_le _) (by show j < 0 + n; omega)]
  congr 1
  show 0 + (j - 0) = j
  omega
/-- F' has what F has -/
def Cp (n dr e : Nat) (F F' : Nat → Nat → Int32) : Prop := (F' 0 1 = F 0 1 ∧ F' 0 2 = F 0 2 ∧ F' 0 3 = F 0 3) ∧ (∀ k, k < n → F' 1 k = F 1 k) ∧ (∀ k, k < 24 → F' 2 k = F 2 k) ∧ (∀ k, k < 5 → F' 3 k = F 3 k) ∧ (∀ j k, 4 ≤ j → j ≤ 6 → k < dr → F' j k = F j k) ∧ (∀ j k, 7 ≤ j → j ≤ 8 → k < 5 * dr → F' j k = F j k) ∧ (∀ j k, 9 ≤ j → j ≤ 13 → k < e → F' j k = F j k)
theorem T_in.cp {np n dr e : Nat} {mk : Nat → Int32} {F F' : Nat → Nat → Int32} {R : Nat → Int32} (h : T_in np mk F R n) (c : Cp n dr e F F') : T_in np mk F' R n := by
  obtain ⟨h1, h2, h3, h4, h5, h6, h7, h8⟩ := h
  obtain ⟨⟨c1, -, -⟩, c2, c3, -⟩ := c
  refine ⟨h1, c1.trans h2, h3, fun k hk => ?_, h5, h6, h7, fun p hp => ?_⟩
  · rw [c2 k hk]; exact h4 k hk
  · rw [c3 p hp]; exact h8 p hp
theorem T_sum.cp {n dr e : Nat} {F F' : Nat → Nat → Int32} {R : Nat → Int32} (h : T_sum F R) (c : Cp n dr e F F') : T_sum F' R := by
  obtain ⟨h1, h2⟩ := h
  obtain ⟨-, -, -, c3, -⟩ := c
  refine ⟨(c3 0 (by omega)).trans h1, fun i hi => ?_⟩
  rw [c3 (i + 1) (by omega)]
  exact h2 i hi
theorem T_rounds.cp {n dr e : Nat} {F F' : Nat → Nat → Int32} {R : Nat → Int32} (h : T_rounds F R n dr) (c : Cp n dr e F F') : T_rounds F' R n dr := by
  obtain ⟨h1, h2, h3, h4, h5⟩ := h
  obtain ⟨⟨-, c1, -⟩, -, -, -, c4, c5, -⟩ := c
  refine ⟨h1, c1.trans h2, h3, fun r hr => ?_, h5⟩
  obtain ⟨m, g1, g2, g3, g4, g5, g6, g7, g8, g9, g10⟩ := h4 r hr
  refine ⟨m, g1, g2, (c4 4 r (by omega) (by omega) hr).trans g3, g4, (c4 5 r (by omega) (by omega) hr).trans g5, g6, (c4 6 r (by omega) (by omega) hr).trans g7, g8, fun k hk => ?_, g10⟩
  rw [c5 7 _ (by omega) (by omega) (by omega), c5 8 _ (by omega) (by omega) (by omega)]
  exact g9 k hk
theorem T_entries.cp {n dr e : Nat} {F F' : Nat → Nat → Int32} {R : Nat → Int32} (h : T_entries F R dr e) (c : Cp n dr e F F') : T_entries F' R dr e := by
  obtain ⟨h1, h2, h3, h4, h5⟩ := h
  obtain ⟨⟨-, -, c1⟩, -, -, -, -, -, c6⟩ := c
  refine ⟨h1, c1.trans h2, h3, fun x hx => ?_, h5⟩
  obtain ⟨g1, g2, g3, g4, g5, g6, g7, g8, g9⟩ := h4 x hx
  have c' : ∀ j, 9 ≤ j → j ≤ 13 → F' j x = F j x := fun j j1 j2 => c6 j x j1 j2 hx
  refine ⟨g1, (c' 9 (by omega) (by omega)).trans g2, (c' 10 (by omega) (by omega)).trans g3, g4, (c' 11 (by omega) (by omega)).trans g5, g6, (c' 12 (by omega) (by omega)).trans g7, g8, ?_⟩
  rw [c' 13 (by omega) (by omega)]
  exact g9
theorem c_takeOver {t0 t1 n dr e : Nat} {g : G} (hd : t0 + 14 ≤ t1 ∨ t1 + 14 ≤ t0) (hn : g t1 1 = nI n) (n10 : n ≤ 10) (hdr : g t1 2 = nI dr) (d6 : dr ≤ 6) (he : g t1 3 = nI e) (e60 : e ≤ 60) : Ev (f_X7_takeOver t0 t1 g) (fun q => q.1 = 0 ∧ (∀ a, ¬ (t0 ≤ a ∧ a < t0 + 14) → q.2 a = g a) ∧ q.2 t0 0 = g t0 0 ∧ Cp n dr e (fun j => g (t1 + j)) (fun j => q.2 (t0 + j))) := by
  unfold f_X7_takeOver
  refine ev_wr (ev_wr (ev_wr ?_))
  have b1 : up2 (up2 (up2 g t0 1 (g t1 1)) t0 2 (up2 g t0 1 (g t1 1) t1 2)) t0 3 (up2 (up2 g t0 1 (g t1 1)) t0 2 (up2 g t0 1 (g t1 1) t1 2) t1 3) = up2 (up2 (up2 g t0 1 (nI n)) t0 2 (nI dr)) t0 3 (nI e) := by
    rw [up2_ne (show t1 ≠ t0 by omega), hn, hdr, up2_ne (show t1 ≠ t0 by omega), up2_ne (show t1 ≠ t0 by omega), he]
  rw [b1]
  generalize hs0 : up2 (up2 (up2 g t0 1 (nI n)) t0 2 (nI dr)) t0 3 (nI e) = s0
  have z0 : ∀ a, a ≠ t0 → s0 a = g a := fun a ha => by rw [← hs0, up2_ne ha, up2_ne ha, up2_ne ha]
  have f1 : s0 t0 1 = nI n := by rw [← hs0, up2_eq, upd_ne (by decide), up2_eq, upd_ne (by decide), up2_eq, upd_eq]
  have f2 : s0 t0 2 = nI dr := by rw [← hs0, up2_eq, upd_ne (by decide), up2_eq, upd_eq]
  have f3 : s0 t0 3 = nI e := by rw [← hs0, up2_eq, upd_eq]
  have f0 : s0 t0 0 = g t0 0 := by rw [← hs0, up2_eq, upd_ne (by decide), up2_eq, upd_ne (by decide), up2_eq, upd_ne (by decide)]
  refine ev_cpy (n := n) f1 (by omega) (by omega) (fun s1 p1 q1 => ?_)
  have w1 : s1 t0 = s0 t0 := p1 t0 (by omega)
  have z1 : ∀ a, (a < t0 ∨ t0 + 1 < a) → s1 a = g a := fun a ha => (p1 a (by omega)).trans (z0 a (by omega))
  refine ev_cpy (n := 24) rfl (by omega) (by omega) (fun s2 p2 q2 => ?_)
  have w2 : s2 t0 = s0 t0 := (p2 t0 (by omega)).trans w1
  have z2 : ∀ a, (a < t0 ∨ t0 + 2 < a) → s2 a = g a := fun a ha => (p2 a (by omega)).trans (z1 a (by omega))
  refine ev_cpy (n := 5) rfl (by omega) (by omega) (fun s3 p3 q3 => ?_)
  have w3 : s3 t0 = s0 t0 := (p3 t0 (by omega)).trans w2
  have z3 : ∀ a, (a < t0 ∨ t0 + 3 < a) → s3 a = g a := fun a ha => (p3 a (by omega)).trans (z2 a (by omega))
  refine ev_cpy (n := dr) (by rw [w3]; exact f2) (by omega) (by omega) (fun s4 p4 q4 => ?_)
  have w4 : s4 t0 = s0 t0 := (p4 t0 (by omega)).trans w3
  have z4 : ∀ a, (a < t0 ∨ t0 + 4 < a) → s4 a = g a := fun a ha => (p4 a (by omega)).trans (z3 a (by omega))
  refine ev_cpy (n := dr) (by rw [w4]; exact f2) (by omega) (by omega) (fun s5 p5 q5 => ?_)
  have w5 : s5 t0 = s0 t0 := (p5 t0 (by omega)).trans w4
  have z5 : ∀ a, (a < t0 ∨ t0 + 5 < a) → s5 a = g a := fun a ha => (p5 a (by omega)).trans (z4 a (by omega))
  refine ev_cpy (n := dr) (by rw [w5]; exact f2) (by omega) (by omega) (fun s6 p6 q6 => ?_)
  have w6 : s6 t0 = s0 t0 := (p6 t0 (by omega)).trans w5
  have z6 : ∀ a, (a < t0 ∨ t0 + 6 < a) → s6 a = g a := fun a ha => (p6 a (by omega)).trans (z5 a (by omega))
  refine ev_cpy (n := 5 * dr) (by rw [f2, l_5, pk_mul, Nat.mul_comm]) (by omega) (by omega) (fun s7 p7 q7 => ?_)
  have w7 : s7 t0 = s0 t0 := (p7 t0 (by omega)).trans w6
  have z7 : ∀ a, (a < t0 ∨ t0 + 7 < a) → s7 a = g a := fun a ha => (p7 a (by omega)).trans (z6 a (by omega))
  refine ev_cpy (n := 5 * dr) (by rw [f2, l_5, pk_mul, Nat.mul_comm]) (by omega) (by omega) (fun s8 p8 q8 => ?_)
  have w8 : s8 t0 = s0 t0 := (p8 t0 (by omega)).trans w7
  have z8 : ∀ a, (a < t0 ∨ t0 + 8 < a) → s8 a = g a := fun a ha => (p8 a (by omega)).trans (z7 a (by omega))
  refine ev_cpy (n := e) (by rw [w8]; exact f3) (by omega) (by omega) (fun s9 p9 q9 => ?_)
  have w9 : s9 t0 = s0 t0 := (p9 t0 (by omega)).trans w8
  have z9 : ∀ a, (a < t0 ∨ t0 + 9 < a) → s9 a = g a := fun a ha => (p9 a (by omega)).trans (z8 a (by omega))
  refine ev_cpy (n := e) (by rw [w9]; exact f3) (by omega) (by omega) (fun s10 p10 q10 => ?_)
  have w10 : s10 t0 = s0 t0 := (p10 t0 (by omega)).trans w9
  have z10 : ∀ a, (a < t0 ∨ t0 + 10 < a) → s10 a = g a := fun a ha => (p10 a (by omega)).trans (z9 a (by omega))
  refine ev_cpy (n := e) (by rw [w10]; exact f3) (by omega) (by omega) (fun s11 p11 q11 => ?_)
  have w11 : s11 t0 = s0 t0 := (p11 t0 (by omega)).trans w10
  have z11 : ∀ a, (a < t0 ∨ t0 + 11 < a) → s11 a = g a := fun a ha => (p11 a (by omega)).trans (z10 a (by omega))
  refine ev_cpy (n := e) (by rw [w11]; exact f3) (by omega) (by omega) (fun s12 p12 q12 => ?_)
  have w12 : s12 t0 = s0 t0 := (p12 t0 (by omega)).trans w11
  have z12 : ∀ a, (a < t0 ∨ t0 + 12 < a) → s12 a = g a := fun a ha => (p12 a (by omega)).trans (z11 a (by omega))
  refine ev_cpy (n := e) (by rw [w12]; exact f3) (by omega) (by omega) (fun s13 p13 q13 => ?_)
  have w13 : s13 t0 = s0 t0 := (p13 t0 (by omega)).trans w12
  have z13 : ∀ a, (a < t0 ∨ t0 + 13 < a) → s13 a = g a := fun a ha => (p13 a (by omega)).trans (z12 a (by omega))
  refine ev_some ⟨rfl, fun a ha => z13 a (by omega), ?_, ⟨?_, ?_, ?_⟩, ?_⟩
  · show s13 t0 0 = _
    rw [w13]; exact f0
  · show s13 t0 1 = g t1 1
    rw [w13, f1, hn]
  · show s13 t0 2 = g t1 2
    rw [w13, f2, hdr]
  · show s13 t0 3 = g t1 3
    rw [w13, f3, he]
  have u1 : ∀ k, k < n → s13 (t0 + 1) k = g (t1 + 1) k := fun k hk => by rw [show s13 (t0 + 1) = s12 (t0 + 1) from p13 _ (by omega), show s12 (t0 + 1) = s11 (t0 + 1) from p12 _ (by omega), show s11 (t0 + 1) = s10 (t0 + 1) from p11 _ (by omega), show s10 (t0 + 1) = s9 (t0 + 1) from p10 _ (by omega), show s9 (t0 + 1) = s8 (t0 + 1) from p9 _ (by omega), show s8 (t0 + 1) = s7 (t0 + 1) from p8 _ (by omega), show s7 (t0 + 1) = s6 (t0 + 1) from p7 _ (by omega), show s6 (t0 + 1) = s5 (t0 + 1) from p6 _ (by omega), show s5 (t0 + 1) = s4 (t0 + 1) from p5 _ (by omega), show s4 (t0 + 1) = s3 (t0 + 1) from p4 _ (by omega), show s3 (t0 + 1) = s2 (t0 + 1) from p3 _ (by omega), show s2 (t0 + 1) = s1 (t0 + 1) from p2 _ (by omega), q1 k hk, z0 (t1 + 1) (by omega)]
  have u2 : ∀ k, k < 24 → s13 (t0 + 2) k = g (t1 + 2) k := fun k hk => by rw [show s13 (t0 + 2) = s12 (t0 + 2) from p13 _ (by omega), show s12 (t0 + 2) = s11 (t0 + 2) from p12 _ (by omega), show s11 (t0 + 2) = s10 (t0 + 2) from p11 _ (by omega), show s10 (t0 + 2) = s9 (t0 + 2) from p10 _ (by omega), show s9 (t0 + 2) = s8 (t0 + 2) from p9 _ (by omega), show s8 (t0 + 2) = s7 (t0 + 2) from p8 _ (by omega), show s7 (t0 + 2) = s6 (t0 + 2) from p7 _ (by omega), show s6 (t0 + 2) = s5 (t0 + 2) from p6 _ (by omega), show s5 (t0 + 2) = s4 (t0 + 2) from p5 _ (by omega), show s4 (t0 + 2) = s3 (t0 + 2) from p4 _ (by omega), show s3 (t0 + 2) = s2 (t0 + 2) from p3 _ (by omega), q2 k hk, z1 (t1 + 2) (by omega)]
  have u3 : ∀ k, k < 5 → s13 (t0 + 3) k = g (t1 + 3) k := fun k hk => by rw [show s13 (t0 + 3) = s12 (t0 + 3) from p13 _ (by omega), show s12 (t0 + 3) = s11 (t0 + 3) from p12 _ (by omega), show s11 (t0 + 3) = s10 (t0 + 3) from p11 _ (by omega), show s10 (t0 + 3) = s9 (t0 + 3) from p10 _ (by omega), show s9 (t0 + 3) = s8 (t0 + 3) from p9 _ (by omega), show s8 (t0 + 3) = s7 (t0 + 3) from p8 _ (by omega), show s7 (t0 + 3) = s6 (t0 + 3) from p7 _ (by omega), show s6 (t0 + 3) = s5 (t0 + 3) from p6 _ (by omega), show s5 (t0 + 3) = s4 (t0 + 3) from p5 _ (by omega), show s4 (t0 + 3) = s3 (t0 + 3) from p4 _ (by omega), q3 k hk, z2 (t1 + 3) (by omega)]
  have u4 : ∀ k, k < dr → s13 (t0 + 4) k = g (t1 + 4) k := fun k hk => by rw [show s13 (t0 + 4) = s12 (t0 + 4) from p13 _ (by omega), show s12 (t0 + 4) = s11 (t0 + 4) from p12 _ (by omega), show s11 (t0 + 4) = s10 (t0 + 4) from p11 _ (by omega), show s10 (t0 + 4) = s9 (t0 + 4) from p10 _ (by omega), show s9 (t0 + 4) = s8 (t0 + 4) from p9 _ (by omega), show s8 (t0 + 4) = s7 (t0 + 4) from p8 _ (by omega), show s7 (t0 + 4) = s6 (t0 + 4) from p7 _ (by omega), show s6 (t0 + 4) = s5 (t0 + 4) from p6 _ (by omega), show s5 (t0 + 4) = s4 (t0 + 4) from p5 _ (by omega), q4 k hk, z3 (t1 + 4) (by omega)]
  have u5 : ∀ k, k < dr → s13 (t0 + 5) k = g (t1 + 5) k := fun k hk => by rw [show s13 (t0 + 5) = s12 (t0 + 5) from p13 _ (by omega), show s12 (t0 + 5) = s11 (t0 + 5) from p12 _ (by omega), show s11 (t0 + 5) = s10 (t0 + 5) from p11 _ (by omega), show s10 (t0 + 5) = s9 (t0 + 5) from p10 _ (by omega), show s9 (t0 + 5) = s8 (t0 + 5) from p9 _ (by omega), show s8 (t0 + 5) = s7 (t0 + 5) from p8 _ (by omega), show s7 (t0 + 5) = s6 (t0 + 5) from p7 _ (by omega), show s6 (t0 + 5) = s5 (t0 + 5) from p6 _ (by omega), q5 k hk, z4 (t1 + 5) (by omega)]
  have u6 : ∀ k, k < dr → s13 (t0 + 6) k = g (t1 + 6) k := fun k hk => by rw [show s13 (t0 + 6) = s12 (t0 + 6) from p13 _ (by omega), show s12 (t0 + 6) = s11 (t0 + 6) from p12 _ (by omega), show s11 (t0 + 6) = s10 (t0 + 6) from p11 _ (by omega), show s10 (t0 + 6) = s9 (t0 + 6) from p10 _ (by omega), show s9 (t0 + 6) = s8 (t0 + 6) from p9 _ (by omega), show s8 (t0 + 6) = s7 (t0 + 6) from p8 _ (by omega), show s7 (t0 + 6) = s6 (t0 + 6) from p7 _ (by omega), q6 k hk, z5 (t1 + 6) (by omega)]
  have u7 : ∀ k, k < 5 * dr → s13 (t0 + 7) k = g (t1 + 7) k := fun k hk => by rw [show s13 (t0 + 7) = s12 (t0 + 7) from p13 _ (by omega), show s12 (t0 + 7) = s11 (t0 + 7) from p12 _ (by omega), show s11 (t0 + 7) = s10 (t0 + 7) from p11 _ (by omega), show s10 (t0 + 7) = s9 (t0 + 7) from p10 _ (by omega), show s9 (t0 + 7) = s8 (t0 + 7) from p9 _ (by omega), show s8 (t0 + 7) = s7 (t0 + 7) from p8 _ (by omega), q7 k hk, z6 (t1 + 7) (by omega)]
  have u8 : ∀ k, k < 5 * dr → s13 (t0 + 8) k = g (t1 + 8) k := fun k hk => by rw [show s13 (t0 + 8) = s12 (t0 + 8) from p13 _ (by omega), show s12 (t0 + 8) = s11 (t0 + 8) from p12 _ (by omega), show s11 (t0 + 8) = s10 (t0 + 8) from p11 _ (by omega), show s10 (t0 + 8) = s9 (t0 + 8) from p10 _ (by omega), show s9 (t0 + 8) = s8 (t0 + 8) from p9 _ (by omega), q8 k hk, z7 (t1 + 8) (by omega)]
  have u9 : ∀ k, k < e → s13 (t0 + 9) k = g (t1 + 9) k := fun k hk => by rw [show s13 (t0 + 9) = s12 (t0 + 9) from p13 _ (by omega), show s12 (t0 + 9) = s11 (t0 + 9) from p12 _ (by omega), show s11 (t0 + 9) = s10 (t0 + 9) from p11 _ (by omega), show s10 (t0 + 9) = s9 (t0 + 9) from p10 _ (by omega), q9 k hk, z8 (t1 + 9) (by omega)]
  have u10 : ∀ k, k < e → s13 (t0 + 10) k = g (t1 + 10) k := fun k hk => by rw [show s13 (t0 + 10) = s12 (t0 + 10) from p13 _ (by omega), show s12 (t0 + 10) = s11 (t0 + 10) from p12 _ (by omega), show s11 (t0 + 10) = s10 (t0 + 10) from p11 _ (by omega), q10 k hk, z9 (t1 + 10) (by omega)]
  have u11 : ∀ k, k < e → s13 (t0 + 11) k = g (t1 + 11) k := fun k hk => by rw [show s13 (t0 + 11) = s12 (t0 + 11) from p13 _ (by omega), show s12 (t0 + 11) = s11 (t0 + 11) from p12 _ (by omega), q11 k hk, z10 (t1 + 11) (by omega)]
  have u12 : ∀ k, k < e → s13 (t0 + 12) k = g (t1 + 12) k := fun k hk => by rw [show s13 (t0 + 12) = s12 (t0 + 12) from p13 _ (by omega), q12 k hk, z11 (t1 + 12) (by omega)]
  have u13 : ∀ k, k < e → s13 (t0 + 13) k = g (t1 + 13) k := fun k hk => by rw [q13 k hk, z12 (t1 + 13) (by omega)]
  refine ⟨u1, u2, u3, fun j k j1 j2 hk => ?_, fun j k j1 j2 hk => ?_, fun j k j1 j2 hk => ?_⟩
  · have : j = 4 ∨ j = 5 ∨ j = 6 := by omega
    rcases this with rfl | rfl | rfl
    · exact u4 k hk
    · exact u5 k hk
    · exact u6 k hk
  · have : j = 7 ∨ j = 8 := by omega
    rcases this with rfl | rfl
    · exact u7 k hk
    · exact u8 k hk
  · have : j = 9 ∨ j = 10 ∨ j = 11 ∨ j = 12 ∨ j = 13 := by omega
    rcases this with rfl | rfl | rfl | rfl | rfl
    · exact u9 k hk
    · exact u10 k hk
    · exact u11 k hk
    · exact u12 k hk
    · exact u13 k hk
theorem sp_copy : Sp1 Inv f_X8_copy f_X9_copy := by
  refine Sp1.of (fun a1 g hI => ?_)
  obtain ⟨np, nt, h24, h4, e1, e2, ec, em, es, hP, hT⟩ := hI.pre
  rcases c_isT (a := a1) (s := g) h4 ec with ⟨q, hno⟩ | ⟨t, htn, rfl, q⟩
  · refine ⟨-nI 2, g, g, ?_, ?_, hI⟩
    · unfold f_X8_copy
      exact q_call q (q_if_t rfl rfl)
    · rcases m_isT (a := a1) (s := g) h4 em with ⟨q', -⟩ | ⟨t, htn, e, -⟩
      · unfold f_X9_copy
        exact q_call q' (q_if_t rfl rfl)
      · exact absurd e (hno t htn)
  · have mq : ∀ s : G, s 159 8 = nI nt → f_X9_isTournament (nI t) s = some (nI 1, s) := by
      intro s hs
      rcases m_isT (a := nI t) (s := s) h4 hs with ⟨-, q'⟩ | ⟨-, -, -, q'⟩
      · exact absurd rfl (q' t htn)
      · exact q'
    by_cases n4 : nt = 4
    · refine ⟨-nI 4, g, g, ?_, ?_, hI⟩
      · unfold f_X8_copy
        refine q_call q (q_if_f (by decide) ?_)
        exact q_if_f (by rw [ec, n4]; decide) rfl
      · unfold f_X9_copy
        refine q_call (mq g em) (q_if_f (by decide) ?_)
        exact q_if_t (by rw [em, n4]; rfl) rfl
    · obtain ⟨n, dr, e, q0, hin, hsm, hrd, hen⟩ := hT t htn
      obtain ⟨⟨r1, g1⟩, e1', y0, y1, y2, y3⟩ := c_takeOver (t0 := 47 + 28 * nt) (t1 := 47 + 28 * t) (g := g) (by omega) hin.2.1 hin.1 hrd.2.1 hrd.1 hen.2.1 hen.1
      dsimp only at y0 y1 y2 y3
      subst y0
      have c12 : g1 0 12 = nI nt := by rw [y1 0 (by omega)]; exact ec
      have c14 : g1 0 14 = g 159 10 := by rw [y1 0 (by omega)]; exact es
      have x8 : opE g1 nt 159 = g 159 := by
        unfold opE
        rw [up2_ne (by omega), up2_ne (by omega), up2_ne (by omega), y1 159 (by omega)]
      have x165 : opE g1 nt 165 = g 165 := by
        unfold opE
        rw [up2_ne (by omega), up2_ne (by omega), up2_ne (by omega), y1 165 (by omega)]
      have an := m_another (t := nt) (g := opE g1 nt) (by omega) (by rw [x8]; exact em)
      generalize hg3 : nwE (opE g1 nt) nt = g3 at an
      have w165 : ∀ k, ¬ (412 * nt ≤ k ∧ k < 412 * nt + 412) → g3 165 k = g 165 k := by
        intro k hk
        rw [← hg3]
        unfold nwE
        rw [up2_ne (by omega), up2_eq, upd_ne (by omega), up2_ne (by omega), fr_out (by omega), x165]
      have w411 : g3 165 (412 * nt + 411) = g 159 10 + nI 1 := by
        rw [← hg3]
        unfold nwE
        rw [up2_ne (by omega), up2_eq, upd_eq, x8]
      have w159 : ∀ k, k ≠ 8 → k ≠ 10 → g3 159 k = g 159 k := by
        intro k k1 k2
        rw [← hg3]
        unfold nwE
        rw [up2_eq, upd_ne k1, up2_ne (by omega), up2_eq, upd_ne k2, fr_ne (by omega), x8]
      have w8 : g3 159 8 = nI (nt + 1) := by
        rw [← hg3]
        unfold nwE
        rw [up2_eq, upd_eq]
      have w10 : g3 159 10 = g 159 10 + nI 1 := by
        rw [← hg3]
        unfold nwE
        rw [up2_eq, upd_ne (by decide), up2_ne (by omega), up2_eq, upd_eq, x8]
      have wo : ∀ a, a ≠ 159 → a ≠ 165 → g3 a = opE g1 nt a := by
        intro a a1 a2
        rw [← hg3]
        unfold nwE
        rw [up2_ne a1, up2_ne a2, up2_ne a1, fr_ne a2]
      -- the copying
      have cp : Ev (lp (fun (s9 : Int32 × G) => (if (411 : Int32) ≤ s9.1 then some (.inr (s9.2)) else bd2 (f_X9_cell (nI t) s9.1 s9.2) fun r13 g14 => bd2 (f_X9_lay (nI nt) s9.1 r13 g14) fun r15 g16 => some (.inl ((s9.1 + (1 : Int32)), g16)) : Option ((Int32 × G) ⊕ (G)))) 2000 ((0 : Int32), g3)) (fun s => (∀ a, a ≠ 165 → s a = g3 a) ∧ (∀ k, ¬ (412 * nt ≤ k ∧ k < 412 * nt + 411) → s 165 k = g3 165 k) ∧ ∀ k, k < 411 → s 165 (412 * nt + k) = g 165 (412 * t + k)) := by
        refine ev_lp (I := fun i s => s.1 = nI i ∧ (∀ a, a ≠ 165 → s.2 a = g3 a) ∧ (∀ k, ¬ (412 * nt ≤ k ∧ k < 412 * nt + 411) → s.2 165 k = g3 165 k) ∧ ∀ k, k < i → s.2 165 (412 * nt + k) = g 165 (412 * t + k)) 411 ?_ ?_ 2000 0 _ (Nat.zero_le _) (by omega) ⟨rfl, fun _ _ => rfl, fun _ _ => rfl, fun c hc => absurd hc (Nat.not_lt_zero c)⟩
        · rintro i ⟨x, s⟩ hi ⟨rfl, h1, h2, h3⟩
          dsimp only at h1 h2 h3
          have hv : s 165 (412 * t + i) = g 165 (412 * t + i) := by rw [h2 _ (by omega), w165 _ (by omega)]
          refine Ev.of (a := .inl (nI (i + 1), up2 s 165 (412 * nt + i) (g 165 (412 * t + i)))) (by simp (disch := omega) only [bd2_s, bd_s, wr_s, ck_s, bz_s0, bz_s1, dz_s, nI_litS, nI_add, pk_mul, pk_sub, nI_leI, nI_ltI, nI_eq, ng_lt, ng_le, lt_ng, le_ng, eq_ng, ng_eq, ng_ngE, ng_ngL, ng_ngl, sub1_lt, sub1_ng, eq_self, if_pos, if_neg, if_true, if_false, Nat.zero_add, Nat.add_zero, f_X9_cell, f_X9_lay, hv]) ⟨rfl, fun a ha => ?_, fun k hk => ?_, fun k hk => ?_⟩
          · dsimp only
            rw [up2_ne ha]; exact h1 a ha
          · dsimp only
            rw [up2_eq, upd_ne (by omega)]; exact h2 k hk
          · dsimp only
            rw [up2_eq]
            by_cases e : k = i
            · subst e; rw [upd_eq]
            · rw [upd_ne (by omega)]; exact h3 k (by omega)
        · rintro ⟨x, s⟩ ⟨rfl, h1, h2, h3⟩
          exact Ev.of (a := .inr s) (by simp (disch := omega) only [bd2_s, bd_s, wr_s, ck_s, bz_s0, bz_s1, dz_s, nI_litS, nI_add, pk_mul, pk_sub, nI_leI, nI_ltI, nI_eq, ng_lt, ng_le, lt_ng, le_ng, eq_ng, ng_eq, ng_ngE, ng_ngL, ng_ngl, sub1_lt, sub1_ng, eq_self, if_pos, if_neg, if_true, if_false, Nat.zero_add, Nat.add_zero]) ⟨h1, h2, h3⟩
      obtain ⟨g4, e4, v1, v2, v3⟩ := cp
      have hop := c_open (t := nt) (g := g1) (by omega) c12
      refine ⟨nI nt, opE g1 nt, g4, ?_, ?_, ?_⟩
      · unfold f_X8_copy
        refine q_call q (q_if_f (by decide) ?_)
        refine q_if_t (by rw [ec, l_4, nI_ltI (by omega) (by omega)]; omega) ?_
        refine q_ck nt ec (by omega) (by decide) ?_
        refine q_wr ?_
        refine q_ck t rfl (by omega) (by decide) ?_
        refine q_wr ?_
        refine q_call e1' ?_
        refine q_call hop ?_
        rfl
      · unfold f_X9_copy
        refine q_call (mq _ (by rw [x8]; exact em)) (q_if_f (by decide) ?_)
        refine q_if_f (by rw [x8, em]; exact nI_ne (b := 4) (by omega) (by omega) n4) ?_
        refine q_call an ?_
        refine q_bd e4 ?_
        rfl
      · have b0 : ∀ j, j < 14 → blkT g4 nt j = opE g1 nt (47 + 28 * nt + j) := by
          intro j hj
          rw [blkT_get hj, v1 _ (by omega), wo _ (by omega) (by omega)]
        have b00 : ∀ k, k ≠ 0 → blkT g4 nt 0 k = g1 (47 + 28 * nt) k := by
          intro k hk
          rw [b0 0 (by omega)]
          unfold opE
          rw [show 47 + 28 * nt + 0 = 47 + 28 * nt from rfl, up2_ne (by omega), up2_eq, upd_ne hk, up2_ne (by omega)]
        have b1 : ∀ j, 0 < j → j < 14 → blkT g4 nt j = g1 (47 + 28 * nt + j) := by
          intro j j0 hj
          rw [b0 j hj]
          unfold opE
          rw [up2_ne (by omega), up2_ne (by omega), up2_ne (by omega)]
        have cpF : Cp n dr e (blkT g t) (blkT g4 nt) := by
          obtain ⟨⟨d1, d2, d3⟩, d4, d5, d6, d7, d8, d9⟩ := y3
          refine ⟨⟨?_, ?_, ?_⟩, fun k hk => ?_, fun k hk => ?_, fun k hk => ?_, fun j k j1 j2 hk => ?_, fun j k j1 j2 hk => ?_, fun j k j1 j2 hk => ?_⟩
          · rw [b00 1 (by decide)]; exact d1
          · rw [b00 2 (by decide)]; exact d2
          · rw [b00 3 (by decide)]; exact d3
          · rw [b1 1 (by omega) (by omega), blkT_get (by omega)]; exact d4 k hk
          · rw [b1 2 (by omega) (by omega), blkT_get (by omega)]; exact d5 k hk
          · rw [b1 3 (by omega) (by omega), blkT_get (by omega)]; exact d6 k hk
          · rw [b1 j (by omega) (by omega), blkT_get (by omega)]; exact d7 j k j1 j2 hk
          · rw [b1 j (by omega) (by omega), blkT_get (by omega)]; exact d8 j k j1 j2 hk
          · rw [b1 j (by omega) (by omega), blkT_get (by omega)]; exact d9 j k j1 j2 hk
        have rR : ∀ k, k < 411 → rowT g4 nt k = rowT g t k := by
          intro k hk
          rw [rowT_get (by omega), rowT_get (by omega), v3 k hk]
        refine hI.more e2 h24 ec (by omega) (fun a q1 q2 q3 q4 => ?_) ?_ (fun k q1 q2 => ?_) ?_ ?_ ?_ (fun k q => ?_) ⟨n, dr, e, ?_, ?_, ?_, ?_, ?_⟩
        · rw [v1 a q2, wo a q4 q2]
          unfold opE
          rw [up2_ne q3, up2_ne (by omega), up2_ne q3, y1 a (by omega)]
        · rw [v1 0 (by omega), wo 0 (by omega) (by omega)]
          unfold opE
          rw [up2_eq, upd_ne (by decide), up2_ne (by omega), up2_eq, upd_ne (by decide), y1 0 (by omega)]
        · rw [v1 159 (by omega), w159 k q1 q2]
        · rw [v1 0 (by omega), wo 0 (by omega) (by omega)]
          unfold opE
          rw [up2_eq, upd_eq]
        · rw [v1 159 (by omega)]; exact w8
        · rw [v1 0 (by omega), wo 0 (by omega) (by omega), v1 159 (by omega), w10]
          unfold opE
          rw [up2_eq, upd_ne (by decide), up2_ne (by omega), up2_eq, upd_eq, c14]
        · rw [v2 k (by omega), w165 k q]
        · rw [b0 0 (by omega), rowT_get (by omega), v2 _ (by omega), w411]
          unfold opE
          rw [show 47 + 28 * nt + 0 = 47 + 28 * nt from rfl, up2_ne (by omega), up2_eq, upd_eq, c14]
        · exact (hin.cp cpF).cg rfl rfl rfl (fun k hk => rR k (by omega))
        · exact (hsm.cp cpF).cg rfl (fun k _ hk => rR k (by omega))
        · exact (hrd.cp cpF).cg hin.1 rfl (fun _ _ _ => rfl) (fun k _ hk => rR k (by omega))
        · exact (hen.cp cpF).cg hrd.1 rfl (fun _ _ _ => rfl) (fun k _ hk => rR k (by omega))
