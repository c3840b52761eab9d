/-! The model's table of the best ways. -/
theorem m_dp {M : Nat} {c : Nat → Nat → Nat} {al : Nat → Nat} {g : G} (hc : ∀ i j, i < j → j < M → c i j ≤ 4000000) (ha : ∀ i, i < M → al i ≤ 4000000) (M10 : M ≤ 10) (h30 : g 159 30 = nI M) (h180 : ∀ i j, i < j → j < M → g 180 (10 * i + j) = nI (c i j)) (hd : ∀ i, i < M → g 180 (11 * i) = nI (al i)) : Ev (ck (0 : Int32) 1024 fun j29 => wr (up2 g 178 j29 (0 : Int32)) fun g30 => bd (lp (fun (s33 : Int32 × G) => (if ((1 : Int32) <<< ((g30 159 30) &&& 31)) ≤ s33.1 then some (.inr (s33.2)) else bd (lp (fun (s39 : Int32 × Int32) => (if (s33.2 159 30) ≤ s39.2 then some (.inr (s39.1)) else some (.inl ((s39.1 + ((s33.1 >>> (s39.2 &&& 31)) &&& (1 : Int32))), (s39.2 + (1 : Int32)))) : Option ((Int32 × Int32) ⊕ (Int32)))) 2000 ((0 : Int32), (0 : Int32))) fun (s41 : Int32) => bd (lp (fun (s45 : Int32) => (if ((s33.1 >>> (s45 &&& 31)) &&& (1 : Int32)) = 0 then some (.inl ((s45 + (1 : Int32)))) else some (.inr (s45)) : Option ((Int32) ⊕ (Int32)))) 2000 (0 : Int32)) fun (s47 : Int32) => ck s33.1 1024 fun j50 => wr (up2 s33.2 178 j50 (2147483647 : Int32)) fun g51 => ck s33.1 1024 fun j52 => wr (up2 g51 179 j52 (10 : Int32)) fun g53 => bd (lp (fun (g6 : Int32 × G) => (if (g6.2 159 30) ≤ g6.1 then some (.inr (g6.2)) else bd ((if ((s33.1 >>> (g6.1 &&& 31)) &&& (1 : Int32)) = (1 : Int32) then ck ((s33.1 - ((1 : Int32) <<< (s47 &&& 31))) - ((1 : Int32) <<< (g6.1 &&& 31))) 1024 fun j63 => if (g6.2 178 j63) = (2147483647 : Int32) then some (g6.2) else ck (((10 : Int32) * s47) + g6.1) 100 fun j65 => ck s33.1 1024 fun j66 => if (g6.2 178 j66) ≤ ((g6.2 180 j65) + (g6.2 178 j63)) then some (g6.2) else ck (((10 : Int32) * s47) + g6.1) 100 fun j68 => ck s33.1 1024 fun j69 => wr (up2 g6.2 178 j69 ((g6.2 180 j68) + (g6.2 178 j63))) fun g70 => ck s33.1 1024 fun j71 => wr (up2 g70 179 j71 g6.1) fun g72 => some (g72) else some (g6.2) : Option (G))) fun (s61 : G) => some (.inl ((g6.1 + (1 : Int32)), s61)) : Option ((Int32 × G) ⊕ (G)))) 2000 ((s47 + (1 : Int32)), g53)) fun (g8 : G) => bd ((if (s41 - s41 / (2 : Int32) * (2 : Int32)) = (1 : Int32) then ck ((11 : Int32) * s47) 100 fun j78 => ck (s33.1 - ((1 : Int32) <<< (s47 &&& 31))) 1024 fun j79 => ck s33.1 1024 fun j80 => if (g8 178 j80) ≤ ((g8 180 j78) + (g8 178 j79)) then some (g8) else ck ((11 : Int32) * s47) 100 fun j82 => ck (s33.1 - ((1 : Int32) <<< (s47 &&& 31))) 1024 fun j83 => ck s33.1 1024 fun j84 => wr (up2 g8 178 j84 ((g8 180 j82) + (g8 178 j83))) fun g85 => ck s33.1 1024 fun j86 => wr (up2 g85 179 j86 (10 : Int32)) fun g87 => some (g87) else some (g8) : Option (G))) fun (s76 : G) => some (.inl ((s33.1 + (1 : Int32)), s76)) : Option ((Int32 × G) ⊕ (G)))) 2000 ((1 : Int32), g30)) fun (s35 : G) => some (((0 : Int32), s35))) (fun q => (∀ a, a ≠ 178 → a ≠ 179 → q.2 a = g a) ∧ ∀ S, 0 < S → S < 2 ^ M → q.2 178 S = nI (opt M c al (bs S)).1 ∧ q.2 179 S = nI (opt M c al (bs S)).2) := by
  have hC : M * 4000000 < 2147483647 := by omega
  have hp := pow_le M10
  have ob : ∀ s, (opt M c al s).1 ≤ 40000000 := by
    intro s
    have h1 := opt_bd hc ha _ s rfl
    have h2 := cn_bd s M
    have h3 : cn s M * 4000000 ≤ 10 * 4000000 := Nat.mul_le_mul_right _ (by omega)
    omega
  refine ev_ck 0 rfl (by omega) (by decide) ?_
  refine ev_wr ?_
  refine ev_bd ?_
  have h31 : up2 g 178 0 0 159 30 = nI M := by rw [up2_ne (by decide)]; exact h30
  rw [h31, sh_1 M10]
  refine ev_lp (I := fun n st => st.1 = nI (n + 1) ∧ (∀ a, a ≠ 178 → a ≠ 179 → st.2 a = g a) ∧ st.2 178 0 = nI 0 ∧ ∀ S, 0 < S → S < n + 1 → st.2 178 S = nI (opt M c al (bs S)).1 ∧ st.2 179 S = nI (opt M c al (bs S)).2) (2 ^ M - 1) ?_ ?_ 2000 0 _ (Nat.zero_le _) (by omega) ⟨rfl, fun a a1 a2 => up2_ne a1, ?_, fun S h1 h2 => ?_⟩
  · rintro n ⟨y, st⟩ hn ⟨rfl, i1, i2, i3⟩
    dsimp only at i1 i2 i3
    have hS : n + 1 < 2 ^ M := by omega
    generalize hSn : n + 1 = S at *
    have S0 : 0 < S := by omega
    have s30 : st 159 30 = nI M := by rw [i1 159 (by decide) (by decide)]; exact h30
    have hpos := cn_pos_bs hS S0
    obtain ⟨l1, l2, l3⟩ := lo_ok (s := bs S) (M := M) hpos
    have hlow := low_lp M10 hS S0
    have es := opt_s (c := c) (al := al) hpos
    have hcnt : lp (fun (s39 : Int32 × Int32) => (if (st 159 30) ≤ s39.2 then some (.inr (s39.1)) else some (.inl ((s39.1 + ((nI S >>> (s39.2 &&& 31)) &&& (1 : Int32))), (s39.2 + (1 : Int32)))) : Option ((Int32 × Int32) ⊕ (Int32)))) 2000 ((0 : Int32), (0 : Int32)) = some (nI (cn (bs S) M)) := by
      refine q_lp (fun k => (nI (cn (bs S) k), nI k)) M (fun k hk => ?_) ?_ (by omega) rfl
      · dsimp only
        refine q_if_f (by rw [s30]; exact nI_ge hk (by omega)) ?_
        rw [cn]
        rcases bit_cases (S := S) (i := k) (by omega) (by omega) with ⟨q, q'⟩ | ⟨q, q'⟩
        · rw [q', if_pos q, nI_add, nI_1]
        · rw [q', q, if_neg (by decide), nI_add, Nat.add_zero, nI_1]
      · exact q_if_t (by show st 159 30 ≤ nI M; rw [s30]; exact Int32.le_refl _) rfl
    have hcb := cn_bd (bs S) M
    unfold stp at es
    generalize hi0 : wf (bs S) M 0 = i at *
    -- the subsets
    have sub1 : 2 ^ i ≤ S ∧ bs (S - 2 ^ i) = rm (bs S) i := bs_sub hS l2
    have sub2 : ∀ j, i < j → bs S j = true → 2 ^ i + 2 ^ j ≤ S ∧ bs (S - 2 ^ i - 2 ^ j) = rm (rm (bs S) i) j := by
      intro j hij hj
      have h1 := bs_sub (S := S - 2 ^ i) (n := M) (i := j) (Nat.lt_of_le_of_lt (Nat.sub_le _ _) hS) (by rw [sub1.2, rm_ne (by omega)]; exact hj)
      rw [sub1.2] at h1
      exact ⟨by omega, h1.2⟩
    have p2 : ∀ k, 0 < 2 ^ k := fun k => Nat.two_pow_pos k
    have tab : ∀ (st' : G) (S' : Nat), (∀ T, T < S → st' 178 T = st 178 T) → S' < S → st' 178 S' = nI (opt M c al (bs S')).1 := by
      intro st' S' hst hS'
      rw [hst S' hS']
      by_cases z : S' = 0
      · subst z
        rw [i2]
        have : cn (bs 0) M = 0 := by
          rw [cn_stop (bs 0) (Nat.zero_le M) (fun k _ _ => bs_hi (n := 0) (by decide) (Nat.zero_le k))]
          rfl
        rw [opt_0 this]
      · exact (i3 S' (by omega) hS').1
    dsimp only
    refine ev_f (nI_ge hS (by omega)) ?_
    refine ev_bd (Ev.of hcnt ?_)
    refine ev_bd (Ev.of hlow ?_)
    refine ev_ck S rfl (by omega) (by decide) ?_
    refine ev_wr ?_
    refine ev_ck S rfl (by omega) (by decide) ?_
    refine ev_wr ?_
    refine ev_bd ?_
    -- the pairs of i
    refine Ev.imp (P := fun s' : G => (∀ a, a ≠ 178 → a ≠ 179 → s' a = g a) ∧ (∀ T, T < S → s' 178 T = st 178 T ∧ s' 179 T = st 179 T) ∧ s' 178 S = nI (fdJ c (opt M c al) (bs S) i M).1 ∧ s' 179 S = nI (fdJ c (opt M c al) (bs S) i M).2) ?_ ?_
    · refine ev_lp (I := fun x s' => s'.1 = nI (i + 1 + x) ∧ (∀ a, a ≠ 178 → a ≠ 179 → s'.2 a = g a) ∧ (∀ T, T < S → s'.2 178 T = st 178 T ∧ s'.2 179 T = st 179 T) ∧ s'.2 178 S = nI (fdJ c (opt M c al) (bs S) i (i + 1 + x)).1 ∧ s'.2 179 S = nI (fdJ c (opt M c al) (bs S) i (i + 1 + x)).2) (M - (i + 1)) ?_ ?_ 2000 0 _ (Nat.zero_le _) (by omega) ⟨nI_1 i, fun a a1 a2 => ?_, fun T hT => ⟨?_, ?_⟩, ?_, ?_⟩
      · rintro x ⟨y, s'⟩ hx ⟨rfl, j1, j2, j3, j4⟩
        dsimp only at j1 j2 j3 j4
        have hjM : i + 1 + x < M := by omega
        rw [show i + 1 + (x + 1) = i + 1 + x + 1 from rfl]
        generalize hj : i + 1 + x = j at *
        have hij : i < j := by omega
        have t30 : s' 159 30 = nI M := by rw [j1 159 (by decide) (by decide)]; exact h30
        dsimp only
        refine ev_f (by rw [t30]; exact nI_ge hjM (by omega)) ?_
        rcases bit_cases (S := S) (i := j) (by omega) (by omega) with ⟨bj, q'⟩ | ⟨bj, q'⟩
        · obtain ⟨g1, g2⟩ := sub2 j hij bj
          have hpi := p2 i
          have hpj := p2 j
          have ix : (nI S - ((1 : Int32) <<< (nI i &&& 31))) - ((1 : Int32) <<< (nI j &&& 31)) = nI (S - 2 ^ i - 2 ^ j) := by
            rw [sh_1 (by omega), sh_1 (by omega), pk_sub (by omega), pk_sub (by omega)]
          have ij : (10 : Int32) * nI i + nI j = nI (10 * i + j) := by rw [l_10, pk_mul, nI_add]
          have v1 : s' 178 (S - 2 ^ i - 2 ^ j) = nI (opt M c al (rm (rm (bs S) i) j)).1 := by
            rw [tab s' (S - 2 ^ i - 2 ^ j) (fun T hT => (j2 T hT).1) (by omega), g2]
          have v2 : s' 180 (10 * i + j) = nI (c i j) := by rw [j1 180 (by decide) (by decide)]; exact h180 i j hij hjM
          have ob1 := ob (rm (rm (bs S) i) j)
          have ob2 := hc i j hij hjM
          have fb : (fdJ c (opt M c al) (bs S) i j).1 ≤ 2147483647 := fd_mono j 0 (Nat.zero_le _)
          have efd : fdJ c (opt M c al) (bs S) i (j + 1) = if c i j + (opt M c al (rm (rm (bs S) i) j)).1 < (fdJ c (opt M c al) (bs S) i j).1 then (c i j + (opt M c al (rm (rm (bs S) i) j)).1, j) else fdJ c (opt M c al) (bs S) i j := by
            rw [fdJ]
            by_cases q : c i j + (opt M c al (rm (rm (bs S) i) j)).1 < (fdJ c (opt M c al) (bs S) i j).1
            · rw [if_pos ⟨hij, bj, q⟩, if_pos q]
            · rw [if_neg (fun z => q z.2.2), if_neg q]
          by_cases q : c i j + (opt M c al (rm (rm (bs S) i) j)).1 < (fdJ c (opt M c al) (bs S) i j).1
          · rw [if_pos q] at efd
            rw [efd]
            refine Ev.of (a := .inl (nI (j + 1), up2 (up2 s' 178 S (nI (c i j + (opt M c al (rm (rm (bs S) i) j)).1))) 179 S (nI j))) ?_ ⟨rfl, fun a a1 a2 => ?_, fun T hT => ⟨?_, ?_⟩, ?_, ?_⟩
            · refine q_bd (a := up2 (up2 s' 178 S (nI (c i j + (opt M c al (rm (rm (bs S) i) j)).1))) 179 S (nI j)) (q_if_t q' ?_) (by rw [nI_1])
              refine q_ck (S - 2 ^ i - 2 ^ j) ix (by omega) (by decide) ?_
              refine q_if_f (by rw [v1, l_2147483647]; exact nI_ne (by omega) (by omega) (by omega)) ?_
              refine q_ck (10 * i + j) ij (by omega) (by decide) ?_
              refine q_ck S rfl (by omega) (by decide) ?_
              refine q_if_f (by rw [v1, v2, j3, nI_add]; exact nI_ge q (by omega)) ?_
              refine q_ck (10 * i + j) ij (by omega) (by decide) ?_
              refine q_ck S rfl (by omega) (by decide) ?_
              rw [v1, v2, nI_add]
              refine q_wr ?_
              refine q_ck S rfl (by omega) (by decide) ?_
              rfl
            · dsimp only
              rw [up2_ne a2, up2_ne a1]; exact j1 a a1 a2
            · dsimp only
              rw [up2_ne (by decide), up2_eq, upd_ne (by omega)]; exact (j2 T hT).1
            · dsimp only
              rw [up2_eq, upd_ne (by omega), up2_ne (by decide)]; exact (j2 T hT).2
            · dsimp only
              rw [up2_ne (by decide), up2_eq, upd_eq]
            · dsimp only
              rw [up2_eq, upd_eq]
          · rw [if_neg q] at efd
            rw [efd]
            refine Ev.of (a := .inl (nI (j + 1), s')) ?_ ⟨rfl, j1, j2, j3, j4⟩
            refine q_bd (a := s') (q_if_t q' ?_) (by rw [nI_1])
            refine q_ck (S - 2 ^ i - 2 ^ j) ix (by omega) (by decide) ?_
            refine q_if_f (by rw [v1, l_2147483647]; exact nI_ne (by omega) (by omega) (by omega)) ?_
            refine q_ck (10 * i + j) ij (by omega) (by decide) ?_
            refine q_ck S rfl (by omega) (by decide) ?_
            exact q_if_t (by rw [v1, v2, j3, nI_add]; exact nI_le (by omega) (by omega)) rfl
        · have efd : fdJ c (opt M c al) (bs S) i (j + 1) = fdJ c (opt M c al) (bs S) i j := by
            rw [fdJ, if_neg (fun q => by rw [bj] at q; exact absurd q.2.1 (by decide))]
          rw [efd]
          refine Ev.of (a := .inl (nI (j + 1), s')) ?_ ⟨rfl, j1, j2, j3, j4⟩
          exact q_bd (a := s') (q_if_f (by rw [q']; decide) rfl) (by rw [nI_1])
      · rintro ⟨y, s'⟩ ⟨rfl, j1, j2, j3, j4⟩
        dsimp only at j1 j2 j3 j4
        rw [show i + 1 + (M - (i + 1)) = M from by omega] at j3 j4 ⊢
        refine Ev.of (a := .inr s') (q_if_t (by show s' 159 30 ≤ nI M; rw [j1 159 (by decide) (by decide), h30]; exact Int32.le_refl _) rfl) ⟨j1, j2, j3, j4⟩
      · dsimp only
        rw [up2_ne a2, up2_ne a1]; exact i1 a a1 a2
      · dsimp only
        rw [up2_ne (by decide), up2_eq, upd_ne (by omega)]
      · dsimp only
        rw [up2_eq, upd_ne (by omega), up2_ne (by decide)]
      · dsimp only
        rw [up2_ne (by decide), up2_eq, upd_eq, fd_0 _ (by omega)]
        rfl
      · dsimp only
        rw [up2_eq, upd_eq, fd_0 _ (by omega)]
        rfl
    · -- with nobody
      rintro s' ⟨j1, j2, j3, j4⟩
      have fin : ∀ s6 : G, (∀ a, a ≠ 178 → a ≠ 179 → s6 a = g a) → (∀ T, T < S → s6 178 T = st 178 T ∧ s6 179 T = st 179 T) → s6 178 S = nI (opt M c al (bs S)).1 → s6 179 S = nI (opt M c al (bs S)).2 → Ev (some (.inl (nI S + 1, s6) : (Int32 × G) ⊕ G)) (Sum.elim (fun st => st.1 = nI (S + 1) ∧ (∀ a, a ≠ 178 → a ≠ 179 → st.2 a = g a) ∧ st.2 178 0 = nI 0 ∧ ∀ T, 0 < T → T < S + 1 → st.2 178 T = nI (opt M c al (bs T)).1 ∧ st.2 179 T = nI (opt M c al (bs T)).2) (fun s => Ev (some ((0 : Int32), s)) (fun q => (∀ a, a ≠ 178 → a ≠ 179 → q.2 a = g a) ∧ ∀ T, 0 < T → T < 2 ^ M → q.2 178 T = nI (opt M c al (bs T)).1 ∧ q.2 179 T = nI (opt M c al (bs T)).2))) := by
        intro s6 f1 f2 f3 f4
        refine ev_some ⟨nI_1 S, f1, ?_, fun T h1 h2 => ?_⟩
        · dsimp only
          rw [(f2 0 S0).1]; exact i2
        · dsimp only
          by_cases e : T = S
          · subst e; exact ⟨f3, f4⟩
          · have := i3 T h1 (by omega)
            rw [(f2 T (by omega)).1, (f2 T (by omega)).2]
            exact this
      refine ev_bd ?_
      have hrem : nI (cn (bs S) M) - nI (cn (bs S) M) / 2 * 2 = nI (cn (bs S) M % 2) := by rw [l_2, pk_rem (by omega) (by omega) (by omega)]
      by_cases odd : cn (bs S) M % 2 = 1
      · have hpi := p2 i
        have ix : nI S - ((1 : Int32) <<< (nI i &&& 31)) = nI (S - 2 ^ i) := by
          rw [sh_1 (by omega), pk_sub (by omega)]
        have ij : (11 : Int32) * nI i = nI (11 * i) := by rw [show (11 : Int32) = nI 11 from rfl, pk_mul]
        have v1 : s' 178 (S - 2 ^ i) = nI (opt M c al (rm (bs S) i)).1 := by
          rw [tab s' (S - 2 ^ i) (fun T hT => (j2 T hT).1) (by omega), sub1.2]
        have v2 : s' 180 (11 * i) = nI (al i) := by rw [j1 180 (by decide) (by decide)]; exact hd i l1
        have ob1 := ob (rm (bs S) i)
        have ob2 := ha i l1
        have fb : (fdJ c (opt M c al) (bs S) i M).1 ≤ 2147483647 := fd_mono M 0 (Nat.zero_le _)
        by_cases q : al i + (opt M c al (rm (bs S) i)).1 < (fdJ c (opt M c al) (bs S) i M).1
        · rw [if_pos ⟨odd, q⟩] at es
          refine Ev.of (a := up2 (up2 s' 178 S (nI (al i + (opt M c al (rm (bs S) i)).1))) 179 S (nI 10)) ?_ (fin _ (fun a a1 a2 => ?_) (fun T hT => ⟨?_, ?_⟩) ?_ ?_)
          · refine q_if_t (by rw [hrem, odd]; rfl) ?_
            refine q_ck (11 * i) ij (by omega) (by decide) ?_
            refine q_ck (S - 2 ^ i) ix (by omega) (by decide) ?_
            refine q_ck S rfl (by omega) (by decide) ?_
            refine q_if_f (by rw [v1, v2, j3, nI_add]; exact nI_ge q (by omega)) ?_
            refine q_ck (11 * i) ij (by omega) (by decide) ?_
            refine q_ck (S - 2 ^ i) ix (by omega) (by decide) ?_
            refine q_ck S rfl (by omega) (by decide) ?_
            rw [v1, v2, nI_add]
            refine q_wr ?_
            refine q_ck S rfl (by omega) (by decide) ?_
            rfl
          · rw [up2_ne a2, up2_ne a1]; exact j1 a a1 a2
          · rw [up2_ne (by decide), up2_eq, upd_ne (by omega)]; exact (j2 T hT).1
          · rw [up2_eq, upd_ne (by omega), up2_ne (by decide)]; exact (j2 T hT).2
          · rw [up2_ne (by decide), up2_eq, upd_eq, es]
          · rw [up2_eq, upd_eq, es]
        · rw [if_neg (fun z => q z.2)] at es
          refine Ev.of (a := s') ?_ (fin s' j1 j2 (by rw [es]; exact j3) (by rw [es]; exact j4))
          refine q_if_t (by rw [hrem, odd]; rfl) ?_
          refine q_ck (11 * i) ij (by omega) (by decide) ?_
          refine q_ck (S - 2 ^ i) ix (by omega) (by decide) ?_
          refine q_ck S rfl (by omega) (by decide) ?_
          exact q_if_t (by rw [v1, v2, j3, nI_add]; exact nI_le (by omega) (by omega)) rfl
      · rw [if_neg (fun z => odd z.1)] at es
        have ev0 : cn (bs S) M % 2 = 0 := by omega
        refine Ev.of (a := s') (q_if_f (by rw [hrem, ev0]; decide) rfl) (fin s' j1 j2 (by rw [es]; exact j3) (by rw [es]; exact j4))
  · rintro ⟨y, st⟩ ⟨rfl, i1, i2, i3⟩
    dsimp only at i1 i2 i3
    have hpp := Nat.two_pow_pos M
    rw [show 2 ^ M - 1 + 1 = 2 ^ M from by omega] at i3 ⊢
    exact Ev.of (a := .inr st) (q_if_t (Int32.le_refl _) rfl) (ev_some ⟨i1, i3⟩)
  · dsimp only
    rw [up2_eq, upd_eq]
    rfl
  · omega
