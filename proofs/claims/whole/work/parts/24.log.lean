/-! The log of the class and the trace of the model: what a row of BODIES and a FINDING do to them. -/
def ap (v : Int32) (q : Int32 × (Nat → Int32)) : Int32 × (Nat → Int32) := if 200 ≤ q.1 then q else (q.1 + 1, upd q.2 q.1.toNatClampNeg v)
def aps : List Int32 → Int32 × (Nat → Int32) → Int32 × (Nat → Int32)
  | [], q => q
  | v :: l, q => aps l (ap v q)
theorem aps_app : ∀ (l l' : List Int32) (q : Int32 × (Nat → Int32)), aps (l ++ l') q = aps l' (aps l q)
  | [], _, _ => rfl
  | v :: l, l', q => aps_app l l' (ap v q)
/-- two logs that tell the same -/
def Lq (q q' : Int32 × (Nat → Int32)) : Prop := ∃ n : Nat, n ≤ 200 ∧ q.1 = nI n ∧ q'.1 = nI n ∧ ∀ i, i < n → q.2 i = q'.2 i
theorem Lq_ap {q q' : Int32 × (Nat → Int32)} (v : Int32) (h : Lq q q') : Lq (ap v q) (ap v q') := by
  obtain ⟨n, h1, h2, h3, h4⟩ := h
  unfold ap
  rw [h2, h3]
  by_cases h : (200 : Int32) ≤ nI n
  · rw [if_pos h, if_pos h]
    exact ⟨n, h1, h2, h3, h4⟩
  · rw [if_neg h, if_neg h]
    have hn : n < 200 := by
      rcases Nat.lt_or_ge n 200 with q | q
      · exact q
      · exact absurd (nI_le (a := 200) q (by omega)) h
    refine ⟨n + 1, by omega, nI_1 n, nI_1 n, fun i hi => ?_⟩
    show upd q.2 (nI n).toNatClampNeg v i = upd q'.2 (nI n).toNatClampNeg v i
    rw [nI_clamp (by omega)]
    by_cases e : i = n
    · subst e
      rw [upd_eq, upd_eq]
    · rw [upd_ne e, upd_ne e]
      exact h4 i (by omega)
theorem Lq_aps : ∀ (l : List Int32) {q q' : Int32 × (Nat → Int32)}, Lq q q' → Lq (aps l q) (aps l q')
  | [], _, _, h => h
  | v :: l, _, _, h => Lq_aps l (Lq_ap v h)
/-- the class behind a row of bodies and a finding (0: none) -/
def cE (tr : List Int32) (f : Int32) (g : G) : G := up1 (up1 g 1 (fun k => if k = 1 then (aps tr (g 1 1, g 2)).1 else if k = 2 then (if f = 0 then g 1 2 else f) else g 1 k)) 2 (aps tr (g 1 1, g 2)).2
/-- the model behind them -/
def mE (tr : List Int32) (f : Int32) (g : G) : G := up1 (up1 g 159 (fun k => if k = 2 then (aps tr (g 159 2, g 160)).1 else if k = 0 then (if f = 0 then g 159 0 else f) else g 159 k)) 160 (aps tr (g 159 2, g 160)).2
theorem cE_off {tr : List Int32} {f : Int32} {g : G} {a : Nat} (h1 : a ≠ 1) (h2 : a ≠ 2) : cE tr f g a = g a := by
  unfold cE
  rw [up1_ne h2, up1_ne h1]
theorem mE_off {tr : List Int32} {f : Int32} {g : G} {a : Nat} (h1 : a ≠ 159) (h2 : a ≠ 160) : mE tr f g a = g a := by
  unfold mE
  rw [up1_ne h2, up1_ne h1]
theorem mE_f {tr : List Int32} {f : Int32} {g : G} {k : Nat} (h1 : k ≠ 2) (h2 : k ≠ 0) : mE tr f g 159 k = g 159 k := by
  unfold mE
  rw [up1_ne (by decide), up1_eq, if_neg h1, if_neg h2]
theorem cE_len {tr : List Int32} {f : Int32} {g : G} : (cE tr f g 1 1, cE tr f g 2) = aps tr (g 1 1, g 2) := rfl
theorem mE_len {tr : List Int32} {f : Int32} {g : G} : (mE tr f g 159 2, mE tr f g 160) = aps tr (g 159 2, g 160) := rfl
theorem cE_cE {tr tr' : List Int32} {f f' : Int32} {g : G} : cE tr' f' (cE tr f g) = cE (tr ++ tr') (if f' = 0 then f else f') g := by
  have e := aps_app tr tr' (g 1 1, g 2)
  funext b
  by_cases h2 : b = 2
  · subst h2
    show (aps tr' (aps tr (g 1 1, g 2))).2 = (aps (tr ++ tr') (g 1 1, g 2)).2
    rw [e]
  · by_cases h1 : b = 1
    · subst h1
      funext k
      show (if k = 1 then (aps tr' (aps tr (g 1 1, g 2))).1 else if k = 2 then (if f' = 0 then (if f = 0 then g 1 2 else f) else f') else (if k = 1 then (aps tr (g 1 1, g 2)).1 else if k = 2 then (if f = 0 then g 1 2 else f) else g 1 k)) = (if k = 1 then (aps (tr ++ tr') (g 1 1, g 2)).1 else if k = 2 then (if (if f' = 0 then f else f') = 0 then g 1 2 else (if f' = 0 then f else f')) else g 1 k)
      rw [e]
      by_cases k1 : k = 1
      · rw [if_pos k1, if_pos k1]
      · rw [if_neg k1, if_neg k1, if_neg k1]
        by_cases k2 : k = 2
        · rw [if_pos k2, if_pos k2]
          by_cases hf : f' = 0
          · rw [if_pos hf, if_pos hf]
          · rw [if_neg hf, if_neg hf, if_neg hf]
        · rw [if_neg k2, if_neg k2, if_neg k2]
    · rw [cE_off h1 h2, cE_off h1 h2, cE_off h1 h2]
theorem mE_mE {tr tr' : List Int32} {f f' : Int32} {g : G} : mE tr' f' (mE tr f g) = mE (tr ++ tr') (if f' = 0 then f else f') g := by
  have e := aps_app tr tr' (g 159 2, g 160)
  funext b
  by_cases h2 : b = 160
  · subst h2
    show (aps tr' (aps tr (g 159 2, g 160))).2 = (aps (tr ++ tr') (g 159 2, g 160)).2
    rw [e]
  · by_cases h1 : b = 159
    · subst h1
      funext k
      show (if k = 2 then (aps tr' (aps tr (g 159 2, g 160))).1 else if k = 0 then (if f' = 0 then (if f = 0 then g 159 0 else f) else f') else (if k = 2 then (aps tr (g 159 2, g 160)).1 else if k = 0 then (if f = 0 then g 159 0 else f) else g 159 k)) = (if k = 2 then (aps (tr ++ tr') (g 159 2, g 160)).1 else if k = 0 then (if (if f' = 0 then f else f') = 0 then g 159 0 else (if f' = 0 then f else f')) else g 159 k)
      rw [e]
      by_cases k1 : k = 2
      · rw [if_pos k1, if_pos k1]
      · rw [if_neg k1, if_neg k1, if_neg k1]
        by_cases k2 : k = 0
        · rw [if_pos k2, if_pos k2]
          by_cases hf : f' = 0
          · rw [if_pos hf, if_pos hf]
          · rw [if_neg hf, if_neg hf, if_neg hf]
        · rw [if_neg k2, if_neg k2, if_neg k2]
    · rw [mE_off h1 h2, mE_off h1 h2, mE_off h1 h2]
theorem cE_nil {g : G} : cE [] 0 g = g := by
  funext b
  by_cases h2 : b = 2
  · subst h2; rfl
  · by_cases h1 : b = 1
    · subst h1
      funext k
      show (if k = 1 then g 1 1 else if k = 2 then g 1 2 else g 1 k) = g 1 k
      by_cases k1 : k = 1
      · rw [if_pos k1, k1]
      · rw [if_neg k1]
        by_cases k2 : k = 2
        · rw [if_pos k2, k2]
        · rw [if_neg k2]
    · rw [cE_off h1 h2]
theorem mE_nil {g : G} : mE [] 0 g = g := by
  funext b
  by_cases h2 : b = 160
  · subst h2; rfl
  · by_cases h1 : b = 159
    · subst h1
      funext k
      show (if k = 2 then g 159 2 else if k = 0 then g 159 0 else g 159 k) = g 159 k
      by_cases k1 : k = 2
      · rw [if_pos k1, k1]
      · rw [if_neg k1]
        by_cases k2 : k = 0
        · rw [if_pos k2, k2]
        · rw [if_neg k2]
    · rw [mE_off h1 h2]
/-- the log is in order: its length is told -/
def Lc (g : G) : Prop := ∃ n : Nat, n ≤ 200 ∧ g 1 1 = nI n
def Lm (g : G) : Prop := ∃ n : Nat, n ≤ 200 ∧ g 159 2 = nI n
theorem ap_ok {v : Int32} {q : Int32 × (Nat → Int32)} (h : ∃ n : Nat, n ≤ 200 ∧ q.1 = nI n) : ∃ n : Nat, n ≤ 200 ∧ (ap v q).1 = nI n := by
  obtain ⟨n, h1, h2⟩ := h
  unfold ap
  rw [h2]
  by_cases h : (200 : Int32) ≤ nI n
  · rw [if_pos h]; exact ⟨n, h1, h2⟩
  · rw [if_neg h]
    refine ⟨n + 1, ?_, nI_1 n⟩
    rcases Nat.lt_or_ge n 200 with q | q
    · omega
    · exact absurd (nI_le (a := 200) q (by omega)) h
theorem aps_ok : ∀ (l : List Int32) {q : Int32 × (Nat → Int32)}, (∃ n : Nat, n ≤ 200 ∧ q.1 = nI n) → ∃ n : Nat, n ≤ 200 ∧ (aps l q).1 = nI n
  | [], _, h => h
  | _ :: l, _, h => aps_ok l (ap_ok h)
theorem Lc.cE {tr : List Int32} {f : Int32} {g : G} (h : Lc g) : Lc (cE tr f g) := aps_ok tr (q := (g 1 1, g 2)) h
theorem Lm.mE {tr : List Int32} {f : Int32} {g : G} (h : Lm g) : Lm (mE tr f g) := aps_ok tr (q := (g 159 2, g 160)) h
theorem c_write {v : Int32} {g : G} (h : Lc g) : f_X1_write v g = some (0, cE [v] 0 g) := by
  obtain ⟨n, h1, h2⟩ := h
  unfold f_X1_write
  by_cases h : (200 : Int32) ≤ g 1 1
  · refine q_if_t h (q_some rfl ?_)
    have e : aps [v] (g 1 1, g 2) = (g 1 1, g 2) := if_pos h
    have e2 : cE [v] 0 g = cE [] 0 g := by
      unfold cE
      rw [e]
      rfl
    rw [e2, cE_nil]
  · have hn : n < 200 := by
      rcases Nat.lt_or_ge n 200 with q | q
      · exact q
      · exact absurd (by rw [h2]; exact nI_le (a := 200) q (by omega)) h
    refine q_if_f h (q_ck n h2 hn (by decide) (q_wr (q_wr (q_some rfl ?_))))
    have e : aps [v] (g 1 1, g 2) = (g 1 1 + 1, upd (g 2) n v) := by
      show (if 200 ≤ g 1 1 then _ else _) = _
      rw [if_neg h]
      show (g 1 1 + 1, upd (g 2) (g 1 1).toNatClampNeg v) = _
      rw [h2, nI_clamp (by omega)]
    funext b
    unfold cE
    rw [e]
    by_cases b2 : b = 2
    · subst b2; rfl
    · by_cases b1 : b = 1
      · subst b1
        funext k
        show upd (g 1) 1 (g 1 1 + 1) k = (if k = 1 then g 1 1 + 1 else if k = 2 then g 1 2 else g 1 k)
        unfold upd
        by_cases k1 : k = 1
        · rw [if_pos k1, if_pos k1]
        · rw [if_neg k1, if_neg k1]
          by_cases k2 : k = 2
          · rw [if_pos k2, k2]
          · rw [if_neg k2]
      · rw [up1_ne b2, up1_ne b1, up2_ne b1, up2_ne b2]
theorem m_began {v : Int32} {g : G} (h : Lm g) : f_X9_began v g = some (0, mE [v] 0 g) := by
  obtain ⟨n, h1, h2⟩ := h
  unfold f_X9_began
  by_cases h : (200 : Int32) ≤ g 159 2
  · refine q_if_t h (q_some rfl ?_)
    have e : aps [v] (g 159 2, g 160) = (g 159 2, g 160) := if_pos h
    have e2 : mE [v] 0 g = mE [] 0 g := by
      unfold mE
      rw [e]
      rfl
    rw [e2, mE_nil]
  · have hn : n < 200 := by
      rcases Nat.lt_or_ge n 200 with q | q
      · exact q
      · exact absurd (by rw [h2]; exact nI_le (a := 200) q (by omega)) h
    refine q_if_f h (q_ck n h2 hn (by decide) (q_wr (q_wr (q_some rfl ?_))))
    have e : aps [v] (g 159 2, g 160) = (g 159 2 + 1, upd (g 160) n v) := by
      show (if 200 ≤ g 159 2 then _ else _) = _
      rw [if_neg h]
      show (g 159 2 + 1, upd (g 160) (g 159 2).toNatClampNeg v) = _
      rw [h2, nI_clamp (by omega)]
    funext b
    unfold mE
    rw [e]
    by_cases b2 : b = 160
    · subst b2; rfl
    · by_cases b1 : b = 159
      · subst b1
        funext k
        show upd (g 159) 2 (g 159 2 + 1) k = (if k = 2 then g 159 2 + 1 else if k = 0 then g 159 0 else g 159 k)
        unfold upd
        by_cases k1 : k = 2
        · rw [if_pos k1, if_pos k1]
        · rw [if_neg k1, if_neg k1]
          by_cases k2 : k = 0
          · rw [if_pos k2, k2]
          · rw [if_neg k2]
      · rw [up1_ne b2, up1_ne b1, up2_ne b1, up2_ne b2]
theorem c_met {f : Int32} {g : G} (hf : ¬ f = 0) : f_X1_met f g = some (-5, cE [] f g) := by
  unfold f_X1_met
  refine q_wr (q_some rfl ?_)
  funext b
  by_cases b2 : b = 2
  · subst b2; rfl
  · by_cases b1 : b = 1
    · subst b1
      funext k
      show upd (g 1) 2 f k = (if k = 1 then g 1 1 else if k = 2 then (if f = 0 then g 1 2 else f) else g 1 k)
      unfold upd
      by_cases k2 : k = 2
      · rw [if_pos k2, if_neg (by omega), if_pos k2, if_neg hf]
      · rw [if_neg k2]
        by_cases k1 : k = 1
        · rw [if_pos k1, k1]
        · rw [if_neg k1, if_neg k2]
    · rw [cE_off b1 b2, up2_ne b1]
theorem m_meets {f : Int32} {g : G} (hf : ¬ f = 0) : f_X9_meets f g = some (-5, mE [] f g) := by
  unfold f_X9_meets
  refine q_wr (q_some rfl ?_)
  funext b
  by_cases b2 : b = 160
  · subst b2; rfl
  · by_cases b1 : b = 159
    · subst b1
      funext k
      show upd (g 159) 0 f k = (if k = 2 then g 159 2 else if k = 0 then (if f = 0 then g 159 0 else f) else g 159 k)
      unfold upd
      by_cases k2 : k = 0
      · rw [if_pos k2, if_neg (by omega), if_pos k2, if_neg hf]
      · rw [if_neg k2]
        by_cases k1 : k = 2
        · rw [if_pos k1, k1]
        · rw [if_neg k1, if_neg k2]
    · rw [mE_off b1 b2, up2_ne b1]
/-- both behind the same row and finding -/
theorem J_log.eff {g : G} (h : J_log g) (tr : List Int32) (f : Int32) : J_log (mE tr f (cE tr f g)) := by
  obtain ⟨n, h1, h2, h3, h4, h5⟩ := h
  obtain ⟨m, q1, q2, q3, q4⟩ := Lq_aps tr (q := (g 1 1, g 2)) (q' := (g 159 2, g 160)) ⟨n, h1, h2, h3, h5⟩
  refine ⟨m, q1, q2, q3, ?_, q4⟩
  show (if f = 0 then g 1 2 else f) = (if f = 0 then g 159 0 else f)
  rw [h4]
theorem Inv.eff {g : G} (h : Inv g) (tr : List Int32) (f : Int32) : Inv (mE tr f (cE tr f g)) := by
  obtain ⟨i1, i2, i3, i4, i5, i6, i7⟩ := h
  refine ⟨i1, i2.eff tr f, i3, i4, i5, i6.off rfl rfl rfl rfl rfl rfl rfl (fun a h1 h2 => ?_), i7⟩
  rw [mE_off (by omega) (by omega), cE_off (by omega) (by omega)]
