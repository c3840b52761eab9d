/-! Constructors: each walked at its place; the heap as a snapshot. Written by gen/p16.py. -/
/-- the memory behind both constructors -/
def g0 : G := fun a => if a = 159 then (fun k => if k = 22 ∨ k = 23 then -1 else 0) else if a = 45 then (fun k => if k = 1 ∨ k = 2 then -1 else 0) else (fun _ => 0)
def S_f : List (Nat × va_E) → Nat → va_E
  | [], k => hp g0 k
  | (a, e) :: l, k => if k = a then e else S_f l k
def Sn (n z : Nat) (ov : List (Nat × va_E)) : am_H := (S_f ov, n, z)
theorem Sn_u {n z a : Nat} {ov : List (Nat × va_E)} {e : va_E} : am_u (Sn n z ov) a e = Sn n z ((a, e) :: ov) := rfl
theorem Sn_n {n z w : Nat} {ov : List (Nat × va_E)} {e : va_E} : am_n (Sn n z ov) e w = Sn (n + 1) (z + w) ((n, e) :: ov) := rfl
theorem Sn_f {n z : Nat} {ov ov' : List (Nat × va_E)} (h : S_f ov = S_f ov') : Sn n z ov = Sn n z ov' := by rw [Sn, Sn, h]
/-- a cell that is as it will be needs no word -/
theorem Sf_drop {a : Nat} {e : va_E} {ov : List (Nat × va_E)} (h : S_f ov a = e) : S_f ((a, e) :: ov) = S_f ov := by
  funext k
  by_cases hk : k = a
  · subst hk
    rw [S_f, if_pos rfl, h]
  · rw [S_f, if_neg hk]
/-- the newer word of a cell hides the elder one -/
theorem Sf_hide {a : Nat} {e e' : va_E} {ov : List (Nat × va_E)} : S_f ((a, e) :: (a, e') :: ov) = S_f ((a, e) :: ov) := by
  funext k
  by_cases hk : k = a
  · rw [S_f, if_pos hk, S_f, if_pos hk]
  · rw [S_f, if_neg hk, S_f, if_neg hk, S_f, if_neg hk]
theorem Sf_hide2 {a b : Nat} {e e' f : va_E} {ov : List (Nat × va_E)} (hab : a ≠ b) : S_f ((a, e) :: (b, f) :: (a, e') :: ov) = S_f ((b, f) :: (a, e) :: ov) := by
  funext k
  by_cases hk : k = a
  · subst hk
    rw [S_f, if_pos rfl, S_f, if_neg hab, S_f, if_pos rfl]
  · rw [S_f, if_neg hk, S_f]
    by_cases hb : k = b
    · rw [if_pos hb, S_f, if_pos hb]
    · rw [if_neg hb, S_f, if_neg hk, S_f, if_neg hb, S_f, if_neg hk]
theorem Sf_hide3 {a : Nat} {e e' : va_E} : ∀ (pre : List (Nat × va_E)) (ov : List (Nat × va_E)), S_f ((a, e) :: (pre ++ (a, e') :: ov)) = S_f ((a, e) :: (pre ++ ov)) := by
  intro pre ov
  funext k
  by_cases hk : k = a
  · rw [S_f, if_pos hk, S_f, if_pos hk]
  · rw [S_f, if_neg hk, S_f, if_neg hk]
    induction pre with
    | nil => exact if_neg hk
    | cons q r ih =>
      obtain ⟨b, f⟩ := q
      show S_f ((b, f) :: (r ++ (a, e') :: ov)) k = S_f ((b, f) :: (r ++ ov)) k
      rw [S_f, S_f, ih]
theorem Sf_ne {a k : Nat} {e : va_E} {ov : List (Nat × va_E)} (h : k ≠ a) : S_f ((a, e) :: ov) k = S_f ov k := if_neg h
theorem Sf_swap {a b : Nat} {e f : va_E} {ov : List (Nat × va_E)} (hab : a ≠ b) : S_f ((a, e) :: (b, f) :: ov) = S_f ((b, f) :: (a, e) :: ov) := by
  funext k
  by_cases hk : k = a
  · subst hk
    rw [S_f, if_pos rfl, S_f, if_neg hab, S_f, if_pos rfl]
  · rw [S_f, if_neg hk, S_f, S_f]
    by_cases hb : k = b
    · rw [if_pos hb, if_pos hb]
    · rw [if_neg hb, if_neg hb, S_f, if_neg hk]
theorem am_eqh {M : am_M} {sc : Nat × (Nat → Int32)} {d mc ms n0 z0 : Nat} {post : Int32 → am_H → Prop} {pc : Nat} {L : List (Option Value)} {st : List Value} {h h' : am_H} (e : h = h') (k : am_V M sc d mc ms n0 z0 post pc L st h') : am_V M sc d mc ms n0 z0 post pc L st h := by rw [e]; exact k
theorem df_0 {b bs : Nat} : ∀ j, j < 13 → defaultValue (am_ty 0 j) = vp_V (([.null, .null, .null, .null, .null, .null, .null, .null, .null, .null, .null, .int (0 : Int32), .int (0 : Int32)] : List Value).map (am_v b bs)) j := fun j hj => by
  match j, hj with
  | 0, _ => rfl
  | 1, _ => rfl
  | 2, _ => rfl
  | 3, _ => rfl
  | 4, _ => rfl
  | 5, _ => rfl
  | 6, _ => rfl
  | 7, _ => rfl
  | 8, _ => rfl
  | 9, _ => rfl
  | 10, _ => rfl
  | 11, _ => rfl
  | 12, _ => rfl
  | j + 13, hj => exact absurd hj (by omega)
theorem df_1 {b bs : Nat} : ∀ j, j < 3 → defaultValue (am_ty 1 j) = vp_V (([.null, .int (0 : Int32), .int (0 : Int32)] : List Value).map (am_v b bs)) j := fun j hj => by
  match j, hj with
  | 0, _ => rfl
  | 1, _ => rfl
  | 2, _ => rfl
  | j + 3, hj => exact absurd hj (by omega)
theorem df_2 {b bs : Nat} : ∀ j, j < 3 → defaultValue (am_ty 2 j) = vp_V (([.null, .null, .null] : List Value).map (am_v b bs)) j := fun j hj => by
  match j, hj with
  | 0, _ => rfl
  | 1, _ => rfl
  | 2, _ => rfl
  | j + 3, hj => exact absurd hj (by omega)
theorem df_3 {b bs : Nat} : ∀ j, j < 1 → defaultValue (am_ty 3 j) = vp_V (([.null] : List Value).map (am_v b bs)) j := fun j hj => by
  match j, hj with
  | 0, _ => rfl
  | j + 1, hj => exact absurd hj (by omega)
theorem df_4 {b bs : Nat} : ∀ j, j < 4 → defaultValue (am_ty 4 j) = vp_V (([.int (0 : Int32), .int (0 : Int32), .int (0 : Int32), .int (0 : Int32)] : List Value).map (am_v b bs)) j := fun j hj => by
  match j, hj with
  | 0, _ => rfl
  | 1, _ => rfl
  | 2, _ => rfl
  | 3, _ => rfl
  | j + 4, hj => exact absurd hj (by omega)
theorem df_5 {b bs : Nat} : ∀ j, j < 5 → defaultValue (am_ty 5 j) = vp_V (([.null, .null, .null, .null, .int (0 : Int32)] : List Value).map (am_v b bs)) j := fun j hj => by
  match j, hj with
  | 0, _ => rfl
  | 1, _ => rfl
  | 2, _ => rfl
  | 3, _ => rfl
  | 4, _ => rfl
  | j + 5, hj => exact absurd hj (by omega)
theorem df_6 {b bs : Nat} : ∀ j, j < 11 → defaultValue (am_ty 6 j) = vp_V (([.null, .null, .null, .null, .null, .null, .null, .null, .null, .null, .null] : List Value).map (am_v b bs)) j := fun j hj => by
  match j, hj with
  | 0, _ => rfl
  | 1, _ => rfl
  | 2, _ => rfl
  | 3, _ => rfl
  | 4, _ => rfl
  | 5, _ => rfl
  | 6, _ => rfl
  | 7, _ => rfl
  | 8, _ => rfl
  | 9, _ => rfl
  | 10, _ => rfl
  | j + 11, hj => exact absurd hj (by omega)
theorem df_7 {b bs : Nat} : ∀ j, j < 17 → defaultValue (am_ty 7 j) = vp_V (([.int (0 : Int32), .int (0 : Int32), .int (0 : Int32), .int (0 : Int32), .null, .null, .null, .null, .null, .null, .null, .null, .null, .null, .null, .null, .null] : List Value).map (am_v b bs)) j := fun j hj => by
  match j, hj with
  | 0, _ => rfl
  | 1, _ => rfl
  | 2, _ => rfl
  | 3, _ => rfl
  | 4, _ => rfl
  | 5, _ => rfl
  | 6, _ => rfl
  | 7, _ => rfl
  | 8, _ => rfl
  | 9, _ => rfl
  | 10, _ => rfl
  | 11, _ => rfl
  | 12, _ => rfl
  | 13, _ => rfl
  | 14, _ => rfl
  | 15, _ => rfl
  | 16, _ => rfl
  | j + 17, hj => exact absurd hj (by omega)
theorem df_8 {b bs : Nat} : ∀ j, j < 15 → defaultValue (am_ty 8 j) = vp_V (([.null, .null, .null, .null, .null, .null, .null, .null, .null, .null, .null, .int (0 : Int32), .int (0 : Int32), .int (0 : Int32), .int (0 : Int32)] : List Value).map (am_v b bs)) j := fun j hj => by
  match j, hj with
  | 0, _ => rfl
  | 1, _ => rfl
  | 2, _ => rfl
  | 3, _ => rfl
  | 4, _ => rfl
  | 5, _ => rfl
  | 6, _ => rfl
  | 7, _ => rfl
  | 8, _ => rfl
  | 9, _ => rfl
  | 10, _ => rfl
  | 11, _ => rfl
  | 12, _ => rfl
  | 13, _ => rfl
  | 14, _ => rfl
  | j + 15, hj => exact absurd hj (by omega)
theorem df_9 {b bs : Nat} : ∀ j, j < 43 → defaultValue (am_ty 9 j) = vp_V (((Value.int (0 : Int32) :: Value.null :: Value.int (0 : Int32) :: Value.int (0 : Int32) :: Value.null :: Value.null :: Value.null :: Value.null :: Value.int (0 : Int32) :: Value.null :: Value.int (0 : Int32) :: Value.int (0 : Int32) :: Value.null :: Value.null :: Value.null :: Value.null :: Value.int (0 : Int32) :: Value.null :: Value.null :: Value.null :: Value.null :: Value.int (0 : Int32) :: Value.int (0 : Int32) :: Value.int (0 : Int32) :: Value.int (0 : Int32) :: Value.int (0 : Int32) :: Value.null :: Value.null :: Value.null :: Value.null :: Value.int (0 : Int32) :: Value.int (0 : Int32) :: Value.int (0 : Int32) :: Value.int (0 : Int32) :: Value.int (0 : Int32) :: Value.null :: Value.null :: Value.null :: Value.null :: Value.null :: Value.null :: Value.null :: Value.int (0 : Int32) :: []) : List Value).map (am_v b bs)) j := fun j hj => by
  match j, hj with
  | 0, _ => rfl
  | 1, _ => rfl
  | 2, _ => rfl
  | 3, _ => rfl
  | 4, _ => rfl
  | 5, _ => rfl
  | 6, _ => rfl
  | 7, _ => rfl
  | 8, _ => rfl
  | 9, _ => rfl
  | 10, _ => rfl
  | 11, _ => rfl
  | 12, _ => rfl
  | 13, _ => rfl
  | 14, _ => rfl
  | 15, _ => rfl
  | 16, _ => rfl
  | 17, _ => rfl
  | 18, _ => rfl
  | 19, _ => rfl
  | 20, _ => rfl
  | 21, _ => rfl
  | 22, _ => rfl
  | 23, _ => rfl
  | 24, _ => rfl
  | 25, _ => rfl
  | 26, _ => rfl
  | 27, _ => rfl
  | 28, _ => rfl
  | 29, _ => rfl
  | 30, _ => rfl
  | 31, _ => rfl
  | 32, _ => rfl
  | 33, _ => rfl
  | 34, _ => rfl
  | 35, _ => rfl
  | 36, _ => rfl
  | 37, _ => rfl
  | 38, _ => rfl
  | 39, _ => rfl
  | 40, _ => rfl
  | 41, _ => rfl
  | 42, _ => rfl
  | j + 43, hj => exact absurd hj (by omega)
set_option maxHeartbeats 4000000 in
set_option maxRecDepth 100000 in
theorem z_X1_init_1 (ov : List (Nat × va_E)) (hov : ∀ k, 1 ≤ k → S_f ov k = hp g0 k) {post : Int32 → am_H → Prop} (K : post 0 (Sn 3 218 ov)) : am_X m_X1_init 1 1 200 [.ref 1] (Sn 2 18 ((1, .inr (1, [.null, .int (0 : Int32), .int (0 : Int32)])) :: ov)) post := by
  refine am_X_of ok_X1_init pn_1 rfl (by decide) (Or.inl rfl) (List.forall_mem_cons.mpr ⟨rfl, fun _ h => absurd h List.not_mem_nil⟩) (Nat.le_of_ble_eq_true rfl) ?_
  show am_V m_X1_init (0, fun _ => 0) 1 1 200 2 18 post 0 [some (.ref 1)] [] (Sn 2 18 ((1, .inr (1, [.null, .int (0 : Int32), .int (0 : Int32)])) :: ov))
  refine am_aload_n rfl rfl ?_
  refine am_obj j_1_3 ob_ins ob_cod rfl (Nat.le_of_ble_eq_true rfl) (fun _ _ => Nat.le_of_ble_eq_true rfl) ?_
  refine am_aload_n rfl rfl ?_
  refine x_sipush (v := (200 : Int32)) rfl (by decide) ?_
  refine am_newI ar_int (by decide) (N := 200) (by decide) (by decide) rfl ⟨Nat.le_of_ble_eq_true rfl, Nat.le_of_ble_eq_true rfl⟩ ?_
  refine am_eqh (h' := (Sn 3 218 ((1, .inr (1, [.null, .int (0 : Int32), .int (0 : Int32)])) :: ov))) (Sn_n.trans (Sn_f (Sf_drop (((Sf_ne (a := 1) (k := 2) (by decide)).trans (hov 2 (by decide))).trans rfl)))) ?_
  refine am_putF f_1_9 rfl rfl rfl rfl (Nat.le_of_ble_eq_true rfl) rfl (by decide) (fun _ _ => ⟨rfl, rfl⟩) ?_
  refine am_eqh (h' := (Sn 3 218 ((1, .inr (1, [.ref 2, .int (0 : Int32), .int (0 : Int32)])) :: ov))) (Sn_u.trans (Sn_f Sf_hide)) ?_
  refine am_aload_n rfl rfl ?_
  refine x_iconst (v := (0 : Int32)) rfl (by decide) ?_
  refine am_put f_1_15 rfl rfl (Nat.le_of_ble_eq_true rfl) rfl (by decide) (fun _ _ => ⟨rfl, rfl⟩) ?_
  refine am_eqh (h' := (Sn 3 218 ((1, .inr (1, [.ref 2, .int (0 : Int32), .int (0 : Int32)])) :: ov))) (Sn_u.trans (Sn_f Sf_hide)) ?_
  refine am_aload_n rfl rfl ?_
  refine x_iconst (v := (0 : Int32)) rfl (by decide) ?_
  refine am_put f_1_19 rfl rfl (Nat.le_of_ble_eq_true rfl) rfl (by decide) (fun _ _ => ⟨rfl, rfl⟩) ?_
  refine am_eqh (h' := (Sn 3 218 ((1, .inr (1, [.ref 2, .int (0 : Int32), .int (0 : Int32)])) :: ov))) (Sn_u.trans (Sn_f Sf_hide)) ?_
  refine am_eqh (h' := (Sn 3 218 (ov))) (Sn_f (Sf_drop ((hov 1 (by decide)).trans rfl))) ?_
  exact am_vret rfl rfl rfl rfl K
set_option maxHeartbeats 4000000 in
set_option maxRecDepth 100000 in
theorem z_X5_init_3 (ov : List (Nat × va_E)) (hov : ∀ k, 3 ≤ k → S_f ov k = hp g0 k) {post : Int32 → am_H → Prop} (K : post 0 (Sn 8 391 ov)) : am_X m_X5_init 1 4 168 [.ref 3] (Sn 4 223 ((3, .inr (5, [.null, .null, .null, .null, .int (0 : Int32)])) :: ov)) post := by
  refine am_X_of ok_X5_init pn_5 rfl (by decide) (Or.inl rfl) (List.forall_mem_cons.mpr ⟨rfl, fun _ h => absurd h List.not_mem_nil⟩) (Nat.le_of_ble_eq_true rfl) ?_
  show am_V m_X5_init (0, fun _ => 0) 1 4 168 4 223 post 0 [some (.ref 3)] [] (Sn 4 223 ((3, .inr (5, [.null, .null, .null, .null, .int (0 : Int32)])) :: ov))
  refine am_aload_n rfl rfl ?_
  refine am_obj j_5_3 ob_ins ob_cod rfl (Nat.le_of_ble_eq_true rfl) (fun _ _ => Nat.le_of_ble_eq_true rfl) ?_
  refine am_aload_n rfl rfl ?_
  refine x_bipush (v := (24 : Int32)) rfl (by decide) ?_
  refine am_newI ar_int (by decide) (N := 24) (by decide) (by decide) rfl ⟨Nat.le_of_ble_eq_true rfl, Nat.le_of_ble_eq_true rfl⟩ ?_
  refine am_eqh (h' := (Sn 5 247 ((3, .inr (5, [.null, .null, .null, .null, .int (0 : Int32)])) :: ov))) (Sn_n.trans (Sn_f (Sf_drop (((Sf_ne (a := 3) (k := 4) (by decide)).trans (hov 4 (by decide))).trans rfl)))) ?_
  refine am_putF f_5_9 rfl rfl rfl rfl (Nat.le_of_ble_eq_true rfl) rfl (by decide) (fun _ _ => ⟨rfl, rfl⟩) ?_
  refine am_eqh (h' := (Sn 5 247 ((3, .inr (5, [.ref 4, .null, .null, .null, .int (0 : Int32)])) :: ov))) (Sn_u.trans (Sn_f Sf_hide)) ?_
  refine am_aload_n rfl rfl ?_
  refine x_bipush (v := (24 : Int32)) rfl (by decide) ?_
  refine am_newI ar_int (by decide) (N := 24) (by decide) (by decide) rfl ⟨Nat.le_of_ble_eq_true rfl, Nat.le_of_ble_eq_true rfl⟩ ?_
  refine am_eqh (h' := (Sn 6 271 ((3, .inr (5, [.ref 4, .null, .null, .null, .int (0 : Int32)])) :: ov))) (Sn_n.trans (Sn_f (Sf_drop (((Sf_ne (a := 3) (k := 5) (by decide)).trans (hov 5 (by decide))).trans rfl)))) ?_
  refine am_putF f_5_15 rfl rfl rfl rfl (Nat.le_of_ble_eq_true rfl) rfl (by decide) (fun _ _ => ⟨rfl, rfl⟩) ?_
  refine am_eqh (h' := (Sn 6 271 ((3, .inr (5, [.ref 4, .ref 5, .null, .null, .int (0 : Int32)])) :: ov))) (Sn_u.trans (Sn_f Sf_hide)) ?_
  refine am_aload_n rfl rfl ?_
  refine x_bipush (v := (24 : Int32)) rfl (by decide) ?_
  refine am_newI ar_int (by decide) (N := 24) (by decide) (by decide) rfl ⟨Nat.le_of_ble_eq_true rfl, Nat.le_of_ble_eq_true rfl⟩ ?_
  refine am_eqh (h' := (Sn 7 295 ((3, .inr (5, [.ref 4, .ref 5, .null, .null, .int (0 : Int32)])) :: ov))) (Sn_n.trans (Sn_f (Sf_drop (((Sf_ne (a := 3) (k := 6) (by decide)).trans (hov 6 (by decide))).trans rfl)))) ?_
  refine am_putF f_5_18 rfl rfl rfl rfl (Nat.le_of_ble_eq_true rfl) rfl (by decide) (fun _ _ => ⟨rfl, rfl⟩) ?_
  refine am_eqh (h' := (Sn 7 295 ((3, .inr (5, [.ref 4, .ref 5, .ref 6, .null, .int (0 : Int32)])) :: ov))) (Sn_u.trans (Sn_f Sf_hide)) ?_
  refine am_aload_n rfl rfl ?_
  refine x_bipush (v := (96 : Int32)) rfl (by decide) ?_
  refine am_newI ar_int (by decide) (N := 96) (by decide) (by decide) rfl ⟨Nat.le_of_ble_eq_true rfl, Nat.le_of_ble_eq_true rfl⟩ ?_
  refine am_eqh (h' := (Sn 8 391 ((3, .inr (5, [.ref 4, .ref 5, .ref 6, .null, .int (0 : Int32)])) :: ov))) (Sn_n.trans (Sn_f (Sf_drop (((Sf_ne (a := 3) (k := 7) (by decide)).trans (hov 7 (by decide))).trans rfl)))) ?_
  refine am_putF f_5_21 rfl rfl rfl rfl (Nat.le_of_ble_eq_true rfl) rfl (by decide) (fun _ _ => ⟨rfl, rfl⟩) ?_
  refine am_eqh (h' := (Sn 8 391 ((3, .inr (5, [.ref 4, .ref 5, .ref 6, .ref 7, .int (0 : Int32)])) :: ov))) (Sn_u.trans (Sn_f Sf_hide)) ?_
  refine am_aload_n rfl rfl ?_
  refine x_iconst (v := (0 : Int32)) rfl (by decide) ?_
  refine am_put f_5_24 rfl rfl (Nat.le_of_ble_eq_true rfl) rfl (by decide) (fun _ _ => ⟨rfl, rfl⟩) ?_
  refine am_eqh (h' := (Sn 8 391 ((3, .inr (5, [.ref 4, .ref 5, .ref 6, .ref 7, .int (0 : Int32)])) :: ov))) (Sn_u.trans (Sn_f Sf_hide)) ?_
  refine am_eqh (h' := (Sn 8 391 (ov))) (Sn_f (Sf_drop ((hov 3 (by decide)).trans rfl))) ?_
  exact am_vret rfl rfl rfl rfl K
set_option maxHeartbeats 4000000 in
set_option maxRecDepth 100000 in
theorem z_X5_init_8 (ov : List (Nat × va_E)) (hov : ∀ k, 8 ≤ k → S_f ov k = hp g0 k) {post : Int32 → am_H → Prop} (K : post 0 (Sn 13 564 ov)) : am_X m_X5_init 1 4 168 [.ref 8] (Sn 9 396 ((8, .inr (5, [.null, .null, .null, .null, .int (0 : Int32)])) :: ov)) post := by
  refine am_X_of ok_X5_init pn_5 rfl (by decide) (Or.inl rfl) (List.forall_mem_cons.mpr ⟨rfl, fun _ h => absurd h List.not_mem_nil⟩) (Nat.le_of_ble_eq_true rfl) ?_
  show am_V m_X5_init (0, fun _ => 0) 1 4 168 9 396 post 0 [some (.ref 8)] [] (Sn 9 396 ((8, .inr (5, [.null, .null, .null, .null, .int (0 : Int32)])) :: ov))
  refine am_aload_n rfl rfl ?_
  refine am_obj j_5_3 ob_ins ob_cod rfl (Nat.le_of_ble_eq_true rfl) (fun _ _ => Nat.le_of_ble_eq_true rfl) ?_
  refine am_aload_n rfl rfl ?_
  refine x_bipush (v := (24 : Int32)) rfl (by decide) ?_
  refine am_newI ar_int (by decide) (N := 24) (by decide) (by decide) rfl ⟨Nat.le_of_ble_eq_true rfl, Nat.le_of_ble_eq_true rfl⟩ ?_
  refine am_eqh (h' := (Sn 10 420 ((8, .inr (5, [.null, .null, .null, .null, .int (0 : Int32)])) :: ov))) (Sn_n.trans (Sn_f (Sf_drop (((Sf_ne (a := 8) (k := 9) (by decide)).trans (hov 9 (by decide))).trans rfl)))) ?_
  refine am_putF f_5_9 rfl rfl rfl rfl (Nat.le_of_ble_eq_true rfl) rfl (by decide) (fun _ _ => ⟨rfl, rfl⟩) ?_
  refine am_eqh (h' := (Sn 10 420 ((8, .inr (5, [.ref 9, .null, .null, .null, .int (0 : Int32)])) :: ov))) (Sn_u.trans (Sn_f Sf_hide)) ?_
  refine am_aload_n rfl rfl ?_
  refine x_bipush (v := (24 : Int32)) rfl (by decide) ?_
  refine am_newI ar_int (by decide) (N := 24) (by decide) (by decide) rfl ⟨Nat.le_of_ble_eq_true rfl, Nat.le_of_ble_eq_true rfl⟩ ?_
  refine am_eqh (h' := (Sn 11 444 ((8, .inr (5, [.ref 9, .null, .null, .null, .int (0 : Int32)])) :: ov))) (Sn_n.trans (Sn_f (Sf_drop (((Sf_ne (a := 8) (k := 10) (by decide)).trans (hov 10 (by decide))).trans rfl)))) ?_
  refine am_putF f_5_15 rfl rfl rfl rfl (Nat.le_of_ble_eq_true rfl) rfl (by decide) (fun _ _ => ⟨rfl, rfl⟩) ?_
  refine am_eqh (h' := (Sn 11 444 ((8, .inr (5, [.ref 9, .ref 10, .null, .null, .int (0 : Int32)])) :: ov))) (Sn_u.trans (Sn_f Sf_hide)) ?_
  refine am_aload_n rfl rfl ?_
  refine x_bipush (v := (24 : Int32)) rfl (by decide) ?_
  refine am_newI ar_int (by decide) (N := 24) (by decide) (by decide) rfl ⟨Nat.le_of_ble_eq_true rfl, Nat.le_of_ble_eq_true rfl⟩ ?_
  refine am_eqh (h' := (Sn 12 468 ((8, .inr (5, [.ref 9, .ref 10, .null, .null, .int (0 : Int32)])) :: ov))) (Sn_n.trans (Sn_f (Sf_drop (((Sf_ne (a := 8) (k := 11) (by decide)).trans (hov 11 (by decide))).trans rfl)))) ?_
  refine am_putF f_5_18 rfl rfl rfl rfl (Nat.le_of_ble_eq_true rfl) rfl (by decide) (fun _ _ => ⟨rfl, rfl⟩) ?_
  refine am_eqh (h' := (Sn 12 468 ((8, .inr (5, [.ref 9, .ref 10, .ref 11, .null, .int (0 : Int32)])) :: ov))) (Sn_u.trans (Sn_f Sf_hide)) ?_
  refine am_aload_n rfl rfl ?_
  refine x_bipush (v := (96 : Int32)) rfl (by decide) ?_
  refine am_newI ar_int (by decide) (N := 96) (by decide) (by decide) rfl ⟨Nat.le_of_ble_eq_true rfl, Nat.le_of_ble_eq_true rfl⟩ ?_
  refine am_eqh (h' := (Sn 13 564 ((8, .inr (5, [.ref 9, .ref 10, .ref 11, .null, .int (0 : Int32)])) :: ov))) (Sn_n.trans (Sn_f (Sf_drop (((Sf_ne (a := 8) (k := 12) (by decide)).trans (hov 12 (by decide))).trans rfl)))) ?_
  refine am_putF f_5_21 rfl rfl rfl rfl (Nat.le_of_ble_eq_true rfl) rfl (by decide) (fun _ _ => ⟨rfl, rfl⟩) ?_
  refine am_eqh (h' := (Sn 13 564 ((8, .inr (5, [.ref 9, .ref 10, .ref 11, .ref 12, .int (0 : Int32)])) :: ov))) (Sn_u.trans (Sn_f Sf_hide)) ?_
  refine am_aload_n rfl rfl ?_
  refine x_iconst (v := (0 : Int32)) rfl (by decide) ?_
  refine am_put f_5_24 rfl rfl (Nat.le_of_ble_eq_true rfl) rfl (by decide) (fun _ _ => ⟨rfl, rfl⟩) ?_
  refine am_eqh (h' := (Sn 13 564 ((8, .inr (5, [.ref 9, .ref 10, .ref 11, .ref 12, .int (0 : Int32)])) :: ov))) (Sn_u.trans (Sn_f Sf_hide)) ?_
  refine am_eqh (h' := (Sn 13 564 (ov))) (Sn_f (Sf_drop ((hov 8 (by decide)).trans rfl))) ?_
  exact am_vret rfl rfl rfl rfl K
set_option maxHeartbeats 4000000 in
set_option maxRecDepth 100000 in
theorem z_X6_init_15 (ov : List (Nat × va_E)) (hov : ∀ k, 15 ≤ k → S_f ov k = hp g0 k) {post : Int32 → am_H → Prop} (K : post 0 (Sn 27 839 ov)) : am_X m_X6_init 1 11 256 [.ref 15] (Sn 16 583 ((15, .inr (6, [.null, .null, .null, .null, .null, .null, .null, .null, .null, .null, .null])) :: ov)) post := by
  refine am_X_of ok_X6_init pn_6 rfl (by decide) (Or.inl rfl) (List.forall_mem_cons.mpr ⟨rfl, fun _ h => absurd h List.not_mem_nil⟩) (Nat.le_of_ble_eq_true rfl) ?_
  show am_V m_X6_init (0, fun _ => 0) 1 11 256 16 583 post 0 [some (.ref 15)] [] (Sn 16 583 ((15, .inr (6, [.null, .null, .null, .null, .null, .null, .null, .null, .null, .null, .null])) :: ov))
  refine am_aload_n rfl rfl ?_
  refine am_obj j_6_3 ob_ins ob_cod rfl (Nat.le_of_ble_eq_true rfl) (fun _ _ => Nat.le_of_ble_eq_true rfl) ?_
  refine am_aload_n rfl rfl ?_
  refine x_bipush (v := (30 : Int32)) rfl (by decide) ?_
  refine am_newI ar_int (by decide) (N := 30) (by decide) (by decide) rfl ⟨Nat.le_of_ble_eq_true rfl, Nat.le_of_ble_eq_true rfl⟩ ?_
  refine am_eqh (h' := (Sn 17 613 ((15, .inr (6, [.null, .null, .null, .null, .null, .null, .null, .null, .null, .null, .null])) :: ov))) (Sn_n.trans (Sn_f (Sf_drop (((Sf_ne (a := 15) (k := 16) (by decide)).trans (hov 16 (by decide))).trans rfl)))) ?_
  refine am_putF f_6_9 rfl rfl rfl rfl (Nat.le_of_ble_eq_true rfl) rfl (by decide) (fun _ _ => ⟨rfl, rfl⟩) ?_
  refine am_eqh (h' := (Sn 17 613 ((15, .inr (6, [.ref 16, .null, .null, .null, .null, .null, .null, .null, .null, .null, .null])) :: ov))) (Sn_u.trans (Sn_f Sf_hide)) ?_
  refine am_aload_n rfl rfl ?_
  refine x_bipush (v := (30 : Int32)) rfl (by decide) ?_
  refine am_newI ar_int (by decide) (N := 30) (by decide) (by decide) rfl ⟨Nat.le_of_ble_eq_true rfl, Nat.le_of_ble_eq_true rfl⟩ ?_
  refine am_eqh (h' := (Sn 18 643 ((15, .inr (6, [.ref 16, .null, .null, .null, .null, .null, .null, .null, .null, .null, .null])) :: ov))) (Sn_n.trans (Sn_f (Sf_drop (((Sf_ne (a := 15) (k := 17) (by decide)).trans (hov 17 (by decide))).trans rfl)))) ?_
  refine am_putF f_6_15 rfl rfl rfl rfl (Nat.le_of_ble_eq_true rfl) rfl (by decide) (fun _ _ => ⟨rfl, rfl⟩) ?_
  refine am_eqh (h' := (Sn 18 643 ((15, .inr (6, [.ref 16, .ref 17, .null, .null, .null, .null, .null, .null, .null, .null, .null])) :: ov))) (Sn_u.trans (Sn_f Sf_hide)) ?_
  refine am_aload_n rfl rfl ?_
  refine x_iconst (v := (4 : Int32)) rfl (by decide) ?_
  refine am_newI ar_int (by decide) (N := 4) (by decide) (by decide) rfl ⟨Nat.le_of_ble_eq_true rfl, Nat.le_of_ble_eq_true rfl⟩ ?_
  refine am_eqh (h' := (Sn 19 647 ((15, .inr (6, [.ref 16, .ref 17, .null, .null, .null, .null, .null, .null, .null, .null, .null])) :: ov))) (Sn_n.trans (Sn_f (Sf_drop (((Sf_ne (a := 15) (k := 18) (by decide)).trans (hov 18 (by decide))).trans rfl)))) ?_
  refine am_putF f_6_18 rfl rfl rfl rfl (Nat.le_of_ble_eq_true rfl) rfl (by decide) (fun _ _ => ⟨rfl, rfl⟩) ?_
  refine am_eqh (h' := (Sn 19 647 ((15, .inr (6, [.ref 16, .ref 17, .ref 18, .null, .null, .null, .null, .null, .null, .null, .null])) :: ov))) (Sn_u.trans (Sn_f Sf_hide)) ?_
  refine am_aload_n rfl rfl ?_
  refine x_bipush (v := (24 : Int32)) rfl (by decide) ?_
  refine am_newI ar_int (by decide) (N := 24) (by decide) (by decide) rfl ⟨Nat.le_of_ble_eq_true rfl, Nat.le_of_ble_eq_true rfl⟩ ?_
  refine am_eqh (h' := (Sn 20 671 ((15, .inr (6, [.ref 16, .ref 17, .ref 18, .null, .null, .null, .null, .null, .null, .null, .null])) :: ov))) (Sn_n.trans (Sn_f (Sf_drop (((Sf_ne (a := 15) (k := 19) (by decide)).trans (hov 19 (by decide))).trans rfl)))) ?_
  refine am_putF f_6_21 rfl rfl rfl rfl (Nat.le_of_ble_eq_true rfl) rfl (by decide) (fun _ _ => ⟨rfl, rfl⟩) ?_
  refine am_eqh (h' := (Sn 20 671 ((15, .inr (6, [.ref 16, .ref 17, .ref 18, .ref 19, .null, .null, .null, .null, .null, .null, .null])) :: ov))) (Sn_u.trans (Sn_f Sf_hide)) ?_
  refine am_aload_n rfl rfl ?_
  refine x_bipush (v := (24 : Int32)) rfl (by decide) ?_
  refine am_newI ar_int (by decide) (N := 24) (by decide) (by decide) rfl ⟨Nat.le_of_ble_eq_true rfl, Nat.le_of_ble_eq_true rfl⟩ ?_
  refine am_eqh (h' := (Sn 21 695 ((15, .inr (6, [.ref 16, .ref 17, .ref 18, .ref 19, .null, .null, .null, .null, .null, .null, .null])) :: ov))) (Sn_n.trans (Sn_f (Sf_drop (((Sf_ne (a := 15) (k := 20) (by decide)).trans (hov 20 (by decide))).trans rfl)))) ?_
  refine am_putF f_6_24 rfl rfl rfl rfl (Nat.le_of_ble_eq_true rfl) rfl (by decide) (fun _ _ => ⟨rfl, rfl⟩) ?_
  refine am_eqh (h' := (Sn 21 695 ((15, .inr (6, [.ref 16, .ref 17, .ref 18, .ref 19, .ref 20, .null, .null, .null, .null, .null, .null])) :: ov))) (Sn_u.trans (Sn_f Sf_hide)) ?_
  refine am_aload_n rfl rfl ?_
  refine x_bipush (v := (24 : Int32)) rfl (by decide) ?_
  refine am_newI ar_int (by decide) (N := 24) (by decide) (by decide) rfl ⟨Nat.le_of_ble_eq_true rfl, Nat.le_of_ble_eq_true rfl⟩ ?_
  refine am_eqh (h' := (Sn 22 719 ((15, .inr (6, [.ref 16, .ref 17, .ref 18, .ref 19, .ref 20, .null, .null, .null, .null, .null, .null])) :: ov))) (Sn_n.trans (Sn_f (Sf_drop (((Sf_ne (a := 15) (k := 21) (by decide)).trans (hov 21 (by decide))).trans rfl)))) ?_
  refine am_putF f_6_27 rfl rfl rfl rfl (Nat.le_of_ble_eq_true rfl) rfl (by decide) (fun _ _ => ⟨rfl, rfl⟩) ?_
  refine am_eqh (h' := (Sn 22 719 ((15, .inr (6, [.ref 16, .ref 17, .ref 18, .ref 19, .ref 20, .ref 21, .null, .null, .null, .null, .null])) :: ov))) (Sn_u.trans (Sn_f Sf_hide)) ?_
  refine am_aload_n rfl rfl ?_
  refine x_bipush (v := (24 : Int32)) rfl (by decide) ?_
  refine am_newI ar_int (by decide) (N := 24) (by decide) (by decide) rfl ⟨Nat.le_of_ble_eq_true rfl, Nat.le_of_ble_eq_true rfl⟩ ?_
  refine am_eqh (h' := (Sn 23 743 ((15, .inr (6, [.ref 16, .ref 17, .ref 18, .ref 19, .ref 20, .ref 21, .null, .null, .null, .null, .null])) :: ov))) (Sn_n.trans (Sn_f (Sf_drop (((Sf_ne (a := 15) (k := 22) (by decide)).trans (hov 22 (by decide))).trans rfl)))) ?_
  refine am_putF f_6_30 rfl rfl rfl rfl (Nat.le_of_ble_eq_true rfl) rfl (by decide) (fun _ _ => ⟨rfl, rfl⟩) ?_
  refine am_eqh (h' := (Sn 23 743 ((15, .inr (6, [.ref 16, .ref 17, .ref 18, .ref 19, .ref 20, .ref 21, .ref 22, .null, .null, .null, .null])) :: ov))) (Sn_u.trans (Sn_f Sf_hide)) ?_
  refine am_aload_n rfl rfl ?_
  refine x_bipush (v := (24 : Int32)) rfl (by decide) ?_
  refine am_newI ar_int (by decide) (N := 24) (by decide) (by decide) rfl ⟨Nat.le_of_ble_eq_true rfl, Nat.le_of_ble_eq_true rfl⟩ ?_
  refine am_eqh (h' := (Sn 24 767 ((15, .inr (6, [.ref 16, .ref 17, .ref 18, .ref 19, .ref 20, .ref 21, .ref 22, .null, .null, .null, .null])) :: ov))) (Sn_n.trans (Sn_f (Sf_drop (((Sf_ne (a := 15) (k := 23) (by decide)).trans (hov 23 (by decide))).trans rfl)))) ?_
  refine am_putF f_6_33 rfl rfl rfl rfl (Nat.le_of_ble_eq_true rfl) rfl (by decide) (fun _ _ => ⟨rfl, rfl⟩) ?_
  refine am_eqh (h' := (Sn 24 767 ((15, .inr (6, [.ref 16, .ref 17, .ref 18, .ref 19, .ref 20, .ref 21, .ref 22, .ref 23, .null, .null, .null])) :: ov))) (Sn_u.trans (Sn_f Sf_hide)) ?_
  refine am_aload_n rfl rfl ?_
  refine x_bipush (v := (24 : Int32)) rfl (by decide) ?_
  refine am_newI ar_int (by decide) (N := 24) (by decide) (by decide) rfl ⟨Nat.le_of_ble_eq_true rfl, Nat.le_of_ble_eq_true rfl⟩ ?_
  refine am_eqh (h' := (Sn 25 791 ((15, .inr (6, [.ref 16, .ref 17, .ref 18, .ref 19, .ref 20, .ref 21, .ref 22, .ref 23, .null, .null, .null])) :: ov))) (Sn_n.trans (Sn_f (Sf_drop (((Sf_ne (a := 15) (k := 24) (by decide)).trans (hov 24 (by decide))).trans rfl)))) ?_
  refine am_putF f_6_36 rfl rfl rfl rfl (Nat.le_of_ble_eq_true rfl) rfl (by decide) (fun _ _ => ⟨rfl, rfl⟩) ?_
  refine am_eqh (h' := (Sn 25 791 ((15, .inr (6, [.ref 16, .ref 17, .ref 18, .ref 19, .ref 20, .ref 21, .ref 22, .ref 23, .ref 24, .null, .null])) :: ov))) (Sn_u.trans (Sn_f Sf_hide)) ?_
  refine am_aload_n rfl rfl ?_
  refine x_bipush (v := (24 : Int32)) rfl (by decide) ?_
  refine am_newI ar_int (by decide) (N := 24) (by decide) (by decide) rfl ⟨Nat.le_of_ble_eq_true rfl, Nat.le_of_ble_eq_true rfl⟩ ?_
  refine am_eqh (h' := (Sn 26 815 ((15, .inr (6, [.ref 16, .ref 17, .ref 18, .ref 19, .ref 20, .ref 21, .ref 22, .ref 23, .ref 24, .null, .null])) :: ov))) (Sn_n.trans (Sn_f (Sf_drop (((Sf_ne (a := 15) (k := 25) (by decide)).trans (hov 25 (by decide))).trans rfl)))) ?_
  refine am_putF f_6_39 rfl rfl rfl rfl (Nat.le_of_ble_eq_true rfl) rfl (by decide) (fun _ _ => ⟨rfl, rfl⟩) ?_
  refine am_eqh (h' := (Sn 26 815 ((15, .inr (6, [.ref 16, .ref 17, .ref 18, .ref 19, .ref 20, .ref 21, .ref 22, .ref 23, .ref 24, .ref 25, .null])) :: ov))) (Sn_u.trans (Sn_f Sf_hide)) ?_
  refine am_aload_n rfl rfl ?_
  refine x_bipush (v := (24 : Int32)) rfl (by decide) ?_
  refine am_newI ar_int (by decide) (N := 24) (by decide) (by decide) rfl ⟨Nat.le_of_ble_eq_true rfl, Nat.le_of_ble_eq_true rfl⟩ ?_
  refine am_eqh (h' := (Sn 27 839 ((15, .inr (6, [.ref 16, .ref 17, .ref 18, .ref 19, .ref 20, .ref 21, .ref 22, .ref 23, .ref 24, .ref 25, .null])) :: ov))) (Sn_n.trans (Sn_f (Sf_drop (((Sf_ne (a := 15) (k := 26) (by decide)).trans (hov 26 (by decide))).trans rfl)))) ?_
  refine am_putF f_6_42 rfl rfl rfl rfl (Nat.le_of_ble_eq_true rfl) rfl (by decide) (fun _ _ => ⟨rfl, rfl⟩) ?_
  refine am_eqh (h' := (Sn 27 839 ((15, .inr (6, [.ref 16, .ref 17, .ref 18, .ref 19, .ref 20, .ref 21, .ref 22, .ref 23, .ref 24, .ref 25, .ref 26])) :: ov))) (Sn_u.trans (Sn_f Sf_hide)) ?_
  refine am_eqh (h' := (Sn 27 839 (ov))) (Sn_f (Sf_drop ((hov 15 (by decide)).trans rfl))) ?_
  exact am_vret rfl rfl rfl rfl K
set_option maxHeartbeats 4000000 in
set_option maxRecDepth 100000 in
theorem z_X0_init_27 (ov : List (Nat × va_E)) (hov : ∀ k, 27 ≤ k → S_f ov k = hp g0 k) {post : Int32 → am_H → Prop} (K : post 0 (Sn 39 1276 ov)) : am_X m_X0_init 1 11 424 [.ref 27] (Sn 28 852 ((27, .inr (0, [.null, .null, .null, .null, .null, .null, .null, .null, .null, .null, .null, .int (0 : Int32), .int (0 : Int32)])) :: ov)) post := by
  refine am_X_of ok_X0_init pn_0 rfl (by decide) (Or.inl rfl) (List.forall_mem_cons.mpr ⟨rfl, fun _ h => absurd h List.not_mem_nil⟩) (Nat.le_of_ble_eq_true rfl) ?_
  show am_V m_X0_init (0, fun _ => 0) 1 11 424 28 852 post 0 [some (.ref 27)] [] (Sn 28 852 ((27, .inr (0, [.null, .null, .null, .null, .null, .null, .null, .null, .null, .null, .null, .int (0 : Int32), .int (0 : Int32)])) :: ov))
  refine am_aload_n rfl rfl ?_
  refine am_obj j_0_3 ob_ins ob_cod rfl (Nat.le_of_ble_eq_true rfl) (fun _ _ => Nat.le_of_ble_eq_true rfl) ?_
  refine am_aload_n rfl rfl ?_
  refine x_bipush (v := (10 : Int32)) rfl (by decide) ?_
  refine am_newI ar_int (by decide) (N := 10) (by decide) (by decide) rfl ⟨Nat.le_of_ble_eq_true rfl, Nat.le_of_ble_eq_true rfl⟩ ?_
  refine am_eqh (h' := (Sn 29 862 ((27, .inr (0, [.null, .null, .null, .null, .null, .null, .null, .null, .null, .null, .null, .int (0 : Int32), .int (0 : Int32)])) :: ov))) (Sn_n.trans (Sn_f (Sf_drop (((Sf_ne (a := 27) (k := 28) (by decide)).trans (hov 28 (by decide))).trans rfl)))) ?_
  refine am_putF f_0_9 rfl rfl rfl rfl (Nat.le_of_ble_eq_true rfl) rfl (by decide) (fun _ _ => ⟨rfl, rfl⟩) ?_
  refine am_eqh (h' := (Sn 29 862 ((27, .inr (0, [.ref 28, .null, .null, .null, .null, .null, .null, .null, .null, .null, .null, .int (0 : Int32), .int (0 : Int32)])) :: ov))) (Sn_u.trans (Sn_f Sf_hide)) ?_
  refine am_aload_n rfl rfl ?_
  refine x_bipush (v := (24 : Int32)) rfl (by decide) ?_
  refine am_newI ar_int (by decide) (N := 24) (by decide) (by decide) rfl ⟨Nat.le_of_ble_eq_true rfl, Nat.le_of_ble_eq_true rfl⟩ ?_
  refine am_eqh (h' := (Sn 30 886 ((27, .inr (0, [.ref 28, .null, .null, .null, .null, .null, .null, .null, .null, .null, .null, .int (0 : Int32), .int (0 : Int32)])) :: ov))) (Sn_n.trans (Sn_f (Sf_drop (((Sf_ne (a := 27) (k := 29) (by decide)).trans (hov 29 (by decide))).trans rfl)))) ?_
  refine am_putF f_0_15 rfl rfl rfl rfl (Nat.le_of_ble_eq_true rfl) rfl (by decide) (fun _ _ => ⟨rfl, rfl⟩) ?_
  refine am_eqh (h' := (Sn 30 886 ((27, .inr (0, [.ref 28, .ref 29, .null, .null, .null, .null, .null, .null, .null, .null, .null, .int (0 : Int32), .int (0 : Int32)])) :: ov))) (Sn_u.trans (Sn_f Sf_hide)) ?_
  refine am_aload_n rfl rfl ?_
  refine x_bipush (v := (10 : Int32)) rfl (by decide) ?_
  refine am_newI ar_int (by decide) (N := 10) (by decide) (by decide) rfl ⟨Nat.le_of_ble_eq_true rfl, Nat.le_of_ble_eq_true rfl⟩ ?_
  refine am_eqh (h' := (Sn 31 896 ((27, .inr (0, [.ref 28, .ref 29, .null, .null, .null, .null, .null, .null, .null, .null, .null, .int (0 : Int32), .int (0 : Int32)])) :: ov))) (Sn_n.trans (Sn_f (Sf_drop (((Sf_ne (a := 27) (k := 30) (by decide)).trans (hov 30 (by decide))).trans rfl)))) ?_
  refine am_putF f_0_18 rfl rfl rfl rfl (Nat.le_of_ble_eq_true rfl) rfl (by decide) (fun _ _ => ⟨rfl, rfl⟩) ?_
  refine am_eqh (h' := (Sn 31 896 ((27, .inr (0, [.ref 28, .ref 29, .ref 30, .null, .null, .null, .null, .null, .null, .null, .null, .int (0 : Int32), .int (0 : Int32)])) :: ov))) (Sn_u.trans (Sn_f Sf_hide)) ?_
  refine am_aload_n rfl rfl ?_
  refine x_bipush (v := (10 : Int32)) rfl (by decide) ?_
  refine am_newI ar_int (by decide) (N := 10) (by decide) (by decide) rfl ⟨Nat.le_of_ble_eq_true rfl, Nat.le_of_ble_eq_true rfl⟩ ?_
  refine am_eqh (h' := (Sn 32 906 ((27, .inr (0, [.ref 28, .ref 29, .ref 30, .null, .null, .null, .null, .null, .null, .null, .null, .int (0 : Int32), .int (0 : Int32)])) :: ov))) (Sn_n.trans (Sn_f (Sf_drop (((Sf_ne (a := 27) (k := 31) (by decide)).trans (hov 31 (by decide))).trans rfl)))) ?_
  refine am_putF f_0_21 rfl rfl rfl rfl (Nat.le_of_ble_eq_true rfl) rfl (by decide) (fun _ _ => ⟨rfl, rfl⟩) ?_
  refine am_eqh (h' := (Sn 32 906 ((27, .inr (0, [.ref 28, .ref 29, .ref 30, .ref 31, .null, .null, .null, .null, .null, .null, .null, .int (0 : Int32), .int (0 : Int32)])) :: ov))) (Sn_u.trans (Sn_f Sf_hide)) ?_
  refine am_aload_n rfl rfl ?_
  refine x_bipush (v := (10 : Int32)) rfl (by decide) ?_
  refine am_newI ar_int (by decide) (N := 10) (by decide) (by decide) rfl ⟨Nat.le_of_ble_eq_true rfl, Nat.le_of_ble_eq_true rfl⟩ ?_
  refine am_eqh (h' := (Sn 33 916 ((27, .inr (0, [.ref 28, .ref 29, .ref 30, .ref 31, .null, .null, .null, .null, .null, .null, .null, .int (0 : Int32), .int (0 : Int32)])) :: ov))) (Sn_n.trans (Sn_f (Sf_drop (((Sf_ne (a := 27) (k := 32) (by decide)).trans (hov 32 (by decide))).trans rfl)))) ?_
  refine am_putF f_0_24 rfl rfl rfl rfl (Nat.le_of_ble_eq_true rfl) rfl (by decide) (fun _ _ => ⟨rfl, rfl⟩) ?_
  refine am_eqh (h' := (Sn 33 916 ((27, .inr (0, [.ref 28, .ref 29, .ref 30, .ref 31, .ref 32, .null, .null, .null, .null, .null, .null, .int (0 : Int32), .int (0 : Int32)])) :: ov))) (Sn_u.trans (Sn_f Sf_hide)) ?_
  refine am_aload_n rfl rfl ?_
  refine x_bipush (v := (10 : Int32)) rfl (by decide) ?_
  refine am_newI ar_int (by decide) (N := 10) (by decide) (by decide) rfl ⟨Nat.le_of_ble_eq_true rfl, Nat.le_of_ble_eq_true rfl⟩ ?_
  refine am_eqh (h' := (Sn 34 926 ((27, .inr (0, [.ref 28, .ref 29, .ref 30, .ref 31, .ref 32, .null, .null, .null, .null, .null, .null, .int (0 : Int32), .int (0 : Int32)])) :: ov))) (Sn_n.trans (Sn_f (Sf_drop (((Sf_ne (a := 27) (k := 33) (by decide)).trans (hov 33 (by decide))).trans rfl)))) ?_
  refine am_putF f_0_27 rfl rfl rfl rfl (Nat.le_of_ble_eq_true rfl) rfl (by decide) (fun _ _ => ⟨rfl, rfl⟩) ?_
  refine am_eqh (h' := (Sn 34 926 ((27, .inr (0, [.ref 28, .ref 29, .ref 30, .ref 31, .ref 32, .ref 33, .null, .null, .null, .null, .null, .int (0 : Int32), .int (0 : Int32)])) :: ov))) (Sn_u.trans (Sn_f Sf_hide)) ?_
  refine am_aload_n rfl rfl ?_
  refine x_bipush (v := (110 : Int32)) rfl (by decide) ?_
  refine am_newZ ar_boolean (by decide) (N := 110) (by decide) (by decide) rfl ⟨Nat.le_of_ble_eq_true rfl, Nat.le_of_ble_eq_true rfl⟩ ?_
  refine am_eqh (h' := (Sn 35 1036 ((27, .inr (0, [.ref 28, .ref 29, .ref 30, .ref 31, .ref 32, .ref 33, .null, .null, .null, .null, .null, .int (0 : Int32), .int (0 : Int32)])) :: ov))) (Sn_n.trans (Sn_f (Sf_drop (((Sf_ne (a := 27) (k := 34) (by decide)).trans (hov 34 (by decide))).trans rfl)))) ?_
  refine am_putF f_0_30 rfl rfl rfl rfl (Nat.le_of_ble_eq_true rfl) rfl (by decide) (fun _ _ => ⟨rfl, rfl⟩) ?_
  refine am_eqh (h' := (Sn 35 1036 ((27, .inr (0, [.ref 28, .ref 29, .ref 30, .ref 31, .ref 32, .ref 33, .ref 34, .null, .null, .null, .null, .int (0 : Int32), .int (0 : Int32)])) :: ov))) (Sn_u.trans (Sn_f Sf_hide)) ?_
  refine am_aload_n rfl rfl ?_
  refine x_bipush (v := (110 : Int32)) rfl (by decide) ?_
  refine am_newZ ar_boolean (by decide) (N := 110) (by decide) (by decide) rfl ⟨Nat.le_of_ble_eq_true rfl, Nat.le_of_ble_eq_true rfl⟩ ?_
  refine am_eqh (h' := (Sn 36 1146 ((27, .inr (0, [.ref 28, .ref 29, .ref 30, .ref 31, .ref 32, .ref 33, .ref 34, .null, .null, .null, .null, .int (0 : Int32), .int (0 : Int32)])) :: ov))) (Sn_n.trans (Sn_f (Sf_drop (((Sf_ne (a := 27) (k := 35) (by decide)).trans (hov 35 (by decide))).trans rfl)))) ?_
  refine am_putF f_0_34 rfl rfl rfl rfl (Nat.le_of_ble_eq_true rfl) rfl (by decide) (fun _ _ => ⟨rfl, rfl⟩) ?_
  refine am_eqh (h' := (Sn 36 1146 ((27, .inr (0, [.ref 28, .ref 29, .ref 30, .ref 31, .ref 32, .ref 33, .ref 34, .ref 35, .null, .null, .null, .int (0 : Int32), .int (0 : Int32)])) :: ov))) (Sn_u.trans (Sn_f Sf_hide)) ?_
  refine am_aload_n rfl rfl ?_
  refine x_bipush (v := (110 : Int32)) rfl (by decide) ?_
  refine am_newI ar_int (by decide) (N := 110) (by decide) (by decide) rfl ⟨Nat.le_of_ble_eq_true rfl, Nat.le_of_ble_eq_true rfl⟩ ?_
  refine am_eqh (h' := (Sn 37 1256 ((27, .inr (0, [.ref 28, .ref 29, .ref 30, .ref 31, .ref 32, .ref 33, .ref 34, .ref 35, .null, .null, .null, .int (0 : Int32), .int (0 : Int32)])) :: ov))) (Sn_n.trans (Sn_f (Sf_drop (((Sf_ne (a := 27) (k := 36) (by decide)).trans (hov 36 (by decide))).trans rfl)))) ?_
  refine am_putF f_0_37 rfl rfl rfl rfl (Nat.le_of_ble_eq_true rfl) rfl (by decide) (fun _ _ => ⟨rfl, rfl⟩) ?_
  refine am_eqh (h' := (Sn 37 1256 ((27, .inr (0, [.ref 28, .ref 29, .ref 30, .ref 31, .ref 32, .ref 33, .ref 34, .ref 35, .ref 36, .null, .null, .int (0 : Int32), .int (0 : Int32)])) :: ov))) (Sn_u.trans (Sn_f Sf_hide)) ?_
  refine am_aload_n rfl rfl ?_
  refine x_bipush (v := (10 : Int32)) rfl (by decide) ?_
  refine am_newI ar_int (by decide) (N := 10) (by decide) (by decide) rfl ⟨Nat.le_of_ble_eq_true rfl, Nat.le_of_ble_eq_true rfl⟩ ?_
  refine am_eqh (h' := (Sn 38 1266 ((27, .inr (0, [.ref 28, .ref 29, .ref 30, .ref 31, .ref 32, .ref 33, .ref 34, .ref 35, .ref 36, .null, .null, .int (0 : Int32), .int (0 : Int32)])) :: ov))) (Sn_n.trans (Sn_f (Sf_drop (((Sf_ne (a := 27) (k := 37) (by decide)).trans (hov 37 (by decide))).trans rfl)))) ?_
  refine am_putF f_0_40 rfl rfl rfl rfl (Nat.le_of_ble_eq_true rfl) rfl (by decide) (fun _ _ => ⟨rfl, rfl⟩) ?_
  refine am_eqh (h' := (Sn 38 1266 ((27, .inr (0, [.ref 28, .ref 29, .ref 30, .ref 31, .ref 32, .ref 33, .ref 34, .ref 35, .ref 36, .ref 37, .null, .int (0 : Int32), .int (0 : Int32)])) :: ov))) (Sn_u.trans (Sn_f Sf_hide)) ?_
  refine am_aload_n rfl rfl ?_
  refine x_bipush (v := (10 : Int32)) rfl (by decide) ?_
  refine am_newI ar_int (by decide) (N := 10) (by decide) (by decide) rfl ⟨Nat.le_of_ble_eq_true rfl, Nat.le_of_ble_eq_true rfl⟩ ?_
  refine am_eqh (h' := (Sn 39 1276 ((27, .inr (0, [.ref 28, .ref 29, .ref 30, .ref 31, .ref 32, .ref 33, .ref 34, .ref 35, .ref 36, .ref 37, .null, .int (0 : Int32), .int (0 : Int32)])) :: ov))) (Sn_n.trans (Sn_f (Sf_drop (((Sf_ne (a := 27) (k := 38) (by decide)).trans (hov 38 (by decide))).trans rfl)))) ?_
  refine am_putF f_0_43 rfl rfl rfl rfl (Nat.le_of_ble_eq_true rfl) rfl (by decide) (fun _ _ => ⟨rfl, rfl⟩) ?_
  refine am_eqh (h' := (Sn 39 1276 ((27, .inr (0, [.ref 28, .ref 29, .ref 30, .ref 31, .ref 32, .ref 33, .ref 34, .ref 35, .ref 36, .ref 37, .ref 38, .int (0 : Int32), .int (0 : Int32)])) :: ov))) (Sn_u.trans (Sn_f Sf_hide)) ?_
  refine am_aload_n rfl rfl ?_
  refine x_iconst (v := (0 : Int32)) rfl (by decide) ?_
  refine am_put f_0_46 rfl rfl (Nat.le_of_ble_eq_true rfl) rfl (by decide) (fun _ _ => ⟨rfl, rfl⟩) ?_
  refine am_eqh (h' := (Sn 39 1276 ((27, .inr (0, [.ref 28, .ref 29, .ref 30, .ref 31, .ref 32, .ref 33, .ref 34, .ref 35, .ref 36, .ref 37, .ref 38, .int (0 : Int32), .int (0 : Int32)])) :: ov))) (Sn_u.trans (Sn_f Sf_hide)) ?_
  refine am_aload_n rfl rfl ?_
  refine x_iconst (v := (0 : Int32)) rfl (by decide) ?_
  refine am_put f_0_50 rfl rfl (Nat.le_of_ble_eq_true rfl) rfl (by decide) (fun _ _ => ⟨rfl, rfl⟩) ?_
  refine am_eqh (h' := (Sn 39 1276 ((27, .inr (0, [.ref 28, .ref 29, .ref 30, .ref 31, .ref 32, .ref 33, .ref 34, .ref 35, .ref 36, .ref 37, .ref 38, .int (0 : Int32), .int (0 : Int32)])) :: ov))) (Sn_u.trans (Sn_f Sf_hide)) ?_
  refine am_eqh (h' := (Sn 39 1276 (ov))) (Sn_f (Sf_drop ((hov 27 (by decide)).trans rfl))) ?_
  exact am_vret rfl rfl rfl rfl K
set_option maxHeartbeats 4000000 in
set_option maxRecDepth 100000 in
theorem z_X3_init_39 (ov : List (Nat × va_E)) (hov : ∀ k, 39 ≤ k → S_f ov k = hp g0 k) {post : Int32 → am_H → Prop} (K : post 0 (Sn 41 1301 ov)) : am_X m_X3_init 1 1 24 [.ref 39] (Sn 40 1277 ((39, .inr (3, [.null])) :: ov)) post := by
  refine am_X_of ok_X3_init pn_3 rfl (by decide) (Or.inl rfl) (List.forall_mem_cons.mpr ⟨rfl, fun _ h => absurd h List.not_mem_nil⟩) (Nat.le_of_ble_eq_true rfl) ?_
  show am_V m_X3_init (0, fun _ => 0) 1 1 24 40 1277 post 0 [some (.ref 39)] [] (Sn 40 1277 ((39, .inr (3, [.null])) :: ov))
  refine am_aload_n rfl rfl ?_
  refine am_obj j_3_3 ob_ins ob_cod rfl (Nat.le_of_ble_eq_true rfl) (fun _ _ => Nat.le_of_ble_eq_true rfl) ?_
  refine am_aload_n rfl rfl ?_
  refine x_bipush (v := (24 : Int32)) rfl (by decide) ?_
  refine am_newI ar_int (by decide) (N := 24) (by decide) (by decide) rfl ⟨Nat.le_of_ble_eq_true rfl, Nat.le_of_ble_eq_true rfl⟩ ?_
  refine am_eqh (h' := (Sn 41 1301 ((39, .inr (3, [.null])) :: ov))) (Sn_n.trans (Sn_f (Sf_drop (((Sf_ne (a := 39) (k := 40) (by decide)).trans (hov 40 (by decide))).trans rfl)))) ?_
  refine am_putF f_3_9 rfl rfl rfl rfl (Nat.le_of_ble_eq_true rfl) rfl (by decide) (fun _ _ => ⟨rfl, rfl⟩) ?_
  refine am_eqh (h' := (Sn 41 1301 ((39, .inr (3, [.ref 40])) :: ov))) (Sn_u.trans (Sn_f Sf_hide)) ?_
  refine am_eqh (h' := (Sn 41 1301 (ov))) (Sn_f (Sf_drop ((hov 39 (by decide)).trans rfl))) ?_
  exact am_vret rfl rfl rfl rfl K
set_option maxHeartbeats 4000000 in
set_option maxRecDepth 100000 in
theorem z_X2_init_41 (ov : List (Nat × va_E)) (hov : ∀ k, 41 ≤ k → S_f ov k = hp g0 k) {post : Int32 → am_H → Prop} (K : post 0 (Sn 45 1512 ov)) : am_X m_X2_init 1 3 208 [.ref 41] (Sn 42 1304 ((41, .inr (2, [.null, .null, .null])) :: ov)) post := by
  refine am_X_of ok_X2_init pn_2 rfl (by decide) (Or.inl rfl) (List.forall_mem_cons.mpr ⟨rfl, fun _ h => absurd h List.not_mem_nil⟩) (Nat.le_of_ble_eq_true rfl) ?_
  show am_V m_X2_init (0, fun _ => 0) 1 3 208 42 1304 post 0 [some (.ref 41)] [] (Sn 42 1304 ((41, .inr (2, [.null, .null, .null])) :: ov))
  refine am_aload_n rfl rfl ?_
  refine am_obj j_2_3 ob_ins ob_cod rfl (Nat.le_of_ble_eq_true rfl) (fun _ _ => Nat.le_of_ble_eq_true rfl) ?_
  refine am_aload_n rfl rfl ?_
  refine x_iconst (v := (4 : Int32)) rfl (by decide) ?_
  refine am_newI ar_int (by decide) (N := 4) (by decide) (by decide) rfl ⟨Nat.le_of_ble_eq_true rfl, Nat.le_of_ble_eq_true rfl⟩ ?_
  refine am_eqh (h' := (Sn 43 1308 ((41, .inr (2, [.null, .null, .null])) :: ov))) (Sn_n.trans (Sn_f (Sf_drop (((Sf_ne (a := 41) (k := 42) (by decide)).trans (hov 42 (by decide))).trans rfl)))) ?_
  refine am_putF f_2_9 rfl rfl rfl rfl (Nat.le_of_ble_eq_true rfl) rfl (by decide) (fun _ _ => ⟨rfl, rfl⟩) ?_
  refine am_eqh (h' := (Sn 43 1308 ((41, .inr (2, [.ref 42, .null, .null])) :: ov))) (Sn_u.trans (Sn_f Sf_hide)) ?_
  refine am_aload_n rfl rfl ?_
  refine x_iconst (v := (4 : Int32)) rfl (by decide) ?_
  refine am_newI ar_int (by decide) (N := 4) (by decide) (by decide) rfl ⟨Nat.le_of_ble_eq_true rfl, Nat.le_of_ble_eq_true rfl⟩ ?_
  refine am_eqh (h' := (Sn 44 1312 ((41, .inr (2, [.ref 42, .null, .null])) :: ov))) (Sn_n.trans (Sn_f (Sf_drop (((Sf_ne (a := 41) (k := 43) (by decide)).trans (hov 43 (by decide))).trans rfl)))) ?_
  refine am_putF f_2_15 rfl rfl rfl rfl (Nat.le_of_ble_eq_true rfl) rfl (by decide) (fun _ _ => ⟨rfl, rfl⟩) ?_
  refine am_eqh (h' := (Sn 44 1312 ((41, .inr (2, [.ref 42, .ref 43, .null])) :: ov))) (Sn_u.trans (Sn_f Sf_hide)) ?_
  refine am_aload_n rfl rfl ?_
  refine x_sipush (v := (200 : Int32)) rfl (by decide) ?_
  refine am_newI ar_int (by decide) (N := 200) (by decide) (by decide) rfl ⟨Nat.le_of_ble_eq_true rfl, Nat.le_of_ble_eq_true rfl⟩ ?_
  refine am_eqh (h' := (Sn 45 1512 ((41, .inr (2, [.ref 42, .ref 43, .null])) :: ov))) (Sn_n.trans (Sn_f (Sf_drop (((Sf_ne (a := 41) (k := 44) (by decide)).trans (hov 44 (by decide))).trans rfl)))) ?_
  refine am_putF f_2_18 rfl rfl rfl rfl (Nat.le_of_ble_eq_true rfl) rfl (by decide) (fun _ _ => ⟨rfl, rfl⟩) ?_
  refine am_eqh (h' := (Sn 45 1512 ((41, .inr (2, [.ref 42, .ref 43, .ref 44])) :: ov))) (Sn_u.trans (Sn_f Sf_hide)) ?_
  refine am_eqh (h' := (Sn 45 1512 (ov))) (Sn_f (Sf_drop ((hov 41 (by decide)).trans rfl))) ?_
  exact am_vret rfl rfl rfl rfl K
set_option maxHeartbeats 4000000 in
set_option maxRecDepth 100000 in
theorem z_X4_init_45 (ov : List (Nat × va_E)) (hov : ∀ k, 45 ≤ k → S_f ov k = hp g0 k) {post : Int32 → am_H → Prop} (K : post 0 (Sn 46 1516 ov)) : am_X m_X4_init 1 0 0 [.ref 45] (Sn 46 1516 ((45, .inr (4, [.int (0 : Int32), .int (0 : Int32), .int (0 : Int32), .int (0 : Int32)])) :: ov)) post := by
  refine am_X_of ok_X4_init pn_4 rfl (by decide) (Or.inl rfl) (List.forall_mem_cons.mpr ⟨rfl, fun _ h => absurd h List.not_mem_nil⟩) (Nat.le_of_ble_eq_true rfl) ?_
  show am_V m_X4_init (0, fun _ => 0) 1 0 0 46 1516 post 0 [some (.ref 45)] [] (Sn 46 1516 ((45, .inr (4, [.int (0 : Int32), .int (0 : Int32), .int (0 : Int32), .int (0 : Int32)])) :: ov))
  refine am_aload_n rfl rfl ?_
  refine am_obj j_4_3 ob_ins ob_cod rfl (Nat.le_of_ble_eq_true rfl) (fun _ _ => Nat.le_of_ble_eq_true rfl) ?_
  refine am_aload_n rfl rfl ?_
  refine x_iconst (v := (0 : Int32)) rfl (by decide) ?_
  refine am_put f_4_9 rfl rfl (Nat.le_of_ble_eq_true rfl) rfl (by decide) (fun _ _ => ⟨rfl, rfl⟩) ?_
  refine am_eqh (h' := (Sn 46 1516 ((45, .inr (4, [.int (0 : Int32), .int (0 : Int32), .int (0 : Int32), .int (0 : Int32)])) :: ov))) (Sn_u.trans (Sn_f Sf_hide)) ?_
  refine am_aload_n rfl rfl ?_
  refine x_iconst (v := (-1 : Int32)) rfl (by decide) ?_
  refine am_put f_4_15 rfl rfl (Nat.le_of_ble_eq_true rfl) rfl (by decide) (fun _ _ => ⟨rfl, rfl⟩) ?_
  refine am_eqh (h' := (Sn 46 1516 ((45, .inr (4, [.int (0 : Int32), .int (-1 : Int32), .int (0 : Int32), .int (0 : Int32)])) :: ov))) (Sn_u.trans (Sn_f Sf_hide)) ?_
  refine am_aload_n rfl rfl ?_
  refine x_iconst (v := (-1 : Int32)) rfl (by decide) ?_
  refine am_put f_4_18 rfl rfl (Nat.le_of_ble_eq_true rfl) rfl (by decide) (fun _ _ => ⟨rfl, rfl⟩) ?_
  refine am_eqh (h' := (Sn 46 1516 ((45, .inr (4, [.int (0 : Int32), .int (-1 : Int32), .int (-1 : Int32), .int (0 : Int32)])) :: ov))) (Sn_u.trans (Sn_f Sf_hide)) ?_
  refine am_aload_n rfl rfl ?_
  refine x_iconst (v := (0 : Int32)) rfl (by decide) ?_
  refine am_put f_4_21 rfl rfl (Nat.le_of_ble_eq_true rfl) rfl (by decide) (fun _ _ => ⟨rfl, rfl⟩) ?_
  refine am_eqh (h' := (Sn 46 1516 ((45, .inr (4, [.int (0 : Int32), .int (-1 : Int32), .int (-1 : Int32), .int (0 : Int32)])) :: ov))) (Sn_u.trans (Sn_f Sf_hide)) ?_
  refine am_eqh (h' := (Sn 46 1516 (ov))) (Sn_f (Sf_drop ((hov 45 (by decide)).trans rfl))) ?_
  exact am_vret rfl rfl rfl rfl K
set_option maxHeartbeats 4000000 in
set_option maxRecDepth 100000 in
theorem z_X7_init_47 (ov : List (Nat × va_E)) (hov : ∀ k, 47 ≤ k → S_f ov k = hp g0 k) {post : Int32 → am_H → Prop} (K : post 0 (Sn 61 1954 ov)) : am_X m_X7_init 1 13 417 [.ref 47] (Sn 48 1537 ((47, .inr (7, [.int (0 : Int32), .int (0 : Int32), .int (0 : Int32), .int (0 : Int32), .null, .null, .null, .null, .null, .null, .null, .null, .null, .null, .null, .null, .null])) :: ov)) post := by
  refine am_X_of ok_X7_init pn_7 rfl (by decide) (Or.inl rfl) (List.forall_mem_cons.mpr ⟨rfl, fun _ h => absurd h List.not_mem_nil⟩) (Nat.le_of_ble_eq_true rfl) ?_
  show am_V m_X7_init (0, fun _ => 0) 1 13 417 48 1537 post 0 [some (.ref 47)] [] (Sn 48 1537 ((47, .inr (7, [.int (0 : Int32), .int (0 : Int32), .int (0 : Int32), .int (0 : Int32), .null, .null, .null, .null, .null, .null, .null, .null, .null, .null, .null, .null, .null])) :: ov))
  refine am_aload_n rfl rfl ?_
  refine am_obj j_7_3 ob_ins ob_cod rfl (Nat.le_of_ble_eq_true rfl) (fun _ _ => Nat.le_of_ble_eq_true rfl) ?_
  refine am_aload_n rfl rfl ?_
  refine x_iconst (v := (0 : Int32)) rfl (by decide) ?_
  refine am_put f_7_9 rfl rfl (Nat.le_of_ble_eq_true rfl) rfl (by decide) (fun _ _ => ⟨rfl, rfl⟩) ?_
  refine am_eqh (h' := (Sn 48 1537 ((47, .inr (7, [.int (0 : Int32), .int (0 : Int32), .int (0 : Int32), .int (0 : Int32), .null, .null, .null, .null, .null, .null, .null, .null, .null, .null, .null, .null, .null])) :: ov))) (Sn_u.trans (Sn_f Sf_hide)) ?_
  refine am_aload_n rfl rfl ?_
  refine x_iconst (v := (0 : Int32)) rfl (by decide) ?_
  refine am_put f_7_15 rfl rfl (Nat.le_of_ble_eq_true rfl) rfl (by decide) (fun _ _ => ⟨rfl, rfl⟩) ?_
  refine am_eqh (h' := (Sn 48 1537 ((47, .inr (7, [.int (0 : Int32), .int (0 : Int32), .int (0 : Int32), .int (0 : Int32), .null, .null, .null, .null, .null, .null, .null, .null, .null, .null, .null, .null, .null])) :: ov))) (Sn_u.trans (Sn_f Sf_hide)) ?_
  refine am_aload_n rfl rfl ?_
  refine x_iconst (v := (0 : Int32)) rfl (by decide) ?_
  refine am_put f_7_18 rfl rfl (Nat.le_of_ble_eq_true rfl) rfl (by decide) (fun _ _ => ⟨rfl, rfl⟩) ?_
  refine am_eqh (h' := (Sn 48 1537 ((47, .inr (7, [.int (0 : Int32), .int (0 : Int32), .int (0 : Int32), .int (0 : Int32), .null, .null, .null, .null, .null, .null, .null, .null, .null, .null, .null, .null, .null])) :: ov))) (Sn_u.trans (Sn_f Sf_hide)) ?_
  refine am_aload_n rfl rfl ?_
  refine x_iconst (v := (0 : Int32)) rfl (by decide) ?_
  refine am_put f_7_21 rfl rfl (Nat.le_of_ble_eq_true rfl) rfl (by decide) (fun _ _ => ⟨rfl, rfl⟩) ?_
  refine am_eqh (h' := (Sn 48 1537 ((47, .inr (7, [.int (0 : Int32), .int (0 : Int32), .int (0 : Int32), .int (0 : Int32), .null, .null, .null, .null, .null, .null, .null, .null, .null, .null, .null, .null, .null])) :: ov))) (Sn_u.trans (Sn_f Sf_hide)) ?_
  refine am_aload_n rfl rfl ?_
  refine x_bipush (v := (10 : Int32)) rfl (by decide) ?_
  refine am_newI ar_int (by decide) (N := 10) (by decide) (by decide) rfl ⟨Nat.le_of_ble_eq_true rfl, Nat.le_of_ble_eq_true rfl⟩ ?_
  refine am_eqh (h' := (Sn 49 1547 ((47, .inr (7, [.int (0 : Int32), .int (0 : Int32), .int (0 : Int32), .int (0 : Int32), .null, .null, .null, .null, .null, .null, .null, .null, .null, .null, .null, .null, .null])) :: ov))) (Sn_n.trans (Sn_f (Sf_drop (((Sf_ne (a := 47) (k := 48) (by decide)).trans (hov 48 (by decide))).trans rfl)))) ?_
  refine am_putF f_7_24 rfl rfl rfl rfl (Nat.le_of_ble_eq_true rfl) rfl (by decide) (fun _ _ => ⟨rfl, rfl⟩) ?_
  refine am_eqh (h' := (Sn 49 1547 ((47, .inr (7, [.int (0 : Int32), .int (0 : Int32), .int (0 : Int32), .int (0 : Int32), .ref 48, .null, .null, .null, .null, .null, .null, .null, .null, .null, .null, .null, .null])) :: ov))) (Sn_u.trans (Sn_f Sf_hide)) ?_
  refine am_aload_n rfl rfl ?_
  refine x_bipush (v := (24 : Int32)) rfl (by decide) ?_
  refine am_newI ar_int (by decide) (N := 24) (by decide) (by decide) rfl ⟨Nat.le_of_ble_eq_true rfl, Nat.le_of_ble_eq_true rfl⟩ ?_
  refine am_eqh (h' := (Sn 50 1571 ((47, .inr (7, [.int (0 : Int32), .int (0 : Int32), .int (0 : Int32), .int (0 : Int32), .ref 48, .null, .null, .null, .null, .null, .null, .null, .null, .null, .null, .null, .null])) :: ov))) (Sn_n.trans (Sn_f (Sf_drop (((Sf_ne (a := 47) (k := 49) (by decide)).trans (hov 49 (by decide))).trans rfl)))) ?_
  refine am_putF f_7_28 rfl rfl rfl rfl (Nat.le_of_ble_eq_true rfl) rfl (by decide) (fun _ _ => ⟨rfl, rfl⟩) ?_
  refine am_eqh (h' := (Sn 50 1571 ((47, .inr (7, [.int (0 : Int32), .int (0 : Int32), .int (0 : Int32), .int (0 : Int32), .ref 48, .ref 49, .null, .null, .null, .null, .null, .null, .null, .null, .null, .null, .null])) :: ov))) (Sn_u.trans (Sn_f Sf_hide)) ?_
  refine am_aload_n rfl rfl ?_
  refine x_iconst (v := (5 : Int32)) rfl (by decide) ?_
  refine am_newI ar_int (by decide) (N := 5) (by decide) (by decide) rfl ⟨Nat.le_of_ble_eq_true rfl, Nat.le_of_ble_eq_true rfl⟩ ?_
  refine am_eqh (h' := (Sn 51 1576 ((47, .inr (7, [.int (0 : Int32), .int (0 : Int32), .int (0 : Int32), .int (0 : Int32), .ref 48, .ref 49, .null, .null, .null, .null, .null, .null, .null, .null, .null, .null, .null])) :: ov))) (Sn_n.trans (Sn_f (Sf_drop (((Sf_ne (a := 47) (k := 50) (by decide)).trans (hov 50 (by decide))).trans rfl)))) ?_
  refine am_putF f_7_31 rfl rfl rfl rfl (Nat.le_of_ble_eq_true rfl) rfl (by decide) (fun _ _ => ⟨rfl, rfl⟩) ?_
  refine am_eqh (h' := (Sn 51 1576 ((47, .inr (7, [.int (0 : Int32), .int (0 : Int32), .int (0 : Int32), .int (0 : Int32), .ref 48, .ref 49, .ref 50, .null, .null, .null, .null, .null, .null, .null, .null, .null, .null])) :: ov))) (Sn_u.trans (Sn_f Sf_hide)) ?_
  refine am_aload_n rfl rfl ?_
  refine x_bipush (v := (6 : Int32)) rfl (by decide) ?_
  refine am_newI ar_int (by decide) (N := 6) (by decide) (by decide) rfl ⟨Nat.le_of_ble_eq_true rfl, Nat.le_of_ble_eq_true rfl⟩ ?_
  refine am_eqh (h' := (Sn 52 1582 ((47, .inr (7, [.int (0 : Int32), .int (0 : Int32), .int (0 : Int32), .int (0 : Int32), .ref 48, .ref 49, .ref 50, .null, .null, .null, .null, .null, .null, .null, .null, .null, .null])) :: ov))) (Sn_n.trans (Sn_f (Sf_drop (((Sf_ne (a := 47) (k := 51) (by decide)).trans (hov 51 (by decide))).trans rfl)))) ?_
  refine am_putF f_7_34 rfl rfl rfl rfl (Nat.le_of_ble_eq_true rfl) rfl (by decide) (fun _ _ => ⟨rfl, rfl⟩) ?_
  refine am_eqh (h' := (Sn 52 1582 ((47, .inr (7, [.int (0 : Int32), .int (0 : Int32), .int (0 : Int32), .int (0 : Int32), .ref 48, .ref 49, .ref 50, .ref 51, .null, .null, .null, .null, .null, .null, .null, .null, .null])) :: ov))) (Sn_u.trans (Sn_f Sf_hide)) ?_
  refine am_aload_n rfl rfl ?_
  refine x_bipush (v := (6 : Int32)) rfl (by decide) ?_
  refine am_newI ar_int (by decide) (N := 6) (by decide) (by decide) rfl ⟨Nat.le_of_ble_eq_true rfl, Nat.le_of_ble_eq_true rfl⟩ ?_
  refine am_eqh (h' := (Sn 53 1588 ((47, .inr (7, [.int (0 : Int32), .int (0 : Int32), .int (0 : Int32), .int (0 : Int32), .ref 48, .ref 49, .ref 50, .ref 51, .null, .null, .null, .null, .null, .null, .null, .null, .null])) :: ov))) (Sn_n.trans (Sn_f (Sf_drop (((Sf_ne (a := 47) (k := 52) (by decide)).trans (hov 52 (by decide))).trans rfl)))) ?_
  refine am_putF f_7_37 rfl rfl rfl rfl (Nat.le_of_ble_eq_true rfl) rfl (by decide) (fun _ _ => ⟨rfl, rfl⟩) ?_
  refine am_eqh (h' := (Sn 53 1588 ((47, .inr (7, [.int (0 : Int32), .int (0 : Int32), .int (0 : Int32), .int (0 : Int32), .ref 48, .ref 49, .ref 50, .ref 51, .ref 52, .null, .null, .null, .null, .null, .null, .null, .null])) :: ov))) (Sn_u.trans (Sn_f Sf_hide)) ?_
  refine am_aload_n rfl rfl ?_
  refine x_bipush (v := (6 : Int32)) rfl (by decide) ?_
  refine am_newI ar_int (by decide) (N := 6) (by decide) (by decide) rfl ⟨Nat.le_of_ble_eq_true rfl, Nat.le_of_ble_eq_true rfl⟩ ?_
  refine am_eqh (h' := (Sn 54 1594 ((47, .inr (7, [.int (0 : Int32), .int (0 : Int32), .int (0 : Int32), .int (0 : Int32), .ref 48, .ref 49, .ref 50, .ref 51, .ref 52, .null, .null, .null, .null, .null, .null, .null, .null])) :: ov))) (Sn_n.trans (Sn_f (Sf_drop (((Sf_ne (a := 47) (k := 53) (by decide)).trans (hov 53 (by decide))).trans rfl)))) ?_
  refine am_putF f_7_40 rfl rfl rfl rfl (Nat.le_of_ble_eq_true rfl) rfl (by decide) (fun _ _ => ⟨rfl, rfl⟩) ?_
  refine am_eqh (h' := (Sn 54 1594 ((47, .inr (7, [.int (0 : Int32), .int (0 : Int32), .int (0 : Int32), .int (0 : Int32), .ref 48, .ref 49, .ref 50, .ref 51, .ref 52, .ref 53, .null, .null, .null, .null, .null, .null, .null])) :: ov))) (Sn_u.trans (Sn_f Sf_hide)) ?_
  refine am_aload_n rfl rfl ?_
  refine x_bipush (v := (30 : Int32)) rfl (by decide) ?_
  refine am_newI ar_int (by decide) (N := 30) (by decide) (by decide) rfl ⟨Nat.le_of_ble_eq_true rfl, Nat.le_of_ble_eq_true rfl⟩ ?_
  refine am_eqh (h' := (Sn 55 1624 ((47, .inr (7, [.int (0 : Int32), .int (0 : Int32), .int (0 : Int32), .int (0 : Int32), .ref 48, .ref 49, .ref 50, .ref 51, .ref 52, .ref 53, .null, .null, .null, .null, .null, .null, .null])) :: ov))) (Sn_n.trans (Sn_f (Sf_drop (((Sf_ne (a := 47) (k := 54) (by decide)).trans (hov 54 (by decide))).trans rfl)))) ?_
  refine am_putF f_7_43 rfl rfl rfl rfl (Nat.le_of_ble_eq_true rfl) rfl (by decide) (fun _ _ => ⟨rfl, rfl⟩) ?_
  refine am_eqh (h' := (Sn 55 1624 ((47, .inr (7, [.int (0 : Int32), .int (0 : Int32), .int (0 : Int32), .int (0 : Int32), .ref 48, .ref 49, .ref 50, .ref 51, .ref 52, .ref 53, .ref 54, .null, .null, .null, .null, .null, .null])) :: ov))) (Sn_u.trans (Sn_f Sf_hide)) ?_
  refine am_aload_n rfl rfl ?_
  refine x_bipush (v := (30 : Int32)) rfl (by decide) ?_
  refine am_newI ar_int (by decide) (N := 30) (by decide) (by decide) rfl ⟨Nat.le_of_ble_eq_true rfl, Nat.le_of_ble_eq_true rfl⟩ ?_
  refine am_eqh (h' := (Sn 56 1654 ((47, .inr (7, [.int (0 : Int32), .int (0 : Int32), .int (0 : Int32), .int (0 : Int32), .ref 48, .ref 49, .ref 50, .ref 51, .ref 52, .ref 53, .ref 54, .null, .null, .null, .null, .null, .null])) :: ov))) (Sn_n.trans (Sn_f (Sf_drop (((Sf_ne (a := 47) (k := 55) (by decide)).trans (hov 55 (by decide))).trans rfl)))) ?_
  refine am_putF f_7_46 rfl rfl rfl rfl (Nat.le_of_ble_eq_true rfl) rfl (by decide) (fun _ _ => ⟨rfl, rfl⟩) ?_
  refine am_eqh (h' := (Sn 56 1654 ((47, .inr (7, [.int (0 : Int32), .int (0 : Int32), .int (0 : Int32), .int (0 : Int32), .ref 48, .ref 49, .ref 50, .ref 51, .ref 52, .ref 53, .ref 54, .ref 55, .null, .null, .null, .null, .null])) :: ov))) (Sn_u.trans (Sn_f Sf_hide)) ?_
  refine am_aload_n rfl rfl ?_
  refine x_bipush (v := (60 : Int32)) rfl (by decide) ?_
  refine am_newI ar_int (by decide) (N := 60) (by decide) (by decide) rfl ⟨Nat.le_of_ble_eq_true rfl, Nat.le_of_ble_eq_true rfl⟩ ?_
  refine am_eqh (h' := (Sn 57 1714 ((47, .inr (7, [.int (0 : Int32), .int (0 : Int32), .int (0 : Int32), .int (0 : Int32), .ref 48, .ref 49, .ref 50, .ref 51, .ref 52, .ref 53, .ref 54, .ref 55, .null, .null, .null, .null, .null])) :: ov))) (Sn_n.trans (Sn_f (Sf_drop (((Sf_ne (a := 47) (k := 56) (by decide)).trans (hov 56 (by decide))).trans rfl)))) ?_
  refine am_putF f_7_49 rfl rfl rfl rfl (Nat.le_of_ble_eq_true rfl) rfl (by decide) (fun _ _ => ⟨rfl, rfl⟩) ?_
  refine am_eqh (h' := (Sn 57 1714 ((47, .inr (7, [.int (0 : Int32), .int (0 : Int32), .int (0 : Int32), .int (0 : Int32), .ref 48, .ref 49, .ref 50, .ref 51, .ref 52, .ref 53, .ref 54, .ref 55, .ref 56, .null, .null, .null, .null])) :: ov))) (Sn_u.trans (Sn_f Sf_hide)) ?_
  refine am_aload_n rfl rfl ?_
  refine x_bipush (v := (60 : Int32)) rfl (by decide) ?_
  refine am_newI ar_int (by decide) (N := 60) (by decide) (by decide) rfl ⟨Nat.le_of_ble_eq_true rfl, Nat.le_of_ble_eq_true rfl⟩ ?_
  refine am_eqh (h' := (Sn 58 1774 ((47, .inr (7, [.int (0 : Int32), .int (0 : Int32), .int (0 : Int32), .int (0 : Int32), .ref 48, .ref 49, .ref 50, .ref 51, .ref 52, .ref 53, .ref 54, .ref 55, .ref 56, .null, .null, .null, .null])) :: ov))) (Sn_n.trans (Sn_f (Sf_drop (((Sf_ne (a := 47) (k := 57) (by decide)).trans (hov 57 (by decide))).trans rfl)))) ?_
  refine am_putF f_7_52 rfl rfl rfl rfl (Nat.le_of_ble_eq_true rfl) rfl (by decide) (fun _ _ => ⟨rfl, rfl⟩) ?_
  refine am_eqh (h' := (Sn 58 1774 ((47, .inr (7, [.int (0 : Int32), .int (0 : Int32), .int (0 : Int32), .int (0 : Int32), .ref 48, .ref 49, .ref 50, .ref 51, .ref 52, .ref 53, .ref 54, .ref 55, .ref 56, .ref 57, .null, .null, .null])) :: ov))) (Sn_u.trans (Sn_f Sf_hide)) ?_
  refine am_aload_n rfl rfl ?_
  refine x_bipush (v := (60 : Int32)) rfl (by decide) ?_
  refine am_newI ar_int (by decide) (N := 60) (by decide) (by decide) rfl ⟨Nat.le_of_ble_eq_true rfl, Nat.le_of_ble_eq_true rfl⟩ ?_
  refine am_eqh (h' := (Sn 59 1834 ((47, .inr (7, [.int (0 : Int32), .int (0 : Int32), .int (0 : Int32), .int (0 : Int32), .ref 48, .ref 49, .ref 50, .ref 51, .ref 52, .ref 53, .ref 54, .ref 55, .ref 56, .ref 57, .null, .null, .null])) :: ov))) (Sn_n.trans (Sn_f (Sf_drop (((Sf_ne (a := 47) (k := 58) (by decide)).trans (hov 58 (by decide))).trans rfl)))) ?_
  refine am_putF f_7_55 rfl rfl rfl rfl (Nat.le_of_ble_eq_true rfl) rfl (by decide) (fun _ _ => ⟨rfl, rfl⟩) ?_
  refine am_eqh (h' := (Sn 59 1834 ((47, .inr (7, [.int (0 : Int32), .int (0 : Int32), .int (0 : Int32), .int (0 : Int32), .ref 48, .ref 49, .ref 50, .ref 51, .ref 52, .ref 53, .ref 54, .ref 55, .ref 56, .ref 57, .ref 58, .null, .null])) :: ov))) (Sn_u.trans (Sn_f Sf_hide)) ?_
  refine am_aload_n rfl rfl ?_
  refine x_bipush (v := (60 : Int32)) rfl (by decide) ?_
  refine am_newI ar_int (by decide) (N := 60) (by decide) (by decide) rfl ⟨Nat.le_of_ble_eq_true rfl, Nat.le_of_ble_eq_true rfl⟩ ?_
  refine am_eqh (h' := (Sn 60 1894 ((47, .inr (7, [.int (0 : Int32), .int (0 : Int32), .int (0 : Int32), .int (0 : Int32), .ref 48, .ref 49, .ref 50, .ref 51, .ref 52, .ref 53, .ref 54, .ref 55, .ref 56, .ref 57, .ref 58, .null, .null])) :: ov))) (Sn_n.trans (Sn_f (Sf_drop (((Sf_ne (a := 47) (k := 59) (by decide)).trans (hov 59 (by decide))).trans rfl)))) ?_
  refine am_putF f_7_58 rfl rfl rfl rfl (Nat.le_of_ble_eq_true rfl) rfl (by decide) (fun _ _ => ⟨rfl, rfl⟩) ?_
  refine am_eqh (h' := (Sn 60 1894 ((47, .inr (7, [.int (0 : Int32), .int (0 : Int32), .int (0 : Int32), .int (0 : Int32), .ref 48, .ref 49, .ref 50, .ref 51, .ref 52, .ref 53, .ref 54, .ref 55, .ref 56, .ref 57, .ref 58, .ref 59, .null])) :: ov))) (Sn_u.trans (Sn_f Sf_hide)) ?_
  refine am_aload_n rfl rfl ?_
  refine x_bipush (v := (60 : Int32)) rfl (by decide) ?_
  refine am_newI ar_int (by decide) (N := 60) (by decide) (by decide) rfl ⟨Nat.le_of_ble_eq_true rfl, Nat.le_of_ble_eq_true rfl⟩ ?_
  refine am_eqh (h' := (Sn 61 1954 ((47, .inr (7, [.int (0 : Int32), .int (0 : Int32), .int (0 : Int32), .int (0 : Int32), .ref 48, .ref 49, .ref 50, .ref 51, .ref 52, .ref 53, .ref 54, .ref 55, .ref 56, .ref 57, .ref 58, .ref 59, .null])) :: ov))) (Sn_n.trans (Sn_f (Sf_drop (((Sf_ne (a := 47) (k := 60) (by decide)).trans (hov 60 (by decide))).trans rfl)))) ?_
  refine am_putF f_7_61 rfl rfl rfl rfl (Nat.le_of_ble_eq_true rfl) rfl (by decide) (fun _ _ => ⟨rfl, rfl⟩) ?_
  refine am_eqh (h' := (Sn 61 1954 ((47, .inr (7, [.int (0 : Int32), .int (0 : Int32), .int (0 : Int32), .int (0 : Int32), .ref 48, .ref 49, .ref 50, .ref 51, .ref 52, .ref 53, .ref 54, .ref 55, .ref 56, .ref 57, .ref 58, .ref 59, .ref 60])) :: ov))) (Sn_u.trans (Sn_f Sf_hide)) ?_
  refine am_eqh (h' := (Sn 61 1954 (ov))) (Sn_f (Sf_drop ((hov 47 (by decide)).trans rfl))) ?_
  exact am_vret rfl rfl rfl rfl K
set_option maxHeartbeats 4000000 in
set_option maxRecDepth 100000 in
theorem z_X7_init_61 (ov : List (Nat × va_E)) (hov : ∀ k, 61 ≤ k → S_f ov k = hp g0 k) {post : Int32 → am_H → Prop} (K : post 0 (Sn 75 2388 ov)) : am_X m_X7_init 1 13 417 [.ref 61] (Sn 62 1971 ((61, .inr (7, [.int (0 : Int32), .int (0 : Int32), .int (0 : Int32), .int (0 : Int32), .null, .null, .null, .null, .null, .null, .null, .null, .null, .null, .null, .null, .null])) :: ov)) post := by
  refine am_X_of ok_X7_init pn_7 rfl (by decide) (Or.inl rfl) (List.forall_mem_cons.mpr ⟨rfl, fun _ h => absurd h List.not_mem_nil⟩) (Nat.le_of_ble_eq_true rfl) ?_
  show am_V m_X7_init (0, fun _ => 0) 1 13 417 62 1971 post 0 [some (.ref 61)] [] (Sn 62 1971 ((61, .inr (7, [.int (0 : Int32), .int (0 : Int32), .int (0 : Int32), .int (0 : Int32), .null, .null, .null, .null, .null, .null, .null, .null, .null, .null, .null, .null, .null])) :: ov))
  refine am_aload_n rfl rfl ?_
  refine am_obj j_7_3 ob_ins ob_cod rfl (Nat.le_of_ble_eq_true rfl) (fun _ _ => Nat.le_of_ble_eq_true rfl) ?_
  refine am_aload_n rfl rfl ?_
  refine x_iconst (v := (0 : Int32)) rfl (by decide) ?_
  refine am_put f_7_9 rfl rfl (Nat.le_of_ble_eq_true rfl) rfl (by decide) (fun _ _ => ⟨rfl, rfl⟩) ?_
  refine am_eqh (h' := (Sn 62 1971 ((61, .inr (7, [.int (0 : Int32), .int (0 : Int32), .int (0 : Int32), .int (0 : Int32), .null, .null, .null, .null, .null, .null, .null, .null, .null, .null, .null, .null, .null])) :: ov))) (Sn_u.trans (Sn_f Sf_hide)) ?_
  refine am_aload_n rfl rfl ?_
  refine x_iconst (v := (0 : Int32)) rfl (by decide) ?_
  refine am_put f_7_15 rfl rfl (Nat.le_of_ble_eq_true rfl) rfl (by decide) (fun _ _ => ⟨rfl, rfl⟩) ?_
  refine am_eqh (h' := (Sn 62 1971 ((61, .inr (7, [.int (0 : Int32), .int (0 : Int32), .int (0 : Int32), .int (0 : Int32), .null, .null, .null, .null, .null, .null, .null, .null, .null, .null, .null, .null, .null])) :: ov))) (Sn_u.trans (Sn_f Sf_hide)) ?_
  refine am_aload_n rfl rfl ?_
  refine x_iconst (v := (0 : Int32)) rfl (by decide) ?_
  refine am_put f_7_18 rfl rfl (Nat.le_of_ble_eq_true rfl) rfl (by decide) (fun _ _ => ⟨rfl, rfl⟩) ?_
  refine am_eqh (h' := (Sn 62 1971 ((61, .inr (7, [.int (0 : Int32), .int (0 : Int32), .int (0 : Int32), .int (0 : Int32), .null, .null, .null, .null, .null, .null, .null, .null, .null, .null, .null, .null, .null])) :: ov))) (Sn_u.trans (Sn_f Sf_hide)) ?_
  refine am_aload_n rfl rfl ?_
  refine x_iconst (v := (0 : Int32)) rfl (by decide) ?_
  refine am_put f_7_21 rfl rfl (Nat.le_of_ble_eq_true rfl) rfl (by decide) (fun _ _ => ⟨rfl, rfl⟩) ?_
  refine am_eqh (h' := (Sn 62 1971 ((61, .inr (7, [.int (0 : Int32), .int (0 : Int32), .int (0 : Int32), .int (0 : Int32), .null, .null, .null, .null, .null, .null, .null, .null, .null, .null, .null, .null, .null])) :: ov))) (Sn_u.trans (Sn_f Sf_hide)) ?_
  refine am_aload_n rfl rfl ?_
  refine x_bipush (v := (10 : Int32)) rfl (by decide) ?_
  refine am_newI ar_int (by decide) (N := 10) (by decide) (by decide) rfl ⟨Nat.le_of_ble_eq_true rfl, Nat.le_of_ble_eq_true rfl⟩ ?_
  refine am_eqh (h' := (Sn 63 1981 ((61, .inr (7, [.int (0 : Int32), .int (0 : Int32), .int (0 : Int32), .int (0 : Int32), .null, .null, .null, .null, .null, .null, .null, .null, .null, .null, .null, .null, .null])) :: ov))) (Sn_n.trans (Sn_f (Sf_drop (((Sf_ne (a := 61) (k := 62) (by decide)).trans (hov 62 (by decide))).trans rfl)))) ?_
  refine am_putF f_7_24 rfl rfl rfl rfl (Nat.le_of_ble_eq_true rfl) rfl (by decide) (fun _ _ => ⟨rfl, rfl⟩) ?_
  refine am_eqh (h' := (Sn 63 1981 ((61, .inr (7, [.int (0 : Int32), .int (0 : Int32), .int (0 : Int32), .int (0 : Int32), .ref 62, .null, .null, .null, .null, .null, .null, .null, .null, .null, .null, .null, .null])) :: ov))) (Sn_u.trans (Sn_f Sf_hide)) ?_
  refine am_aload_n rfl rfl ?_
  refine x_bipush (v := (24 : Int32)) rfl (by decide) ?_
  refine am_newI ar_int (by decide) (N := 24) (by decide) (by decide) rfl ⟨Nat.le_of_ble_eq_true rfl, Nat.le_of_ble_eq_true rfl⟩ ?_
  refine am_eqh (h' := (Sn 64 2005 ((61, .inr (7, [.int (0 : Int32), .int (0 : Int32), .int (0 : Int32), .int (0 : Int32), .ref 62, .null, .null, .null, .null, .null, .null, .null, .null, .null, .null, .null, .null])) :: ov))) (Sn_n.trans (Sn_f (Sf_drop (((Sf_ne (a := 61) (k := 63) (by decide)).trans (hov 63 (by decide))).trans rfl)))) ?_
  refine am_putF f_7_28 rfl rfl rfl rfl (Nat.le_of_ble_eq_true rfl) rfl (by decide) (fun _ _ => ⟨rfl, rfl⟩) ?_
  refine am_eqh (h' := (Sn 64 2005 ((61, .inr (7, [.int (0 : Int32), .int (0 : Int32), .int (0 : Int32), .int (0 : Int32), .ref 62, .ref 63, .null, .null, .null, .null, .null, .null, .null, .null, .null, .null, .null])) :: ov))) (Sn_u.trans (Sn_f Sf_hide)) ?_
  refine am_aload_n rfl rfl ?_
  refine x_iconst (v := (5 : Int32)) rfl (by decide) ?_
  refine am_newI ar_int (by decide) (N := 5) (by decide) (by decide) rfl ⟨Nat.le_of_ble_eq_true rfl, Nat.le_of_ble_eq_true rfl⟩ ?_
  refine am_eqh (h' := (Sn 65 2010 ((61, .inr (7, [.int (0 : Int32), .int (0 : Int32), .int (0 : Int32), .int (0 : Int32), .ref 62, .ref 63, .null, .null, .null, .null, .null, .null, .null, .null, .null, .null, .null])) :: ov))) (Sn_n.trans (Sn_f (Sf_drop (((Sf_ne (a := 61) (k := 64) (by decide)).trans (hov 64 (by decide))).trans rfl)))) ?_
  refine am_putF f_7_31 rfl rfl rfl rfl (Nat.le_of_ble_eq_true rfl) rfl (by decide) (fun _ _ => ⟨rfl, rfl⟩) ?_
  refine am_eqh (h' := (Sn 65 2010 ((61, .inr (7, [.int (0 : Int32), .int (0 : Int32), .int (0 : Int32), .int (0 : Int32), .ref 62, .ref 63, .ref 64, .null, .null, .null, .null, .null, .null, .null, .null, .null, .null])) :: ov))) (Sn_u.trans (Sn_f Sf_hide)) ?_
  refine am_aload_n rfl rfl ?_
  refine x_bipush (v := (6 : Int32)) rfl (by decide) ?_
  refine am_newI ar_int (by decide) (N := 6) (by decide) (by decide) rfl ⟨Nat.le_of_ble_eq_true rfl, Nat.le_of_ble_eq_true rfl⟩ ?_
  refine am_eqh (h' := (Sn 66 2016 ((61, .inr (7, [.int (0 : Int32), .int (0 : Int32), .int (0 : Int32), .int (0 : Int32), .ref 62, .ref 63, .ref 64, .null, .null, .null, .null, .null, .null, .null, .null, .null, .null])) :: ov))) (Sn_n.trans (Sn_f (Sf_drop (((Sf_ne (a := 61) (k := 65) (by decide)).trans (hov 65 (by decide))).trans rfl)))) ?_
  refine am_putF f_7_34 rfl rfl rfl rfl (Nat.le_of_ble_eq_true rfl) rfl (by decide) (fun _ _ => ⟨rfl, rfl⟩) ?_
  refine am_eqh (h' := (Sn 66 2016 ((61, .inr (7, [.int (0 : Int32), .int (0 : Int32), .int (0 : Int32), .int (0 : Int32), .ref 62, .ref 63, .ref 64, .ref 65, .null, .null, .null, .null, .null, .null, .null, .null, .null])) :: ov))) (Sn_u.trans (Sn_f Sf_hide)) ?_
  refine am_aload_n rfl rfl ?_
  refine x_bipush (v := (6 : Int32)) rfl (by decide) ?_
  refine am_newI ar_int (by decide) (N := 6) (by decide) (by decide) rfl ⟨Nat.le_of_ble_eq_true rfl, Nat.le_of_ble_eq_true rfl⟩ ?_
  refine am_eqh (h' := (Sn 67 2022 ((61, .inr (7, [.int (0 : Int32), .int (0 : Int32), .int (0 : Int32), .int (0 : Int32), .ref 62, .ref 63, .ref 64, .ref 65, .null, .null, .null, .null, .null, .null, .null, .null, .null])) :: ov))) (Sn_n.trans (Sn_f (Sf_drop (((Sf_ne (a := 61) (k := 66) (by decide)).trans (hov 66 (by decide))).trans rfl)))) ?_
  refine am_putF f_7_37 rfl rfl rfl rfl (Nat.le_of_ble_eq_true rfl) rfl (by decide) (fun _ _ => ⟨rfl, rfl⟩) ?_
  refine am_eqh (h' := (Sn 67 2022 ((61, .inr (7, [.int (0 : Int32), .int (0 : Int32), .int (0 : Int32), .int (0 : Int32), .ref 62, .ref 63, .ref 64, .ref 65, .ref 66, .null, .null, .null, .null, .null, .null, .null, .null])) :: ov))) (Sn_u.trans (Sn_f Sf_hide)) ?_
  refine am_aload_n rfl rfl ?_
  refine x_bipush (v := (6 : Int32)) rfl (by decide) ?_
  refine am_newI ar_int (by decide) (N := 6) (by decide) (by decide) rfl ⟨Nat.le_of_ble_eq_true rfl, Nat.le_of_ble_eq_true rfl⟩ ?_
  refine am_eqh (h' := (Sn 68 2028 ((61, .inr (7, [.int (0 : Int32), .int (0 : Int32), .int (0 : Int32), .int (0 : Int32), .ref 62, .ref 63, .ref 64, .ref 65, .ref 66, .null, .null, .null, .null, .null, .null, .null, .null])) :: ov))) (Sn_n.trans (Sn_f (Sf_drop (((Sf_ne (a := 61) (k := 67) (by decide)).trans (hov 67 (by decide))).trans rfl)))) ?_
  refine am_putF f_7_40 rfl rfl rfl rfl (Nat.le_of_ble_eq_true rfl) rfl (by decide) (fun _ _ => ⟨rfl, rfl⟩) ?_
  refine am_eqh (h' := (Sn 68 2028 ((61, .inr (7, [.int (0 : Int32), .int (0 : Int32), .int (0 : Int32), .int (0 : Int32), .ref 62, .ref 63, .ref 64, .ref 65, .ref 66, .ref 67, .null, .null, .null, .null, .null, .null, .null])) :: ov))) (Sn_u.trans (Sn_f Sf_hide)) ?_
  refine am_aload_n rfl rfl ?_
  refine x_bipush (v := (30 : Int32)) rfl (by decide) ?_
  refine am_newI ar_int (by decide) (N := 30) (by decide) (by decide) rfl ⟨Nat.le_of_ble_eq_true rfl, Nat.le_of_ble_eq_true rfl⟩ ?_
  refine am_eqh (h' := (Sn 69 2058 ((61, .inr (7, [.int (0 : Int32), .int (0 : Int32), .int (0 : Int32), .int (0 : Int32), .ref 62, .ref 63, .ref 64, .ref 65, .ref 66, .ref 67, .null, .null, .null, .null, .null, .null, .null])) :: ov))) (Sn_n.trans (Sn_f (Sf_drop (((Sf_ne (a := 61) (k := 68) (by decide)).trans (hov 68 (by decide))).trans rfl)))) ?_
  refine am_putF f_7_43 rfl rfl rfl rfl (Nat.le_of_ble_eq_true rfl) rfl (by decide) (fun _ _ => ⟨rfl, rfl⟩) ?_
  refine am_eqh (h' := (Sn 69 2058 ((61, .inr (7, [.int (0 : Int32), .int (0 : Int32), .int (0 : Int32), .int (0 : Int32), .ref 62, .ref 63, .ref 64, .ref 65, .ref 66, .ref 67, .ref 68, .null, .null, .null, .null, .null, .null])) :: ov))) (Sn_u.trans (Sn_f Sf_hide)) ?_
  refine am_aload_n rfl rfl ?_
  refine x_bipush (v := (30 : Int32)) rfl (by decide) ?_
  refine am_newI ar_int (by decide) (N := 30) (by decide) (by decide) rfl ⟨Nat.le_of_ble_eq_true rfl, Nat.le_of_ble_eq_true rfl⟩ ?_
  refine am_eqh (h' := (Sn 70 2088 ((61, .inr (7, [.int (0 : Int32), .int (0 : Int32), .int (0 : Int32), .int (0 : Int32), .ref 62, .ref 63, .ref 64, .ref 65, .ref 66, .ref 67, .ref 68, .null, .null, .null, .null, .null, .null])) :: ov))) (Sn_n.trans (Sn_f (Sf_drop (((Sf_ne (a := 61) (k := 69) (by decide)).trans (hov 69 (by decide))).trans rfl)))) ?_
  refine am_putF f_7_46 rfl rfl rfl rfl (Nat.le_of_ble_eq_true rfl) rfl (by decide) (fun _ _ => ⟨rfl, rfl⟩) ?_
  refine am_eqh (h' := (Sn 70 2088 ((61, .inr (7, [.int (0 : Int32), .int (0 : Int32), .int (0 : Int32), .int (0 : Int32), .ref 62, .ref 63, .ref 64, .ref 65, .ref 66, .ref 67, .ref 68, .ref 69, .null, .null, .null, .null, .null])) :: ov))) (Sn_u.trans (Sn_f Sf_hide)) ?_
  refine am_aload_n rfl rfl ?_
  refine x_bipush (v := (60 : Int32)) rfl (by decide) ?_
  refine am_newI ar_int (by decide) (N := 60) (by decide) (by decide) rfl ⟨Nat.le_of_ble_eq_true rfl, Nat.le_of_ble_eq_true rfl⟩ ?_
  refine am_eqh (h' := (Sn 71 2148 ((61, .inr (7, [.int (0 : Int32), .int (0 : Int32), .int (0 : Int32), .int (0 : Int32), .ref 62, .ref 63, .ref 64, .ref 65, .ref 66, .ref 67, .ref 68, .ref 69, .null, .null, .null, .null, .null])) :: ov))) (Sn_n.trans (Sn_f (Sf_drop (((Sf_ne (a := 61) (k := 70) (by decide)).trans (hov 70 (by decide))).trans rfl)))) ?_
  refine am_putF f_7_49 rfl rfl rfl rfl (Nat.le_of_ble_eq_true rfl) rfl (by decide) (fun _ _ => ⟨rfl, rfl⟩) ?_
  refine am_eqh (h' := (Sn 71 2148 ((61, .inr (7, [.int (0 : Int32), .int (0 : Int32), .int (0 : Int32), .int (0 : Int32), .ref 62, .ref 63, .ref 64, .ref 65, .ref 66, .ref 67, .ref 68, .ref 69, .ref 70, .null, .null, .null, .null])) :: ov))) (Sn_u.trans (Sn_f Sf_hide)) ?_
  refine am_aload_n rfl rfl ?_
  refine x_bipush (v := (60 : Int32)) rfl (by decide) ?_
  refine am_newI ar_int (by decide) (N := 60) (by decide) (by decide) rfl ⟨Nat.le_of_ble_eq_true rfl, Nat.le_of_ble_eq_true rfl⟩ ?_
  refine am_eqh (h' := (Sn 72 2208 ((61, .inr (7, [.int (0 : Int32), .int (0 : Int32), .int (0 : Int32), .int (0 : Int32), .ref 62, .ref 63, .ref 64, .ref 65, .ref 66, .ref 67, .ref 68, .ref 69, .ref 70, .null, .null, .null, .null])) :: ov))) (Sn_n.trans (Sn_f (Sf_drop (((Sf_ne (a := 61) (k := 71) (by decide)).trans (hov 71 (by decide))).trans rfl)))) ?_
  refine am_putF f_7_52 rfl rfl rfl rfl (Nat.le_of_ble_eq_true rfl) rfl (by decide) (fun _ _ => ⟨rfl, rfl⟩) ?_
  refine am_eqh (h' := (Sn 72 2208 ((61, .inr (7, [.int (0 : Int32), .int (0 : Int32), .int (0 : Int32), .int (0 : Int32), .ref 62, .ref 63, .ref 64, .ref 65, .ref 66, .ref 67, .ref 68, .ref 69, .ref 70, .ref 71, .null, .null, .null])) :: ov))) (Sn_u.trans (Sn_f Sf_hide)) ?_
  refine am_aload_n rfl rfl ?_
  refine x_bipush (v := (60 : Int32)) rfl (by decide) ?_
  refine am_newI ar_int (by decide) (N := 60) (by decide) (by decide) rfl ⟨Nat.le_of_ble_eq_true rfl, Nat.le_of_ble_eq_true rfl⟩ ?_
  refine am_eqh (h' := (Sn 73 2268 ((61, .inr (7, [.int (0 : Int32), .int (0 : Int32), .int (0 : Int32), .int (0 : Int32), .ref 62, .ref 63, .ref 64, .ref 65, .ref 66, .ref 67, .ref 68, .ref 69, .ref 70, .ref 71, .null, .null, .null])) :: ov))) (Sn_n.trans (Sn_f (Sf_drop (((Sf_ne (a := 61) (k := 72) (by decide)).trans (hov 72 (by decide))).trans rfl)))) ?_
  refine am_putF f_7_55 rfl rfl rfl rfl (Nat.le_of_ble_eq_true rfl) rfl (by decide) (fun _ _ => ⟨rfl, rfl⟩) ?_
  refine am_eqh (h' := (Sn 73 2268 ((61, .inr (7, [.int (0 : Int32), .int (0 : Int32), .int (0 : Int32), .int (0 : Int32), .ref 62, .ref 63, .ref 64, .ref 65, .ref 66, .ref 67, .ref 68, .ref 69, .ref 70, .ref 71, .ref 72, .null, .null])) :: ov))) (Sn_u.trans (Sn_f Sf_hide)) ?_
  refine am_aload_n rfl rfl ?_
  refine x_bipush (v := (60 : Int32)) rfl (by decide) ?_
  refine am_newI ar_int (by decide) (N := 60) (by decide) (by decide) rfl ⟨Nat.le_of_ble_eq_true rfl, Nat.le_of_ble_eq_true rfl⟩ ?_
  refine am_eqh (h' := (Sn 74 2328 ((61, .inr (7, [.int (0 : Int32), .int (0 : Int32), .int (0 : Int32), .int (0 : Int32), .ref 62, .ref 63, .ref 64, .ref 65, .ref 66, .ref 67, .ref 68, .ref 69, .ref 70, .ref 71, .ref 72, .null, .null])) :: ov))) (Sn_n.trans (Sn_f (Sf_drop (((Sf_ne (a := 61) (k := 73) (by decide)).trans (hov 73 (by decide))).trans rfl)))) ?_
  refine am_putF f_7_58 rfl rfl rfl rfl (Nat.le_of_ble_eq_true rfl) rfl (by decide) (fun _ _ => ⟨rfl, rfl⟩) ?_
  refine am_eqh (h' := (Sn 74 2328 ((61, .inr (7, [.int (0 : Int32), .int (0 : Int32), .int (0 : Int32), .int (0 : Int32), .ref 62, .ref 63, .ref 64, .ref 65, .ref 66, .ref 67, .ref 68, .ref 69, .ref 70, .ref 71, .ref 72, .ref 73, .null])) :: ov))) (Sn_u.trans (Sn_f Sf_hide)) ?_
  refine am_aload_n rfl rfl ?_
  refine x_bipush (v := (60 : Int32)) rfl (by decide) ?_
  refine am_newI ar_int (by decide) (N := 60) (by decide) (by decide) rfl ⟨Nat.le_of_ble_eq_true rfl, Nat.le_of_ble_eq_true rfl⟩ ?_
  refine am_eqh (h' := (Sn 75 2388 ((61, .inr (7, [.int (0 : Int32), .int (0 : Int32), .int (0 : Int32), .int (0 : Int32), .ref 62, .ref 63, .ref 64, .ref 65, .ref 66, .ref 67, .ref 68, .ref 69, .ref 70, .ref 71, .ref 72, .ref 73, .null])) :: ov))) (Sn_n.trans (Sn_f (Sf_drop (((Sf_ne (a := 61) (k := 74) (by decide)).trans (hov 74 (by decide))).trans rfl)))) ?_
  refine am_putF f_7_61 rfl rfl rfl rfl (Nat.le_of_ble_eq_true rfl) rfl (by decide) (fun _ _ => ⟨rfl, rfl⟩) ?_
  refine am_eqh (h' := (Sn 75 2388 ((61, .inr (7, [.int (0 : Int32), .int (0 : Int32), .int (0 : Int32), .int (0 : Int32), .ref 62, .ref 63, .ref 64, .ref 65, .ref 66, .ref 67, .ref 68, .ref 69, .ref 70, .ref 71, .ref 72, .ref 73, .ref 74])) :: ov))) (Sn_u.trans (Sn_f Sf_hide)) ?_
  refine am_eqh (h' := (Sn 75 2388 (ov))) (Sn_f (Sf_drop ((hov 61 (by decide)).trans rfl))) ?_
  exact am_vret rfl rfl rfl rfl K
set_option maxHeartbeats 4000000 in
set_option maxRecDepth 100000 in
theorem z_X7_init_75 (ov : List (Nat × va_E)) (hov : ∀ k, 75 ≤ k → S_f ov k = hp g0 k) {post : Int32 → am_H → Prop} (K : post 0 (Sn 89 2822 ov)) : am_X m_X7_init 1 13 417 [.ref 75] (Sn 76 2405 ((75, .inr (7, [.int (0 : Int32), .int (0 : Int32), .int (0 : Int32), .int (0 : Int32), .null, .null, .null, .null, .null, .null, .null, .null, .null, .null, .null, .null, .null])) :: ov)) post := by
  refine am_X_of ok_X7_init pn_7 rfl (by decide) (Or.inl rfl) (List.forall_mem_cons.mpr ⟨rfl, fun _ h => absurd h List.not_mem_nil⟩) (Nat.le_of_ble_eq_true rfl) ?_
  show am_V m_X7_init (0, fun _ => 0) 1 13 417 76 2405 post 0 [some (.ref 75)] [] (Sn 76 2405 ((75, .inr (7, [.int (0 : Int32), .int (0 : Int32), .int (0 : Int32), .int (0 : Int32), .null, .null, .null, .null, .null, .null, .null, .null, .null, .null, .null, .null, .null])) :: ov))
  refine am_aload_n rfl rfl ?_
  refine am_obj j_7_3 ob_ins ob_cod rfl (Nat.le_of_ble_eq_true rfl) (fun _ _ => Nat.le_of_ble_eq_true rfl) ?_
  refine am_aload_n rfl rfl ?_
  refine x_iconst (v := (0 : Int32)) rfl (by decide) ?_
  refine am_put f_7_9 rfl rfl (Nat.le_of_ble_eq_true rfl) rfl (by decide) (fun _ _ => ⟨rfl, rfl⟩) ?_
  refine am_eqh (h' := (Sn 76 2405 ((75, .inr (7, [.int (0 : Int32), .int (0 : Int32), .int (0 : Int32), .int (0 : Int32), .null, .null, .null, .null, .null, .null, .null, .null, .null, .null, .null, .null, .null])) :: ov))) (Sn_u.trans (Sn_f Sf_hide)) ?_
  refine am_aload_n rfl rfl ?_
  refine x_iconst (v := (0 : Int32)) rfl (by decide) ?_
  refine am_put f_7_15 rfl rfl (Nat.le_of_ble_eq_true rfl) rfl (by decide) (fun _ _ => ⟨rfl, rfl⟩) ?_
  refine am_eqh (h' := (Sn 76 2405 ((75, .inr (7, [.int (0 : Int32), .int (0 : Int32), .int (0 : Int32), .int (0 : Int32), .null, .null, .null, .null, .null, .null, .null, .null, .null, .null, .null, .null, .null])) :: ov))) (Sn_u.trans (Sn_f Sf_hide)) ?_
  refine am_aload_n rfl rfl ?_
  refine x_iconst (v := (0 : Int32)) rfl (by decide) ?_
  refine am_put f_7_18 rfl rfl (Nat.le_of_ble_eq_true rfl) rfl (by decide) (fun _ _ => ⟨rfl, rfl⟩) ?_
  refine am_eqh (h' := (Sn 76 2405 ((75, .inr (7, [.int (0 : Int32), .int (0 : Int32), .int (0 : Int32), .int (0 : Int32), .null, .null, .null, .null, .null, .null, .null, .null, .null, .null, .null, .null, .null])) :: ov))) (Sn_u.trans (Sn_f Sf_hide)) ?_
  refine am_aload_n rfl rfl ?_
  refine x_iconst (v := (0 : Int32)) rfl (by decide) ?_
  refine am_put f_7_21 rfl rfl (Nat.le_of_ble_eq_true rfl) rfl (by decide) (fun _ _ => ⟨rfl, rfl⟩) ?_
  refine am_eqh (h' := (Sn 76 2405 ((75, .inr (7, [.int (0 : Int32), .int (0 : Int32), .int (0 : Int32), .int (0 : Int32), .null, .null, .null, .null, .null, .null, .null, .null, .null, .null, .null, .null, .null])) :: ov))) (Sn_u.trans (Sn_f Sf_hide)) ?_
  refine am_aload_n rfl rfl ?_
  refine x_bipush (v := (10 : Int32)) rfl (by decide) ?_
  refine am_newI ar_int (by decide) (N := 10) (by decide) (by decide) rfl ⟨Nat.le_of_ble_eq_true rfl, Nat.le_of_ble_eq_true rfl⟩ ?_
  refine am_eqh (h' := (Sn 77 2415 ((75, .inr (7, [.int (0 : Int32), .int (0 : Int32), .int (0 : Int32), .int (0 : Int32), .null, .null, .null, .null, .null, .null, .null, .null, .null, .null, .null, .null, .null])) :: ov))) (Sn_n.trans (Sn_f (Sf_drop (((Sf_ne (a := 75) (k := 76) (by decide)).trans (hov 76 (by decide))).trans rfl)))) ?_
  refine am_putF f_7_24 rfl rfl rfl rfl (Nat.le_of_ble_eq_true rfl) rfl (by decide) (fun _ _ => ⟨rfl, rfl⟩) ?_
  refine am_eqh (h' := (Sn 77 2415 ((75, .inr (7, [.int (0 : Int32), .int (0 : Int32), .int (0 : Int32), .int (0 : Int32), .ref 76, .null, .null, .null, .null, .null, .null, .null, .null, .null, .null, .null, .null])) :: ov))) (Sn_u.trans (Sn_f Sf_hide)) ?_
  refine am_aload_n rfl rfl ?_
  refine x_bipush (v := (24 : Int32)) rfl (by decide) ?_
  refine am_newI ar_int (by decide) (N := 24) (by decide) (by decide) rfl ⟨Nat.le_of_ble_eq_true rfl, Nat.le_of_ble_eq_true rfl⟩ ?_
  refine am_eqh (h' := (Sn 78 2439 ((75, .inr (7, [.int (0 : Int32), .int (0 : Int32), .int (0 : Int32), .int (0 : Int32), .ref 76, .null, .null, .null, .null, .null, .null, .null, .null, .null, .null, .null, .null])) :: ov))) (Sn_n.trans (Sn_f (Sf_drop (((Sf_ne (a := 75) (k := 77) (by decide)).trans (hov 77 (by decide))).trans rfl)))) ?_
  refine am_putF f_7_28 rfl rfl rfl rfl (Nat.le_of_ble_eq_true rfl) rfl (by decide) (fun _ _ => ⟨rfl, rfl⟩) ?_
  refine am_eqh (h' := (Sn 78 2439 ((75, .inr (7, [.int (0 : Int32), .int (0 : Int32), .int (0 : Int32), .int (0 : Int32), .ref 76, .ref 77, .null, .null, .null, .null, .null, .null, .null, .null, .null, .null, .null])) :: ov))) (Sn_u.trans (Sn_f Sf_hide)) ?_
  refine am_aload_n rfl rfl ?_
  refine x_iconst (v := (5 : Int32)) rfl (by decide) ?_
  refine am_newI ar_int (by decide) (N := 5) (by decide) (by decide) rfl ⟨Nat.le_of_ble_eq_true rfl, Nat.le_of_ble_eq_true rfl⟩ ?_
  refine am_eqh (h' := (Sn 79 2444 ((75, .inr (7, [.int (0 : Int32), .int (0 : Int32), .int (0 : Int32), .int (0 : Int32), .ref 76, .ref 77, .null, .null, .null, .null, .null, .null, .null, .null, .null, .null, .null])) :: ov))) (Sn_n.trans (Sn_f (Sf_drop (((Sf_ne (a := 75) (k := 78) (by decide)).trans (hov 78 (by decide))).trans rfl)))) ?_
  refine am_putF f_7_31 rfl rfl rfl rfl (Nat.le_of_ble_eq_true rfl) rfl (by decide) (fun _ _ => ⟨rfl, rfl⟩) ?_
  refine am_eqh (h' := (Sn 79 2444 ((75, .inr (7, [.int (0 : Int32), .int (0 : Int32), .int (0 : Int32), .int (0 : Int32), .ref 76, .ref 77, .ref 78, .null, .null, .null, .null, .null, .null, .null, .null, .null, .null])) :: ov))) (Sn_u.trans (Sn_f Sf_hide)) ?_
  refine am_aload_n rfl rfl ?_
  refine x_bipush (v := (6 : Int32)) rfl (by decide) ?_
  refine am_newI ar_int (by decide) (N := 6) (by decide) (by decide) rfl ⟨Nat.le_of_ble_eq_true rfl, Nat.le_of_ble_eq_true rfl⟩ ?_
  refine am_eqh (h' := (Sn 80 2450 ((75, .inr (7, [.int (0 : Int32), .int (0 : Int32), .int (0 : Int32), .int (0 : Int32), .ref 76, .ref 77, .ref 78, .null, .null, .null, .null, .null, .null, .null, .null, .null, .null])) :: ov))) (Sn_n.trans (Sn_f (Sf_drop (((Sf_ne (a := 75) (k := 79) (by decide)).trans (hov 79 (by decide))).trans rfl)))) ?_
  refine am_putF f_7_34 rfl rfl rfl rfl (Nat.le_of_ble_eq_true rfl) rfl (by decide) (fun _ _ => ⟨rfl, rfl⟩) ?_
  refine am_eqh (h' := (Sn 80 2450 ((75, .inr (7, [.int (0 : Int32), .int (0 : Int32), .int (0 : Int32), .int (0 : Int32), .ref 76, .ref 77, .ref 78, .ref 79, .null, .null, .null, .null, .null, .null, .null, .null, .null])) :: ov))) (Sn_u.trans (Sn_f Sf_hide)) ?_
  refine am_aload_n rfl rfl ?_
  refine x_bipush (v := (6 : Int32)) rfl (by decide) ?_
  refine am_newI ar_int (by decide) (N := 6) (by decide) (by decide) rfl ⟨Nat.le_of_ble_eq_true rfl, Nat.le_of_ble_eq_true rfl⟩ ?_
  refine am_eqh (h' := (Sn 81 2456 ((75, .inr (7, [.int (0 : Int32), .int (0 : Int32), .int (0 : Int32), .int (0 : Int32), .ref 76, .ref 77, .ref 78, .ref 79, .null, .null, .null, .null, .null, .null, .null, .null, .null])) :: ov))) (Sn_n.trans (Sn_f (Sf_drop (((Sf_ne (a := 75) (k := 80) (by decide)).trans (hov 80 (by decide))).trans rfl)))) ?_
  refine am_putF f_7_37 rfl rfl rfl rfl (Nat.le_of_ble_eq_true rfl) rfl (by decide) (fun _ _ => ⟨rfl, rfl⟩) ?_
  refine am_eqh (h' := (Sn 81 2456 ((75, .inr (7, [.int (0 : Int32), .int (0 : Int32), .int (0 : Int32), .int (0 : Int32), .ref 76, .ref 77, .ref 78, .ref 79, .ref 80, .null, .null, .null, .null, .null, .null, .null, .null])) :: ov))) (Sn_u.trans (Sn_f Sf_hide)) ?_
  refine am_aload_n rfl rfl ?_
  refine x_bipush (v := (6 : Int32)) rfl (by decide) ?_
  refine am_newI ar_int (by decide) (N := 6) (by decide) (by decide) rfl ⟨Nat.le_of_ble_eq_true rfl, Nat.le_of_ble_eq_true rfl⟩ ?_
  refine am_eqh (h' := (Sn 82 2462 ((75, .inr (7, [.int (0 : Int32), .int (0 : Int32), .int (0 : Int32), .int (0 : Int32), .ref 76, .ref 77, .ref 78, .ref 79, .ref 80, .null, .null, .null, .null, .null, .null, .null, .null])) :: ov))) (Sn_n.trans (Sn_f (Sf_drop (((Sf_ne (a := 75) (k := 81) (by decide)).trans (hov 81 (by decide))).trans rfl)))) ?_
  refine am_putF f_7_40 rfl rfl rfl rfl (Nat.le_of_ble_eq_true rfl) rfl (by decide) (fun _ _ => ⟨rfl, rfl⟩) ?_
  refine am_eqh (h' := (Sn 82 2462 ((75, .inr (7, [.int (0 : Int32), .int (0 : Int32), .int (0 : Int32), .int (0 : Int32), .ref 76, .ref 77, .ref 78, .ref 79, .ref 80, .ref 81, .null, .null, .null, .null, .null, .null, .null])) :: ov))) (Sn_u.trans (Sn_f Sf_hide)) ?_
  refine am_aload_n rfl rfl ?_
  refine x_bipush (v := (30 : Int32)) rfl (by decide) ?_
  refine am_newI ar_int (by decide) (N := 30) (by decide) (by decide) rfl ⟨Nat.le_of_ble_eq_true rfl, Nat.le_of_ble_eq_true rfl⟩ ?_
  refine am_eqh (h' := (Sn 83 2492 ((75, .inr (7, [.int (0 : Int32), .int (0 : Int32), .int (0 : Int32), .int (0 : Int32), .ref 76, .ref 77, .ref 78, .ref 79, .ref 80, .ref 81, .null, .null, .null, .null, .null, .null, .null])) :: ov))) (Sn_n.trans (Sn_f (Sf_drop (((Sf_ne (a := 75) (k := 82) (by decide)).trans (hov 82 (by decide))).trans rfl)))) ?_
  refine am_putF f_7_43 rfl rfl rfl rfl (Nat.le_of_ble_eq_true rfl) rfl (by decide) (fun _ _ => ⟨rfl, rfl⟩) ?_
  refine am_eqh (h' := (Sn 83 2492 ((75, .inr (7, [.int (0 : Int32), .int (0 : Int32), .int (0 : Int32), .int (0 : Int32), .ref 76, .ref 77, .ref 78, .ref 79, .ref 80, .ref 81, .ref 82, .null, .null, .null, .null, .null, .null])) :: ov))) (Sn_u.trans (Sn_f Sf_hide)) ?_
  refine am_aload_n rfl rfl ?_
  refine x_bipush (v := (30 : Int32)) rfl (by decide) ?_
  refine am_newI ar_int (by decide) (N := 30) (by decide) (by decide) rfl ⟨Nat.le_of_ble_eq_true rfl, Nat.le_of_ble_eq_true rfl⟩ ?_
  refine am_eqh (h' := (Sn 84 2522 ((75, .inr (7, [.int (0 : Int32), .int (0 : Int32), .int (0 : Int32), .int (0 : Int32), .ref 76, .ref 77, .ref 78, .ref 79, .ref 80, .ref 81, .ref 82, .null, .null, .null, .null, .null, .null])) :: ov))) (Sn_n.trans (Sn_f (Sf_drop (((Sf_ne (a := 75) (k := 83) (by decide)).trans (hov 83 (by decide))).trans rfl)))) ?_
  refine am_putF f_7_46 rfl rfl rfl rfl (Nat.le_of_ble_eq_true rfl) rfl (by decide) (fun _ _ => ⟨rfl, rfl⟩) ?_
  refine am_eqh (h' := (Sn 84 2522 ((75, .inr (7, [.int (0 : Int32), .int (0 : Int32), .int (0 : Int32), .int (0 : Int32), .ref 76, .ref 77, .ref 78, .ref 79, .ref 80, .ref 81, .ref 82, .ref 83, .null, .null, .null, .null, .null])) :: ov))) (Sn_u.trans (Sn_f Sf_hide)) ?_
  refine am_aload_n rfl rfl ?_
  refine x_bipush (v := (60 : Int32)) rfl (by decide) ?_
  refine am_newI ar_int (by decide) (N := 60) (by decide) (by decide) rfl ⟨Nat.le_of_ble_eq_true rfl, Nat.le_of_ble_eq_true rfl⟩ ?_
  refine am_eqh (h' := (Sn 85 2582 ((75, .inr (7, [.int (0 : Int32), .int (0 : Int32), .int (0 : Int32), .int (0 : Int32), .ref 76, .ref 77, .ref 78, .ref 79, .ref 80, .ref 81, .ref 82, .ref 83, .null, .null, .null, .null, .null])) :: ov))) (Sn_n.trans (Sn_f (Sf_drop (((Sf_ne (a := 75) (k := 84) (by decide)).trans (hov 84 (by decide))).trans rfl)))) ?_
  refine am_putF f_7_49 rfl rfl rfl rfl (Nat.le_of_ble_eq_true rfl) rfl (by decide) (fun _ _ => ⟨rfl, rfl⟩) ?_
  refine am_eqh (h' := (Sn 85 2582 ((75, .inr (7, [.int (0 : Int32), .int (0 : Int32), .int (0 : Int32), .int (0 : Int32), .ref 76, .ref 77, .ref 78, .ref 79, .ref 80, .ref 81, .ref 82, .ref 83, .ref 84, .null, .null, .null, .null])) :: ov))) (Sn_u.trans (Sn_f Sf_hide)) ?_
  refine am_aload_n rfl rfl ?_
  refine x_bipush (v := (60 : Int32)) rfl (by decide) ?_
  refine am_newI ar_int (by decide) (N := 60) (by decide) (by decide) rfl ⟨Nat.le_of_ble_eq_true rfl, Nat.le_of_ble_eq_true rfl⟩ ?_
  refine am_eqh (h' := (Sn 86 2642 ((75, .inr (7, [.int (0 : Int32), .int (0 : Int32), .int (0 : Int32), .int (0 : Int32), .ref 76, .ref 77, .ref 78, .ref 79, .ref 80, .ref 81, .ref 82, .ref 83, .ref 84, .null, .null, .null, .null])) :: ov))) (Sn_n.trans (Sn_f (Sf_drop (((Sf_ne (a := 75) (k := 85) (by decide)).trans (hov 85 (by decide))).trans rfl)))) ?_
  refine am_putF f_7_52 rfl rfl rfl rfl (Nat.le_of_ble_eq_true rfl) rfl (by decide) (fun _ _ => ⟨rfl, rfl⟩) ?_
  refine am_eqh (h' := (Sn 86 2642 ((75, .inr (7, [.int (0 : Int32), .int (0 : Int32), .int (0 : Int32), .int (0 : Int32), .ref 76, .ref 77, .ref 78, .ref 79, .ref 80, .ref 81, .ref 82, .ref 83, .ref 84, .ref 85, .null, .null, .null])) :: ov))) (Sn_u.trans (Sn_f Sf_hide)) ?_
  refine am_aload_n rfl rfl ?_
  refine x_bipush (v := (60 : Int32)) rfl (by decide) ?_
  refine am_newI ar_int (by decide) (N := 60) (by decide) (by decide) rfl ⟨Nat.le_of_ble_eq_true rfl, Nat.le_of_ble_eq_true rfl⟩ ?_
  refine am_eqh (h' := (Sn 87 2702 ((75, .inr (7, [.int (0 : Int32), .int (0 : Int32), .int (0 : Int32), .int (0 : Int32), .ref 76, .ref 77, .ref 78, .ref 79, .ref 80, .ref 81, .ref 82, .ref 83, .ref 84, .ref 85, .null, .null, .null])) :: ov))) (Sn_n.trans (Sn_f (Sf_drop (((Sf_ne (a := 75) (k := 86) (by decide)).trans (hov 86 (by decide))).trans rfl)))) ?_
  refine am_putF f_7_55 rfl rfl rfl rfl (Nat.le_of_ble_eq_true rfl) rfl (by decide) (fun _ _ => ⟨rfl, rfl⟩) ?_
  refine am_eqh (h' := (Sn 87 2702 ((75, .inr (7, [.int (0 : Int32), .int (0 : Int32), .int (0 : Int32), .int (0 : Int32), .ref 76, .ref 77, .ref 78, .ref 79, .ref 80, .ref 81, .ref 82, .ref 83, .ref 84, .ref 85, .ref 86, .null, .null])) :: ov))) (Sn_u.trans (Sn_f Sf_hide)) ?_
  refine am_aload_n rfl rfl ?_
  refine x_bipush (v := (60 : Int32)) rfl (by decide) ?_
  refine am_newI ar_int (by decide) (N := 60) (by decide) (by decide) rfl ⟨Nat.le_of_ble_eq_true rfl, Nat.le_of_ble_eq_true rfl⟩ ?_
  refine am_eqh (h' := (Sn 88 2762 ((75, .inr (7, [.int (0 : Int32), .int (0 : Int32), .int (0 : Int32), .int (0 : Int32), .ref 76, .ref 77, .ref 78, .ref 79, .ref 80, .ref 81, .ref 82, .ref 83, .ref 84, .ref 85, .ref 86, .null, .null])) :: ov))) (Sn_n.trans (Sn_f (Sf_drop (((Sf_ne (a := 75) (k := 87) (by decide)).trans (hov 87 (by decide))).trans rfl)))) ?_
  refine am_putF f_7_58 rfl rfl rfl rfl (Nat.le_of_ble_eq_true rfl) rfl (by decide) (fun _ _ => ⟨rfl, rfl⟩) ?_
  refine am_eqh (h' := (Sn 88 2762 ((75, .inr (7, [.int (0 : Int32), .int (0 : Int32), .int (0 : Int32), .int (0 : Int32), .ref 76, .ref 77, .ref 78, .ref 79, .ref 80, .ref 81, .ref 82, .ref 83, .ref 84, .ref 85, .ref 86, .ref 87, .null])) :: ov))) (Sn_u.trans (Sn_f Sf_hide)) ?_
  refine am_aload_n rfl rfl ?_
  refine x_bipush (v := (60 : Int32)) rfl (by decide) ?_
  refine am_newI ar_int (by decide) (N := 60) (by decide) (by decide) rfl ⟨Nat.le_of_ble_eq_true rfl, Nat.le_of_ble_eq_true rfl⟩ ?_
  refine am_eqh (h' := (Sn 89 2822 ((75, .inr (7, [.int (0 : Int32), .int (0 : Int32), .int (0 : Int32), .int (0 : Int32), .ref 76, .ref 77, .ref 78, .ref 79, .ref 80, .ref 81, .ref 82, .ref 83, .ref 84, .ref 85, .ref 86, .ref 87, .null])) :: ov))) (Sn_n.trans (Sn_f (Sf_drop (((Sf_ne (a := 75) (k := 88) (by decide)).trans (hov 88 (by decide))).trans rfl)))) ?_
  refine am_putF f_7_61 rfl rfl rfl rfl (Nat.le_of_ble_eq_true rfl) rfl (by decide) (fun _ _ => ⟨rfl, rfl⟩) ?_
  refine am_eqh (h' := (Sn 89 2822 ((75, .inr (7, [.int (0 : Int32), .int (0 : Int32), .int (0 : Int32), .int (0 : Int32), .ref 76, .ref 77, .ref 78, .ref 79, .ref 80, .ref 81, .ref 82, .ref 83, .ref 84, .ref 85, .ref 86, .ref 87, .ref 88])) :: ov))) (Sn_u.trans (Sn_f Sf_hide)) ?_
  refine am_eqh (h' := (Sn 89 2822 (ov))) (Sn_f (Sf_drop ((hov 75 (by decide)).trans rfl))) ?_
  exact am_vret rfl rfl rfl rfl K
set_option maxHeartbeats 4000000 in
set_option maxRecDepth 100000 in
theorem z_X7_init_89 (ov : List (Nat × va_E)) (hov : ∀ k, 89 ≤ k → S_f ov k = hp g0 k) {post : Int32 → am_H → Prop} (K : post 0 (Sn 103 3256 ov)) : am_X m_X7_init 1 13 417 [.ref 89] (Sn 90 2839 ((89, .inr (7, [.int (0 : Int32), .int (0 : Int32), .int (0 : Int32), .int (0 : Int32), .null, .null, .null, .null, .null, .null, .null, .null, .null, .null, .null, .null, .null])) :: ov)) post := by
  refine am_X_of ok_X7_init pn_7 rfl (by decide) (Or.inl rfl) (List.forall_mem_cons.mpr ⟨rfl, fun _ h => absurd h List.not_mem_nil⟩) (Nat.le_of_ble_eq_true rfl) ?_
  show am_V m_X7_init (0, fun _ => 0) 1 13 417 90 2839 post 0 [some (.ref 89)] [] (Sn 90 2839 ((89, .inr (7, [.int (0 : Int32), .int (0 : Int32), .int (0 : Int32), .int (0 : Int32), .null, .null, .null, .null, .null, .null, .null, .null, .null, .null, .null, .null, .null])) :: ov))
  refine am_aload_n rfl rfl ?_
  refine am_obj j_7_3 ob_ins ob_cod rfl (Nat.le_of_ble_eq_true rfl) (fun _ _ => Nat.le_of_ble_eq_true rfl) ?_
  refine am_aload_n rfl rfl ?_
  refine x_iconst (v := (0 : Int32)) rfl (by decide) ?_
  refine am_put f_7_9 rfl rfl (Nat.le_of_ble_eq_true rfl) rfl (by decide) (fun _ _ => ⟨rfl, rfl⟩) ?_
  refine am_eqh (h' := (Sn 90 2839 ((89, .inr (7, [.int (0 : Int32), .int (0 : Int32), .int (0 : Int32), .int (0 : Int32), .null, .null, .null, .null, .null, .null, .null, .null, .null, .null, .null, .null, .null])) :: ov))) (Sn_u.trans (Sn_f Sf_hide)) ?_
  refine am_aload_n rfl rfl ?_
  refine x_iconst (v := (0 : Int32)) rfl (by decide) ?_
  refine am_put f_7_15 rfl rfl (Nat.le_of_ble_eq_true rfl) rfl (by decide) (fun _ _ => ⟨rfl, rfl⟩) ?_
  refine am_eqh (h' := (Sn 90 2839 ((89, .inr (7, [.int (0 : Int32), .int (0 : Int32), .int (0 : Int32), .int (0 : Int32), .null, .null, .null, .null, .null, .null, .null, .null, .null, .null, .null, .null, .null])) :: ov))) (Sn_u.trans (Sn_f Sf_hide)) ?_
  refine am_aload_n rfl rfl ?_
  refine x_iconst (v := (0 : Int32)) rfl (by decide) ?_
  refine am_put f_7_18 rfl rfl (Nat.le_of_ble_eq_true rfl) rfl (by decide) (fun _ _ => ⟨rfl, rfl⟩) ?_
  refine am_eqh (h' := (Sn 90 2839 ((89, .inr (7, [.int (0 : Int32), .int (0 : Int32), .int (0 : Int32), .int (0 : Int32), .null, .null, .null, .null, .null, .null, .null, .null, .null, .null, .null, .null, .null])) :: ov))) (Sn_u.trans (Sn_f Sf_hide)) ?_
  refine am_aload_n rfl rfl ?_
  refine x_iconst (v := (0 : Int32)) rfl (by decide) ?_
  refine am_put f_7_21 rfl rfl (Nat.le_of_ble_eq_true rfl) rfl (by decide) (fun _ _ => ⟨rfl, rfl⟩) ?_
  refine am_eqh (h' := (Sn 90 2839 ((89, .inr (7, [.int (0 : Int32), .int (0 : Int32), .int (0 : Int32), .int (0 : Int32), .null, .null, .null, .null, .null, .null, .null, .null, .null, .null, .null, .null, .null])) :: ov))) (Sn_u.trans (Sn_f Sf_hide)) ?_
  refine am_aload_n rfl rfl ?_
  refine x_bipush (v := (10 : Int32)) rfl (by decide) ?_
  refine am_newI ar_int (by decide) (N := 10) (by decide) (by decide) rfl ⟨Nat.le_of_ble_eq_true rfl, Nat.le_of_ble_eq_true rfl⟩ ?_
  refine am_eqh (h' := (Sn 91 2849 ((89, .inr (7, [.int (0 : Int32), .int (0 : Int32), .int (0 : Int32), .int (0 : Int32), .null, .null, .null, .null, .null, .null, .null, .null, .null, .null, .null, .null, .null])) :: ov))) (Sn_n.trans (Sn_f (Sf_drop (((Sf_ne (a := 89) (k := 90) (by decide)).trans (hov 90 (by decide))).trans rfl)))) ?_
  refine am_putF f_7_24 rfl rfl rfl rfl (Nat.le_of_ble_eq_true rfl) rfl (by decide) (fun _ _ => ⟨rfl, rfl⟩) ?_
  refine am_eqh (h' := (Sn 91 2849 ((89, .inr (7, [.int (0 : Int32), .int (0 : Int32), .int (0 : Int32), .int (0 : Int32), .ref 90, .null, .null, .null, .null, .null, .null, .null, .null, .null, .null, .null, .null])) :: ov))) (Sn_u.trans (Sn_f Sf_hide)) ?_
  refine am_aload_n rfl rfl ?_
  refine x_bipush (v := (24 : Int32)) rfl (by decide) ?_
  refine am_newI ar_int (by decide) (N := 24) (by decide) (by decide) rfl ⟨Nat.le_of_ble_eq_true rfl, Nat.le_of_ble_eq_true rfl⟩ ?_
  refine am_eqh (h' := (Sn 92 2873 ((89, .inr (7, [.int (0 : Int32), .int (0 : Int32), .int (0 : Int32), .int (0 : Int32), .ref 90, .null, .null, .null, .null, .null, .null, .null, .null, .null, .null, .null, .null])) :: ov))) (Sn_n.trans (Sn_f (Sf_drop (((Sf_ne (a := 89) (k := 91) (by decide)).trans (hov 91 (by decide))).trans rfl)))) ?_
  refine am_putF f_7_28 rfl rfl rfl rfl (Nat.le_of_ble_eq_true rfl) rfl (by decide) (fun _ _ => ⟨rfl, rfl⟩) ?_
  refine am_eqh (h' := (Sn 92 2873 ((89, .inr (7, [.int (0 : Int32), .int (0 : Int32), .int (0 : Int32), .int (0 : Int32), .ref 90, .ref 91, .null, .null, .null, .null, .null, .null, .null, .null, .null, .null, .null])) :: ov))) (Sn_u.trans (Sn_f Sf_hide)) ?_
  refine am_aload_n rfl rfl ?_
  refine x_iconst (v := (5 : Int32)) rfl (by decide) ?_
  refine am_newI ar_int (by decide) (N := 5) (by decide) (by decide) rfl ⟨Nat.le_of_ble_eq_true rfl, Nat.le_of_ble_eq_true rfl⟩ ?_
  refine am_eqh (h' := (Sn 93 2878 ((89, .inr (7, [.int (0 : Int32), .int (0 : Int32), .int (0 : Int32), .int (0 : Int32), .ref 90, .ref 91, .null, .null, .null, .null, .null, .null, .null, .null, .null, .null, .null])) :: ov))) (Sn_n.trans (Sn_f (Sf_drop (((Sf_ne (a := 89) (k := 92) (by decide)).trans (hov 92 (by decide))).trans rfl)))) ?_
  refine am_putF f_7_31 rfl rfl rfl rfl (Nat.le_of_ble_eq_true rfl) rfl (by decide) (fun _ _ => ⟨rfl, rfl⟩) ?_
  refine am_eqh (h' := (Sn 93 2878 ((89, .inr (7, [.int (0 : Int32), .int (0 : Int32), .int (0 : Int32), .int (0 : Int32), .ref 90, .ref 91, .ref 92, .null, .null, .null, .null, .null, .null, .null, .null, .null, .null])) :: ov))) (Sn_u.trans (Sn_f Sf_hide)) ?_
  refine am_aload_n rfl rfl ?_
  refine x_bipush (v := (6 : Int32)) rfl (by decide) ?_
  refine am_newI ar_int (by decide) (N := 6) (by decide) (by decide) rfl ⟨Nat.le_of_ble_eq_true rfl, Nat.le_of_ble_eq_true rfl⟩ ?_
  refine am_eqh (h' := (Sn 94 2884 ((89, .inr (7, [.int (0 : Int32), .int (0 : Int32), .int (0 : Int32), .int (0 : Int32), .ref 90, .ref 91, .ref 92, .null, .null, .null, .null, .null, .null, .null, .null, .null, .null])) :: ov))) (Sn_n.trans (Sn_f (Sf_drop (((Sf_ne (a := 89) (k := 93) (by decide)).trans (hov 93 (by decide))).trans rfl)))) ?_
  refine am_putF f_7_34 rfl rfl rfl rfl (Nat.le_of_ble_eq_true rfl) rfl (by decide) (fun _ _ => ⟨rfl, rfl⟩) ?_
  refine am_eqh (h' := (Sn 94 2884 ((89, .inr (7, [.int (0 : Int32), .int (0 : Int32), .int (0 : Int32), .int (0 : Int32), .ref 90, .ref 91, .ref 92, .ref 93, .null, .null, .null, .null, .null, .null, .null, .null, .null])) :: ov))) (Sn_u.trans (Sn_f Sf_hide)) ?_
  refine am_aload_n rfl rfl ?_
  refine x_bipush (v := (6 : Int32)) rfl (by decide) ?_
  refine am_newI ar_int (by decide) (N := 6) (by decide) (by decide) rfl ⟨Nat.le_of_ble_eq_true rfl, Nat.le_of_ble_eq_true rfl⟩ ?_
  refine am_eqh (h' := (Sn 95 2890 ((89, .inr (7, [.int (0 : Int32), .int (0 : Int32), .int (0 : Int32), .int (0 : Int32), .ref 90, .ref 91, .ref 92, .ref 93, .null, .null, .null, .null, .null, .null, .null, .null, .null])) :: ov))) (Sn_n.trans (Sn_f (Sf_drop (((Sf_ne (a := 89) (k := 94) (by decide)).trans (hov 94 (by decide))).trans rfl)))) ?_
  refine am_putF f_7_37 rfl rfl rfl rfl (Nat.le_of_ble_eq_true rfl) rfl (by decide) (fun _ _ => ⟨rfl, rfl⟩) ?_
  refine am_eqh (h' := (Sn 95 2890 ((89, .inr (7, [.int (0 : Int32), .int (0 : Int32), .int (0 : Int32), .int (0 : Int32), .ref 90, .ref 91, .ref 92, .ref 93, .ref 94, .null, .null, .null, .null, .null, .null, .null, .null])) :: ov))) (Sn_u.trans (Sn_f Sf_hide)) ?_
  refine am_aload_n rfl rfl ?_
  refine x_bipush (v := (6 : Int32)) rfl (by decide) ?_
  refine am_newI ar_int (by decide) (N := 6) (by decide) (by decide) rfl ⟨Nat.le_of_ble_eq_true rfl, Nat.le_of_ble_eq_true rfl⟩ ?_
  refine am_eqh (h' := (Sn 96 2896 ((89, .inr (7, [.int (0 : Int32), .int (0 : Int32), .int (0 : Int32), .int (0 : Int32), .ref 90, .ref 91, .ref 92, .ref 93, .ref 94, .null, .null, .null, .null, .null, .null, .null, .null])) :: ov))) (Sn_n.trans (Sn_f (Sf_drop (((Sf_ne (a := 89) (k := 95) (by decide)).trans (hov 95 (by decide))).trans rfl)))) ?_
  refine am_putF f_7_40 rfl rfl rfl rfl (Nat.le_of_ble_eq_true rfl) rfl (by decide) (fun _ _ => ⟨rfl, rfl⟩) ?_
  refine am_eqh (h' := (Sn 96 2896 ((89, .inr (7, [.int (0 : Int32), .int (0 : Int32), .int (0 : Int32), .int (0 : Int32), .ref 90, .ref 91, .ref 92, .ref 93, .ref 94, .ref 95, .null, .null, .null, .null, .null, .null, .null])) :: ov))) (Sn_u.trans (Sn_f Sf_hide)) ?_
  refine am_aload_n rfl rfl ?_
  refine x_bipush (v := (30 : Int32)) rfl (by decide) ?_
  refine am_newI ar_int (by decide) (N := 30) (by decide) (by decide) rfl ⟨Nat.le_of_ble_eq_true rfl, Nat.le_of_ble_eq_true rfl⟩ ?_
  refine am_eqh (h' := (Sn 97 2926 ((89, .inr (7, [.int (0 : Int32), .int (0 : Int32), .int (0 : Int32), .int (0 : Int32), .ref 90, .ref 91, .ref 92, .ref 93, .ref 94, .ref 95, .null, .null, .null, .null, .null, .null, .null])) :: ov))) (Sn_n.trans (Sn_f (Sf_drop (((Sf_ne (a := 89) (k := 96) (by decide)).trans (hov 96 (by decide))).trans rfl)))) ?_
  refine am_putF f_7_43 rfl rfl rfl rfl (Nat.le_of_ble_eq_true rfl) rfl (by decide) (fun _ _ => ⟨rfl, rfl⟩) ?_
  refine am_eqh (h' := (Sn 97 2926 ((89, .inr (7, [.int (0 : Int32), .int (0 : Int32), .int (0 : Int32), .int (0 : Int32), .ref 90, .ref 91, .ref 92, .ref 93, .ref 94, .ref 95, .ref 96, .null, .null, .null, .null, .null, .null])) :: ov))) (Sn_u.trans (Sn_f Sf_hide)) ?_
  refine am_aload_n rfl rfl ?_
  refine x_bipush (v := (30 : Int32)) rfl (by decide) ?_
  refine am_newI ar_int (by decide) (N := 30) (by decide) (by decide) rfl ⟨Nat.le_of_ble_eq_true rfl, Nat.le_of_ble_eq_true rfl⟩ ?_
  refine am_eqh (h' := (Sn 98 2956 ((89, .inr (7, [.int (0 : Int32), .int (0 : Int32), .int (0 : Int32), .int (0 : Int32), .ref 90, .ref 91, .ref 92, .ref 93, .ref 94, .ref 95, .ref 96, .null, .null, .null, .null, .null, .null])) :: ov))) (Sn_n.trans (Sn_f (Sf_drop (((Sf_ne (a := 89) (k := 97) (by decide)).trans (hov 97 (by decide))).trans rfl)))) ?_
  refine am_putF f_7_46 rfl rfl rfl rfl (Nat.le_of_ble_eq_true rfl) rfl (by decide) (fun _ _ => ⟨rfl, rfl⟩) ?_
  refine am_eqh (h' := (Sn 98 2956 ((89, .inr (7, [.int (0 : Int32), .int (0 : Int32), .int (0 : Int32), .int (0 : Int32), .ref 90, .ref 91, .ref 92, .ref 93, .ref 94, .ref 95, .ref 96, .ref 97, .null, .null, .null, .null, .null])) :: ov))) (Sn_u.trans (Sn_f Sf_hide)) ?_
  refine am_aload_n rfl rfl ?_
  refine x_bipush (v := (60 : Int32)) rfl (by decide) ?_
  refine am_newI ar_int (by decide) (N := 60) (by decide) (by decide) rfl ⟨Nat.le_of_ble_eq_true rfl, Nat.le_of_ble_eq_true rfl⟩ ?_
  refine am_eqh (h' := (Sn 99 3016 ((89, .inr (7, [.int (0 : Int32), .int (0 : Int32), .int (0 : Int32), .int (0 : Int32), .ref 90, .ref 91, .ref 92, .ref 93, .ref 94, .ref 95, .ref 96, .ref 97, .null, .null, .null, .null, .null])) :: ov))) (Sn_n.trans (Sn_f (Sf_drop (((Sf_ne (a := 89) (k := 98) (by decide)).trans (hov 98 (by decide))).trans rfl)))) ?_
  refine am_putF f_7_49 rfl rfl rfl rfl (Nat.le_of_ble_eq_true rfl) rfl (by decide) (fun _ _ => ⟨rfl, rfl⟩) ?_
  refine am_eqh (h' := (Sn 99 3016 ((89, .inr (7, [.int (0 : Int32), .int (0 : Int32), .int (0 : Int32), .int (0 : Int32), .ref 90, .ref 91, .ref 92, .ref 93, .ref 94, .ref 95, .ref 96, .ref 97, .ref 98, .null, .null, .null, .null])) :: ov))) (Sn_u.trans (Sn_f Sf_hide)) ?_
  refine am_aload_n rfl rfl ?_
  refine x_bipush (v := (60 : Int32)) rfl (by decide) ?_
  refine am_newI ar_int (by decide) (N := 60) (by decide) (by decide) rfl ⟨Nat.le_of_ble_eq_true rfl, Nat.le_of_ble_eq_true rfl⟩ ?_
  refine am_eqh (h' := (Sn 100 3076 ((89, .inr (7, [.int (0 : Int32), .int (0 : Int32), .int (0 : Int32), .int (0 : Int32), .ref 90, .ref 91, .ref 92, .ref 93, .ref 94, .ref 95, .ref 96, .ref 97, .ref 98, .null, .null, .null, .null])) :: ov))) (Sn_n.trans (Sn_f (Sf_drop (((Sf_ne (a := 89) (k := 99) (by decide)).trans (hov 99 (by decide))).trans rfl)))) ?_
  refine am_putF f_7_52 rfl rfl rfl rfl (Nat.le_of_ble_eq_true rfl) rfl (by decide) (fun _ _ => ⟨rfl, rfl⟩) ?_
  refine am_eqh (h' := (Sn 100 3076 ((89, .inr (7, [.int (0 : Int32), .int (0 : Int32), .int (0 : Int32), .int (0 : Int32), .ref 90, .ref 91, .ref 92, .ref 93, .ref 94, .ref 95, .ref 96, .ref 97, .ref 98, .ref 99, .null, .null, .null])) :: ov))) (Sn_u.trans (Sn_f Sf_hide)) ?_
  refine am_aload_n rfl rfl ?_
  refine x_bipush (v := (60 : Int32)) rfl (by decide) ?_
  refine am_newI ar_int (by decide) (N := 60) (by decide) (by decide) rfl ⟨Nat.le_of_ble_eq_true rfl, Nat.le_of_ble_eq_true rfl⟩ ?_
  refine am_eqh (h' := (Sn 101 3136 ((89, .inr (7, [.int (0 : Int32), .int (0 : Int32), .int (0 : Int32), .int (0 : Int32), .ref 90, .ref 91, .ref 92, .ref 93, .ref 94, .ref 95, .ref 96, .ref 97, .ref 98, .ref 99, .null, .null, .null])) :: ov))) (Sn_n.trans (Sn_f (Sf_drop (((Sf_ne (a := 89) (k := 100) (by decide)).trans (hov 100 (by decide))).trans rfl)))) ?_
  refine am_putF f_7_55 rfl rfl rfl rfl (Nat.le_of_ble_eq_true rfl) rfl (by decide) (fun _ _ => ⟨rfl, rfl⟩) ?_
  refine am_eqh (h' := (Sn 101 3136 ((89, .inr (7, [.int (0 : Int32), .int (0 : Int32), .int (0 : Int32), .int (0 : Int32), .ref 90, .ref 91, .ref 92, .ref 93, .ref 94, .ref 95, .ref 96, .ref 97, .ref 98, .ref 99, .ref 100, .null, .null])) :: ov))) (Sn_u.trans (Sn_f Sf_hide)) ?_
  refine am_aload_n rfl rfl ?_
  refine x_bipush (v := (60 : Int32)) rfl (by decide) ?_
  refine am_newI ar_int (by decide) (N := 60) (by decide) (by decide) rfl ⟨Nat.le_of_ble_eq_true rfl, Nat.le_of_ble_eq_true rfl⟩ ?_
  refine am_eqh (h' := (Sn 102 3196 ((89, .inr (7, [.int (0 : Int32), .int (0 : Int32), .int (0 : Int32), .int (0 : Int32), .ref 90, .ref 91, .ref 92, .ref 93, .ref 94, .ref 95, .ref 96, .ref 97, .ref 98, .ref 99, .ref 100, .null, .null])) :: ov))) (Sn_n.trans (Sn_f (Sf_drop (((Sf_ne (a := 89) (k := 101) (by decide)).trans (hov 101 (by decide))).trans rfl)))) ?_
  refine am_putF f_7_58 rfl rfl rfl rfl (Nat.le_of_ble_eq_true rfl) rfl (by decide) (fun _ _ => ⟨rfl, rfl⟩) ?_
  refine am_eqh (h' := (Sn 102 3196 ((89, .inr (7, [.int (0 : Int32), .int (0 : Int32), .int (0 : Int32), .int (0 : Int32), .ref 90, .ref 91, .ref 92, .ref 93, .ref 94, .ref 95, .ref 96, .ref 97, .ref 98, .ref 99, .ref 100, .ref 101, .null])) :: ov))) (Sn_u.trans (Sn_f Sf_hide)) ?_
  refine am_aload_n rfl rfl ?_
  refine x_bipush (v := (60 : Int32)) rfl (by decide) ?_
  refine am_newI ar_int (by decide) (N := 60) (by decide) (by decide) rfl ⟨Nat.le_of_ble_eq_true rfl, Nat.le_of_ble_eq_true rfl⟩ ?_
  refine am_eqh (h' := (Sn 103 3256 ((89, .inr (7, [.int (0 : Int32), .int (0 : Int32), .int (0 : Int32), .int (0 : Int32), .ref 90, .ref 91, .ref 92, .ref 93, .ref 94, .ref 95, .ref 96, .ref 97, .ref 98, .ref 99, .ref 100, .ref 101, .null])) :: ov))) (Sn_n.trans (Sn_f (Sf_drop (((Sf_ne (a := 89) (k := 102) (by decide)).trans (hov 102 (by decide))).trans rfl)))) ?_
  refine am_putF f_7_61 rfl rfl rfl rfl (Nat.le_of_ble_eq_true rfl) rfl (by decide) (fun _ _ => ⟨rfl, rfl⟩) ?_
  refine am_eqh (h' := (Sn 103 3256 ((89, .inr (7, [.int (0 : Int32), .int (0 : Int32), .int (0 : Int32), .int (0 : Int32), .ref 90, .ref 91, .ref 92, .ref 93, .ref 94, .ref 95, .ref 96, .ref 97, .ref 98, .ref 99, .ref 100, .ref 101, .ref 102])) :: ov))) (Sn_u.trans (Sn_f Sf_hide)) ?_
  refine am_eqh (h' := (Sn 103 3256 (ov))) (Sn_f (Sf_drop ((hov 89 (by decide)).trans rfl))) ?_
  exact am_vret rfl rfl rfl rfl K
set_option maxHeartbeats 4000000 in
set_option maxRecDepth 100000 in
theorem z_X7_init_103 (ov : List (Nat × va_E)) (hov : ∀ k, 103 ≤ k → S_f ov k = hp g0 k) {post : Int32 → am_H → Prop} (K : post 0 (Sn 117 3690 ov)) : am_X m_X7_init 1 13 417 [.ref 103] (Sn 104 3273 ((103, .inr (7, [.int (0 : Int32), .int (0 : Int32), .int (0 : Int32), .int (0 : Int32), .null, .null, .null, .null, .null, .null, .null, .null, .null, .null, .null, .null, .null])) :: ov)) post := by
  refine am_X_of ok_X7_init pn_7 rfl (by decide) (Or.inl rfl) (List.forall_mem_cons.mpr ⟨rfl, fun _ h => absurd h List.not_mem_nil⟩) (Nat.le_of_ble_eq_true rfl) ?_
  show am_V m_X7_init (0, fun _ => 0) 1 13 417 104 3273 post 0 [some (.ref 103)] [] (Sn 104 3273 ((103, .inr (7, [.int (0 : Int32), .int (0 : Int32), .int (0 : Int32), .int (0 : Int32), .null, .null, .null, .null, .null, .null, .null, .null, .null, .null, .null, .null, .null])) :: ov))
  refine am_aload_n rfl rfl ?_
  refine am_obj j_7_3 ob_ins ob_cod rfl (Nat.le_of_ble_eq_true rfl) (fun _ _ => Nat.le_of_ble_eq_true rfl) ?_
  refine am_aload_n rfl rfl ?_
  refine x_iconst (v := (0 : Int32)) rfl (by decide) ?_
  refine am_put f_7_9 rfl rfl (Nat.le_of_ble_eq_true rfl) rfl (by decide) (fun _ _ => ⟨rfl, rfl⟩) ?_
  refine am_eqh (h' := (Sn 104 3273 ((103, .inr (7, [.int (0 : Int32), .int (0 : Int32), .int (0 : Int32), .int (0 : Int32), .null, .null, .null, .null, .null, .null, .null, .null, .null, .null, .null, .null, .null])) :: ov))) (Sn_u.trans (Sn_f Sf_hide)) ?_
  refine am_aload_n rfl rfl ?_
  refine x_iconst (v := (0 : Int32)) rfl (by decide) ?_
  refine am_put f_7_15 rfl rfl (Nat.le_of_ble_eq_true rfl) rfl (by decide) (fun _ _ => ⟨rfl, rfl⟩) ?_
  refine am_eqh (h' := (Sn 104 3273 ((103, .inr (7, [.int (0 : Int32), .int (0 : Int32), .int (0 : Int32), .int (0 : Int32), .null, .null, .null, .null, .null, .null, .null, .null, .null, .null, .null, .null, .null])) :: ov))) (Sn_u.trans (Sn_f Sf_hide)) ?_
  refine am_aload_n rfl rfl ?_
  refine x_iconst (v := (0 : Int32)) rfl (by decide) ?_
  refine am_put f_7_18 rfl rfl (Nat.le_of_ble_eq_true rfl) rfl (by decide) (fun _ _ => ⟨rfl, rfl⟩) ?_
  refine am_eqh (h' := (Sn 104 3273 ((103, .inr (7, [.int (0 : Int32), .int (0 : Int32), .int (0 : Int32), .int (0 : Int32), .null, .null, .null, .null, .null, .null, .null, .null, .null, .null, .null, .null, .null])) :: ov))) (Sn_u.trans (Sn_f Sf_hide)) ?_
  refine am_aload_n rfl rfl ?_
  refine x_iconst (v := (0 : Int32)) rfl (by decide) ?_
  refine am_put f_7_21 rfl rfl (Nat.le_of_ble_eq_true rfl) rfl (by decide) (fun _ _ => ⟨rfl, rfl⟩) ?_
  refine am_eqh (h' := (Sn 104 3273 ((103, .inr (7, [.int (0 : Int32), .int (0 : Int32), .int (0 : Int32), .int (0 : Int32), .null, .null, .null, .null, .null, .null, .null, .null, .null, .null, .null, .null, .null])) :: ov))) (Sn_u.trans (Sn_f Sf_hide)) ?_
  refine am_aload_n rfl rfl ?_
  refine x_bipush (v := (10 : Int32)) rfl (by decide) ?_
  refine am_newI ar_int (by decide) (N := 10) (by decide) (by decide) rfl ⟨Nat.le_of_ble_eq_true rfl, Nat.le_of_ble_eq_true rfl⟩ ?_
  refine am_eqh (h' := (Sn 105 3283 ((103, .inr (7, [.int (0 : Int32), .int (0 : Int32), .int (0 : Int32), .int (0 : Int32), .null, .null, .null, .null, .null, .null, .null, .null, .null, .null, .null, .null, .null])) :: ov))) (Sn_n.trans (Sn_f (Sf_drop (((Sf_ne (a := 103) (k := 104) (by decide)).trans (hov 104 (by decide))).trans rfl)))) ?_
  refine am_putF f_7_24 rfl rfl rfl rfl (Nat.le_of_ble_eq_true rfl) rfl (by decide) (fun _ _ => ⟨rfl, rfl⟩) ?_
  refine am_eqh (h' := (Sn 105 3283 ((103, .inr (7, [.int (0 : Int32), .int (0 : Int32), .int (0 : Int32), .int (0 : Int32), .ref 104, .null, .null, .null, .null, .null, .null, .null, .null, .null, .null, .null, .null])) :: ov))) (Sn_u.trans (Sn_f Sf_hide)) ?_
  refine am_aload_n rfl rfl ?_
  refine x_bipush (v := (24 : Int32)) rfl (by decide) ?_
  refine am_newI ar_int (by decide) (N := 24) (by decide) (by decide) rfl ⟨Nat.le_of_ble_eq_true rfl, Nat.le_of_ble_eq_true rfl⟩ ?_
  refine am_eqh (h' := (Sn 106 3307 ((103, .inr (7, [.int (0 : Int32), .int (0 : Int32), .int (0 : Int32), .int (0 : Int32), .ref 104, .null, .null, .null, .null, .null, .null, .null, .null, .null, .null, .null, .null])) :: ov))) (Sn_n.trans (Sn_f (Sf_drop (((Sf_ne (a := 103) (k := 105) (by decide)).trans (hov 105 (by decide))).trans rfl)))) ?_
  refine am_putF f_7_28 rfl rfl rfl rfl (Nat.le_of_ble_eq_true rfl) rfl (by decide) (fun _ _ => ⟨rfl, rfl⟩) ?_
  refine am_eqh (h' := (Sn 106 3307 ((103, .inr (7, [.int (0 : Int32), .int (0 : Int32), .int (0 : Int32), .int (0 : Int32), .ref 104, .ref 105, .null, .null, .null, .null, .null, .null, .null, .null, .null, .null, .null])) :: ov))) (Sn_u.trans (Sn_f Sf_hide)) ?_
  refine am_aload_n rfl rfl ?_
  refine x_iconst (v := (5 : Int32)) rfl (by decide) ?_
  refine am_newI ar_int (by decide) (N := 5) (by decide) (by decide) rfl ⟨Nat.le_of_ble_eq_true rfl, Nat.le_of_ble_eq_true rfl⟩ ?_
  refine am_eqh (h' := (Sn 107 3312 ((103, .inr (7, [.int (0 : Int32), .int (0 : Int32), .int (0 : Int32), .int (0 : Int32), .ref 104, .ref 105, .null, .null, .null, .null, .null, .null, .null, .null, .null, .null, .null])) :: ov))) (Sn_n.trans (Sn_f (Sf_drop (((Sf_ne (a := 103) (k := 106) (by decide)).trans (hov 106 (by decide))).trans rfl)))) ?_
  refine am_putF f_7_31 rfl rfl rfl rfl (Nat.le_of_ble_eq_true rfl) rfl (by decide) (fun _ _ => ⟨rfl, rfl⟩) ?_
  refine am_eqh (h' := (Sn 107 3312 ((103, .inr (7, [.int (0 : Int32), .int (0 : Int32), .int (0 : Int32), .int (0 : Int32), .ref 104, .ref 105, .ref 106, .null, .null, .null, .null, .null, .null, .null, .null, .null, .null])) :: ov))) (Sn_u.trans (Sn_f Sf_hide)) ?_
  refine am_aload_n rfl rfl ?_
  refine x_bipush (v := (6 : Int32)) rfl (by decide) ?_
  refine am_newI ar_int (by decide) (N := 6) (by decide) (by decide) rfl ⟨Nat.le_of_ble_eq_true rfl, Nat.le_of_ble_eq_true rfl⟩ ?_
  refine am_eqh (h' := (Sn 108 3318 ((103, .inr (7, [.int (0 : Int32), .int (0 : Int32), .int (0 : Int32), .int (0 : Int32), .ref 104, .ref 105, .ref 106, .null, .null, .null, .null, .null, .null, .null, .null, .null, .null])) :: ov))) (Sn_n.trans (Sn_f (Sf_drop (((Sf_ne (a := 103) (k := 107) (by decide)).trans (hov 107 (by decide))).trans rfl)))) ?_
  refine am_putF f_7_34 rfl rfl rfl rfl (Nat.le_of_ble_eq_true rfl) rfl (by decide) (fun _ _ => ⟨rfl, rfl⟩) ?_
  refine am_eqh (h' := (Sn 108 3318 ((103, .inr (7, [.int (0 : Int32), .int (0 : Int32), .int (0 : Int32), .int (0 : Int32), .ref 104, .ref 105, .ref 106, .ref 107, .null, .null, .null, .null, .null, .null, .null, .null, .null])) :: ov))) (Sn_u.trans (Sn_f Sf_hide)) ?_
  refine am_aload_n rfl rfl ?_
  refine x_bipush (v := (6 : Int32)) rfl (by decide) ?_
  refine am_newI ar_int (by decide) (N := 6) (by decide) (by decide) rfl ⟨Nat.le_of_ble_eq_true rfl, Nat.le_of_ble_eq_true rfl⟩ ?_
  refine am_eqh (h' := (Sn 109 3324 ((103, .inr (7, [.int (0 : Int32), .int (0 : Int32), .int (0 : Int32), .int (0 : Int32), .ref 104, .ref 105, .ref 106, .ref 107, .null, .null, .null, .null, .null, .null, .null, .null, .null])) :: ov))) (Sn_n.trans (Sn_f (Sf_drop (((Sf_ne (a := 103) (k := 108) (by decide)).trans (hov 108 (by decide))).trans rfl)))) ?_
  refine am_putF f_7_37 rfl rfl rfl rfl (Nat.le_of_ble_eq_true rfl) rfl (by decide) (fun _ _ => ⟨rfl, rfl⟩) ?_
  refine am_eqh (h' := (Sn 109 3324 ((103, .inr (7, [.int (0 : Int32), .int (0 : Int32), .int (0 : Int32), .int (0 : Int32), .ref 104, .ref 105, .ref 106, .ref 107, .ref 108, .null, .null, .null, .null, .null, .null, .null, .null])) :: ov))) (Sn_u.trans (Sn_f Sf_hide)) ?_
  refine am_aload_n rfl rfl ?_
  refine x_bipush (v := (6 : Int32)) rfl (by decide) ?_
  refine am_newI ar_int (by decide) (N := 6) (by decide) (by decide) rfl ⟨Nat.le_of_ble_eq_true rfl, Nat.le_of_ble_eq_true rfl⟩ ?_
  refine am_eqh (h' := (Sn 110 3330 ((103, .inr (7, [.int (0 : Int32), .int (0 : Int32), .int (0 : Int32), .int (0 : Int32), .ref 104, .ref 105, .ref 106, .ref 107, .ref 108, .null, .null, .null, .null, .null, .null, .null, .null])) :: ov))) (Sn_n.trans (Sn_f (Sf_drop (((Sf_ne (a := 103) (k := 109) (by decide)).trans (hov 109 (by decide))).trans rfl)))) ?_
  refine am_putF f_7_40 rfl rfl rfl rfl (Nat.le_of_ble_eq_true rfl) rfl (by decide) (fun _ _ => ⟨rfl, rfl⟩) ?_
  refine am_eqh (h' := (Sn 110 3330 ((103, .inr (7, [.int (0 : Int32), .int (0 : Int32), .int (0 : Int32), .int (0 : Int32), .ref 104, .ref 105, .ref 106, .ref 107, .ref 108, .ref 109, .null, .null, .null, .null, .null, .null, .null])) :: ov))) (Sn_u.trans (Sn_f Sf_hide)) ?_
  refine am_aload_n rfl rfl ?_
  refine x_bipush (v := (30 : Int32)) rfl (by decide) ?_
  refine am_newI ar_int (by decide) (N := 30) (by decide) (by decide) rfl ⟨Nat.le_of_ble_eq_true rfl, Nat.le_of_ble_eq_true rfl⟩ ?_
  refine am_eqh (h' := (Sn 111 3360 ((103, .inr (7, [.int (0 : Int32), .int (0 : Int32), .int (0 : Int32), .int (0 : Int32), .ref 104, .ref 105, .ref 106, .ref 107, .ref 108, .ref 109, .null, .null, .null, .null, .null, .null, .null])) :: ov))) (Sn_n.trans (Sn_f (Sf_drop (((Sf_ne (a := 103) (k := 110) (by decide)).trans (hov 110 (by decide))).trans rfl)))) ?_
  refine am_putF f_7_43 rfl rfl rfl rfl (Nat.le_of_ble_eq_true rfl) rfl (by decide) (fun _ _ => ⟨rfl, rfl⟩) ?_
  refine am_eqh (h' := (Sn 111 3360 ((103, .inr (7, [.int (0 : Int32), .int (0 : Int32), .int (0 : Int32), .int (0 : Int32), .ref 104, .ref 105, .ref 106, .ref 107, .ref 108, .ref 109, .ref 110, .null, .null, .null, .null, .null, .null])) :: ov))) (Sn_u.trans (Sn_f Sf_hide)) ?_
  refine am_aload_n rfl rfl ?_
  refine x_bipush (v := (30 : Int32)) rfl (by decide) ?_
  refine am_newI ar_int (by decide) (N := 30) (by decide) (by decide) rfl ⟨Nat.le_of_ble_eq_true rfl, Nat.le_of_ble_eq_true rfl⟩ ?_
  refine am_eqh (h' := (Sn 112 3390 ((103, .inr (7, [.int (0 : Int32), .int (0 : Int32), .int (0 : Int32), .int (0 : Int32), .ref 104, .ref 105, .ref 106, .ref 107, .ref 108, .ref 109, .ref 110, .null, .null, .null, .null, .null, .null])) :: ov))) (Sn_n.trans (Sn_f (Sf_drop (((Sf_ne (a := 103) (k := 111) (by decide)).trans (hov 111 (by decide))).trans rfl)))) ?_
  refine am_putF f_7_46 rfl rfl rfl rfl (Nat.le_of_ble_eq_true rfl) rfl (by decide) (fun _ _ => ⟨rfl, rfl⟩) ?_
  refine am_eqh (h' := (Sn 112 3390 ((103, .inr (7, [.int (0 : Int32), .int (0 : Int32), .int (0 : Int32), .int (0 : Int32), .ref 104, .ref 105, .ref 106, .ref 107, .ref 108, .ref 109, .ref 110, .ref 111, .null, .null, .null, .null, .null])) :: ov))) (Sn_u.trans (Sn_f Sf_hide)) ?_
  refine am_aload_n rfl rfl ?_
  refine x_bipush (v := (60 : Int32)) rfl (by decide) ?_
  refine am_newI ar_int (by decide) (N := 60) (by decide) (by decide) rfl ⟨Nat.le_of_ble_eq_true rfl, Nat.le_of_ble_eq_true rfl⟩ ?_
  refine am_eqh (h' := (Sn 113 3450 ((103, .inr (7, [.int (0 : Int32), .int (0 : Int32), .int (0 : Int32), .int (0 : Int32), .ref 104, .ref 105, .ref 106, .ref 107, .ref 108, .ref 109, .ref 110, .ref 111, .null, .null, .null, .null, .null])) :: ov))) (Sn_n.trans (Sn_f (Sf_drop (((Sf_ne (a := 103) (k := 112) (by decide)).trans (hov 112 (by decide))).trans rfl)))) ?_
  refine am_putF f_7_49 rfl rfl rfl rfl (Nat.le_of_ble_eq_true rfl) rfl (by decide) (fun _ _ => ⟨rfl, rfl⟩) ?_
  refine am_eqh (h' := (Sn 113 3450 ((103, .inr (7, [.int (0 : Int32), .int (0 : Int32), .int (0 : Int32), .int (0 : Int32), .ref 104, .ref 105, .ref 106, .ref 107, .ref 108, .ref 109, .ref 110, .ref 111, .ref 112, .null, .null, .null, .null])) :: ov))) (Sn_u.trans (Sn_f Sf_hide)) ?_
  refine am_aload_n rfl rfl ?_
  refine x_bipush (v := (60 : Int32)) rfl (by decide) ?_
  refine am_newI ar_int (by decide) (N := 60) (by decide) (by decide) rfl ⟨Nat.le_of_ble_eq_true rfl, Nat.le_of_ble_eq_true rfl⟩ ?_
  refine am_eqh (h' := (Sn 114 3510 ((103, .inr (7, [.int (0 : Int32), .int (0 : Int32), .int (0 : Int32), .int (0 : Int32), .ref 104, .ref 105, .ref 106, .ref 107, .ref 108, .ref 109, .ref 110, .ref 111, .ref 112, .null, .null, .null, .null])) :: ov))) (Sn_n.trans (Sn_f (Sf_drop (((Sf_ne (a := 103) (k := 113) (by decide)).trans (hov 113 (by decide))).trans rfl)))) ?_
  refine am_putF f_7_52 rfl rfl rfl rfl (Nat.le_of_ble_eq_true rfl) rfl (by decide) (fun _ _ => ⟨rfl, rfl⟩) ?_
  refine am_eqh (h' := (Sn 114 3510 ((103, .inr (7, [.int (0 : Int32), .int (0 : Int32), .int (0 : Int32), .int (0 : Int32), .ref 104, .ref 105, .ref 106, .ref 107, .ref 108, .ref 109, .ref 110, .ref 111, .ref 112, .ref 113, .null, .null, .null])) :: ov))) (Sn_u.trans (Sn_f Sf_hide)) ?_
  refine am_aload_n rfl rfl ?_
  refine x_bipush (v := (60 : Int32)) rfl (by decide) ?_
  refine am_newI ar_int (by decide) (N := 60) (by decide) (by decide) rfl ⟨Nat.le_of_ble_eq_true rfl, Nat.le_of_ble_eq_true rfl⟩ ?_
  refine am_eqh (h' := (Sn 115 3570 ((103, .inr (7, [.int (0 : Int32), .int (0 : Int32), .int (0 : Int32), .int (0 : Int32), .ref 104, .ref 105, .ref 106, .ref 107, .ref 108, .ref 109, .ref 110, .ref 111, .ref 112, .ref 113, .null, .null, .null])) :: ov))) (Sn_n.trans (Sn_f (Sf_drop (((Sf_ne (a := 103) (k := 114) (by decide)).trans (hov 114 (by decide))).trans rfl)))) ?_
  refine am_putF f_7_55 rfl rfl rfl rfl (Nat.le_of_ble_eq_true rfl) rfl (by decide) (fun _ _ => ⟨rfl, rfl⟩) ?_
  refine am_eqh (h' := (Sn 115 3570 ((103, .inr (7, [.int (0 : Int32), .int (0 : Int32), .int (0 : Int32), .int (0 : Int32), .ref 104, .ref 105, .ref 106, .ref 107, .ref 108, .ref 109, .ref 110, .ref 111, .ref 112, .ref 113, .ref 114, .null, .null])) :: ov))) (Sn_u.trans (Sn_f Sf_hide)) ?_
  refine am_aload_n rfl rfl ?_
  refine x_bipush (v := (60 : Int32)) rfl (by decide) ?_
  refine am_newI ar_int (by decide) (N := 60) (by decide) (by decide) rfl ⟨Nat.le_of_ble_eq_true rfl, Nat.le_of_ble_eq_true rfl⟩ ?_
  refine am_eqh (h' := (Sn 116 3630 ((103, .inr (7, [.int (0 : Int32), .int (0 : Int32), .int (0 : Int32), .int (0 : Int32), .ref 104, .ref 105, .ref 106, .ref 107, .ref 108, .ref 109, .ref 110, .ref 111, .ref 112, .ref 113, .ref 114, .null, .null])) :: ov))) (Sn_n.trans (Sn_f (Sf_drop (((Sf_ne (a := 103) (k := 115) (by decide)).trans (hov 115 (by decide))).trans rfl)))) ?_
  refine am_putF f_7_58 rfl rfl rfl rfl (Nat.le_of_ble_eq_true rfl) rfl (by decide) (fun _ _ => ⟨rfl, rfl⟩) ?_
  refine am_eqh (h' := (Sn 116 3630 ((103, .inr (7, [.int (0 : Int32), .int (0 : Int32), .int (0 : Int32), .int (0 : Int32), .ref 104, .ref 105, .ref 106, .ref 107, .ref 108, .ref 109, .ref 110, .ref 111, .ref 112, .ref 113, .ref 114, .ref 115, .null])) :: ov))) (Sn_u.trans (Sn_f Sf_hide)) ?_
  refine am_aload_n rfl rfl ?_
  refine x_bipush (v := (60 : Int32)) rfl (by decide) ?_
  refine am_newI ar_int (by decide) (N := 60) (by decide) (by decide) rfl ⟨Nat.le_of_ble_eq_true rfl, Nat.le_of_ble_eq_true rfl⟩ ?_
  refine am_eqh (h' := (Sn 117 3690 ((103, .inr (7, [.int (0 : Int32), .int (0 : Int32), .int (0 : Int32), .int (0 : Int32), .ref 104, .ref 105, .ref 106, .ref 107, .ref 108, .ref 109, .ref 110, .ref 111, .ref 112, .ref 113, .ref 114, .ref 115, .null])) :: ov))) (Sn_n.trans (Sn_f (Sf_drop (((Sf_ne (a := 103) (k := 116) (by decide)).trans (hov 116 (by decide))).trans rfl)))) ?_
  refine am_putF f_7_61 rfl rfl rfl rfl (Nat.le_of_ble_eq_true rfl) rfl (by decide) (fun _ _ => ⟨rfl, rfl⟩) ?_
  refine am_eqh (h' := (Sn 117 3690 ((103, .inr (7, [.int (0 : Int32), .int (0 : Int32), .int (0 : Int32), .int (0 : Int32), .ref 104, .ref 105, .ref 106, .ref 107, .ref 108, .ref 109, .ref 110, .ref 111, .ref 112, .ref 113, .ref 114, .ref 115, .ref 116])) :: ov))) (Sn_u.trans (Sn_f Sf_hide)) ?_
  refine am_eqh (h' := (Sn 117 3690 (ov))) (Sn_f (Sf_drop ((hov 103 (by decide)).trans rfl))) ?_
  exact am_vret rfl rfl rfl rfl K
set_option maxHeartbeats 4000000 in
set_option maxRecDepth 100000 in
theorem z_X7_init_117 (ov : List (Nat × va_E)) (hov : ∀ k, 117 ≤ k → S_f ov k = hp g0 k) {post : Int32 → am_H → Prop} (K : post 0 (Sn 131 4124 ov)) : am_X m_X7_init 1 13 417 [.ref 117] (Sn 118 3707 ((117, .inr (7, [.int (0 : Int32), .int (0 : Int32), .int (0 : Int32), .int (0 : Int32), .null, .null, .null, .null, .null, .null, .null, .null, .null, .null, .null, .null, .null])) :: ov)) post := by
  refine am_X_of ok_X7_init pn_7 rfl (by decide) (Or.inl rfl) (List.forall_mem_cons.mpr ⟨rfl, fun _ h => absurd h List.not_mem_nil⟩) (Nat.le_of_ble_eq_true rfl) ?_
  show am_V m_X7_init (0, fun _ => 0) 1 13 417 118 3707 post 0 [some (.ref 117)] [] (Sn 118 3707 ((117, .inr (7, [.int (0 : Int32), .int (0 : Int32), .int (0 : Int32), .int (0 : Int32), .null, .null, .null, .null, .null, .null, .null, .null, .null, .null, .null, .null, .null])) :: ov))
  refine am_aload_n rfl rfl ?_
  refine am_obj j_7_3 ob_ins ob_cod rfl (Nat.le_of_ble_eq_true rfl) (fun _ _ => Nat.le_of_ble_eq_true rfl) ?_
  refine am_aload_n rfl rfl ?_
  refine x_iconst (v := (0 : Int32)) rfl (by decide) ?_
  refine am_put f_7_9 rfl rfl (Nat.le_of_ble_eq_true rfl) rfl (by decide) (fun _ _ => ⟨rfl, rfl⟩) ?_
  refine am_eqh (h' := (Sn 118 3707 ((117, .inr (7, [.int (0 : Int32), .int (0 : Int32), .int (0 : Int32), .int (0 : Int32), .null, .null, .null, .null, .null, .null, .null, .null, .null, .null, .null, .null, .null])) :: ov))) (Sn_u.trans (Sn_f Sf_hide)) ?_
  refine am_aload_n rfl rfl ?_
  refine x_iconst (v := (0 : Int32)) rfl (by decide) ?_
  refine am_put f_7_15 rfl rfl (Nat.le_of_ble_eq_true rfl) rfl (by decide) (fun _ _ => ⟨rfl, rfl⟩) ?_
  refine am_eqh (h' := (Sn 118 3707 ((117, .inr (7, [.int (0 : Int32), .int (0 : Int32), .int (0 : Int32), .int (0 : Int32), .null, .null, .null, .null, .null, .null, .null, .null, .null, .null, .null, .null, .null])) :: ov))) (Sn_u.trans (Sn_f Sf_hide)) ?_
  refine am_aload_n rfl rfl ?_
  refine x_iconst (v := (0 : Int32)) rfl (by decide) ?_
  refine am_put f_7_18 rfl rfl (Nat.le_of_ble_eq_true rfl) rfl (by decide) (fun _ _ => ⟨rfl, rfl⟩) ?_
  refine am_eqh (h' := (Sn 118 3707 ((117, .inr (7, [.int (0 : Int32), .int (0 : Int32), .int (0 : Int32), .int (0 : Int32), .null, .null, .null, .null, .null, .null, .null, .null, .null, .null, .null, .null, .null])) :: ov))) (Sn_u.trans (Sn_f Sf_hide)) ?_
  refine am_aload_n rfl rfl ?_
  refine x_iconst (v := (0 : Int32)) rfl (by decide) ?_
  refine am_put f_7_21 rfl rfl (Nat.le_of_ble_eq_true rfl) rfl (by decide) (fun _ _ => ⟨rfl, rfl⟩) ?_
  refine am_eqh (h' := (Sn 118 3707 ((117, .inr (7, [.int (0 : Int32), .int (0 : Int32), .int (0 : Int32), .int (0 : Int32), .null, .null, .null, .null, .null, .null, .null, .null, .null, .null, .null, .null, .null])) :: ov))) (Sn_u.trans (Sn_f Sf_hide)) ?_
  refine am_aload_n rfl rfl ?_
  refine x_bipush (v := (10 : Int32)) rfl (by decide) ?_
  refine am_newI ar_int (by decide) (N := 10) (by decide) (by decide) rfl ⟨Nat.le_of_ble_eq_true rfl, Nat.le_of_ble_eq_true rfl⟩ ?_
  refine am_eqh (h' := (Sn 119 3717 ((117, .inr (7, [.int (0 : Int32), .int (0 : Int32), .int (0 : Int32), .int (0 : Int32), .null, .null, .null, .null, .null, .null, .null, .null, .null, .null, .null, .null, .null])) :: ov))) (Sn_n.trans (Sn_f (Sf_drop (((Sf_ne (a := 117) (k := 118) (by decide)).trans (hov 118 (by decide))).trans rfl)))) ?_
  refine am_putF f_7_24 rfl rfl rfl rfl (Nat.le_of_ble_eq_true rfl) rfl (by decide) (fun _ _ => ⟨rfl, rfl⟩) ?_
  refine am_eqh (h' := (Sn 119 3717 ((117, .inr (7, [.int (0 : Int32), .int (0 : Int32), .int (0 : Int32), .int (0 : Int32), .ref 118, .null, .null, .null, .null, .null, .null, .null, .null, .null, .null, .null, .null])) :: ov))) (Sn_u.trans (Sn_f Sf_hide)) ?_
  refine am_aload_n rfl rfl ?_
  refine x_bipush (v := (24 : Int32)) rfl (by decide) ?_
  refine am_newI ar_int (by decide) (N := 24) (by decide) (by decide) rfl ⟨Nat.le_of_ble_eq_true rfl, Nat.le_of_ble_eq_true rfl⟩ ?_
  refine am_eqh (h' := (Sn 120 3741 ((117, .inr (7, [.int (0 : Int32), .int (0 : Int32), .int (0 : Int32), .int (0 : Int32), .ref 118, .null, .null, .null, .null, .null, .null, .null, .null, .null, .null, .null, .null])) :: ov))) (Sn_n.trans (Sn_f (Sf_drop (((Sf_ne (a := 117) (k := 119) (by decide)).trans (hov 119 (by decide))).trans rfl)))) ?_
  refine am_putF f_7_28 rfl rfl rfl rfl (Nat.le_of_ble_eq_true rfl) rfl (by decide) (fun _ _ => ⟨rfl, rfl⟩) ?_
  refine am_eqh (h' := (Sn 120 3741 ((117, .inr (7, [.int (0 : Int32), .int (0 : Int32), .int (0 : Int32), .int (0 : Int32), .ref 118, .ref 119, .null, .null, .null, .null, .null, .null, .null, .null, .null, .null, .null])) :: ov))) (Sn_u.trans (Sn_f Sf_hide)) ?_
  refine am_aload_n rfl rfl ?_
  refine x_iconst (v := (5 : Int32)) rfl (by decide) ?_
  refine am_newI ar_int (by decide) (N := 5) (by decide) (by decide) rfl ⟨Nat.le_of_ble_eq_true rfl, Nat.le_of_ble_eq_true rfl⟩ ?_
  refine am_eqh (h' := (Sn 121 3746 ((117, .inr (7, [.int (0 : Int32), .int (0 : Int32), .int (0 : Int32), .int (0 : Int32), .ref 118, .ref 119, .null, .null, .null, .null, .null, .null, .null, .null, .null, .null, .null])) :: ov))) (Sn_n.trans (Sn_f (Sf_drop (((Sf_ne (a := 117) (k := 120) (by decide)).trans (hov 120 (by decide))).trans rfl)))) ?_
  refine am_putF f_7_31 rfl rfl rfl rfl (Nat.le_of_ble_eq_true rfl) rfl (by decide) (fun _ _ => ⟨rfl, rfl⟩) ?_
  refine am_eqh (h' := (Sn 121 3746 ((117, .inr (7, [.int (0 : Int32), .int (0 : Int32), .int (0 : Int32), .int (0 : Int32), .ref 118, .ref 119, .ref 120, .null, .null, .null, .null, .null, .null, .null, .null, .null, .null])) :: ov))) (Sn_u.trans (Sn_f Sf_hide)) ?_
  refine am_aload_n rfl rfl ?_
  refine x_bipush (v := (6 : Int32)) rfl (by decide) ?_
  refine am_newI ar_int (by decide) (N := 6) (by decide) (by decide) rfl ⟨Nat.le_of_ble_eq_true rfl, Nat.le_of_ble_eq_true rfl⟩ ?_
  refine am_eqh (h' := (Sn 122 3752 ((117, .inr (7, [.int (0 : Int32), .int (0 : Int32), .int (0 : Int32), .int (0 : Int32), .ref 118, .ref 119, .ref 120, .null, .null, .null, .null, .null, .null, .null, .null, .null, .null])) :: ov))) (Sn_n.trans (Sn_f (Sf_drop (((Sf_ne (a := 117) (k := 121) (by decide)).trans (hov 121 (by decide))).trans rfl)))) ?_
  refine am_putF f_7_34 rfl rfl rfl rfl (Nat.le_of_ble_eq_true rfl) rfl (by decide) (fun _ _ => ⟨rfl, rfl⟩) ?_
  refine am_eqh (h' := (Sn 122 3752 ((117, .inr (7, [.int (0 : Int32), .int (0 : Int32), .int (0 : Int32), .int (0 : Int32), .ref 118, .ref 119, .ref 120, .ref 121, .null, .null, .null, .null, .null, .null, .null, .null, .null])) :: ov))) (Sn_u.trans (Sn_f Sf_hide)) ?_
  refine am_aload_n rfl rfl ?_
  refine x_bipush (v := (6 : Int32)) rfl (by decide) ?_
  refine am_newI ar_int (by decide) (N := 6) (by decide) (by decide) rfl ⟨Nat.le_of_ble_eq_true rfl, Nat.le_of_ble_eq_true rfl⟩ ?_
  refine am_eqh (h' := (Sn 123 3758 ((117, .inr (7, [.int (0 : Int32), .int (0 : Int32), .int (0 : Int32), .int (0 : Int32), .ref 118, .ref 119, .ref 120, .ref 121, .null, .null, .null, .null, .null, .null, .null, .null, .null])) :: ov))) (Sn_n.trans (Sn_f (Sf_drop (((Sf_ne (a := 117) (k := 122) (by decide)).trans (hov 122 (by decide))).trans rfl)))) ?_
  refine am_putF f_7_37 rfl rfl rfl rfl (Nat.le_of_ble_eq_true rfl) rfl (by decide) (fun _ _ => ⟨rfl, rfl⟩) ?_
  refine am_eqh (h' := (Sn 123 3758 ((117, .inr (7, [.int (0 : Int32), .int (0 : Int32), .int (0 : Int32), .int (0 : Int32), .ref 118, .ref 119, .ref 120, .ref 121, .ref 122, .null, .null, .null, .null, .null, .null, .null, .null])) :: ov))) (Sn_u.trans (Sn_f Sf_hide)) ?_
  refine am_aload_n rfl rfl ?_
  refine x_bipush (v := (6 : Int32)) rfl (by decide) ?_
  refine am_newI ar_int (by decide) (N := 6) (by decide) (by decide) rfl ⟨Nat.le_of_ble_eq_true rfl, Nat.le_of_ble_eq_true rfl⟩ ?_
  refine am_eqh (h' := (Sn 124 3764 ((117, .inr (7, [.int (0 : Int32), .int (0 : Int32), .int (0 : Int32), .int (0 : Int32), .ref 118, .ref 119, .ref 120, .ref 121, .ref 122, .null, .null, .null, .null, .null, .null, .null, .null])) :: ov))) (Sn_n.trans (Sn_f (Sf_drop (((Sf_ne (a := 117) (k := 123) (by decide)).trans (hov 123 (by decide))).trans rfl)))) ?_
  refine am_putF f_7_40 rfl rfl rfl rfl (Nat.le_of_ble_eq_true rfl) rfl (by decide) (fun _ _ => ⟨rfl, rfl⟩) ?_
  refine am_eqh (h' := (Sn 124 3764 ((117, .inr (7, [.int (0 : Int32), .int (0 : Int32), .int (0 : Int32), .int (0 : Int32), .ref 118, .ref 119, .ref 120, .ref 121, .ref 122, .ref 123, .null, .null, .null, .null, .null, .null, .null])) :: ov))) (Sn_u.trans (Sn_f Sf_hide)) ?_
  refine am_aload_n rfl rfl ?_
  refine x_bipush (v := (30 : Int32)) rfl (by decide) ?_
  refine am_newI ar_int (by decide) (N := 30) (by decide) (by decide) rfl ⟨Nat.le_of_ble_eq_true rfl, Nat.le_of_ble_eq_true rfl⟩ ?_
  refine am_eqh (h' := (Sn 125 3794 ((117, .inr (7, [.int (0 : Int32), .int (0 : Int32), .int (0 : Int32), .int (0 : Int32), .ref 118, .ref 119, .ref 120, .ref 121, .ref 122, .ref 123, .null, .null, .null, .null, .null, .null, .null])) :: ov))) (Sn_n.trans (Sn_f (Sf_drop (((Sf_ne (a := 117) (k := 124) (by decide)).trans (hov 124 (by decide))).trans rfl)))) ?_
  refine am_putF f_7_43 rfl rfl rfl rfl (Nat.le_of_ble_eq_true rfl) rfl (by decide) (fun _ _ => ⟨rfl, rfl⟩) ?_
  refine am_eqh (h' := (Sn 125 3794 ((117, .inr (7, [.int (0 : Int32), .int (0 : Int32), .int (0 : Int32), .int (0 : Int32), .ref 118, .ref 119, .ref 120, .ref 121, .ref 122, .ref 123, .ref 124, .null, .null, .null, .null, .null, .null])) :: ov))) (Sn_u.trans (Sn_f Sf_hide)) ?_
  refine am_aload_n rfl rfl ?_
  refine x_bipush (v := (30 : Int32)) rfl (by decide) ?_
  refine am_newI ar_int (by decide) (N := 30) (by decide) (by decide) rfl ⟨Nat.le_of_ble_eq_true rfl, Nat.le_of_ble_eq_true rfl⟩ ?_
  refine am_eqh (h' := (Sn 126 3824 ((117, .inr (7, [.int (0 : Int32), .int (0 : Int32), .int (0 : Int32), .int (0 : Int32), .ref 118, .ref 119, .ref 120, .ref 121, .ref 122, .ref 123, .ref 124, .null, .null, .null, .null, .null, .null])) :: ov))) (Sn_n.trans (Sn_f (Sf_drop (((Sf_ne (a := 117) (k := 125) (by decide)).trans (hov 125 (by decide))).trans rfl)))) ?_
  refine am_putF f_7_46 rfl rfl rfl rfl (Nat.le_of_ble_eq_true rfl) rfl (by decide) (fun _ _ => ⟨rfl, rfl⟩) ?_
  refine am_eqh (h' := (Sn 126 3824 ((117, .inr (7, [.int (0 : Int32), .int (0 : Int32), .int (0 : Int32), .int (0 : Int32), .ref 118, .ref 119, .ref 120, .ref 121, .ref 122, .ref 123, .ref 124, .ref 125, .null, .null, .null, .null, .null])) :: ov))) (Sn_u.trans (Sn_f Sf_hide)) ?_
  refine am_aload_n rfl rfl ?_
  refine x_bipush (v := (60 : Int32)) rfl (by decide) ?_
  refine am_newI ar_int (by decide) (N := 60) (by decide) (by decide) rfl ⟨Nat.le_of_ble_eq_true rfl, Nat.le_of_ble_eq_true rfl⟩ ?_
  refine am_eqh (h' := (Sn 127 3884 ((117, .inr (7, [.int (0 : Int32), .int (0 : Int32), .int (0 : Int32), .int (0 : Int32), .ref 118, .ref 119, .ref 120, .ref 121, .ref 122, .ref 123, .ref 124, .ref 125, .null, .null, .null, .null, .null])) :: ov))) (Sn_n.trans (Sn_f (Sf_drop (((Sf_ne (a := 117) (k := 126) (by decide)).trans (hov 126 (by decide))).trans rfl)))) ?_
  refine am_putF f_7_49 rfl rfl rfl rfl (Nat.le_of_ble_eq_true rfl) rfl (by decide) (fun _ _ => ⟨rfl, rfl⟩) ?_
  refine am_eqh (h' := (Sn 127 3884 ((117, .inr (7, [.int (0 : Int32), .int (0 : Int32), .int (0 : Int32), .int (0 : Int32), .ref 118, .ref 119, .ref 120, .ref 121, .ref 122, .ref 123, .ref 124, .ref 125, .ref 126, .null, .null, .null, .null])) :: ov))) (Sn_u.trans (Sn_f Sf_hide)) ?_
  refine am_aload_n rfl rfl ?_
  refine x_bipush (v := (60 : Int32)) rfl (by decide) ?_
  refine am_newI ar_int (by decide) (N := 60) (by decide) (by decide) rfl ⟨Nat.le_of_ble_eq_true rfl, Nat.le_of_ble_eq_true rfl⟩ ?_
  refine am_eqh (h' := (Sn 128 3944 ((117, .inr (7, [.int (0 : Int32), .int (0 : Int32), .int (0 : Int32), .int (0 : Int32), .ref 118, .ref 119, .ref 120, .ref 121, .ref 122, .ref 123, .ref 124, .ref 125, .ref 126, .null, .null, .null, .null])) :: ov))) (Sn_n.trans (Sn_f (Sf_drop (((Sf_ne (a := 117) (k := 127) (by decide)).trans (hov 127 (by decide))).trans rfl)))) ?_
  refine am_putF f_7_52 rfl rfl rfl rfl (Nat.le_of_ble_eq_true rfl) rfl (by decide) (fun _ _ => ⟨rfl, rfl⟩) ?_
  refine am_eqh (h' := (Sn 128 3944 ((117, .inr (7, [.int (0 : Int32), .int (0 : Int32), .int (0 : Int32), .int (0 : Int32), .ref 118, .ref 119, .ref 120, .ref 121, .ref 122, .ref 123, .ref 124, .ref 125, .ref 126, .ref 127, .null, .null, .null])) :: ov))) (Sn_u.trans (Sn_f Sf_hide)) ?_
  refine am_aload_n rfl rfl ?_
  refine x_bipush (v := (60 : Int32)) rfl (by decide) ?_
  refine am_newI ar_int (by decide) (N := 60) (by decide) (by decide) rfl ⟨Nat.le_of_ble_eq_true rfl, Nat.le_of_ble_eq_true rfl⟩ ?_
  refine am_eqh (h' := (Sn 129 4004 ((117, .inr (7, [.int (0 : Int32), .int (0 : Int32), .int (0 : Int32), .int (0 : Int32), .ref 118, .ref 119, .ref 120, .ref 121, .ref 122, .ref 123, .ref 124, .ref 125, .ref 126, .ref 127, .null, .null, .null])) :: ov))) (Sn_n.trans (Sn_f (Sf_drop (((Sf_ne (a := 117) (k := 128) (by decide)).trans (hov 128 (by decide))).trans rfl)))) ?_
  refine am_putF f_7_55 rfl rfl rfl rfl (Nat.le_of_ble_eq_true rfl) rfl (by decide) (fun _ _ => ⟨rfl, rfl⟩) ?_
  refine am_eqh (h' := (Sn 129 4004 ((117, .inr (7, [.int (0 : Int32), .int (0 : Int32), .int (0 : Int32), .int (0 : Int32), .ref 118, .ref 119, .ref 120, .ref 121, .ref 122, .ref 123, .ref 124, .ref 125, .ref 126, .ref 127, .ref 128, .null, .null])) :: ov))) (Sn_u.trans (Sn_f Sf_hide)) ?_
  refine am_aload_n rfl rfl ?_
  refine x_bipush (v := (60 : Int32)) rfl (by decide) ?_
  refine am_newI ar_int (by decide) (N := 60) (by decide) (by decide) rfl ⟨Nat.le_of_ble_eq_true rfl, Nat.le_of_ble_eq_true rfl⟩ ?_
  refine am_eqh (h' := (Sn 130 4064 ((117, .inr (7, [.int (0 : Int32), .int (0 : Int32), .int (0 : Int32), .int (0 : Int32), .ref 118, .ref 119, .ref 120, .ref 121, .ref 122, .ref 123, .ref 124, .ref 125, .ref 126, .ref 127, .ref 128, .null, .null])) :: ov))) (Sn_n.trans (Sn_f (Sf_drop (((Sf_ne (a := 117) (k := 129) (by decide)).trans (hov 129 (by decide))).trans rfl)))) ?_
  refine am_putF f_7_58 rfl rfl rfl rfl (Nat.le_of_ble_eq_true rfl) rfl (by decide) (fun _ _ => ⟨rfl, rfl⟩) ?_
  refine am_eqh (h' := (Sn 130 4064 ((117, .inr (7, [.int (0 : Int32), .int (0 : Int32), .int (0 : Int32), .int (0 : Int32), .ref 118, .ref 119, .ref 120, .ref 121, .ref 122, .ref 123, .ref 124, .ref 125, .ref 126, .ref 127, .ref 128, .ref 129, .null])) :: ov))) (Sn_u.trans (Sn_f Sf_hide)) ?_
  refine am_aload_n rfl rfl ?_
  refine x_bipush (v := (60 : Int32)) rfl (by decide) ?_
  refine am_newI ar_int (by decide) (N := 60) (by decide) (by decide) rfl ⟨Nat.le_of_ble_eq_true rfl, Nat.le_of_ble_eq_true rfl⟩ ?_
  refine am_eqh (h' := (Sn 131 4124 ((117, .inr (7, [.int (0 : Int32), .int (0 : Int32), .int (0 : Int32), .int (0 : Int32), .ref 118, .ref 119, .ref 120, .ref 121, .ref 122, .ref 123, .ref 124, .ref 125, .ref 126, .ref 127, .ref 128, .ref 129, .null])) :: ov))) (Sn_n.trans (Sn_f (Sf_drop (((Sf_ne (a := 117) (k := 130) (by decide)).trans (hov 130 (by decide))).trans rfl)))) ?_
  refine am_putF f_7_61 rfl rfl rfl rfl (Nat.le_of_ble_eq_true rfl) rfl (by decide) (fun _ _ => ⟨rfl, rfl⟩) ?_
  refine am_eqh (h' := (Sn 131 4124 ((117, .inr (7, [.int (0 : Int32), .int (0 : Int32), .int (0 : Int32), .int (0 : Int32), .ref 118, .ref 119, .ref 120, .ref 121, .ref 122, .ref 123, .ref 124, .ref 125, .ref 126, .ref 127, .ref 128, .ref 129, .ref 130])) :: ov))) (Sn_u.trans (Sn_f Sf_hide)) ?_
  refine am_eqh (h' := (Sn 131 4124 (ov))) (Sn_f (Sf_drop ((hov 117 (by decide)).trans rfl))) ?_
  exact am_vret rfl rfl rfl rfl K
set_option maxHeartbeats 4000000 in
set_option maxRecDepth 100000 in
theorem z_X7_init_131 (ov : List (Nat × va_E)) (hov : ∀ k, 131 ≤ k → S_f ov k = hp g0 k) {post : Int32 → am_H → Prop} (K : post 0 (Sn 145 4558 ov)) : am_X m_X7_init 1 13 417 [.ref 131] (Sn 132 4141 ((131, .inr (7, [.int (0 : Int32), .int (0 : Int32), .int (0 : Int32), .int (0 : Int32), .null, .null, .null, .null, .null, .null, .null, .null, .null, .null, .null, .null, .null])) :: ov)) post := by
  refine am_X_of ok_X7_init pn_7 rfl (by decide) (Or.inl rfl) (List.forall_mem_cons.mpr ⟨rfl, fun _ h => absurd h List.not_mem_nil⟩) (Nat.le_of_ble_eq_true rfl) ?_
  show am_V m_X7_init (0, fun _ => 0) 1 13 417 132 4141 post 0 [some (.ref 131)] [] (Sn 132 4141 ((131, .inr (7, [.int (0 : Int32), .int (0 : Int32), .int (0 : Int32), .int (0 : Int32), .null, .null, .null, .null, .null, .null, .null, .null, .null, .null, .null, .null, .null])) :: ov))
  refine am_aload_n rfl rfl ?_
  refine am_obj j_7_3 ob_ins ob_cod rfl (Nat.le_of_ble_eq_true rfl) (fun _ _ => Nat.le_of_ble_eq_true rfl) ?_
  refine am_aload_n rfl rfl ?_
  refine x_iconst (v := (0 : Int32)) rfl (by decide) ?_
  refine am_put f_7_9 rfl rfl (Nat.le_of_ble_eq_true rfl) rfl (by decide) (fun _ _ => ⟨rfl, rfl⟩) ?_
  refine am_eqh (h' := (Sn 132 4141 ((131, .inr (7, [.int (0 : Int32), .int (0 : Int32), .int (0 : Int32), .int (0 : Int32), .null, .null, .null, .null, .null, .null, .null, .null, .null, .null, .null, .null, .null])) :: ov))) (Sn_u.trans (Sn_f Sf_hide)) ?_
  refine am_aload_n rfl rfl ?_
  refine x_iconst (v := (0 : Int32)) rfl (by decide) ?_
  refine am_put f_7_15 rfl rfl (Nat.le_of_ble_eq_true rfl) rfl (by decide) (fun _ _ => ⟨rfl, rfl⟩) ?_
  refine am_eqh (h' := (Sn 132 4141 ((131, .inr (7, [.int (0 : Int32), .int (0 : Int32), .int (0 : Int32), .int (0 : Int32), .null, .null, .null, .null, .null, .null, .null, .null, .null, .null, .null, .null, .null])) :: ov))) (Sn_u.trans (Sn_f Sf_hide)) ?_
  refine am_aload_n rfl rfl ?_
  refine x_iconst (v := (0 : Int32)) rfl (by decide) ?_
  refine am_put f_7_18 rfl rfl (Nat.le_of_ble_eq_true rfl) rfl (by decide) (fun _ _ => ⟨rfl, rfl⟩) ?_
  refine am_eqh (h' := (Sn 132 4141 ((131, .inr (7, [.int (0 : Int32), .int (0 : Int32), .int (0 : Int32), .int (0 : Int32), .null, .null, .null, .null, .null, .null, .null, .null, .null, .null, .null, .null, .null])) :: ov))) (Sn_u.trans (Sn_f Sf_hide)) ?_
  refine am_aload_n rfl rfl ?_
  refine x_iconst (v := (0 : Int32)) rfl (by decide) ?_
  refine am_put f_7_21 rfl rfl (Nat.le_of_ble_eq_true rfl) rfl (by decide) (fun _ _ => ⟨rfl, rfl⟩) ?_
  refine am_eqh (h' := (Sn 132 4141 ((131, .inr (7, [.int (0 : Int32), .int (0 : Int32), .int (0 : Int32), .int (0 : Int32), .null, .null, .null, .null, .null, .null, .null, .null, .null, .null, .null, .null, .null])) :: ov))) (Sn_u.trans (Sn_f Sf_hide)) ?_
  refine am_aload_n rfl rfl ?_
  refine x_bipush (v := (10 : Int32)) rfl (by decide) ?_
  refine am_newI ar_int (by decide) (N := 10) (by decide) (by decide) rfl ⟨Nat.le_of_ble_eq_true rfl, Nat.le_of_ble_eq_true rfl⟩ ?_
  refine am_eqh (h' := (Sn 133 4151 ((131, .inr (7, [.int (0 : Int32), .int (0 : Int32), .int (0 : Int32), .int (0 : Int32), .null, .null, .null, .null, .null, .null, .null, .null, .null, .null, .null, .null, .null])) :: ov))) (Sn_n.trans (Sn_f (Sf_drop (((Sf_ne (a := 131) (k := 132) (by decide)).trans (hov 132 (by decide))).trans rfl)))) ?_
  refine am_putF f_7_24 rfl rfl rfl rfl (Nat.le_of_ble_eq_true rfl) rfl (by decide) (fun _ _ => ⟨rfl, rfl⟩) ?_
  refine am_eqh (h' := (Sn 133 4151 ((131, .inr (7, [.int (0 : Int32), .int (0 : Int32), .int (0 : Int32), .int (0 : Int32), .ref 132, .null, .null, .null, .null, .null, .null, .null, .null, .null, .null, .null, .null])) :: ov))) (Sn_u.trans (Sn_f Sf_hide)) ?_
  refine am_aload_n rfl rfl ?_
  refine x_bipush (v := (24 : Int32)) rfl (by decide) ?_
  refine am_newI ar_int (by decide) (N := 24) (by decide) (by decide) rfl ⟨Nat.le_of_ble_eq_true rfl, Nat.le_of_ble_eq_true rfl⟩ ?_
  refine am_eqh (h' := (Sn 134 4175 ((131, .inr (7, [.int (0 : Int32), .int (0 : Int32), .int (0 : Int32), .int (0 : Int32), .ref 132, .null, .null, .null, .null, .null, .null, .null, .null, .null, .null, .null, .null])) :: ov))) (Sn_n.trans (Sn_f (Sf_drop (((Sf_ne (a := 131) (k := 133) (by decide)).trans (hov 133 (by decide))).trans rfl)))) ?_
  refine am_putF f_7_28 rfl rfl rfl rfl (Nat.le_of_ble_eq_true rfl) rfl (by decide) (fun _ _ => ⟨rfl, rfl⟩) ?_
  refine am_eqh (h' := (Sn 134 4175 ((131, .inr (7, [.int (0 : Int32), .int (0 : Int32), .int (0 : Int32), .int (0 : Int32), .ref 132, .ref 133, .null, .null, .null, .null, .null, .null, .null, .null, .null, .null, .null])) :: ov))) (Sn_u.trans (Sn_f Sf_hide)) ?_
  refine am_aload_n rfl rfl ?_
  refine x_iconst (v := (5 : Int32)) rfl (by decide) ?_
  refine am_newI ar_int (by decide) (N := 5) (by decide) (by decide) rfl ⟨Nat.le_of_ble_eq_true rfl, Nat.le_of_ble_eq_true rfl⟩ ?_
  refine am_eqh (h' := (Sn 135 4180 ((131, .inr (7, [.int (0 : Int32), .int (0 : Int32), .int (0 : Int32), .int (0 : Int32), .ref 132, .ref 133, .null, .null, .null, .null, .null, .null, .null, .null, .null, .null, .null])) :: ov))) (Sn_n.trans (Sn_f (Sf_drop (((Sf_ne (a := 131) (k := 134) (by decide)).trans (hov 134 (by decide))).trans rfl)))) ?_
  refine am_putF f_7_31 rfl rfl rfl rfl (Nat.le_of_ble_eq_true rfl) rfl (by decide) (fun _ _ => ⟨rfl, rfl⟩) ?_
  refine am_eqh (h' := (Sn 135 4180 ((131, .inr (7, [.int (0 : Int32), .int (0 : Int32), .int (0 : Int32), .int (0 : Int32), .ref 132, .ref 133, .ref 134, .null, .null, .null, .null, .null, .null, .null, .null, .null, .null])) :: ov))) (Sn_u.trans (Sn_f Sf_hide)) ?_
  refine am_aload_n rfl rfl ?_
  refine x_bipush (v := (6 : Int32)) rfl (by decide) ?_
  refine am_newI ar_int (by decide) (N := 6) (by decide) (by decide) rfl ⟨Nat.le_of_ble_eq_true rfl, Nat.le_of_ble_eq_true rfl⟩ ?_
  refine am_eqh (h' := (Sn 136 4186 ((131, .inr (7, [.int (0 : Int32), .int (0 : Int32), .int (0 : Int32), .int (0 : Int32), .ref 132, .ref 133, .ref 134, .null, .null, .null, .null, .null, .null, .null, .null, .null, .null])) :: ov))) (Sn_n.trans (Sn_f (Sf_drop (((Sf_ne (a := 131) (k := 135) (by decide)).trans (hov 135 (by decide))).trans rfl)))) ?_
  refine am_putF f_7_34 rfl rfl rfl rfl (Nat.le_of_ble_eq_true rfl) rfl (by decide) (fun _ _ => ⟨rfl, rfl⟩) ?_
  refine am_eqh (h' := (Sn 136 4186 ((131, .inr (7, [.int (0 : Int32), .int (0 : Int32), .int (0 : Int32), .int (0 : Int32), .ref 132, .ref 133, .ref 134, .ref 135, .null, .null, .null, .null, .null, .null, .null, .null, .null])) :: ov))) (Sn_u.trans (Sn_f Sf_hide)) ?_
  refine am_aload_n rfl rfl ?_
  refine x_bipush (v := (6 : Int32)) rfl (by decide) ?_
  refine am_newI ar_int (by decide) (N := 6) (by decide) (by decide) rfl ⟨Nat.le_of_ble_eq_true rfl, Nat.le_of_ble_eq_true rfl⟩ ?_
  refine am_eqh (h' := (Sn 137 4192 ((131, .inr (7, [.int (0 : Int32), .int (0 : Int32), .int (0 : Int32), .int (0 : Int32), .ref 132, .ref 133, .ref 134, .ref 135, .null, .null, .null, .null, .null, .null, .null, .null, .null])) :: ov))) (Sn_n.trans (Sn_f (Sf_drop (((Sf_ne (a := 131) (k := 136) (by decide)).trans (hov 136 (by decide))).trans rfl)))) ?_
  refine am_putF f_7_37 rfl rfl rfl rfl (Nat.le_of_ble_eq_true rfl) rfl (by decide) (fun _ _ => ⟨rfl, rfl⟩) ?_
  refine am_eqh (h' := (Sn 137 4192 ((131, .inr (7, [.int (0 : Int32), .int (0 : Int32), .int (0 : Int32), .int (0 : Int32), .ref 132, .ref 133, .ref 134, .ref 135, .ref 136, .null, .null, .null, .null, .null, .null, .null, .null])) :: ov))) (Sn_u.trans (Sn_f Sf_hide)) ?_
  refine am_aload_n rfl rfl ?_
  refine x_bipush (v := (6 : Int32)) rfl (by decide) ?_
  refine am_newI ar_int (by decide) (N := 6) (by decide) (by decide) rfl ⟨Nat.le_of_ble_eq_true rfl, Nat.le_of_ble_eq_true rfl⟩ ?_
  refine am_eqh (h' := (Sn 138 4198 ((131, .inr (7, [.int (0 : Int32), .int (0 : Int32), .int (0 : Int32), .int (0 : Int32), .ref 132, .ref 133, .ref 134, .ref 135, .ref 136, .null, .null, .null, .null, .null, .null, .null, .null])) :: ov))) (Sn_n.trans (Sn_f (Sf_drop (((Sf_ne (a := 131) (k := 137) (by decide)).trans (hov 137 (by decide))).trans rfl)))) ?_
  refine am_putF f_7_40 rfl rfl rfl rfl (Nat.le_of_ble_eq_true rfl) rfl (by decide) (fun _ _ => ⟨rfl, rfl⟩) ?_
  refine am_eqh (h' := (Sn 138 4198 ((131, .inr (7, [.int (0 : Int32), .int (0 : Int32), .int (0 : Int32), .int (0 : Int32), .ref 132, .ref 133, .ref 134, .ref 135, .ref 136, .ref 137, .null, .null, .null, .null, .null, .null, .null])) :: ov))) (Sn_u.trans (Sn_f Sf_hide)) ?_
  refine am_aload_n rfl rfl ?_
  refine x_bipush (v := (30 : Int32)) rfl (by decide) ?_
  refine am_newI ar_int (by decide) (N := 30) (by decide) (by decide) rfl ⟨Nat.le_of_ble_eq_true rfl, Nat.le_of_ble_eq_true rfl⟩ ?_
  refine am_eqh (h' := (Sn 139 4228 ((131, .inr (7, [.int (0 : Int32), .int (0 : Int32), .int (0 : Int32), .int (0 : Int32), .ref 132, .ref 133, .ref 134, .ref 135, .ref 136, .ref 137, .null, .null, .null, .null, .null, .null, .null])) :: ov))) (Sn_n.trans (Sn_f (Sf_drop (((Sf_ne (a := 131) (k := 138) (by decide)).trans (hov 138 (by decide))).trans rfl)))) ?_
  refine am_putF f_7_43 rfl rfl rfl rfl (Nat.le_of_ble_eq_true rfl) rfl (by decide) (fun _ _ => ⟨rfl, rfl⟩) ?_
  refine am_eqh (h' := (Sn 139 4228 ((131, .inr (7, [.int (0 : Int32), .int (0 : Int32), .int (0 : Int32), .int (0 : Int32), .ref 132, .ref 133, .ref 134, .ref 135, .ref 136, .ref 137, .ref 138, .null, .null, .null, .null, .null, .null])) :: ov))) (Sn_u.trans (Sn_f Sf_hide)) ?_
  refine am_aload_n rfl rfl ?_
  refine x_bipush (v := (30 : Int32)) rfl (by decide) ?_
  refine am_newI ar_int (by decide) (N := 30) (by decide) (by decide) rfl ⟨Nat.le_of_ble_eq_true rfl, Nat.le_of_ble_eq_true rfl⟩ ?_
  refine am_eqh (h' := (Sn 140 4258 ((131, .inr (7, [.int (0 : Int32), .int (0 : Int32), .int (0 : Int32), .int (0 : Int32), .ref 132, .ref 133, .ref 134, .ref 135, .ref 136, .ref 137, .ref 138, .null, .null, .null, .null, .null, .null])) :: ov))) (Sn_n.trans (Sn_f (Sf_drop (((Sf_ne (a := 131) (k := 139) (by decide)).trans (hov 139 (by decide))).trans rfl)))) ?_
  refine am_putF f_7_46 rfl rfl rfl rfl (Nat.le_of_ble_eq_true rfl) rfl (by decide) (fun _ _ => ⟨rfl, rfl⟩) ?_
  refine am_eqh (h' := (Sn 140 4258 ((131, .inr (7, [.int (0 : Int32), .int (0 : Int32), .int (0 : Int32), .int (0 : Int32), .ref 132, .ref 133, .ref 134, .ref 135, .ref 136, .ref 137, .ref 138, .ref 139, .null, .null, .null, .null, .null])) :: ov))) (Sn_u.trans (Sn_f Sf_hide)) ?_
  refine am_aload_n rfl rfl ?_
  refine x_bipush (v := (60 : Int32)) rfl (by decide) ?_
  refine am_newI ar_int (by decide) (N := 60) (by decide) (by decide) rfl ⟨Nat.le_of_ble_eq_true rfl, Nat.le_of_ble_eq_true rfl⟩ ?_
  refine am_eqh (h' := (Sn 141 4318 ((131, .inr (7, [.int (0 : Int32), .int (0 : Int32), .int (0 : Int32), .int (0 : Int32), .ref 132, .ref 133, .ref 134, .ref 135, .ref 136, .ref 137, .ref 138, .ref 139, .null, .null, .null, .null, .null])) :: ov))) (Sn_n.trans (Sn_f (Sf_drop (((Sf_ne (a := 131) (k := 140) (by decide)).trans (hov 140 (by decide))).trans rfl)))) ?_
  refine am_putF f_7_49 rfl rfl rfl rfl (Nat.le_of_ble_eq_true rfl) rfl (by decide) (fun _ _ => ⟨rfl, rfl⟩) ?_
  refine am_eqh (h' := (Sn 141 4318 ((131, .inr (7, [.int (0 : Int32), .int (0 : Int32), .int (0 : Int32), .int (0 : Int32), .ref 132, .ref 133, .ref 134, .ref 135, .ref 136, .ref 137, .ref 138, .ref 139, .ref 140, .null, .null, .null, .null])) :: ov))) (Sn_u.trans (Sn_f Sf_hide)) ?_
  refine am_aload_n rfl rfl ?_
  refine x_bipush (v := (60 : Int32)) rfl (by decide) ?_
  refine am_newI ar_int (by decide) (N := 60) (by decide) (by decide) rfl ⟨Nat.le_of_ble_eq_true rfl, Nat.le_of_ble_eq_true rfl⟩ ?_
  refine am_eqh (h' := (Sn 142 4378 ((131, .inr (7, [.int (0 : Int32), .int (0 : Int32), .int (0 : Int32), .int (0 : Int32), .ref 132, .ref 133, .ref 134, .ref 135, .ref 136, .ref 137, .ref 138, .ref 139, .ref 140, .null, .null, .null, .null])) :: ov))) (Sn_n.trans (Sn_f (Sf_drop (((Sf_ne (a := 131) (k := 141) (by decide)).trans (hov 141 (by decide))).trans rfl)))) ?_
  refine am_putF f_7_52 rfl rfl rfl rfl (Nat.le_of_ble_eq_true rfl) rfl (by decide) (fun _ _ => ⟨rfl, rfl⟩) ?_
  refine am_eqh (h' := (Sn 142 4378 ((131, .inr (7, [.int (0 : Int32), .int (0 : Int32), .int (0 : Int32), .int (0 : Int32), .ref 132, .ref 133, .ref 134, .ref 135, .ref 136, .ref 137, .ref 138, .ref 139, .ref 140, .ref 141, .null, .null, .null])) :: ov))) (Sn_u.trans (Sn_f Sf_hide)) ?_
  refine am_aload_n rfl rfl ?_
  refine x_bipush (v := (60 : Int32)) rfl (by decide) ?_
  refine am_newI ar_int (by decide) (N := 60) (by decide) (by decide) rfl ⟨Nat.le_of_ble_eq_true rfl, Nat.le_of_ble_eq_true rfl⟩ ?_
  refine am_eqh (h' := (Sn 143 4438 ((131, .inr (7, [.int (0 : Int32), .int (0 : Int32), .int (0 : Int32), .int (0 : Int32), .ref 132, .ref 133, .ref 134, .ref 135, .ref 136, .ref 137, .ref 138, .ref 139, .ref 140, .ref 141, .null, .null, .null])) :: ov))) (Sn_n.trans (Sn_f (Sf_drop (((Sf_ne (a := 131) (k := 142) (by decide)).trans (hov 142 (by decide))).trans rfl)))) ?_
  refine am_putF f_7_55 rfl rfl rfl rfl (Nat.le_of_ble_eq_true rfl) rfl (by decide) (fun _ _ => ⟨rfl, rfl⟩) ?_
  refine am_eqh (h' := (Sn 143 4438 ((131, .inr (7, [.int (0 : Int32), .int (0 : Int32), .int (0 : Int32), .int (0 : Int32), .ref 132, .ref 133, .ref 134, .ref 135, .ref 136, .ref 137, .ref 138, .ref 139, .ref 140, .ref 141, .ref 142, .null, .null])) :: ov))) (Sn_u.trans (Sn_f Sf_hide)) ?_
  refine am_aload_n rfl rfl ?_
  refine x_bipush (v := (60 : Int32)) rfl (by decide) ?_
  refine am_newI ar_int (by decide) (N := 60) (by decide) (by decide) rfl ⟨Nat.le_of_ble_eq_true rfl, Nat.le_of_ble_eq_true rfl⟩ ?_
  refine am_eqh (h' := (Sn 144 4498 ((131, .inr (7, [.int (0 : Int32), .int (0 : Int32), .int (0 : Int32), .int (0 : Int32), .ref 132, .ref 133, .ref 134, .ref 135, .ref 136, .ref 137, .ref 138, .ref 139, .ref 140, .ref 141, .ref 142, .null, .null])) :: ov))) (Sn_n.trans (Sn_f (Sf_drop (((Sf_ne (a := 131) (k := 143) (by decide)).trans (hov 143 (by decide))).trans rfl)))) ?_
  refine am_putF f_7_58 rfl rfl rfl rfl (Nat.le_of_ble_eq_true rfl) rfl (by decide) (fun _ _ => ⟨rfl, rfl⟩) ?_
  refine am_eqh (h' := (Sn 144 4498 ((131, .inr (7, [.int (0 : Int32), .int (0 : Int32), .int (0 : Int32), .int (0 : Int32), .ref 132, .ref 133, .ref 134, .ref 135, .ref 136, .ref 137, .ref 138, .ref 139, .ref 140, .ref 141, .ref 142, .ref 143, .null])) :: ov))) (Sn_u.trans (Sn_f Sf_hide)) ?_
  refine am_aload_n rfl rfl ?_
  refine x_bipush (v := (60 : Int32)) rfl (by decide) ?_
  refine am_newI ar_int (by decide) (N := 60) (by decide) (by decide) rfl ⟨Nat.le_of_ble_eq_true rfl, Nat.le_of_ble_eq_true rfl⟩ ?_
  refine am_eqh (h' := (Sn 145 4558 ((131, .inr (7, [.int (0 : Int32), .int (0 : Int32), .int (0 : Int32), .int (0 : Int32), .ref 132, .ref 133, .ref 134, .ref 135, .ref 136, .ref 137, .ref 138, .ref 139, .ref 140, .ref 141, .ref 142, .ref 143, .null])) :: ov))) (Sn_n.trans (Sn_f (Sf_drop (((Sf_ne (a := 131) (k := 144) (by decide)).trans (hov 144 (by decide))).trans rfl)))) ?_
  refine am_putF f_7_61 rfl rfl rfl rfl (Nat.le_of_ble_eq_true rfl) rfl (by decide) (fun _ _ => ⟨rfl, rfl⟩) ?_
  refine am_eqh (h' := (Sn 145 4558 ((131, .inr (7, [.int (0 : Int32), .int (0 : Int32), .int (0 : Int32), .int (0 : Int32), .ref 132, .ref 133, .ref 134, .ref 135, .ref 136, .ref 137, .ref 138, .ref 139, .ref 140, .ref 141, .ref 142, .ref 143, .ref 144])) :: ov))) (Sn_u.trans (Sn_f Sf_hide)) ?_
  refine am_eqh (h' := (Sn 145 4558 (ov))) (Sn_f (Sf_drop ((hov 131 (by decide)).trans rfl))) ?_
  exact am_vret rfl rfl rfl rfl K
set_option maxHeartbeats 4000000 in
set_option maxRecDepth 100000 in
theorem z_X7_init_145 (ov : List (Nat × va_E)) (hov : ∀ k, 145 ≤ k → S_f ov k = hp g0 k) {post : Int32 → am_H → Prop} (K : post 0 (Sn 159 4992 ov)) : am_X m_X7_init 1 13 417 [.ref 145] (Sn 146 4575 ((145, .inr (7, [.int (0 : Int32), .int (0 : Int32), .int (0 : Int32), .int (0 : Int32), .null, .null, .null, .null, .null, .null, .null, .null, .null, .null, .null, .null, .null])) :: ov)) post := by
  refine am_X_of ok_X7_init pn_7 rfl (by decide) (Or.inl rfl) (List.forall_mem_cons.mpr ⟨rfl, fun _ h => absurd h List.not_mem_nil⟩) (Nat.le_of_ble_eq_true rfl) ?_
  show am_V m_X7_init (0, fun _ => 0) 1 13 417 146 4575 post 0 [some (.ref 145)] [] (Sn 146 4575 ((145, .inr (7, [.int (0 : Int32), .int (0 : Int32), .int (0 : Int32), .int (0 : Int32), .null, .null, .null, .null, .null, .null, .null, .null, .null, .null, .null, .null, .null])) :: ov))
  refine am_aload_n rfl rfl ?_
  refine am_obj j_7_3 ob_ins ob_cod rfl (Nat.le_of_ble_eq_true rfl) (fun _ _ => Nat.le_of_ble_eq_true rfl) ?_
  refine am_aload_n rfl rfl ?_
  refine x_iconst (v := (0 : Int32)) rfl (by decide) ?_
  refine am_put f_7_9 rfl rfl (Nat.le_of_ble_eq_true rfl) rfl (by decide) (fun _ _ => ⟨rfl, rfl⟩) ?_
  refine am_eqh (h' := (Sn 146 4575 ((145, .inr (7, [.int (0 : Int32), .int (0 : Int32), .int (0 : Int32), .int (0 : Int32), .null, .null, .null, .null, .null, .null, .null, .null, .null, .null, .null, .null, .null])) :: ov))) (Sn_u.trans (Sn_f Sf_hide)) ?_
  refine am_aload_n rfl rfl ?_
  refine x_iconst (v := (0 : Int32)) rfl (by decide) ?_
  refine am_put f_7_15 rfl rfl (Nat.le_of_ble_eq_true rfl) rfl (by decide) (fun _ _ => ⟨rfl, rfl⟩) ?_
  refine am_eqh (h' := (Sn 146 4575 ((145, .inr (7, [.int (0 : Int32), .int (0 : Int32), .int (0 : Int32), .int (0 : Int32), .null, .null, .null, .null, .null, .null, .null, .null, .null, .null, .null, .null, .null])) :: ov))) (Sn_u.trans (Sn_f Sf_hide)) ?_
  refine am_aload_n rfl rfl ?_
  refine x_iconst (v := (0 : Int32)) rfl (by decide) ?_
  refine am_put f_7_18 rfl rfl (Nat.le_of_ble_eq_true rfl) rfl (by decide) (fun _ _ => ⟨rfl, rfl⟩) ?_
  refine am_eqh (h' := (Sn 146 4575 ((145, .inr (7, [.int (0 : Int32), .int (0 : Int32), .int (0 : Int32), .int (0 : Int32), .null, .null, .null, .null, .null, .null, .null, .null, .null, .null, .null, .null, .null])) :: ov))) (Sn_u.trans (Sn_f Sf_hide)) ?_
  refine am_aload_n rfl rfl ?_
  refine x_iconst (v := (0 : Int32)) rfl (by decide) ?_
  refine am_put f_7_21 rfl rfl (Nat.le_of_ble_eq_true rfl) rfl (by decide) (fun _ _ => ⟨rfl, rfl⟩) ?_
  refine am_eqh (h' := (Sn 146 4575 ((145, .inr (7, [.int (0 : Int32), .int (0 : Int32), .int (0 : Int32), .int (0 : Int32), .null, .null, .null, .null, .null, .null, .null, .null, .null, .null, .null, .null, .null])) :: ov))) (Sn_u.trans (Sn_f Sf_hide)) ?_
  refine am_aload_n rfl rfl ?_
  refine x_bipush (v := (10 : Int32)) rfl (by decide) ?_
  refine am_newI ar_int (by decide) (N := 10) (by decide) (by decide) rfl ⟨Nat.le_of_ble_eq_true rfl, Nat.le_of_ble_eq_true rfl⟩ ?_
  refine am_eqh (h' := (Sn 147 4585 ((145, .inr (7, [.int (0 : Int32), .int (0 : Int32), .int (0 : Int32), .int (0 : Int32), .null, .null, .null, .null, .null, .null, .null, .null, .null, .null, .null, .null, .null])) :: ov))) (Sn_n.trans (Sn_f (Sf_drop (((Sf_ne (a := 145) (k := 146) (by decide)).trans (hov 146 (by decide))).trans rfl)))) ?_
  refine am_putF f_7_24 rfl rfl rfl rfl (Nat.le_of_ble_eq_true rfl) rfl (by decide) (fun _ _ => ⟨rfl, rfl⟩) ?_
  refine am_eqh (h' := (Sn 147 4585 ((145, .inr (7, [.int (0 : Int32), .int (0 : Int32), .int (0 : Int32), .int (0 : Int32), .ref 146, .null, .null, .null, .null, .null, .null, .null, .null, .null, .null, .null, .null])) :: ov))) (Sn_u.trans (Sn_f Sf_hide)) ?_
  refine am_aload_n rfl rfl ?_
  refine x_bipush (v := (24 : Int32)) rfl (by decide) ?_
  refine am_newI ar_int (by decide) (N := 24) (by decide) (by decide) rfl ⟨Nat.le_of_ble_eq_true rfl, Nat.le_of_ble_eq_true rfl⟩ ?_
  refine am_eqh (h' := (Sn 148 4609 ((145, .inr (7, [.int (0 : Int32), .int (0 : Int32), .int (0 : Int32), .int (0 : Int32), .ref 146, .null, .null, .null, .null, .null, .null, .null, .null, .null, .null, .null, .null])) :: ov))) (Sn_n.trans (Sn_f (Sf_drop (((Sf_ne (a := 145) (k := 147) (by decide)).trans (hov 147 (by decide))).trans rfl)))) ?_
  refine am_putF f_7_28 rfl rfl rfl rfl (Nat.le_of_ble_eq_true rfl) rfl (by decide) (fun _ _ => ⟨rfl, rfl⟩) ?_
  refine am_eqh (h' := (Sn 148 4609 ((145, .inr (7, [.int (0 : Int32), .int (0 : Int32), .int (0 : Int32), .int (0 : Int32), .ref 146, .ref 147, .null, .null, .null, .null, .null, .null, .null, .null, .null, .null, .null])) :: ov))) (Sn_u.trans (Sn_f Sf_hide)) ?_
  refine am_aload_n rfl rfl ?_
  refine x_iconst (v := (5 : Int32)) rfl (by decide) ?_
  refine am_newI ar_int (by decide) (N := 5) (by decide) (by decide) rfl ⟨Nat.le_of_ble_eq_true rfl, Nat.le_of_ble_eq_true rfl⟩ ?_
  refine am_eqh (h' := (Sn 149 4614 ((145, .inr (7, [.int (0 : Int32), .int (0 : Int32), .int (0 : Int32), .int (0 : Int32), .ref 146, .ref 147, .null, .null, .null, .null, .null, .null, .null, .null, .null, .null, .null])) :: ov))) (Sn_n.trans (Sn_f (Sf_drop (((Sf_ne (a := 145) (k := 148) (by decide)).trans (hov 148 (by decide))).trans rfl)))) ?_
  refine am_putF f_7_31 rfl rfl rfl rfl (Nat.le_of_ble_eq_true rfl) rfl (by decide) (fun _ _ => ⟨rfl, rfl⟩) ?_
  refine am_eqh (h' := (Sn 149 4614 ((145, .inr (7, [.int (0 : Int32), .int (0 : Int32), .int (0 : Int32), .int (0 : Int32), .ref 146, .ref 147, .ref 148, .null, .null, .null, .null, .null, .null, .null, .null, .null, .null])) :: ov))) (Sn_u.trans (Sn_f Sf_hide)) ?_
  refine am_aload_n rfl rfl ?_
  refine x_bipush (v := (6 : Int32)) rfl (by decide) ?_
  refine am_newI ar_int (by decide) (N := 6) (by decide) (by decide) rfl ⟨Nat.le_of_ble_eq_true rfl, Nat.le_of_ble_eq_true rfl⟩ ?_
  refine am_eqh (h' := (Sn 150 4620 ((145, .inr (7, [.int (0 : Int32), .int (0 : Int32), .int (0 : Int32), .int (0 : Int32), .ref 146, .ref 147, .ref 148, .null, .null, .null, .null, .null, .null, .null, .null, .null, .null])) :: ov))) (Sn_n.trans (Sn_f (Sf_drop (((Sf_ne (a := 145) (k := 149) (by decide)).trans (hov 149 (by decide))).trans rfl)))) ?_
  refine am_putF f_7_34 rfl rfl rfl rfl (Nat.le_of_ble_eq_true rfl) rfl (by decide) (fun _ _ => ⟨rfl, rfl⟩) ?_
  refine am_eqh (h' := (Sn 150 4620 ((145, .inr (7, [.int (0 : Int32), .int (0 : Int32), .int (0 : Int32), .int (0 : Int32), .ref 146, .ref 147, .ref 148, .ref 149, .null, .null, .null, .null, .null, .null, .null, .null, .null])) :: ov))) (Sn_u.trans (Sn_f Sf_hide)) ?_
  refine am_aload_n rfl rfl ?_
  refine x_bipush (v := (6 : Int32)) rfl (by decide) ?_
  refine am_newI ar_int (by decide) (N := 6) (by decide) (by decide) rfl ⟨Nat.le_of_ble_eq_true rfl, Nat.le_of_ble_eq_true rfl⟩ ?_
  refine am_eqh (h' := (Sn 151 4626 ((145, .inr (7, [.int (0 : Int32), .int (0 : Int32), .int (0 : Int32), .int (0 : Int32), .ref 146, .ref 147, .ref 148, .ref 149, .null, .null, .null, .null, .null, .null, .null, .null, .null])) :: ov))) (Sn_n.trans (Sn_f (Sf_drop (((Sf_ne (a := 145) (k := 150) (by decide)).trans (hov 150 (by decide))).trans rfl)))) ?_
  refine am_putF f_7_37 rfl rfl rfl rfl (Nat.le_of_ble_eq_true rfl) rfl (by decide) (fun _ _ => ⟨rfl, rfl⟩) ?_
  refine am_eqh (h' := (Sn 151 4626 ((145, .inr (7, [.int (0 : Int32), .int (0 : Int32), .int (0 : Int32), .int (0 : Int32), .ref 146, .ref 147, .ref 148, .ref 149, .ref 150, .null, .null, .null, .null, .null, .null, .null, .null])) :: ov))) (Sn_u.trans (Sn_f Sf_hide)) ?_
  refine am_aload_n rfl rfl ?_
  refine x_bipush (v := (6 : Int32)) rfl (by decide) ?_
  refine am_newI ar_int (by decide) (N := 6) (by decide) (by decide) rfl ⟨Nat.le_of_ble_eq_true rfl, Nat.le_of_ble_eq_true rfl⟩ ?_
  refine am_eqh (h' := (Sn 152 4632 ((145, .inr (7, [.int (0 : Int32), .int (0 : Int32), .int (0 : Int32), .int (0 : Int32), .ref 146, .ref 147, .ref 148, .ref 149, .ref 150, .null, .null, .null, .null, .null, .null, .null, .null])) :: ov))) (Sn_n.trans (Sn_f (Sf_drop (((Sf_ne (a := 145) (k := 151) (by decide)).trans (hov 151 (by decide))).trans rfl)))) ?_
  refine am_putF f_7_40 rfl rfl rfl rfl (Nat.le_of_ble_eq_true rfl) rfl (by decide) (fun _ _ => ⟨rfl, rfl⟩) ?_
  refine am_eqh (h' := (Sn 152 4632 ((145, .inr (7, [.int (0 : Int32), .int (0 : Int32), .int (0 : Int32), .int (0 : Int32), .ref 146, .ref 147, .ref 148, .ref 149, .ref 150, .ref 151, .null, .null, .null, .null, .null, .null, .null])) :: ov))) (Sn_u.trans (Sn_f Sf_hide)) ?_
  refine am_aload_n rfl rfl ?_
  refine x_bipush (v := (30 : Int32)) rfl (by decide) ?_
  refine am_newI ar_int (by decide) (N := 30) (by decide) (by decide) rfl ⟨Nat.le_of_ble_eq_true rfl, Nat.le_of_ble_eq_true rfl⟩ ?_
  refine am_eqh (h' := (Sn 153 4662 ((145, .inr (7, [.int (0 : Int32), .int (0 : Int32), .int (0 : Int32), .int (0 : Int32), .ref 146, .ref 147, .ref 148, .ref 149, .ref 150, .ref 151, .null, .null, .null, .null, .null, .null, .null])) :: ov))) (Sn_n.trans (Sn_f (Sf_drop (((Sf_ne (a := 145) (k := 152) (by decide)).trans (hov 152 (by decide))).trans rfl)))) ?_
  refine am_putF f_7_43 rfl rfl rfl rfl (Nat.le_of_ble_eq_true rfl) rfl (by decide) (fun _ _ => ⟨rfl, rfl⟩) ?_
  refine am_eqh (h' := (Sn 153 4662 ((145, .inr (7, [.int (0 : Int32), .int (0 : Int32), .int (0 : Int32), .int (0 : Int32), .ref 146, .ref 147, .ref 148, .ref 149, .ref 150, .ref 151, .ref 152, .null, .null, .null, .null, .null, .null])) :: ov))) (Sn_u.trans (Sn_f Sf_hide)) ?_
  refine am_aload_n rfl rfl ?_
  refine x_bipush (v := (30 : Int32)) rfl (by decide) ?_
  refine am_newI ar_int (by decide) (N := 30) (by decide) (by decide) rfl ⟨Nat.le_of_ble_eq_true rfl, Nat.le_of_ble_eq_true rfl⟩ ?_
  refine am_eqh (h' := (Sn 154 4692 ((145, .inr (7, [.int (0 : Int32), .int (0 : Int32), .int (0 : Int32), .int (0 : Int32), .ref 146, .ref 147, .ref 148, .ref 149, .ref 150, .ref 151, .ref 152, .null, .null, .null, .null, .null, .null])) :: ov))) (Sn_n.trans (Sn_f (Sf_drop (((Sf_ne (a := 145) (k := 153) (by decide)).trans (hov 153 (by decide))).trans rfl)))) ?_
  refine am_putF f_7_46 rfl rfl rfl rfl (Nat.le_of_ble_eq_true rfl) rfl (by decide) (fun _ _ => ⟨rfl, rfl⟩) ?_
  refine am_eqh (h' := (Sn 154 4692 ((145, .inr (7, [.int (0 : Int32), .int (0 : Int32), .int (0 : Int32), .int (0 : Int32), .ref 146, .ref 147, .ref 148, .ref 149, .ref 150, .ref 151, .ref 152, .ref 153, .null, .null, .null, .null, .null])) :: ov))) (Sn_u.trans (Sn_f Sf_hide)) ?_
  refine am_aload_n rfl rfl ?_
  refine x_bipush (v := (60 : Int32)) rfl (by decide) ?_
  refine am_newI ar_int (by decide) (N := 60) (by decide) (by decide) rfl ⟨Nat.le_of_ble_eq_true rfl, Nat.le_of_ble_eq_true rfl⟩ ?_
  refine am_eqh (h' := (Sn 155 4752 ((145, .inr (7, [.int (0 : Int32), .int (0 : Int32), .int (0 : Int32), .int (0 : Int32), .ref 146, .ref 147, .ref 148, .ref 149, .ref 150, .ref 151, .ref 152, .ref 153, .null, .null, .null, .null, .null])) :: ov))) (Sn_n.trans (Sn_f (Sf_drop (((Sf_ne (a := 145) (k := 154) (by decide)).trans (hov 154 (by decide))).trans rfl)))) ?_
  refine am_putF f_7_49 rfl rfl rfl rfl (Nat.le_of_ble_eq_true rfl) rfl (by decide) (fun _ _ => ⟨rfl, rfl⟩) ?_
  refine am_eqh (h' := (Sn 155 4752 ((145, .inr (7, [.int (0 : Int32), .int (0 : Int32), .int (0 : Int32), .int (0 : Int32), .ref 146, .ref 147, .ref 148, .ref 149, .ref 150, .ref 151, .ref 152, .ref 153, .ref 154, .null, .null, .null, .null])) :: ov))) (Sn_u.trans (Sn_f Sf_hide)) ?_
  refine am_aload_n rfl rfl ?_
  refine x_bipush (v := (60 : Int32)) rfl (by decide) ?_
  refine am_newI ar_int (by decide) (N := 60) (by decide) (by decide) rfl ⟨Nat.le_of_ble_eq_true rfl, Nat.le_of_ble_eq_true rfl⟩ ?_
  refine am_eqh (h' := (Sn 156 4812 ((145, .inr (7, [.int (0 : Int32), .int (0 : Int32), .int (0 : Int32), .int (0 : Int32), .ref 146, .ref 147, .ref 148, .ref 149, .ref 150, .ref 151, .ref 152, .ref 153, .ref 154, .null, .null, .null, .null])) :: ov))) (Sn_n.trans (Sn_f (Sf_drop (((Sf_ne (a := 145) (k := 155) (by decide)).trans (hov 155 (by decide))).trans rfl)))) ?_
  refine am_putF f_7_52 rfl rfl rfl rfl (Nat.le_of_ble_eq_true rfl) rfl (by decide) (fun _ _ => ⟨rfl, rfl⟩) ?_
  refine am_eqh (h' := (Sn 156 4812 ((145, .inr (7, [.int (0 : Int32), .int (0 : Int32), .int (0 : Int32), .int (0 : Int32), .ref 146, .ref 147, .ref 148, .ref 149, .ref 150, .ref 151, .ref 152, .ref 153, .ref 154, .ref 155, .null, .null, .null])) :: ov))) (Sn_u.trans (Sn_f Sf_hide)) ?_
  refine am_aload_n rfl rfl ?_
  refine x_bipush (v := (60 : Int32)) rfl (by decide) ?_
  refine am_newI ar_int (by decide) (N := 60) (by decide) (by decide) rfl ⟨Nat.le_of_ble_eq_true rfl, Nat.le_of_ble_eq_true rfl⟩ ?_
  refine am_eqh (h' := (Sn 157 4872 ((145, .inr (7, [.int (0 : Int32), .int (0 : Int32), .int (0 : Int32), .int (0 : Int32), .ref 146, .ref 147, .ref 148, .ref 149, .ref 150, .ref 151, .ref 152, .ref 153, .ref 154, .ref 155, .null, .null, .null])) :: ov))) (Sn_n.trans (Sn_f (Sf_drop (((Sf_ne (a := 145) (k := 156) (by decide)).trans (hov 156 (by decide))).trans rfl)))) ?_
  refine am_putF f_7_55 rfl rfl rfl rfl (Nat.le_of_ble_eq_true rfl) rfl (by decide) (fun _ _ => ⟨rfl, rfl⟩) ?_
  refine am_eqh (h' := (Sn 157 4872 ((145, .inr (7, [.int (0 : Int32), .int (0 : Int32), .int (0 : Int32), .int (0 : Int32), .ref 146, .ref 147, .ref 148, .ref 149, .ref 150, .ref 151, .ref 152, .ref 153, .ref 154, .ref 155, .ref 156, .null, .null])) :: ov))) (Sn_u.trans (Sn_f Sf_hide)) ?_
  refine am_aload_n rfl rfl ?_
  refine x_bipush (v := (60 : Int32)) rfl (by decide) ?_
  refine am_newI ar_int (by decide) (N := 60) (by decide) (by decide) rfl ⟨Nat.le_of_ble_eq_true rfl, Nat.le_of_ble_eq_true rfl⟩ ?_
  refine am_eqh (h' := (Sn 158 4932 ((145, .inr (7, [.int (0 : Int32), .int (0 : Int32), .int (0 : Int32), .int (0 : Int32), .ref 146, .ref 147, .ref 148, .ref 149, .ref 150, .ref 151, .ref 152, .ref 153, .ref 154, .ref 155, .ref 156, .null, .null])) :: ov))) (Sn_n.trans (Sn_f (Sf_drop (((Sf_ne (a := 145) (k := 157) (by decide)).trans (hov 157 (by decide))).trans rfl)))) ?_
  refine am_putF f_7_58 rfl rfl rfl rfl (Nat.le_of_ble_eq_true rfl) rfl (by decide) (fun _ _ => ⟨rfl, rfl⟩) ?_
  refine am_eqh (h' := (Sn 158 4932 ((145, .inr (7, [.int (0 : Int32), .int (0 : Int32), .int (0 : Int32), .int (0 : Int32), .ref 146, .ref 147, .ref 148, .ref 149, .ref 150, .ref 151, .ref 152, .ref 153, .ref 154, .ref 155, .ref 156, .ref 157, .null])) :: ov))) (Sn_u.trans (Sn_f Sf_hide)) ?_
  refine am_aload_n rfl rfl ?_
  refine x_bipush (v := (60 : Int32)) rfl (by decide) ?_
  refine am_newI ar_int (by decide) (N := 60) (by decide) (by decide) rfl ⟨Nat.le_of_ble_eq_true rfl, Nat.le_of_ble_eq_true rfl⟩ ?_
  refine am_eqh (h' := (Sn 159 4992 ((145, .inr (7, [.int (0 : Int32), .int (0 : Int32), .int (0 : Int32), .int (0 : Int32), .ref 146, .ref 147, .ref 148, .ref 149, .ref 150, .ref 151, .ref 152, .ref 153, .ref 154, .ref 155, .ref 156, .ref 157, .null])) :: ov))) (Sn_n.trans (Sn_f (Sf_drop (((Sf_ne (a := 145) (k := 158) (by decide)).trans (hov 158 (by decide))).trans rfl)))) ?_
  refine am_putF f_7_61 rfl rfl rfl rfl (Nat.le_of_ble_eq_true rfl) rfl (by decide) (fun _ _ => ⟨rfl, rfl⟩) ?_
  refine am_eqh (h' := (Sn 159 4992 ((145, .inr (7, [.int (0 : Int32), .int (0 : Int32), .int (0 : Int32), .int (0 : Int32), .ref 146, .ref 147, .ref 148, .ref 149, .ref 150, .ref 151, .ref 152, .ref 153, .ref 154, .ref 155, .ref 156, .ref 157, .ref 158])) :: ov))) (Sn_u.trans (Sn_f Sf_hide)) ?_
  refine am_eqh (h' := (Sn 159 4992 (ov))) (Sn_f (Sf_drop ((hov 145 (by decide)).trans rfl))) ?_
  exact am_vret rfl rfl rfl rfl K
theorem rf_13 : hp g0 13 = .inl (2, 4, .inr (.inr (.inr (.inr (va_up (va_up (va_up (va_up (fun _ => none) 0 (some 47)) 1 (some 75)) 2 (some 103)) 3 (some 131)))))) := congrArg (fun f => (Sum.inl (2, 4, Sum.inr (Sum.inr (Sum.inr (Sum.inr f)))) : va_E)) (funext fun j => by
  match j with
  | 0 => rfl
  | 1 => rfl
  | 2 => rfl
  | 3 => rfl
  | j + 4 => simp [va_up])
theorem rf_14 : hp g0 14 = .inl (2, 4, .inr (.inr (.inr (.inr (va_up (va_up (va_up (va_up (fun _ => none) 0 (some 61)) 1 (some 89)) 2 (some 117)) 3 (some 145)))))) := congrArg (fun f => (Sum.inl (2, 4, Sum.inr (Sum.inr (Sum.inr (Sum.inr f)))) : va_E)) (funext fun j => by
  match j with
  | 0 => rfl
  | 1 => rfl
  | 2 => rfl
  | 3 => rfl
  | j + 4 => simp [va_up])
set_option maxHeartbeats 4000000 in
set_option maxRecDepth 100000 in
theorem z_X8_init_0 (ov : List (Nat × va_E)) (hov : ∀ k, 0 ≤ k → S_f ov k = hp g0 k) {post : Int32 → am_H → Prop} (K : post 0 (Sn 159 4992 ov)) : am_X m_X8_init 2 158 4977 [.ref 0] (Sn 1 15 ((0, .inr (8, [.null, .null, .null, .null, .null, .null, .null, .null, .null, .null, .null, .int (0 : Int32), .int (0 : Int32), .int (0 : Int32), .int (0 : Int32)])) :: ov)) post := by
  refine am_X_of ok_X8_init pn_8 rfl (by decide) (Or.inl rfl) (List.forall_mem_cons.mpr ⟨rfl, fun _ h => absurd h List.not_mem_nil⟩) (Nat.le_of_ble_eq_true rfl) ?_
  show am_V m_X8_init (0, fun _ => 0) 2 158 4977 1 15 post 0 [some (.ref 0), none] [] (Sn 1 15 ((0, .inr (8, [.null, .null, .null, .null, .null, .null, .null, .null, .null, .null, .null, .int (0 : Int32), .int (0 : Int32), .int (0 : Int32), .int (0 : Int32)])) :: ov))
  refine am_aload_n rfl rfl ?_
  refine am_obj j_8_1 ob_ins ob_cod rfl (Nat.le_of_ble_eq_true rfl) (fun _ _ => Nat.le_of_ble_eq_true rfl) ?_
  refine am_aload_n rfl rfl ?_
  refine am_new (fs := [.null, .int (0 : Int32), .int (0 : Int32)]) rfl q_8_7 in_1 ini_1 (fun _ _ => df_1) rfl ⟨Nat.le_of_ble_eq_true rfl, Nat.le_of_ble_eq_true rfl⟩ ?_
  refine am_eqh (h' := (Sn 2 18 ((1, .inr (1, [.null, .int (0 : Int32), .int (0 : Int32)])) :: (0, .inr (8, [.null, .null, .null, .null, .null, .null, .null, .null, .null, .null, .null, .int (0 : Int32), .int (0 : Int32), .int (0 : Int32), .int (0 : Int32)])) :: ov))) Sn_n ?_
  refine am_dup rfl rfl ?_
  refine am_callN (As := []) (mc' := 1) (ms' := 200) n_8_9 rfl rfl rfl (d' := 1) (Nat.le_of_ble_eq_true rfl) (fun _ _ => Nat.le_of_ble_eq_true rfl) ⟨Nat.le_of_ble_eq_true rfl, Nat.le_of_ble_eq_true rfl⟩ (z_X1_init_1 ((0, .inr (8, [.null, .null, .null, .null, .null, .null, .null, .null, .null, .null, .null, .int (0 : Int32), .int (0 : Int32), .int (0 : Int32), .int (0 : Int32)])) :: ov) (fun k hk => ((Sf_ne (a := 0) (k := k) (by omega)).trans (hov k (by omega)))) ?_)
  refine am_putF f_8_10 rfl rfl rfl rfl (Nat.le_of_ble_eq_true rfl) rfl (by decide) (fun _ _ => ⟨rfl, rfl⟩) ?_
  refine am_eqh (h' := (Sn 3 218 ((0, .inr (8, [.ref 1, .null, .null, .null, .null, .null, .null, .null, .null, .null, .null, .int (0 : Int32), .int (0 : Int32), .int (0 : Int32), .int (0 : Int32)])) :: ov))) (Sn_u.trans (Sn_f Sf_hide)) ?_
  refine am_aload_n rfl rfl ?_
  refine am_new (fs := [.null, .null, .null, .null, .int (0 : Int32)]) rfl q_8_16 in_5 ini_5 (fun _ _ => df_5) rfl ⟨Nat.le_of_ble_eq_true rfl, Nat.le_of_ble_eq_true rfl⟩ ?_
  refine am_eqh (h' := (Sn 4 223 ((3, .inr (5, [.null, .null, .null, .null, .int (0 : Int32)])) :: (0, .inr (8, [.ref 1, .null, .null, .null, .null, .null, .null, .null, .null, .null, .null, .int (0 : Int32), .int (0 : Int32), .int (0 : Int32), .int (0 : Int32)])) :: ov))) Sn_n ?_
  refine am_dup rfl rfl ?_
  refine am_callN (As := []) (mc' := 4) (ms' := 168) n_8_18 rfl rfl rfl (d' := 1) (Nat.le_of_ble_eq_true rfl) (fun _ _ => Nat.le_of_ble_eq_true rfl) ⟨Nat.le_of_ble_eq_true rfl, Nat.le_of_ble_eq_true rfl⟩ (z_X5_init_3 ((0, .inr (8, [.ref 1, .null, .null, .null, .null, .null, .null, .null, .null, .null, .null, .int (0 : Int32), .int (0 : Int32), .int (0 : Int32), .int (0 : Int32)])) :: ov) (fun k hk => ((Sf_ne (a := 0) (k := k) (by omega)).trans (hov k (by omega)))) ?_)
  refine am_putF f_8_19 rfl rfl rfl rfl (Nat.le_of_ble_eq_true rfl) rfl (by decide) (fun _ _ => ⟨rfl, rfl⟩) ?_
  refine am_eqh (h' := (Sn 8 391 ((0, .inr (8, [.ref 1, .ref 3, .null, .null, .null, .null, .null, .null, .null, .null, .null, .int (0 : Int32), .int (0 : Int32), .int (0 : Int32), .int (0 : Int32)])) :: ov))) (Sn_u.trans (Sn_f Sf_hide)) ?_
  refine am_aload_n rfl rfl ?_
  refine am_new (fs := [.null, .null, .null, .null, .int (0 : Int32)]) rfl q_8_16 in_5 ini_5 (fun _ _ => df_5) rfl ⟨Nat.le_of_ble_eq_true rfl, Nat.le_of_ble_eq_true rfl⟩ ?_
  refine am_eqh (h' := (Sn 9 396 ((8, .inr (5, [.null, .null, .null, .null, .int (0 : Int32)])) :: (0, .inr (8, [.ref 1, .ref 3, .null, .null, .null, .null, .null, .null, .null, .null, .null, .int (0 : Int32), .int (0 : Int32), .int (0 : Int32), .int (0 : Int32)])) :: ov))) Sn_n ?_
  refine am_dup rfl rfl ?_
  refine am_callN (As := []) (mc' := 4) (ms' := 168) n_8_18 rfl rfl rfl (d' := 1) (Nat.le_of_ble_eq_true rfl) (fun _ _ => Nat.le_of_ble_eq_true rfl) ⟨Nat.le_of_ble_eq_true rfl, Nat.le_of_ble_eq_true rfl⟩ (z_X5_init_8 ((0, .inr (8, [.ref 1, .ref 3, .null, .null, .null, .null, .null, .null, .null, .null, .null, .int (0 : Int32), .int (0 : Int32), .int (0 : Int32), .int (0 : Int32)])) :: ov) (fun k hk => ((Sf_ne (a := 0) (k := k) (by omega)).trans (hov k (by omega)))) ?_)
  refine am_putF f_8_23 rfl rfl rfl rfl (Nat.le_of_ble_eq_true rfl) rfl (by decide) (fun _ _ => ⟨rfl, rfl⟩) ?_
  refine am_eqh (h' := (Sn 13 564 ((0, .inr (8, [.ref 1, .ref 3, .ref 8, .null, .null, .null, .null, .null, .null, .null, .null, .int (0 : Int32), .int (0 : Int32), .int (0 : Int32), .int (0 : Int32)])) :: ov))) (Sn_u.trans (Sn_f Sf_hide)) ?_
  refine am_aload_n rfl rfl ?_
  refine x_iconst (v := (4 : Int32)) rfl (by decide) ?_
  refine am_newQ q_8_26 (by decide) (N := 4) (by decide) (by decide) rfl ⟨Nat.le_of_ble_eq_true rfl, Nat.le_of_ble_eq_true rfl⟩ ?_
  refine am_eqh (h' := (Sn 14 568 ((0, .inr (8, [.ref 1, .ref 3, .ref 8, .null, .null, .null, .null, .null, .null, .null, .null, .int (0 : Int32), .int (0 : Int32), .int (0 : Int32), .int (0 : Int32)])) :: (13, .inl (2, 4, .inr (.inr (.inr (.inr (fun _ => none)))))) :: ov))) (Sn_n.trans (Sn_f (Sf_swap (by decide)))) ?_
  refine am_putF f_8_28 rfl rfl rfl rfl (Nat.le_of_ble_eq_true rfl) rfl (by decide) (fun _ _ => ⟨rfl, rfl⟩) ?_
  refine am_eqh (h' := (Sn 14 568 ((0, .inr (8, [.ref 1, .ref 3, .ref 8, .ref 13, .null, .null, .null, .null, .null, .null, .null, .int (0 : Int32), .int (0 : Int32), .int (0 : Int32), .int (0 : Int32)])) :: (13, .inl (2, 4, .inr (.inr (.inr (.inr (fun _ => none)))))) :: ov))) (Sn_u.trans (Sn_f Sf_hide)) ?_
  refine am_aload_n rfl rfl ?_
  refine x_iconst (v := (4 : Int32)) rfl (by decide) ?_
  refine am_newQ q_8_26 (by decide) (N := 4) (by decide) (by decide) rfl ⟨Nat.le_of_ble_eq_true rfl, Nat.le_of_ble_eq_true rfl⟩ ?_
  refine am_eqh (h' := (Sn 15 572 ((0, .inr (8, [.ref 1, .ref 3, .ref 8, .ref 13, .null, .null, .null, .null, .null, .null, .null, .int (0 : Int32), .int (0 : Int32), .int (0 : Int32), .int (0 : Int32)])) :: (14, .inl (2, 4, .inr (.inr (.inr (.inr (fun _ => none)))))) :: (13, .inl (2, 4, .inr (.inr (.inr (.inr (fun _ => none)))))) :: ov))) (Sn_n.trans (Sn_f (Sf_swap (by decide)))) ?_
  refine am_putF f_8_32 rfl rfl rfl rfl (Nat.le_of_ble_eq_true rfl) rfl (by decide) (fun _ _ => ⟨rfl, rfl⟩) ?_
  refine am_eqh (h' := (Sn 15 572 ((0, .inr (8, [.ref 1, .ref 3, .ref 8, .ref 13, .ref 14, .null, .null, .null, .null, .null, .null, .int (0 : Int32), .int (0 : Int32), .int (0 : Int32), .int (0 : Int32)])) :: (14, .inl (2, 4, .inr (.inr (.inr (.inr (fun _ => none)))))) :: (13, .inl (2, 4, .inr (.inr (.inr (.inr (fun _ => none)))))) :: ov))) (Sn_u.trans (Sn_f Sf_hide)) ?_
  refine am_aload_n rfl rfl ?_
  refine am_new (fs := [.null, .null, .null, .null, .null, .null, .null, .null, .null, .null, .null]) rfl q_8_35 in_6 ini_6 (fun _ _ => df_6) rfl ⟨Nat.le_of_ble_eq_true rfl, Nat.le_of_ble_eq_true rfl⟩ ?_
  refine am_eqh (h' := (Sn 16 583 ((15, .inr (6, [.null, .null, .null, .null, .null, .null, .null, .null, .null, .null, .null])) :: (0, .inr (8, [.ref 1, .ref 3, .ref 8, .ref 13, .ref 14, .null, .null, .null, .null, .null, .null, .int (0 : Int32), .int (0 : Int32), .int (0 : Int32), .int (0 : Int32)])) :: (14, .inl (2, 4, .inr (.inr (.inr (.inr (fun _ => none)))))) :: (13, .inl (2, 4, .inr (.inr (.inr (.inr (fun _ => none)))))) :: ov))) Sn_n ?_
  refine am_dup rfl rfl ?_
  refine am_callN (As := []) (mc' := 11) (ms' := 256) n_8_37 rfl rfl rfl (d' := 1) (Nat.le_of_ble_eq_true rfl) (fun _ _ => Nat.le_of_ble_eq_true rfl) ⟨Nat.le_of_ble_eq_true rfl, Nat.le_of_ble_eq_true rfl⟩ (z_X6_init_15 ((0, .inr (8, [.ref 1, .ref 3, .ref 8, .ref 13, .ref 14, .null, .null, .null, .null, .null, .null, .int (0 : Int32), .int (0 : Int32), .int (0 : Int32), .int (0 : Int32)])) :: (14, .inl (2, 4, .inr (.inr (.inr (.inr (fun _ => none)))))) :: (13, .inl (2, 4, .inr (.inr (.inr (.inr (fun _ => none)))))) :: ov) (fun k hk => ((Sf_ne (a := 0) (k := k) (by omega)).trans ((Sf_ne (a := 14) (k := k) (by omega)).trans ((Sf_ne (a := 13) (k := k) (by omega)).trans (hov k (by omega)))))) ?_)
  refine am_putF f_8_38 rfl rfl rfl rfl (Nat.le_of_ble_eq_true rfl) rfl (by decide) (fun _ _ => ⟨rfl, rfl⟩) ?_
  refine am_eqh (h' := (Sn 27 839 ((0, .inr (8, [.ref 1, .ref 3, .ref 8, .ref 13, .ref 14, .ref 15, .null, .null, .null, .null, .null, .int (0 : Int32), .int (0 : Int32), .int (0 : Int32), .int (0 : Int32)])) :: (14, .inl (2, 4, .inr (.inr (.inr (.inr (fun _ => none)))))) :: (13, .inl (2, 4, .inr (.inr (.inr (.inr (fun _ => none)))))) :: ov))) (Sn_u.trans (Sn_f Sf_hide)) ?_
  refine am_aload_n rfl rfl ?_
  refine am_new (fs := [.null, .null, .null, .null, .null, .null, .null, .null, .null, .null, .null, .int (0 : Int32), .int (0 : Int32)]) rfl q_8_42 in_0 ini_0 (fun _ _ => df_0) rfl ⟨Nat.le_of_ble_eq_true rfl, Nat.le_of_ble_eq_true rfl⟩ ?_
  refine am_eqh (h' := (Sn 28 852 ((27, .inr (0, [.null, .null, .null, .null, .null, .null, .null, .null, .null, .null, .null, .int (0 : Int32), .int (0 : Int32)])) :: (0, .inr (8, [.ref 1, .ref 3, .ref 8, .ref 13, .ref 14, .ref 15, .null, .null, .null, .null, .null, .int (0 : Int32), .int (0 : Int32), .int (0 : Int32), .int (0 : Int32)])) :: (14, .inl (2, 4, .inr (.inr (.inr (.inr (fun _ => none)))))) :: (13, .inl (2, 4, .inr (.inr (.inr (.inr (fun _ => none)))))) :: ov))) Sn_n ?_
  refine am_dup rfl rfl ?_
  refine am_callN (As := []) (mc' := 11) (ms' := 424) n_8_44 rfl rfl rfl (d' := 1) (Nat.le_of_ble_eq_true rfl) (fun _ _ => Nat.le_of_ble_eq_true rfl) ⟨Nat.le_of_ble_eq_true rfl, Nat.le_of_ble_eq_true rfl⟩ (z_X0_init_27 ((0, .inr (8, [.ref 1, .ref 3, .ref 8, .ref 13, .ref 14, .ref 15, .null, .null, .null, .null, .null, .int (0 : Int32), .int (0 : Int32), .int (0 : Int32), .int (0 : Int32)])) :: (14, .inl (2, 4, .inr (.inr (.inr (.inr (fun _ => none)))))) :: (13, .inl (2, 4, .inr (.inr (.inr (.inr (fun _ => none)))))) :: ov) (fun k hk => ((Sf_ne (a := 0) (k := k) (by omega)).trans ((Sf_ne (a := 14) (k := k) (by omega)).trans ((Sf_ne (a := 13) (k := k) (by omega)).trans (hov k (by omega)))))) ?_)
  refine am_putF f_8_45 rfl rfl rfl rfl (Nat.le_of_ble_eq_true rfl) rfl (by decide) (fun _ _ => ⟨rfl, rfl⟩) ?_
  refine am_eqh (h' := (Sn 39 1276 ((0, .inr (8, [.ref 1, .ref 3, .ref 8, .ref 13, .ref 14, .ref 15, .ref 27, .null, .null, .null, .null, .int (0 : Int32), .int (0 : Int32), .int (0 : Int32), .int (0 : Int32)])) :: (14, .inl (2, 4, .inr (.inr (.inr (.inr (fun _ => none)))))) :: (13, .inl (2, 4, .inr (.inr (.inr (.inr (fun _ => none)))))) :: ov))) (Sn_u.trans (Sn_f Sf_hide)) ?_
  refine am_aload_n rfl rfl ?_
  refine am_new (fs := [.null]) rfl q_8_49 in_3 ini_3 (fun _ _ => df_3) rfl ⟨Nat.le_of_ble_eq_true rfl, Nat.le_of_ble_eq_true rfl⟩ ?_
  refine am_eqh (h' := (Sn 40 1277 ((39, .inr (3, [.null])) :: (0, .inr (8, [.ref 1, .ref 3, .ref 8, .ref 13, .ref 14, .ref 15, .ref 27, .null, .null, .null, .null, .int (0 : Int32), .int (0 : Int32), .int (0 : Int32), .int (0 : Int32)])) :: (14, .inl (2, 4, .inr (.inr (.inr (.inr (fun _ => none)))))) :: (13, .inl (2, 4, .inr (.inr (.inr (.inr (fun _ => none)))))) :: ov))) Sn_n ?_
  refine am_dup rfl rfl ?_
  refine am_callN (As := []) (mc' := 1) (ms' := 24) n_8_51 rfl rfl rfl (d' := 1) (Nat.le_of_ble_eq_true rfl) (fun _ _ => Nat.le_of_ble_eq_true rfl) ⟨Nat.le_of_ble_eq_true rfl, Nat.le_of_ble_eq_true rfl⟩ (z_X3_init_39 ((0, .inr (8, [.ref 1, .ref 3, .ref 8, .ref 13, .ref 14, .ref 15, .ref 27, .null, .null, .null, .null, .int (0 : Int32), .int (0 : Int32), .int (0 : Int32), .int (0 : Int32)])) :: (14, .inl (2, 4, .inr (.inr (.inr (.inr (fun _ => none)))))) :: (13, .inl (2, 4, .inr (.inr (.inr (.inr (fun _ => none)))))) :: ov) (fun k hk => ((Sf_ne (a := 0) (k := k) (by omega)).trans ((Sf_ne (a := 14) (k := k) (by omega)).trans ((Sf_ne (a := 13) (k := k) (by omega)).trans (hov k (by omega)))))) ?_)
  refine am_putF f_8_52 rfl rfl rfl rfl (Nat.le_of_ble_eq_true rfl) rfl (by decide) (fun _ _ => ⟨rfl, rfl⟩) ?_
  refine am_eqh (h' := (Sn 41 1301 ((0, .inr (8, [.ref 1, .ref 3, .ref 8, .ref 13, .ref 14, .ref 15, .ref 27, .ref 39, .null, .null, .null, .int (0 : Int32), .int (0 : Int32), .int (0 : Int32), .int (0 : Int32)])) :: (14, .inl (2, 4, .inr (.inr (.inr (.inr (fun _ => none)))))) :: (13, .inl (2, 4, .inr (.inr (.inr (.inr (fun _ => none)))))) :: ov))) (Sn_u.trans (Sn_f Sf_hide)) ?_
  refine am_aload_n rfl rfl ?_
  refine am_new (fs := [.null, .null, .null]) rfl q_8_56 in_2 ini_2 (fun _ _ => df_2) rfl ⟨Nat.le_of_ble_eq_true rfl, Nat.le_of_ble_eq_true rfl⟩ ?_
  refine am_eqh (h' := (Sn 42 1304 ((41, .inr (2, [.null, .null, .null])) :: (0, .inr (8, [.ref 1, .ref 3, .ref 8, .ref 13, .ref 14, .ref 15, .ref 27, .ref 39, .null, .null, .null, .int (0 : Int32), .int (0 : Int32), .int (0 : Int32), .int (0 : Int32)])) :: (14, .inl (2, 4, .inr (.inr (.inr (.inr (fun _ => none)))))) :: (13, .inl (2, 4, .inr (.inr (.inr (.inr (fun _ => none)))))) :: ov))) Sn_n ?_
  refine am_dup rfl rfl ?_
  refine am_callN (As := []) (mc' := 3) (ms' := 208) n_8_58 rfl rfl rfl (d' := 1) (Nat.le_of_ble_eq_true rfl) (fun _ _ => Nat.le_of_ble_eq_true rfl) ⟨Nat.le_of_ble_eq_true rfl, Nat.le_of_ble_eq_true rfl⟩ (z_X2_init_41 ((0, .inr (8, [.ref 1, .ref 3, .ref 8, .ref 13, .ref 14, .ref 15, .ref 27, .ref 39, .null, .null, .null, .int (0 : Int32), .int (0 : Int32), .int (0 : Int32), .int (0 : Int32)])) :: (14, .inl (2, 4, .inr (.inr (.inr (.inr (fun _ => none)))))) :: (13, .inl (2, 4, .inr (.inr (.inr (.inr (fun _ => none)))))) :: ov) (fun k hk => ((Sf_ne (a := 0) (k := k) (by omega)).trans ((Sf_ne (a := 14) (k := k) (by omega)).trans ((Sf_ne (a := 13) (k := k) (by omega)).trans (hov k (by omega)))))) ?_)
  refine am_putF f_8_59 rfl rfl rfl rfl (Nat.le_of_ble_eq_true rfl) rfl (by decide) (fun _ _ => ⟨rfl, rfl⟩) ?_
  refine am_eqh (h' := (Sn 45 1512 ((0, .inr (8, [.ref 1, .ref 3, .ref 8, .ref 13, .ref 14, .ref 15, .ref 27, .ref 39, .ref 41, .null, .null, .int (0 : Int32), .int (0 : Int32), .int (0 : Int32), .int (0 : Int32)])) :: (14, .inl (2, 4, .inr (.inr (.inr (.inr (fun _ => none)))))) :: (13, .inl (2, 4, .inr (.inr (.inr (.inr (fun _ => none)))))) :: ov))) (Sn_u.trans (Sn_f Sf_hide)) ?_
  refine am_aload_n rfl rfl ?_
  refine am_new (fs := [.int (0 : Int32), .int (0 : Int32), .int (0 : Int32), .int (0 : Int32)]) rfl q_8_63 in_4 ini_4 (fun _ _ => df_4) rfl ⟨Nat.le_of_ble_eq_true rfl, Nat.le_of_ble_eq_true rfl⟩ ?_
  refine am_eqh (h' := (Sn 46 1516 ((45, .inr (4, [.int (0 : Int32), .int (0 : Int32), .int (0 : Int32), .int (0 : Int32)])) :: (0, .inr (8, [.ref 1, .ref 3, .ref 8, .ref 13, .ref 14, .ref 15, .ref 27, .ref 39, .ref 41, .null, .null, .int (0 : Int32), .int (0 : Int32), .int (0 : Int32), .int (0 : Int32)])) :: (14, .inl (2, 4, .inr (.inr (.inr (.inr (fun _ => none)))))) :: (13, .inl (2, 4, .inr (.inr (.inr (.inr (fun _ => none)))))) :: ov))) Sn_n ?_
  refine am_dup rfl rfl ?_
  refine am_callN (As := []) (mc' := 0) (ms' := 0) n_8_65 rfl rfl rfl (d' := 1) (Nat.le_of_ble_eq_true rfl) (fun _ _ => Nat.le_of_ble_eq_true rfl) ⟨Nat.le_of_ble_eq_true rfl, Nat.le_of_ble_eq_true rfl⟩ (z_X4_init_45 ((0, .inr (8, [.ref 1, .ref 3, .ref 8, .ref 13, .ref 14, .ref 15, .ref 27, .ref 39, .ref 41, .null, .null, .int (0 : Int32), .int (0 : Int32), .int (0 : Int32), .int (0 : Int32)])) :: (14, .inl (2, 4, .inr (.inr (.inr (.inr (fun _ => none)))))) :: (13, .inl (2, 4, .inr (.inr (.inr (.inr (fun _ => none)))))) :: ov) (fun k hk => ((Sf_ne (a := 0) (k := k) (by omega)).trans ((Sf_ne (a := 14) (k := k) (by omega)).trans ((Sf_ne (a := 13) (k := k) (by omega)).trans (hov k (by omega)))))) ?_)
  refine am_putF f_8_66 rfl rfl rfl rfl (Nat.le_of_ble_eq_true rfl) rfl (by decide) (fun _ _ => ⟨rfl, rfl⟩) ?_
  refine am_eqh (h' := (Sn 46 1516 ((0, .inr (8, [.ref 1, .ref 3, .ref 8, .ref 13, .ref 14, .ref 15, .ref 27, .ref 39, .ref 41, .ref 45, .null, .int (0 : Int32), .int (0 : Int32), .int (0 : Int32), .int (0 : Int32)])) :: (14, .inl (2, 4, .inr (.inr (.inr (.inr (fun _ => none)))))) :: (13, .inl (2, 4, .inr (.inr (.inr (.inr (fun _ => none)))))) :: ov))) (Sn_u.trans (Sn_f Sf_hide)) ?_
  refine am_aload_n rfl rfl ?_
  refine x_iconst (v := (4 : Int32)) rfl (by decide) ?_
  refine am_newI ar_int (by decide) (N := 4) (by decide) (by decide) rfl ⟨Nat.le_of_ble_eq_true rfl, Nat.le_of_ble_eq_true rfl⟩ ?_
  refine am_eqh (h' := (Sn 47 1520 ((0, .inr (8, [.ref 1, .ref 3, .ref 8, .ref 13, .ref 14, .ref 15, .ref 27, .ref 39, .ref 41, .ref 45, .null, .int (0 : Int32), .int (0 : Int32), .int (0 : Int32), .int (0 : Int32)])) :: (14, .inl (2, 4, .inr (.inr (.inr (.inr (fun _ => none)))))) :: (13, .inl (2, 4, .inr (.inr (.inr (.inr (fun _ => none)))))) :: ov))) (Sn_n.trans (Sn_f (Sf_drop (((Sf_ne (a := 0) (k := 46) (by decide)).trans ((Sf_ne (a := 14) (k := 46) (by decide)).trans ((Sf_ne (a := 13) (k := 46) (by decide)).trans (hov 46 (by decide))))).trans rfl)))) ?_
  refine am_putF f_8_70 rfl rfl rfl rfl (Nat.le_of_ble_eq_true rfl) rfl (by decide) (fun _ _ => ⟨rfl, rfl⟩) ?_
  refine am_eqh (h' := (Sn 47 1520 ((0, .inr (8, [.ref 1, .ref 3, .ref 8, .ref 13, .ref 14, .ref 15, .ref 27, .ref 39, .ref 41, .ref 45, .ref 46, .int (0 : Int32), .int (0 : Int32), .int (0 : Int32), .int (0 : Int32)])) :: (14, .inl (2, 4, .inr (.inr (.inr (.inr (fun _ => none)))))) :: (13, .inl (2, 4, .inr (.inr (.inr (.inr (fun _ => none)))))) :: ov))) (Sn_u.trans (Sn_f Sf_hide)) ?_
  refine am_aload_n rfl rfl ?_
  refine x_iconst (v := (0 : Int32)) rfl (by decide) ?_
  refine am_put f_8_74 rfl rfl (Nat.le_of_ble_eq_true rfl) rfl (by decide) (fun _ _ => ⟨rfl, rfl⟩) ?_
  refine am_eqh (h' := (Sn 47 1520 ((0, .inr (8, [.ref 1, .ref 3, .ref 8, .ref 13, .ref 14, .ref 15, .ref 27, .ref 39, .ref 41, .ref 45, .ref 46, .int (0 : Int32), .int (0 : Int32), .int (0 : Int32), .int (0 : Int32)])) :: (14, .inl (2, 4, .inr (.inr (.inr (.inr (fun _ => none)))))) :: (13, .inl (2, 4, .inr (.inr (.inr (.inr (fun _ => none)))))) :: ov))) (Sn_u.trans (Sn_f Sf_hide)) ?_
  refine am_aload_n rfl rfl ?_
  refine x_iconst (v := (0 : Int32)) rfl (by decide) ?_
  refine am_put f_8_78 rfl rfl (Nat.le_of_ble_eq_true rfl) rfl (by decide) (fun _ _ => ⟨rfl, rfl⟩) ?_
  refine am_eqh (h' := (Sn 47 1520 ((0, .inr (8, [.ref 1, .ref 3, .ref 8, .ref 13, .ref 14, .ref 15, .ref 27, .ref 39, .ref 41, .ref 45, .ref 46, .int (0 : Int32), .int (0 : Int32), .int (0 : Int32), .int (0 : Int32)])) :: (14, .inl (2, 4, .inr (.inr (.inr (.inr (fun _ => none)))))) :: (13, .inl (2, 4, .inr (.inr (.inr (.inr (fun _ => none)))))) :: ov))) (Sn_u.trans (Sn_f Sf_hide)) ?_
  refine am_aload_n rfl rfl ?_
  refine x_iconst (v := (0 : Int32)) rfl (by decide) ?_
  refine am_put f_8_81 rfl rfl (Nat.le_of_ble_eq_true rfl) rfl (by decide) (fun _ _ => ⟨rfl, rfl⟩) ?_
  refine am_eqh (h' := (Sn 47 1520 ((0, .inr (8, [.ref 1, .ref 3, .ref 8, .ref 13, .ref 14, .ref 15, .ref 27, .ref 39, .ref 41, .ref 45, .ref 46, .int (0 : Int32), .int (0 : Int32), .int (0 : Int32), .int (0 : Int32)])) :: (14, .inl (2, 4, .inr (.inr (.inr (.inr (fun _ => none)))))) :: (13, .inl (2, 4, .inr (.inr (.inr (.inr (fun _ => none)))))) :: ov))) (Sn_u.trans (Sn_f Sf_hide)) ?_
  refine am_aload_n rfl rfl ?_
  refine x_iconst (v := (0 : Int32)) rfl (by decide) ?_
  refine am_put f_8_84 rfl rfl (Nat.le_of_ble_eq_true rfl) rfl (by decide) (fun _ _ => ⟨rfl, rfl⟩) ?_
  refine am_eqh (h' := (Sn 47 1520 ((0, .inr (8, [.ref 1, .ref 3, .ref 8, .ref 13, .ref 14, .ref 15, .ref 27, .ref 39, .ref 41, .ref 45, .ref 46, .int (0 : Int32), .int (0 : Int32), .int (0 : Int32), .int (0 : Int32)])) :: (14, .inl (2, 4, .inr (.inr (.inr (.inr (fun _ => none)))))) :: (13, .inl (2, 4, .inr (.inr (.inr (.inr (fun _ => none)))))) :: ov))) (Sn_u.trans (Sn_f Sf_hide)) ?_
  refine x_iconst (v := (0 : Int32)) rfl (by decide) ?_
  refine am_istore_n rfl (Nat.le_of_ble_eq_true rfl) ?_
  refine am_iload_n rfl rfl ?_
  refine x_iconst (v := (4 : Int32)) rfl (by decide) ?_
  refine am_icmp_ge rfl (fun c => absurd c (by decide)) (fun c => ?_)
  refine am_aload_n rfl rfl ?_
  refine am_get f_8_28 rfl (Nat.le_of_ble_eq_true rfl) rfl rfl ?_
  refine am_iload_n rfl rfl ?_
  refine am_new (fs := [.int (0 : Int32), .int (0 : Int32), .int (0 : Int32), .int (0 : Int32), .null, .null, .null, .null, .null, .null, .null, .null, .null, .null, .null, .null, .null]) rfl q_8_26 in_7 ini_7 (fun _ _ => df_7) rfl ⟨Nat.le_of_ble_eq_true rfl, Nat.le_of_ble_eq_true rfl⟩ ?_
  refine am_eqh (h' := (Sn 48 1537 ((47, .inr (7, [.int (0 : Int32), .int (0 : Int32), .int (0 : Int32), .int (0 : Int32), .null, .null, .null, .null, .null, .null, .null, .null, .null, .null, .null, .null, .null])) :: (0, .inr (8, [.ref 1, .ref 3, .ref 8, .ref 13, .ref 14, .ref 15, .ref 27, .ref 39, .ref 41, .ref 45, .ref 46, .int (0 : Int32), .int (0 : Int32), .int (0 : Int32), .int (0 : Int32)])) :: (14, .inl (2, 4, .inr (.inr (.inr (.inr (fun _ => none)))))) :: (13, .inl (2, 4, .inr (.inr (.inr (.inr (fun _ => none)))))) :: ov))) Sn_n ?_
  refine am_dup rfl rfl ?_
  refine am_callN (As := []) (mc' := 13) (ms' := 417) n_8_87 rfl rfl rfl (d' := 1) (Nat.le_of_ble_eq_true rfl) (fun _ _ => Nat.le_of_ble_eq_true rfl) ⟨Nat.le_of_ble_eq_true rfl, Nat.le_of_ble_eq_true rfl⟩ (z_X7_init_47 ((0, .inr (8, [.ref 1, .ref 3, .ref 8, .ref 13, .ref 14, .ref 15, .ref 27, .ref 39, .ref 41, .ref 45, .ref 46, .int (0 : Int32), .int (0 : Int32), .int (0 : Int32), .int (0 : Int32)])) :: (14, .inl (2, 4, .inr (.inr (.inr (.inr (fun _ => none)))))) :: (13, .inl (2, 4, .inr (.inr (.inr (.inr (fun _ => none)))))) :: ov) (fun k hk => ((Sf_ne (a := 0) (k := k) (by omega)).trans ((Sf_ne (a := 14) (k := k) (by omega)).trans ((Sf_ne (a := 13) (k := k) (by omega)).trans (hov k (by omega)))))) ?_)
  have hv : S_f ((0, .inr (8, [.ref 1, .ref 3, .ref 8, .ref 13, .ref 14, .ref 15, .ref 27, .ref 39, .ref 41, .ref 45, .ref 46, .int (0 : Int32), .int (0 : Int32), .int (0 : Int32), .int (0 : Int32)])) :: (14, .inl (2, 4, .inr (.inr (.inr (.inr (fun _ => none)))))) :: (13, .inl (2, 4, .inr (.inr (.inr (.inr (fun _ => none)))))) :: ov) 47 = .inr (7, am_fl (g0 47) 0 (sk_t 47)) := ((Sf_ne (a := 0) (k := 47) (by decide)).trans ((Sf_ne (a := 14) (k := 47) (by decide)).trans ((Sf_ne (a := 13) (k := 47) (by decide)).trans (hov 47 (by decide))))).trans rfl
  refine am_aast rfl (Nat.le_of_ble_eq_true rfl) rfl (Nat.le_of_ble_eq_true rfl) hv (by unfold vp_in; decide) ?_
  clear hv
  refine am_eqh (h' := (Sn 61 1954 ((13, .inl (2, 4, .inr (.inr (.inr (.inr (va_up (fun _ => none) 0 (some 47))))))) :: (0, .inr (8, [.ref 1, .ref 3, .ref 8, .ref 13, .ref 14, .ref 15, .ref 27, .ref 39, .ref 41, .ref 45, .ref 46, .int (0 : Int32), .int (0 : Int32), .int (0 : Int32), .int (0 : Int32)])) :: (14, .inl (2, 4, .inr (.inr (.inr (.inr (fun _ => none)))))) :: ov))) (Sn_u.trans (Sn_f (Sf_hide3 ((0, .inr (8, [.ref 1, .ref 3, .ref 8, .ref 13, .ref 14, .ref 15, .ref 27, .ref 39, .ref 41, .ref 45, .ref 46, .int (0 : Int32), .int (0 : Int32), .int (0 : Int32), .int (0 : Int32)])) :: (14, .inl (2, 4, .inr (.inr (.inr (.inr (fun _ => none)))))) :: []) (ov)))) ?_
  refine am_aload_n rfl rfl ?_
  refine am_get f_8_32 rfl (Nat.le_of_ble_eq_true rfl) rfl rfl ?_
  refine am_iload_n rfl rfl ?_
  refine am_new (fs := [.int (0 : Int32), .int (0 : Int32), .int (0 : Int32), .int (0 : Int32), .null, .null, .null, .null, .null, .null, .null, .null, .null, .null, .null, .null, .null]) rfl q_8_26 in_7 ini_7 (fun _ _ => df_7) rfl ⟨Nat.le_of_ble_eq_true rfl, Nat.le_of_ble_eq_true rfl⟩ ?_
  refine am_eqh (h' := (Sn 62 1971 ((61, .inr (7, [.int (0 : Int32), .int (0 : Int32), .int (0 : Int32), .int (0 : Int32), .null, .null, .null, .null, .null, .null, .null, .null, .null, .null, .null, .null, .null])) :: (13, .inl (2, 4, .inr (.inr (.inr (.inr (va_up (fun _ => none) 0 (some 47))))))) :: (0, .inr (8, [.ref 1, .ref 3, .ref 8, .ref 13, .ref 14, .ref 15, .ref 27, .ref 39, .ref 41, .ref 45, .ref 46, .int (0 : Int32), .int (0 : Int32), .int (0 : Int32), .int (0 : Int32)])) :: (14, .inl (2, 4, .inr (.inr (.inr (.inr (fun _ => none)))))) :: ov))) Sn_n ?_
  refine am_dup rfl rfl ?_
  refine am_callN (As := []) (mc' := 13) (ms' := 417) n_8_87 rfl rfl rfl (d' := 1) (Nat.le_of_ble_eq_true rfl) (fun _ _ => Nat.le_of_ble_eq_true rfl) ⟨Nat.le_of_ble_eq_true rfl, Nat.le_of_ble_eq_true rfl⟩ (z_X7_init_61 ((13, .inl (2, 4, .inr (.inr (.inr (.inr (va_up (fun _ => none) 0 (some 47))))))) :: (0, .inr (8, [.ref 1, .ref 3, .ref 8, .ref 13, .ref 14, .ref 15, .ref 27, .ref 39, .ref 41, .ref 45, .ref 46, .int (0 : Int32), .int (0 : Int32), .int (0 : Int32), .int (0 : Int32)])) :: (14, .inl (2, 4, .inr (.inr (.inr (.inr (fun _ => none)))))) :: ov) (fun k hk => ((Sf_ne (a := 13) (k := k) (by omega)).trans ((Sf_ne (a := 0) (k := k) (by omega)).trans ((Sf_ne (a := 14) (k := k) (by omega)).trans (hov k (by omega)))))) ?_)
  have hv : S_f ((13, .inl (2, 4, .inr (.inr (.inr (.inr (va_up (fun _ => none) 0 (some 47))))))) :: (0, .inr (8, [.ref 1, .ref 3, .ref 8, .ref 13, .ref 14, .ref 15, .ref 27, .ref 39, .ref 41, .ref 45, .ref 46, .int (0 : Int32), .int (0 : Int32), .int (0 : Int32), .int (0 : Int32)])) :: (14, .inl (2, 4, .inr (.inr (.inr (.inr (fun _ => none)))))) :: ov) 61 = .inr (7, am_fl (g0 61) 0 (sk_t 61)) := ((Sf_ne (a := 13) (k := 61) (by decide)).trans ((Sf_ne (a := 0) (k := 61) (by decide)).trans ((Sf_ne (a := 14) (k := 61) (by decide)).trans (hov 61 (by decide))))).trans rfl
  refine am_aast rfl (Nat.le_of_ble_eq_true rfl) rfl (Nat.le_of_ble_eq_true rfl) hv (by unfold vp_in; decide) ?_
  clear hv
  refine am_eqh (h' := (Sn 75 2388 ((14, .inl (2, 4, .inr (.inr (.inr (.inr (va_up (fun _ => none) 0 (some 61))))))) :: (13, .inl (2, 4, .inr (.inr (.inr (.inr (va_up (fun _ => none) 0 (some 47))))))) :: (0, .inr (8, [.ref 1, .ref 3, .ref 8, .ref 13, .ref 14, .ref 15, .ref 27, .ref 39, .ref 41, .ref 45, .ref 46, .int (0 : Int32), .int (0 : Int32), .int (0 : Int32), .int (0 : Int32)])) :: ov))) (Sn_u.trans (Sn_f (Sf_hide3 ((13, .inl (2, 4, .inr (.inr (.inr (.inr (va_up (fun _ => none) 0 (some 47))))))) :: (0, .inr (8, [.ref 1, .ref 3, .ref 8, .ref 13, .ref 14, .ref 15, .ref 27, .ref 39, .ref 41, .ref 45, .ref 46, .int (0 : Int32), .int (0 : Int32), .int (0 : Int32), .int (0 : Int32)])) :: []) (ov)))) ?_
  refine am_iinc rfl rfl (Nat.le_of_ble_eq_true rfl) ?_
  refine am_drop (L' := [some (.ref 0), some (.int (1 : Int32))]) (And.intro rfl (And.intro rfl trivial)) ?_
  refine am_goto rfl ?_
  refine am_iload_n rfl rfl ?_
  refine x_iconst (v := (4 : Int32)) rfl (by decide) ?_
  refine am_icmp_ge rfl (fun c => absurd c (by decide)) (fun c => ?_)
  refine am_aload_n rfl rfl ?_
  refine am_get f_8_28 rfl (Nat.le_of_ble_eq_true rfl) rfl rfl ?_
  refine am_iload_n rfl rfl ?_
  refine am_new (fs := [.int (0 : Int32), .int (0 : Int32), .int (0 : Int32), .int (0 : Int32), .null, .null, .null, .null, .null, .null, .null, .null, .null, .null, .null, .null, .null]) rfl q_8_26 in_7 ini_7 (fun _ _ => df_7) rfl ⟨Nat.le_of_ble_eq_true rfl, Nat.le_of_ble_eq_true rfl⟩ ?_
  refine am_eqh (h' := (Sn 76 2405 ((75, .inr (7, [.int (0 : Int32), .int (0 : Int32), .int (0 : Int32), .int (0 : Int32), .null, .null, .null, .null, .null, .null, .null, .null, .null, .null, .null, .null, .null])) :: (14, .inl (2, 4, .inr (.inr (.inr (.inr (va_up (fun _ => none) 0 (some 61))))))) :: (13, .inl (2, 4, .inr (.inr (.inr (.inr (va_up (fun _ => none) 0 (some 47))))))) :: (0, .inr (8, [.ref 1, .ref 3, .ref 8, .ref 13, .ref 14, .ref 15, .ref 27, .ref 39, .ref 41, .ref 45, .ref 46, .int (0 : Int32), .int (0 : Int32), .int (0 : Int32), .int (0 : Int32)])) :: ov))) Sn_n ?_
  refine am_dup rfl rfl ?_
  refine am_callN (As := []) (mc' := 13) (ms' := 417) n_8_87 rfl rfl rfl (d' := 1) (Nat.le_of_ble_eq_true rfl) (fun _ _ => Nat.le_of_ble_eq_true rfl) ⟨Nat.le_of_ble_eq_true rfl, Nat.le_of_ble_eq_true rfl⟩ (z_X7_init_75 ((14, .inl (2, 4, .inr (.inr (.inr (.inr (va_up (fun _ => none) 0 (some 61))))))) :: (13, .inl (2, 4, .inr (.inr (.inr (.inr (va_up (fun _ => none) 0 (some 47))))))) :: (0, .inr (8, [.ref 1, .ref 3, .ref 8, .ref 13, .ref 14, .ref 15, .ref 27, .ref 39, .ref 41, .ref 45, .ref 46, .int (0 : Int32), .int (0 : Int32), .int (0 : Int32), .int (0 : Int32)])) :: ov) (fun k hk => ((Sf_ne (a := 14) (k := k) (by omega)).trans ((Sf_ne (a := 13) (k := k) (by omega)).trans ((Sf_ne (a := 0) (k := k) (by omega)).trans (hov k (by omega)))))) ?_)
  have hv : S_f ((14, .inl (2, 4, .inr (.inr (.inr (.inr (va_up (fun _ => none) 0 (some 61))))))) :: (13, .inl (2, 4, .inr (.inr (.inr (.inr (va_up (fun _ => none) 0 (some 47))))))) :: (0, .inr (8, [.ref 1, .ref 3, .ref 8, .ref 13, .ref 14, .ref 15, .ref 27, .ref 39, .ref 41, .ref 45, .ref 46, .int (0 : Int32), .int (0 : Int32), .int (0 : Int32), .int (0 : Int32)])) :: ov) 75 = .inr (7, am_fl (g0 75) 0 (sk_t 75)) := ((Sf_ne (a := 14) (k := 75) (by decide)).trans ((Sf_ne (a := 13) (k := 75) (by decide)).trans ((Sf_ne (a := 0) (k := 75) (by decide)).trans (hov 75 (by decide))))).trans rfl
  refine am_aast rfl (Nat.le_of_ble_eq_true rfl) rfl (Nat.le_of_ble_eq_true rfl) hv (by unfold vp_in; decide) ?_
  clear hv
  refine am_eqh (h' := (Sn 89 2822 ((13, .inl (2, 4, .inr (.inr (.inr (.inr (va_up (va_up (fun _ => none) 0 (some 47)) 1 (some 75))))))) :: (14, .inl (2, 4, .inr (.inr (.inr (.inr (va_up (fun _ => none) 0 (some 61))))))) :: (0, .inr (8, [.ref 1, .ref 3, .ref 8, .ref 13, .ref 14, .ref 15, .ref 27, .ref 39, .ref 41, .ref 45, .ref 46, .int (0 : Int32), .int (0 : Int32), .int (0 : Int32), .int (0 : Int32)])) :: ov))) (Sn_u.trans (Sn_f (Sf_hide3 ((14, .inl (2, 4, .inr (.inr (.inr (.inr (va_up (fun _ => none) 0 (some 61))))))) :: []) ((0, .inr (8, [.ref 1, .ref 3, .ref 8, .ref 13, .ref 14, .ref 15, .ref 27, .ref 39, .ref 41, .ref 45, .ref 46, .int (0 : Int32), .int (0 : Int32), .int (0 : Int32), .int (0 : Int32)])) :: ov)))) ?_
  refine am_aload_n rfl rfl ?_
  refine am_get f_8_32 rfl (Nat.le_of_ble_eq_true rfl) rfl rfl ?_
  refine am_iload_n rfl rfl ?_
  refine am_new (fs := [.int (0 : Int32), .int (0 : Int32), .int (0 : Int32), .int (0 : Int32), .null, .null, .null, .null, .null, .null, .null, .null, .null, .null, .null, .null, .null]) rfl q_8_26 in_7 ini_7 (fun _ _ => df_7) rfl ⟨Nat.le_of_ble_eq_true rfl, Nat.le_of_ble_eq_true rfl⟩ ?_
  refine am_eqh (h' := (Sn 90 2839 ((89, .inr (7, [.int (0 : Int32), .int (0 : Int32), .int (0 : Int32), .int (0 : Int32), .null, .null, .null, .null, .null, .null, .null, .null, .null, .null, .null, .null, .null])) :: (13, .inl (2, 4, .inr (.inr (.inr (.inr (va_up (va_up (fun _ => none) 0 (some 47)) 1 (some 75))))))) :: (14, .inl (2, 4, .inr (.inr (.inr (.inr (va_up (fun _ => none) 0 (some 61))))))) :: (0, .inr (8, [.ref 1, .ref 3, .ref 8, .ref 13, .ref 14, .ref 15, .ref 27, .ref 39, .ref 41, .ref 45, .ref 46, .int (0 : Int32), .int (0 : Int32), .int (0 : Int32), .int (0 : Int32)])) :: ov))) Sn_n ?_
  refine am_dup rfl rfl ?_
  refine am_callN (As := []) (mc' := 13) (ms' := 417) n_8_87 rfl rfl rfl (d' := 1) (Nat.le_of_ble_eq_true rfl) (fun _ _ => Nat.le_of_ble_eq_true rfl) ⟨Nat.le_of_ble_eq_true rfl, Nat.le_of_ble_eq_true rfl⟩ (z_X7_init_89 ((13, .inl (2, 4, .inr (.inr (.inr (.inr (va_up (va_up (fun _ => none) 0 (some 47)) 1 (some 75))))))) :: (14, .inl (2, 4, .inr (.inr (.inr (.inr (va_up (fun _ => none) 0 (some 61))))))) :: (0, .inr (8, [.ref 1, .ref 3, .ref 8, .ref 13, .ref 14, .ref 15, .ref 27, .ref 39, .ref 41, .ref 45, .ref 46, .int (0 : Int32), .int (0 : Int32), .int (0 : Int32), .int (0 : Int32)])) :: ov) (fun k hk => ((Sf_ne (a := 13) (k := k) (by omega)).trans ((Sf_ne (a := 14) (k := k) (by omega)).trans ((Sf_ne (a := 0) (k := k) (by omega)).trans (hov k (by omega)))))) ?_)
  have hv : S_f ((13, .inl (2, 4, .inr (.inr (.inr (.inr (va_up (va_up (fun _ => none) 0 (some 47)) 1 (some 75))))))) :: (14, .inl (2, 4, .inr (.inr (.inr (.inr (va_up (fun _ => none) 0 (some 61))))))) :: (0, .inr (8, [.ref 1, .ref 3, .ref 8, .ref 13, .ref 14, .ref 15, .ref 27, .ref 39, .ref 41, .ref 45, .ref 46, .int (0 : Int32), .int (0 : Int32), .int (0 : Int32), .int (0 : Int32)])) :: ov) 89 = .inr (7, am_fl (g0 89) 0 (sk_t 89)) := ((Sf_ne (a := 13) (k := 89) (by decide)).trans ((Sf_ne (a := 14) (k := 89) (by decide)).trans ((Sf_ne (a := 0) (k := 89) (by decide)).trans (hov 89 (by decide))))).trans rfl
  refine am_aast rfl (Nat.le_of_ble_eq_true rfl) rfl (Nat.le_of_ble_eq_true rfl) hv (by unfold vp_in; decide) ?_
  clear hv
  refine am_eqh (h' := (Sn 103 3256 ((14, .inl (2, 4, .inr (.inr (.inr (.inr (va_up (va_up (fun _ => none) 0 (some 61)) 1 (some 89))))))) :: (13, .inl (2, 4, .inr (.inr (.inr (.inr (va_up (va_up (fun _ => none) 0 (some 47)) 1 (some 75))))))) :: (0, .inr (8, [.ref 1, .ref 3, .ref 8, .ref 13, .ref 14, .ref 15, .ref 27, .ref 39, .ref 41, .ref 45, .ref 46, .int (0 : Int32), .int (0 : Int32), .int (0 : Int32), .int (0 : Int32)])) :: ov))) (Sn_u.trans (Sn_f (Sf_hide3 ((13, .inl (2, 4, .inr (.inr (.inr (.inr (va_up (va_up (fun _ => none) 0 (some 47)) 1 (some 75))))))) :: []) ((0, .inr (8, [.ref 1, .ref 3, .ref 8, .ref 13, .ref 14, .ref 15, .ref 27, .ref 39, .ref 41, .ref 45, .ref 46, .int (0 : Int32), .int (0 : Int32), .int (0 : Int32), .int (0 : Int32)])) :: ov)))) ?_
  refine am_iinc rfl rfl (Nat.le_of_ble_eq_true rfl) ?_
  refine am_drop (L' := [some (.ref 0), some (.int (2 : Int32))]) (And.intro rfl (And.intro rfl trivial)) ?_
  refine am_goto rfl ?_
  refine am_iload_n rfl rfl ?_
  refine x_iconst (v := (4 : Int32)) rfl (by decide) ?_
  refine am_icmp_ge rfl (fun c => absurd c (by decide)) (fun c => ?_)
  refine am_aload_n rfl rfl ?_
  refine am_get f_8_28 rfl (Nat.le_of_ble_eq_true rfl) rfl rfl ?_
  refine am_iload_n rfl rfl ?_
  refine am_new (fs := [.int (0 : Int32), .int (0 : Int32), .int (0 : Int32), .int (0 : Int32), .null, .null, .null, .null, .null, .null, .null, .null, .null, .null, .null, .null, .null]) rfl q_8_26 in_7 ini_7 (fun _ _ => df_7) rfl ⟨Nat.le_of_ble_eq_true rfl, Nat.le_of_ble_eq_true rfl⟩ ?_
  refine am_eqh (h' := (Sn 104 3273 ((103, .inr (7, [.int (0 : Int32), .int (0 : Int32), .int (0 : Int32), .int (0 : Int32), .null, .null, .null, .null, .null, .null, .null, .null, .null, .null, .null, .null, .null])) :: (14, .inl (2, 4, .inr (.inr (.inr (.inr (va_up (va_up (fun _ => none) 0 (some 61)) 1 (some 89))))))) :: (13, .inl (2, 4, .inr (.inr (.inr (.inr (va_up (va_up (fun _ => none) 0 (some 47)) 1 (some 75))))))) :: (0, .inr (8, [.ref 1, .ref 3, .ref 8, .ref 13, .ref 14, .ref 15, .ref 27, .ref 39, .ref 41, .ref 45, .ref 46, .int (0 : Int32), .int (0 : Int32), .int (0 : Int32), .int (0 : Int32)])) :: ov))) Sn_n ?_
  refine am_dup rfl rfl ?_
  refine am_callN (As := []) (mc' := 13) (ms' := 417) n_8_87 rfl rfl rfl (d' := 1) (Nat.le_of_ble_eq_true rfl) (fun _ _ => Nat.le_of_ble_eq_true rfl) ⟨Nat.le_of_ble_eq_true rfl, Nat.le_of_ble_eq_true rfl⟩ (z_X7_init_103 ((14, .inl (2, 4, .inr (.inr (.inr (.inr (va_up (va_up (fun _ => none) 0 (some 61)) 1 (some 89))))))) :: (13, .inl (2, 4, .inr (.inr (.inr (.inr (va_up (va_up (fun _ => none) 0 (some 47)) 1 (some 75))))))) :: (0, .inr (8, [.ref 1, .ref 3, .ref 8, .ref 13, .ref 14, .ref 15, .ref 27, .ref 39, .ref 41, .ref 45, .ref 46, .int (0 : Int32), .int (0 : Int32), .int (0 : Int32), .int (0 : Int32)])) :: ov) (fun k hk => ((Sf_ne (a := 14) (k := k) (by omega)).trans ((Sf_ne (a := 13) (k := k) (by omega)).trans ((Sf_ne (a := 0) (k := k) (by omega)).trans (hov k (by omega)))))) ?_)
  have hv : S_f ((14, .inl (2, 4, .inr (.inr (.inr (.inr (va_up (va_up (fun _ => none) 0 (some 61)) 1 (some 89))))))) :: (13, .inl (2, 4, .inr (.inr (.inr (.inr (va_up (va_up (fun _ => none) 0 (some 47)) 1 (some 75))))))) :: (0, .inr (8, [.ref 1, .ref 3, .ref 8, .ref 13, .ref 14, .ref 15, .ref 27, .ref 39, .ref 41, .ref 45, .ref 46, .int (0 : Int32), .int (0 : Int32), .int (0 : Int32), .int (0 : Int32)])) :: ov) 103 = .inr (7, am_fl (g0 103) 0 (sk_t 103)) := ((Sf_ne (a := 14) (k := 103) (by decide)).trans ((Sf_ne (a := 13) (k := 103) (by decide)).trans ((Sf_ne (a := 0) (k := 103) (by decide)).trans (hov 103 (by decide))))).trans rfl
  refine am_aast rfl (Nat.le_of_ble_eq_true rfl) rfl (Nat.le_of_ble_eq_true rfl) hv (by unfold vp_in; decide) ?_
  clear hv
  refine am_eqh (h' := (Sn 117 3690 ((13, .inl (2, 4, .inr (.inr (.inr (.inr (va_up (va_up (va_up (fun _ => none) 0 (some 47)) 1 (some 75)) 2 (some 103))))))) :: (14, .inl (2, 4, .inr (.inr (.inr (.inr (va_up (va_up (fun _ => none) 0 (some 61)) 1 (some 89))))))) :: (0, .inr (8, [.ref 1, .ref 3, .ref 8, .ref 13, .ref 14, .ref 15, .ref 27, .ref 39, .ref 41, .ref 45, .ref 46, .int (0 : Int32), .int (0 : Int32), .int (0 : Int32), .int (0 : Int32)])) :: ov))) (Sn_u.trans (Sn_f (Sf_hide3 ((14, .inl (2, 4, .inr (.inr (.inr (.inr (va_up (va_up (fun _ => none) 0 (some 61)) 1 (some 89))))))) :: []) ((0, .inr (8, [.ref 1, .ref 3, .ref 8, .ref 13, .ref 14, .ref 15, .ref 27, .ref 39, .ref 41, .ref 45, .ref 46, .int (0 : Int32), .int (0 : Int32), .int (0 : Int32), .int (0 : Int32)])) :: ov)))) ?_
  refine am_aload_n rfl rfl ?_
  refine am_get f_8_32 rfl (Nat.le_of_ble_eq_true rfl) rfl rfl ?_
  refine am_iload_n rfl rfl ?_
  refine am_new (fs := [.int (0 : Int32), .int (0 : Int32), .int (0 : Int32), .int (0 : Int32), .null, .null, .null, .null, .null, .null, .null, .null, .null, .null, .null, .null, .null]) rfl q_8_26 in_7 ini_7 (fun _ _ => df_7) rfl ⟨Nat.le_of_ble_eq_true rfl, Nat.le_of_ble_eq_true rfl⟩ ?_
  refine am_eqh (h' := (Sn 118 3707 ((117, .inr (7, [.int (0 : Int32), .int (0 : Int32), .int (0 : Int32), .int (0 : Int32), .null, .null, .null, .null, .null, .null, .null, .null, .null, .null, .null, .null, .null])) :: (13, .inl (2, 4, .inr (.inr (.inr (.inr (va_up (va_up (va_up (fun _ => none) 0 (some 47)) 1 (some 75)) 2 (some 103))))))) :: (14, .inl (2, 4, .inr (.inr (.inr (.inr (va_up (va_up (fun _ => none) 0 (some 61)) 1 (some 89))))))) :: (0, .inr (8, [.ref 1, .ref 3, .ref 8, .ref 13, .ref 14, .ref 15, .ref 27, .ref 39, .ref 41, .ref 45, .ref 46, .int (0 : Int32), .int (0 : Int32), .int (0 : Int32), .int (0 : Int32)])) :: ov))) Sn_n ?_
  refine am_dup rfl rfl ?_
  refine am_callN (As := []) (mc' := 13) (ms' := 417) n_8_87 rfl rfl rfl (d' := 1) (Nat.le_of_ble_eq_true rfl) (fun _ _ => Nat.le_of_ble_eq_true rfl) ⟨Nat.le_of_ble_eq_true rfl, Nat.le_of_ble_eq_true rfl⟩ (z_X7_init_117 ((13, .inl (2, 4, .inr (.inr (.inr (.inr (va_up (va_up (va_up (fun _ => none) 0 (some 47)) 1 (some 75)) 2 (some 103))))))) :: (14, .inl (2, 4, .inr (.inr (.inr (.inr (va_up (va_up (fun _ => none) 0 (some 61)) 1 (some 89))))))) :: (0, .inr (8, [.ref 1, .ref 3, .ref 8, .ref 13, .ref 14, .ref 15, .ref 27, .ref 39, .ref 41, .ref 45, .ref 46, .int (0 : Int32), .int (0 : Int32), .int (0 : Int32), .int (0 : Int32)])) :: ov) (fun k hk => ((Sf_ne (a := 13) (k := k) (by omega)).trans ((Sf_ne (a := 14) (k := k) (by omega)).trans ((Sf_ne (a := 0) (k := k) (by omega)).trans (hov k (by omega)))))) ?_)
  have hv : S_f ((13, .inl (2, 4, .inr (.inr (.inr (.inr (va_up (va_up (va_up (fun _ => none) 0 (some 47)) 1 (some 75)) 2 (some 103))))))) :: (14, .inl (2, 4, .inr (.inr (.inr (.inr (va_up (va_up (fun _ => none) 0 (some 61)) 1 (some 89))))))) :: (0, .inr (8, [.ref 1, .ref 3, .ref 8, .ref 13, .ref 14, .ref 15, .ref 27, .ref 39, .ref 41, .ref 45, .ref 46, .int (0 : Int32), .int (0 : Int32), .int (0 : Int32), .int (0 : Int32)])) :: ov) 117 = .inr (7, am_fl (g0 117) 0 (sk_t 117)) := ((Sf_ne (a := 13) (k := 117) (by decide)).trans ((Sf_ne (a := 14) (k := 117) (by decide)).trans ((Sf_ne (a := 0) (k := 117) (by decide)).trans (hov 117 (by decide))))).trans rfl
  refine am_aast rfl (Nat.le_of_ble_eq_true rfl) rfl (Nat.le_of_ble_eq_true rfl) hv (by unfold vp_in; decide) ?_
  clear hv
  refine am_eqh (h' := (Sn 131 4124 ((14, .inl (2, 4, .inr (.inr (.inr (.inr (va_up (va_up (va_up (fun _ => none) 0 (some 61)) 1 (some 89)) 2 (some 117))))))) :: (13, .inl (2, 4, .inr (.inr (.inr (.inr (va_up (va_up (va_up (fun _ => none) 0 (some 47)) 1 (some 75)) 2 (some 103))))))) :: (0, .inr (8, [.ref 1, .ref 3, .ref 8, .ref 13, .ref 14, .ref 15, .ref 27, .ref 39, .ref 41, .ref 45, .ref 46, .int (0 : Int32), .int (0 : Int32), .int (0 : Int32), .int (0 : Int32)])) :: ov))) (Sn_u.trans (Sn_f (Sf_hide3 ((13, .inl (2, 4, .inr (.inr (.inr (.inr (va_up (va_up (va_up (fun _ => none) 0 (some 47)) 1 (some 75)) 2 (some 103))))))) :: []) ((0, .inr (8, [.ref 1, .ref 3, .ref 8, .ref 13, .ref 14, .ref 15, .ref 27, .ref 39, .ref 41, .ref 45, .ref 46, .int (0 : Int32), .int (0 : Int32), .int (0 : Int32), .int (0 : Int32)])) :: ov)))) ?_
  refine am_iinc rfl rfl (Nat.le_of_ble_eq_true rfl) ?_
  refine am_drop (L' := [some (.ref 0), some (.int (3 : Int32))]) (And.intro rfl (And.intro rfl trivial)) ?_
  refine am_goto rfl ?_
  refine am_iload_n rfl rfl ?_
  refine x_iconst (v := (4 : Int32)) rfl (by decide) ?_
  refine am_icmp_ge rfl (fun c => absurd c (by decide)) (fun c => ?_)
  refine am_aload_n rfl rfl ?_
  refine am_get f_8_28 rfl (Nat.le_of_ble_eq_true rfl) rfl rfl ?_
  refine am_iload_n rfl rfl ?_
  refine am_new (fs := [.int (0 : Int32), .int (0 : Int32), .int (0 : Int32), .int (0 : Int32), .null, .null, .null, .null, .null, .null, .null, .null, .null, .null, .null, .null, .null]) rfl q_8_26 in_7 ini_7 (fun _ _ => df_7) rfl ⟨Nat.le_of_ble_eq_true rfl, Nat.le_of_ble_eq_true rfl⟩ ?_
  refine am_eqh (h' := (Sn 132 4141 ((131, .inr (7, [.int (0 : Int32), .int (0 : Int32), .int (0 : Int32), .int (0 : Int32), .null, .null, .null, .null, .null, .null, .null, .null, .null, .null, .null, .null, .null])) :: (14, .inl (2, 4, .inr (.inr (.inr (.inr (va_up (va_up (va_up (fun _ => none) 0 (some 61)) 1 (some 89)) 2 (some 117))))))) :: (13, .inl (2, 4, .inr (.inr (.inr (.inr (va_up (va_up (va_up (fun _ => none) 0 (some 47)) 1 (some 75)) 2 (some 103))))))) :: (0, .inr (8, [.ref 1, .ref 3, .ref 8, .ref 13, .ref 14, .ref 15, .ref 27, .ref 39, .ref 41, .ref 45, .ref 46, .int (0 : Int32), .int (0 : Int32), .int (0 : Int32), .int (0 : Int32)])) :: ov))) Sn_n ?_
  refine am_dup rfl rfl ?_
  refine am_callN (As := []) (mc' := 13) (ms' := 417) n_8_87 rfl rfl rfl (d' := 1) (Nat.le_of_ble_eq_true rfl) (fun _ _ => Nat.le_of_ble_eq_true rfl) ⟨Nat.le_of_ble_eq_true rfl, Nat.le_of_ble_eq_true rfl⟩ (z_X7_init_131 ((14, .inl (2, 4, .inr (.inr (.inr (.inr (va_up (va_up (va_up (fun _ => none) 0 (some 61)) 1 (some 89)) 2 (some 117))))))) :: (13, .inl (2, 4, .inr (.inr (.inr (.inr (va_up (va_up (va_up (fun _ => none) 0 (some 47)) 1 (some 75)) 2 (some 103))))))) :: (0, .inr (8, [.ref 1, .ref 3, .ref 8, .ref 13, .ref 14, .ref 15, .ref 27, .ref 39, .ref 41, .ref 45, .ref 46, .int (0 : Int32), .int (0 : Int32), .int (0 : Int32), .int (0 : Int32)])) :: ov) (fun k hk => ((Sf_ne (a := 14) (k := k) (by omega)).trans ((Sf_ne (a := 13) (k := k) (by omega)).trans ((Sf_ne (a := 0) (k := k) (by omega)).trans (hov k (by omega)))))) ?_)
  have hv : S_f ((14, .inl (2, 4, .inr (.inr (.inr (.inr (va_up (va_up (va_up (fun _ => none) 0 (some 61)) 1 (some 89)) 2 (some 117))))))) :: (13, .inl (2, 4, .inr (.inr (.inr (.inr (va_up (va_up (va_up (fun _ => none) 0 (some 47)) 1 (some 75)) 2 (some 103))))))) :: (0, .inr (8, [.ref 1, .ref 3, .ref 8, .ref 13, .ref 14, .ref 15, .ref 27, .ref 39, .ref 41, .ref 45, .ref 46, .int (0 : Int32), .int (0 : Int32), .int (0 : Int32), .int (0 : Int32)])) :: ov) 131 = .inr (7, am_fl (g0 131) 0 (sk_t 131)) := ((Sf_ne (a := 14) (k := 131) (by decide)).trans ((Sf_ne (a := 13) (k := 131) (by decide)).trans ((Sf_ne (a := 0) (k := 131) (by decide)).trans (hov 131 (by decide))))).trans rfl
  refine am_aast rfl (Nat.le_of_ble_eq_true rfl) rfl (Nat.le_of_ble_eq_true rfl) hv (by unfold vp_in; decide) ?_
  clear hv
  refine am_eqh (h' := (Sn 145 4558 ((13, .inl (2, 4, .inr (.inr (.inr (.inr (va_up (va_up (va_up (va_up (fun _ => none) 0 (some 47)) 1 (some 75)) 2 (some 103)) 3 (some 131))))))) :: (14, .inl (2, 4, .inr (.inr (.inr (.inr (va_up (va_up (va_up (fun _ => none) 0 (some 61)) 1 (some 89)) 2 (some 117))))))) :: (0, .inr (8, [.ref 1, .ref 3, .ref 8, .ref 13, .ref 14, .ref 15, .ref 27, .ref 39, .ref 41, .ref 45, .ref 46, .int (0 : Int32), .int (0 : Int32), .int (0 : Int32), .int (0 : Int32)])) :: ov))) (Sn_u.trans (Sn_f (Sf_hide3 ((14, .inl (2, 4, .inr (.inr (.inr (.inr (va_up (va_up (va_up (fun _ => none) 0 (some 61)) 1 (some 89)) 2 (some 117))))))) :: []) ((0, .inr (8, [.ref 1, .ref 3, .ref 8, .ref 13, .ref 14, .ref 15, .ref 27, .ref 39, .ref 41, .ref 45, .ref 46, .int (0 : Int32), .int (0 : Int32), .int (0 : Int32), .int (0 : Int32)])) :: ov)))) ?_
  refine am_aload_n rfl rfl ?_
  refine am_get f_8_32 rfl (Nat.le_of_ble_eq_true rfl) rfl rfl ?_
  refine am_iload_n rfl rfl ?_
  refine am_new (fs := [.int (0 : Int32), .int (0 : Int32), .int (0 : Int32), .int (0 : Int32), .null, .null, .null, .null, .null, .null, .null, .null, .null, .null, .null, .null, .null]) rfl q_8_26 in_7 ini_7 (fun _ _ => df_7) rfl ⟨Nat.le_of_ble_eq_true rfl, Nat.le_of_ble_eq_true rfl⟩ ?_
  refine am_eqh (h' := (Sn 146 4575 ((145, .inr (7, [.int (0 : Int32), .int (0 : Int32), .int (0 : Int32), .int (0 : Int32), .null, .null, .null, .null, .null, .null, .null, .null, .null, .null, .null, .null, .null])) :: (13, .inl (2, 4, .inr (.inr (.inr (.inr (va_up (va_up (va_up (va_up (fun _ => none) 0 (some 47)) 1 (some 75)) 2 (some 103)) 3 (some 131))))))) :: (14, .inl (2, 4, .inr (.inr (.inr (.inr (va_up (va_up (va_up (fun _ => none) 0 (some 61)) 1 (some 89)) 2 (some 117))))))) :: (0, .inr (8, [.ref 1, .ref 3, .ref 8, .ref 13, .ref 14, .ref 15, .ref 27, .ref 39, .ref 41, .ref 45, .ref 46, .int (0 : Int32), .int (0 : Int32), .int (0 : Int32), .int (0 : Int32)])) :: ov))) Sn_n ?_
  refine am_dup rfl rfl ?_
  refine am_callN (As := []) (mc' := 13) (ms' := 417) n_8_87 rfl rfl rfl (d' := 1) (Nat.le_of_ble_eq_true rfl) (fun _ _ => Nat.le_of_ble_eq_true rfl) ⟨Nat.le_of_ble_eq_true rfl, Nat.le_of_ble_eq_true rfl⟩ (z_X7_init_145 ((13, .inl (2, 4, .inr (.inr (.inr (.inr (va_up (va_up (va_up (va_up (fun _ => none) 0 (some 47)) 1 (some 75)) 2 (some 103)) 3 (some 131))))))) :: (14, .inl (2, 4, .inr (.inr (.inr (.inr (va_up (va_up (va_up (fun _ => none) 0 (some 61)) 1 (some 89)) 2 (some 117))))))) :: (0, .inr (8, [.ref 1, .ref 3, .ref 8, .ref 13, .ref 14, .ref 15, .ref 27, .ref 39, .ref 41, .ref 45, .ref 46, .int (0 : Int32), .int (0 : Int32), .int (0 : Int32), .int (0 : Int32)])) :: ov) (fun k hk => ((Sf_ne (a := 13) (k := k) (by omega)).trans ((Sf_ne (a := 14) (k := k) (by omega)).trans ((Sf_ne (a := 0) (k := k) (by omega)).trans (hov k (by omega)))))) ?_)
  have hv : S_f ((13, .inl (2, 4, .inr (.inr (.inr (.inr (va_up (va_up (va_up (va_up (fun _ => none) 0 (some 47)) 1 (some 75)) 2 (some 103)) 3 (some 131))))))) :: (14, .inl (2, 4, .inr (.inr (.inr (.inr (va_up (va_up (va_up (fun _ => none) 0 (some 61)) 1 (some 89)) 2 (some 117))))))) :: (0, .inr (8, [.ref 1, .ref 3, .ref 8, .ref 13, .ref 14, .ref 15, .ref 27, .ref 39, .ref 41, .ref 45, .ref 46, .int (0 : Int32), .int (0 : Int32), .int (0 : Int32), .int (0 : Int32)])) :: ov) 145 = .inr (7, am_fl (g0 145) 0 (sk_t 145)) := ((Sf_ne (a := 13) (k := 145) (by decide)).trans ((Sf_ne (a := 14) (k := 145) (by decide)).trans ((Sf_ne (a := 0) (k := 145) (by decide)).trans (hov 145 (by decide))))).trans rfl
  refine am_aast rfl (Nat.le_of_ble_eq_true rfl) rfl (Nat.le_of_ble_eq_true rfl) hv (by unfold vp_in; decide) ?_
  clear hv
  refine am_eqh (h' := (Sn 159 4992 ((14, .inl (2, 4, .inr (.inr (.inr (.inr (va_up (va_up (va_up (va_up (fun _ => none) 0 (some 61)) 1 (some 89)) 2 (some 117)) 3 (some 145))))))) :: (13, .inl (2, 4, .inr (.inr (.inr (.inr (va_up (va_up (va_up (va_up (fun _ => none) 0 (some 47)) 1 (some 75)) 2 (some 103)) 3 (some 131))))))) :: (0, .inr (8, [.ref 1, .ref 3, .ref 8, .ref 13, .ref 14, .ref 15, .ref 27, .ref 39, .ref 41, .ref 45, .ref 46, .int (0 : Int32), .int (0 : Int32), .int (0 : Int32), .int (0 : Int32)])) :: ov))) (Sn_u.trans (Sn_f (Sf_hide3 ((13, .inl (2, 4, .inr (.inr (.inr (.inr (va_up (va_up (va_up (va_up (fun _ => none) 0 (some 47)) 1 (some 75)) 2 (some 103)) 3 (some 131))))))) :: []) ((0, .inr (8, [.ref 1, .ref 3, .ref 8, .ref 13, .ref 14, .ref 15, .ref 27, .ref 39, .ref 41, .ref 45, .ref 46, .int (0 : Int32), .int (0 : Int32), .int (0 : Int32), .int (0 : Int32)])) :: ov)))) ?_
  refine am_iinc rfl rfl (Nat.le_of_ble_eq_true rfl) ?_
  refine am_drop (L' := [some (.ref 0), some (.int (4 : Int32))]) (And.intro rfl (And.intro rfl trivial)) ?_
  refine am_goto rfl ?_
  refine am_iload_n rfl rfl ?_
  refine x_iconst (v := (4 : Int32)) rfl (by decide) ?_
  refine am_icmp_ge rfl (fun c => ?_) (fun c => absurd (by decide) c)
  refine am_eqh (h' := (Sn 159 4992 ((13, .inl (2, 4, .inr (.inr (.inr (.inr (va_up (va_up (va_up (va_up (fun _ => none) 0 (some 47)) 1 (some 75)) 2 (some 103)) 3 (some 131))))))) :: (0, .inr (8, [.ref 1, .ref 3, .ref 8, .ref 13, .ref 14, .ref 15, .ref 27, .ref 39, .ref 41, .ref 45, .ref 46, .int (0 : Int32), .int (0 : Int32), .int (0 : Int32), .int (0 : Int32)])) :: ov))) (Sn_f (Sf_drop (((Sf_ne (a := 13) (k := 14) (by decide)).trans ((Sf_ne (a := 0) (k := 14) (by decide)).trans (hov 14 (by decide)))).trans rf_14))) ?_
  refine am_eqh (h' := (Sn 159 4992 ((0, .inr (8, [.ref 1, .ref 3, .ref 8, .ref 13, .ref 14, .ref 15, .ref 27, .ref 39, .ref 41, .ref 45, .ref 46, .int (0 : Int32), .int (0 : Int32), .int (0 : Int32), .int (0 : Int32)])) :: ov))) (Sn_f (Sf_drop (((Sf_ne (a := 0) (k := 13) (by decide)).trans (hov 13 (by decide))).trans rf_13))) ?_
  refine am_eqh (h' := (Sn 159 4992 (ov))) (Sn_f (Sf_drop ((hov 0 (by decide)).trans rfl))) ?_
  exact am_vret rfl rfl rfl rfl K
set_option maxHeartbeats 4000000 in
set_option maxRecDepth 100000 in
theorem z_X9_init_159 (ov : List (Nat × va_E)) (hov : ∀ k, 159 ≤ k → S_f ov k = hp g0 k) {post : Int32 → am_H → Prop} (K : post 0 (Sn 185 11339 ov)) : am_X m_X9_init 1 25 6304 [.ref 159] (Sn 160 5035 ((159, .inr (9, (Value.int (0 : Int32) :: Value.null :: Value.int (0 : Int32) :: Value.int (0 : Int32) :: Value.null :: Value.null :: Value.null :: Value.null :: Value.int (0 : Int32) :: Value.null :: Value.int (0 : Int32) :: Value.int (0 : Int32) :: Value.null :: Value.null :: Value.null :: Value.null :: Value.int (0 : Int32) :: Value.null :: Value.null :: Value.null :: Value.null :: Value.int (0 : Int32) :: Value.int (0 : Int32) :: Value.int (0 : Int32) :: Value.int (0 : Int32) :: Value.int (0 : Int32) :: Value.null :: Value.null :: Value.null :: Value.null :: Value.int (0 : Int32) :: Value.int (0 : Int32) :: Value.int (0 : Int32) :: Value.int (0 : Int32) :: Value.int (0 : Int32) :: Value.null :: Value.null :: Value.null :: Value.null :: Value.null :: Value.null :: Value.null :: Value.int (0 : Int32) :: []))) :: ov)) post := by
  refine am_X_of ok_X9_init pn_9 rfl (by decide) (Or.inl rfl) (List.forall_mem_cons.mpr ⟨rfl, fun _ h => absurd h List.not_mem_nil⟩) (Nat.le_of_ble_eq_true rfl) ?_
  show am_V m_X9_init (0, fun _ => 0) 1 25 6304 160 5035 post 0 [some (.ref 159)] [] (Sn 160 5035 ((159, .inr (9, (Value.int (0 : Int32) :: Value.null :: Value.int (0 : Int32) :: Value.int (0 : Int32) :: Value.null :: Value.null :: Value.null :: Value.null :: Value.int (0 : Int32) :: Value.null :: Value.int (0 : Int32) :: Value.int (0 : Int32) :: Value.null :: Value.null :: Value.null :: Value.null :: Value.int (0 : Int32) :: Value.null :: Value.null :: Value.null :: Value.null :: Value.int (0 : Int32) :: Value.int (0 : Int32) :: Value.int (0 : Int32) :: Value.int (0 : Int32) :: Value.int (0 : Int32) :: Value.null :: Value.null :: Value.null :: Value.null :: Value.int (0 : Int32) :: Value.int (0 : Int32) :: Value.int (0 : Int32) :: Value.int (0 : Int32) :: Value.int (0 : Int32) :: Value.null :: Value.null :: Value.null :: Value.null :: Value.null :: Value.null :: Value.null :: Value.int (0 : Int32) :: []))) :: ov))
  refine am_aload_n rfl rfl ?_
  refine am_obj j_9_1 ob_ins ob_cod rfl (Nat.le_of_ble_eq_true rfl) (fun _ _ => Nat.le_of_ble_eq_true rfl) ?_
  refine am_aload_n rfl rfl ?_
  refine x_sipush (v := (200 : Int32)) rfl (by decide) ?_
  refine am_newI ar_int (by decide) (N := 200) (by decide) (by decide) rfl ⟨Nat.le_of_ble_eq_true rfl, Nat.le_of_ble_eq_true rfl⟩ ?_
  refine am_eqh (h' := (Sn 161 5235 ((159, .inr (9, (Value.int (0 : Int32) :: Value.null :: Value.int (0 : Int32) :: Value.int (0 : Int32) :: Value.null :: Value.null :: Value.null :: Value.null :: Value.int (0 : Int32) :: Value.null :: Value.int (0 : Int32) :: Value.int (0 : Int32) :: Value.null :: Value.null :: Value.null :: Value.null :: Value.int (0 : Int32) :: Value.null :: Value.null :: Value.null :: Value.null :: Value.int (0 : Int32) :: Value.int (0 : Int32) :: Value.int (0 : Int32) :: Value.int (0 : Int32) :: Value.int (0 : Int32) :: Value.null :: Value.null :: Value.null :: Value.null :: Value.int (0 : Int32) :: Value.int (0 : Int32) :: Value.int (0 : Int32) :: Value.int (0 : Int32) :: Value.int (0 : Int32) :: Value.null :: Value.null :: Value.null :: Value.null :: Value.null :: Value.null :: Value.null :: Value.int (0 : Int32) :: []))) :: ov))) (Sn_n.trans (Sn_f (Sf_drop (((Sf_ne (a := 159) (k := 160) (by decide)).trans (hov 160 (by decide))).trans rfl)))) ?_
  refine am_putF f_9_7 rfl rfl rfl rfl (Nat.le_of_ble_eq_true rfl) rfl (by decide) (fun _ _ => ⟨rfl, rfl⟩) ?_
  refine am_eqh (h' := (Sn 161 5235 ((159, .inr (9, (Value.int (0 : Int32) :: Value.ref 160 :: Value.int (0 : Int32) :: Value.int (0 : Int32) :: Value.null :: Value.null :: Value.null :: Value.null :: Value.int (0 : Int32) :: Value.null :: Value.int (0 : Int32) :: Value.int (0 : Int32) :: Value.null :: Value.null :: Value.null :: Value.null :: Value.int (0 : Int32) :: Value.null :: Value.null :: Value.null :: Value.null :: Value.int (0 : Int32) :: Value.int (0 : Int32) :: Value.int (0 : Int32) :: Value.int (0 : Int32) :: Value.int (0 : Int32) :: Value.null :: Value.null :: Value.null :: Value.null :: Value.int (0 : Int32) :: Value.int (0 : Int32) :: Value.int (0 : Int32) :: Value.int (0 : Int32) :: Value.int (0 : Int32) :: Value.null :: Value.null :: Value.null :: Value.null :: Value.null :: Value.null :: Value.null :: Value.int (0 : Int32) :: []))) :: ov))) (Sn_u.trans (Sn_f Sf_hide)) ?_
  refine am_aload_n rfl rfl ?_
  refine x_bipush (v := (24 : Int32)) rfl (by decide) ?_
  refine am_newI ar_int (by decide) (N := 24) (by decide) (by decide) rfl ⟨Nat.le_of_ble_eq_true rfl, Nat.le_of_ble_eq_true rfl⟩ ?_
  refine am_eqh (h' := (Sn 162 5259 ((159, .inr (9, (Value.int (0 : Int32) :: Value.ref 160 :: Value.int (0 : Int32) :: Value.int (0 : Int32) :: Value.null :: Value.null :: Value.null :: Value.null :: Value.int (0 : Int32) :: Value.null :: Value.int (0 : Int32) :: Value.int (0 : Int32) :: Value.null :: Value.null :: Value.null :: Value.null :: Value.int (0 : Int32) :: Value.null :: Value.null :: Value.null :: Value.null :: Value.int (0 : Int32) :: Value.int (0 : Int32) :: Value.int (0 : Int32) :: Value.int (0 : Int32) :: Value.int (0 : Int32) :: Value.null :: Value.null :: Value.null :: Value.null :: Value.int (0 : Int32) :: Value.int (0 : Int32) :: Value.int (0 : Int32) :: Value.int (0 : Int32) :: Value.int (0 : Int32) :: Value.null :: Value.null :: Value.null :: Value.null :: Value.null :: Value.null :: Value.null :: Value.int (0 : Int32) :: []))) :: ov))) (Sn_n.trans (Sn_f (Sf_drop (((Sf_ne (a := 159) (k := 161) (by decide)).trans (hov 161 (by decide))).trans rfl)))) ?_
  refine am_putF f_9_13 rfl rfl rfl rfl (Nat.le_of_ble_eq_true rfl) rfl (by decide) (fun _ _ => ⟨rfl, rfl⟩) ?_
  refine am_eqh (h' := (Sn 162 5259 ((159, .inr (9, (Value.int (0 : Int32) :: Value.ref 160 :: Value.int (0 : Int32) :: Value.int (0 : Int32) :: Value.ref 161 :: Value.null :: Value.null :: Value.null :: Value.int (0 : Int32) :: Value.null :: Value.int (0 : Int32) :: Value.int (0 : Int32) :: Value.null :: Value.null :: Value.null :: Value.null :: Value.int (0 : Int32) :: Value.null :: Value.null :: Value.null :: Value.null :: Value.int (0 : Int32) :: Value.int (0 : Int32) :: Value.int (0 : Int32) :: Value.int (0 : Int32) :: Value.int (0 : Int32) :: Value.null :: Value.null :: Value.null :: Value.null :: Value.int (0 : Int32) :: Value.int (0 : Int32) :: Value.int (0 : Int32) :: Value.int (0 : Int32) :: Value.int (0 : Int32) :: Value.null :: Value.null :: Value.null :: Value.null :: Value.null :: Value.null :: Value.null :: Value.int (0 : Int32) :: []))) :: ov))) (Sn_u.trans (Sn_f Sf_hide)) ?_
  refine am_aload_n rfl rfl ?_
  refine x_bipush (v := (24 : Int32)) rfl (by decide) ?_
  refine am_newI ar_int (by decide) (N := 24) (by decide) (by decide) rfl ⟨Nat.le_of_ble_eq_true rfl, Nat.le_of_ble_eq_true rfl⟩ ?_
  refine am_eqh (h' := (Sn 163 5283 ((159, .inr (9, (Value.int (0 : Int32) :: Value.ref 160 :: Value.int (0 : Int32) :: Value.int (0 : Int32) :: Value.ref 161 :: Value.null :: Value.null :: Value.null :: Value.int (0 : Int32) :: Value.null :: Value.int (0 : Int32) :: Value.int (0 : Int32) :: Value.null :: Value.null :: Value.null :: Value.null :: Value.int (0 : Int32) :: Value.null :: Value.null :: Value.null :: Value.null :: Value.int (0 : Int32) :: Value.int (0 : Int32) :: Value.int (0 : Int32) :: Value.int (0 : Int32) :: Value.int (0 : Int32) :: Value.null :: Value.null :: Value.null :: Value.null :: Value.int (0 : Int32) :: Value.int (0 : Int32) :: Value.int (0 : Int32) :: Value.int (0 : Int32) :: Value.int (0 : Int32) :: Value.null :: Value.null :: Value.null :: Value.null :: Value.null :: Value.null :: Value.null :: Value.int (0 : Int32) :: []))) :: ov))) (Sn_n.trans (Sn_f (Sf_drop (((Sf_ne (a := 159) (k := 162) (by decide)).trans (hov 162 (by decide))).trans rfl)))) ?_
  refine am_putF f_9_16 rfl rfl rfl rfl (Nat.le_of_ble_eq_true rfl) rfl (by decide) (fun _ _ => ⟨rfl, rfl⟩) ?_
  refine am_eqh (h' := (Sn 163 5283 ((159, .inr (9, (Value.int (0 : Int32) :: Value.ref 160 :: Value.int (0 : Int32) :: Value.int (0 : Int32) :: Value.ref 161 :: Value.ref 162 :: Value.null :: Value.null :: Value.int (0 : Int32) :: Value.null :: Value.int (0 : Int32) :: Value.int (0 : Int32) :: Value.null :: Value.null :: Value.null :: Value.null :: Value.int (0 : Int32) :: Value.null :: Value.null :: Value.null :: Value.null :: Value.int (0 : Int32) :: Value.int (0 : Int32) :: Value.int (0 : Int32) :: Value.int (0 : Int32) :: Value.int (0 : Int32) :: Value.null :: Value.null :: Value.null :: Value.null :: Value.int (0 : Int32) :: Value.int (0 : Int32) :: Value.int (0 : Int32) :: Value.int (0 : Int32) :: Value.int (0 : Int32) :: Value.null :: Value.null :: Value.null :: Value.null :: Value.null :: Value.null :: Value.null :: Value.int (0 : Int32) :: []))) :: ov))) (Sn_u.trans (Sn_f Sf_hide)) ?_
  refine am_aload_n rfl rfl ?_
  refine x_bipush (v := (24 : Int32)) rfl (by decide) ?_
  refine am_newI ar_int (by decide) (N := 24) (by decide) (by decide) rfl ⟨Nat.le_of_ble_eq_true rfl, Nat.le_of_ble_eq_true rfl⟩ ?_
  refine am_eqh (h' := (Sn 164 5307 ((159, .inr (9, (Value.int (0 : Int32) :: Value.ref 160 :: Value.int (0 : Int32) :: Value.int (0 : Int32) :: Value.ref 161 :: Value.ref 162 :: Value.null :: Value.null :: Value.int (0 : Int32) :: Value.null :: Value.int (0 : Int32) :: Value.int (0 : Int32) :: Value.null :: Value.null :: Value.null :: Value.null :: Value.int (0 : Int32) :: Value.null :: Value.null :: Value.null :: Value.null :: Value.int (0 : Int32) :: Value.int (0 : Int32) :: Value.int (0 : Int32) :: Value.int (0 : Int32) :: Value.int (0 : Int32) :: Value.null :: Value.null :: Value.null :: Value.null :: Value.int (0 : Int32) :: Value.int (0 : Int32) :: Value.int (0 : Int32) :: Value.int (0 : Int32) :: Value.int (0 : Int32) :: Value.null :: Value.null :: Value.null :: Value.null :: Value.null :: Value.null :: Value.null :: Value.int (0 : Int32) :: []))) :: ov))) (Sn_n.trans (Sn_f (Sf_drop (((Sf_ne (a := 159) (k := 163) (by decide)).trans (hov 163 (by decide))).trans rfl)))) ?_
  refine am_putF f_9_19 rfl rfl rfl rfl (Nat.le_of_ble_eq_true rfl) rfl (by decide) (fun _ _ => ⟨rfl, rfl⟩) ?_
  refine am_eqh (h' := (Sn 164 5307 ((159, .inr (9, (Value.int (0 : Int32) :: Value.ref 160 :: Value.int (0 : Int32) :: Value.int (0 : Int32) :: Value.ref 161 :: Value.ref 162 :: Value.ref 163 :: Value.null :: Value.int (0 : Int32) :: Value.null :: Value.int (0 : Int32) :: Value.int (0 : Int32) :: Value.null :: Value.null :: Value.null :: Value.null :: Value.int (0 : Int32) :: Value.null :: Value.null :: Value.null :: Value.null :: Value.int (0 : Int32) :: Value.int (0 : Int32) :: Value.int (0 : Int32) :: Value.int (0 : Int32) :: Value.int (0 : Int32) :: Value.null :: Value.null :: Value.null :: Value.null :: Value.int (0 : Int32) :: Value.int (0 : Int32) :: Value.int (0 : Int32) :: Value.int (0 : Int32) :: Value.int (0 : Int32) :: Value.null :: Value.null :: Value.null :: Value.null :: Value.null :: Value.null :: Value.null :: Value.int (0 : Int32) :: []))) :: ov))) (Sn_u.trans (Sn_f Sf_hide)) ?_
  refine am_aload_n rfl rfl ?_
  refine x_bipush (v := (96 : Int32)) rfl (by decide) ?_
  refine am_newI ar_int (by decide) (N := 96) (by decide) (by decide) rfl ⟨Nat.le_of_ble_eq_true rfl, Nat.le_of_ble_eq_true rfl⟩ ?_
  refine am_eqh (h' := (Sn 165 5403 ((159, .inr (9, (Value.int (0 : Int32) :: Value.ref 160 :: Value.int (0 : Int32) :: Value.int (0 : Int32) :: Value.ref 161 :: Value.ref 162 :: Value.ref 163 :: Value.null :: Value.int (0 : Int32) :: Value.null :: Value.int (0 : Int32) :: Value.int (0 : Int32) :: Value.null :: Value.null :: Value.null :: Value.null :: Value.int (0 : Int32) :: Value.null :: Value.null :: Value.null :: Value.null :: Value.int (0 : Int32) :: Value.int (0 : Int32) :: Value.int (0 : Int32) :: Value.int (0 : Int32) :: Value.int (0 : Int32) :: Value.null :: Value.null :: Value.null :: Value.null :: Value.int (0 : Int32) :: Value.int (0 : Int32) :: Value.int (0 : Int32) :: Value.int (0 : Int32) :: Value.int (0 : Int32) :: Value.null :: Value.null :: Value.null :: Value.null :: Value.null :: Value.null :: Value.null :: Value.int (0 : Int32) :: []))) :: ov))) (Sn_n.trans (Sn_f (Sf_drop (((Sf_ne (a := 159) (k := 164) (by decide)).trans (hov 164 (by decide))).trans rfl)))) ?_
  refine am_putF f_9_22 rfl rfl rfl rfl (Nat.le_of_ble_eq_true rfl) rfl (by decide) (fun _ _ => ⟨rfl, rfl⟩) ?_
  refine am_eqh (h' := (Sn 165 5403 ((159, .inr (9, (Value.int (0 : Int32) :: Value.ref 160 :: Value.int (0 : Int32) :: Value.int (0 : Int32) :: Value.ref 161 :: Value.ref 162 :: Value.ref 163 :: Value.ref 164 :: Value.int (0 : Int32) :: Value.null :: Value.int (0 : Int32) :: Value.int (0 : Int32) :: Value.null :: Value.null :: Value.null :: Value.null :: Value.int (0 : Int32) :: Value.null :: Value.null :: Value.null :: Value.null :: Value.int (0 : Int32) :: Value.int (0 : Int32) :: Value.int (0 : Int32) :: Value.int (0 : Int32) :: Value.int (0 : Int32) :: Value.null :: Value.null :: Value.null :: Value.null :: Value.int (0 : Int32) :: Value.int (0 : Int32) :: Value.int (0 : Int32) :: Value.int (0 : Int32) :: Value.int (0 : Int32) :: Value.null :: Value.null :: Value.null :: Value.null :: Value.null :: Value.null :: Value.null :: Value.int (0 : Int32) :: []))) :: ov))) (Sn_u.trans (Sn_f Sf_hide)) ?_
  refine am_aload_n rfl rfl ?_
  refine x_sipush (v := (1648 : Int32)) rfl (by decide) ?_
  refine am_newI ar_int (by decide) (N := 1648) (by decide) (by decide) rfl ⟨Nat.le_of_ble_eq_true rfl, Nat.le_of_ble_eq_true rfl⟩ ?_
  refine am_eqh (h' := (Sn 166 7051 ((159, .inr (9, (Value.int (0 : Int32) :: Value.ref 160 :: Value.int (0 : Int32) :: Value.int (0 : Int32) :: Value.ref 161 :: Value.ref 162 :: Value.ref 163 :: Value.ref 164 :: Value.int (0 : Int32) :: Value.null :: Value.int (0 : Int32) :: Value.int (0 : Int32) :: Value.null :: Value.null :: Value.null :: Value.null :: Value.int (0 : Int32) :: Value.null :: Value.null :: Value.null :: Value.null :: Value.int (0 : Int32) :: Value.int (0 : Int32) :: Value.int (0 : Int32) :: Value.int (0 : Int32) :: Value.int (0 : Int32) :: Value.null :: Value.null :: Value.null :: Value.null :: Value.int (0 : Int32) :: Value.int (0 : Int32) :: Value.int (0 : Int32) :: Value.int (0 : Int32) :: Value.int (0 : Int32) :: Value.null :: Value.null :: Value.null :: Value.null :: Value.null :: Value.null :: Value.null :: Value.int (0 : Int32) :: []))) :: ov))) (Sn_n.trans (Sn_f (Sf_drop (((Sf_ne (a := 159) (k := 165) (by decide)).trans (hov 165 (by decide))).trans rfl)))) ?_
  refine am_putF f_9_25 rfl rfl rfl rfl (Nat.le_of_ble_eq_true rfl) rfl (by decide) (fun _ _ => ⟨rfl, rfl⟩) ?_
  refine am_eqh (h' := (Sn 166 7051 ((159, .inr (9, (Value.int (0 : Int32) :: Value.ref 160 :: Value.int (0 : Int32) :: Value.int (0 : Int32) :: Value.ref 161 :: Value.ref 162 :: Value.ref 163 :: Value.ref 164 :: Value.int (0 : Int32) :: Value.ref 165 :: Value.int (0 : Int32) :: Value.int (0 : Int32) :: Value.null :: Value.null :: Value.null :: Value.null :: Value.int (0 : Int32) :: Value.null :: Value.null :: Value.null :: Value.null :: Value.int (0 : Int32) :: Value.int (0 : Int32) :: Value.int (0 : Int32) :: Value.int (0 : Int32) :: Value.int (0 : Int32) :: Value.null :: Value.null :: Value.null :: Value.null :: Value.int (0 : Int32) :: Value.int (0 : Int32) :: Value.int (0 : Int32) :: Value.int (0 : Int32) :: Value.int (0 : Int32) :: Value.null :: Value.null :: Value.null :: Value.null :: Value.null :: Value.null :: Value.null :: Value.int (0 : Int32) :: []))) :: ov))) (Sn_u.trans (Sn_f Sf_hide)) ?_
  refine am_aload_n rfl rfl ?_
  refine x_bipush (v := (24 : Int32)) rfl (by decide) ?_
  refine am_newI ar_int (by decide) (N := 24) (by decide) (by decide) rfl ⟨Nat.le_of_ble_eq_true rfl, Nat.le_of_ble_eq_true rfl⟩ ?_
  refine am_eqh (h' := (Sn 167 7075 ((159, .inr (9, (Value.int (0 : Int32) :: Value.ref 160 :: Value.int (0 : Int32) :: Value.int (0 : Int32) :: Value.ref 161 :: Value.ref 162 :: Value.ref 163 :: Value.ref 164 :: Value.int (0 : Int32) :: Value.ref 165 :: Value.int (0 : Int32) :: Value.int (0 : Int32) :: Value.null :: Value.null :: Value.null :: Value.null :: Value.int (0 : Int32) :: Value.null :: Value.null :: Value.null :: Value.null :: Value.int (0 : Int32) :: Value.int (0 : Int32) :: Value.int (0 : Int32) :: Value.int (0 : Int32) :: Value.int (0 : Int32) :: Value.null :: Value.null :: Value.null :: Value.null :: Value.int (0 : Int32) :: Value.int (0 : Int32) :: Value.int (0 : Int32) :: Value.int (0 : Int32) :: Value.int (0 : Int32) :: Value.null :: Value.null :: Value.null :: Value.null :: Value.null :: Value.null :: Value.null :: Value.int (0 : Int32) :: []))) :: ov))) (Sn_n.trans (Sn_f (Sf_drop (((Sf_ne (a := 159) (k := 166) (by decide)).trans (hov 166 (by decide))).trans rfl)))) ?_
  refine am_putF f_9_28 rfl rfl rfl rfl (Nat.le_of_ble_eq_true rfl) rfl (by decide) (fun _ _ => ⟨rfl, rfl⟩) ?_
  refine am_eqh (h' := (Sn 167 7075 ((159, .inr (9, (Value.int (0 : Int32) :: Value.ref 160 :: Value.int (0 : Int32) :: Value.int (0 : Int32) :: Value.ref 161 :: Value.ref 162 :: Value.ref 163 :: Value.ref 164 :: Value.int (0 : Int32) :: Value.ref 165 :: Value.int (0 : Int32) :: Value.int (0 : Int32) :: Value.ref 166 :: Value.null :: Value.null :: Value.null :: Value.int (0 : Int32) :: Value.null :: Value.null :: Value.null :: Value.null :: Value.int (0 : Int32) :: Value.int (0 : Int32) :: Value.int (0 : Int32) :: Value.int (0 : Int32) :: Value.int (0 : Int32) :: Value.null :: Value.null :: Value.null :: Value.null :: Value.int (0 : Int32) :: Value.int (0 : Int32) :: Value.int (0 : Int32) :: Value.int (0 : Int32) :: Value.int (0 : Int32) :: Value.null :: Value.null :: Value.null :: Value.null :: Value.null :: Value.null :: Value.null :: Value.int (0 : Int32) :: []))) :: ov))) (Sn_u.trans (Sn_f Sf_hide)) ?_
  refine am_aload_n rfl rfl ?_
  refine x_bipush (v := (24 : Int32)) rfl (by decide) ?_
  refine am_newI ar_int (by decide) (N := 24) (by decide) (by decide) rfl ⟨Nat.le_of_ble_eq_true rfl, Nat.le_of_ble_eq_true rfl⟩ ?_
  refine am_eqh (h' := (Sn 168 7099 ((159, .inr (9, (Value.int (0 : Int32) :: Value.ref 160 :: Value.int (0 : Int32) :: Value.int (0 : Int32) :: Value.ref 161 :: Value.ref 162 :: Value.ref 163 :: Value.ref 164 :: Value.int (0 : Int32) :: Value.ref 165 :: Value.int (0 : Int32) :: Value.int (0 : Int32) :: Value.ref 166 :: Value.null :: Value.null :: Value.null :: Value.int (0 : Int32) :: Value.null :: Value.null :: Value.null :: Value.null :: Value.int (0 : Int32) :: Value.int (0 : Int32) :: Value.int (0 : Int32) :: Value.int (0 : Int32) :: Value.int (0 : Int32) :: Value.null :: Value.null :: Value.null :: Value.null :: Value.int (0 : Int32) :: Value.int (0 : Int32) :: Value.int (0 : Int32) :: Value.int (0 : Int32) :: Value.int (0 : Int32) :: Value.null :: Value.null :: Value.null :: Value.null :: Value.null :: Value.null :: Value.null :: Value.int (0 : Int32) :: []))) :: ov))) (Sn_n.trans (Sn_f (Sf_drop (((Sf_ne (a := 159) (k := 167) (by decide)).trans (hov 167 (by decide))).trans rfl)))) ?_
  refine am_putF f_9_31 rfl rfl rfl rfl (Nat.le_of_ble_eq_true rfl) rfl (by decide) (fun _ _ => ⟨rfl, rfl⟩) ?_
  refine am_eqh (h' := (Sn 168 7099 ((159, .inr (9, (Value.int (0 : Int32) :: Value.ref 160 :: Value.int (0 : Int32) :: Value.int (0 : Int32) :: Value.ref 161 :: Value.ref 162 :: Value.ref 163 :: Value.ref 164 :: Value.int (0 : Int32) :: Value.ref 165 :: Value.int (0 : Int32) :: Value.int (0 : Int32) :: Value.ref 166 :: Value.ref 167 :: Value.null :: Value.null :: Value.int (0 : Int32) :: Value.null :: Value.null :: Value.null :: Value.null :: Value.int (0 : Int32) :: Value.int (0 : Int32) :: Value.int (0 : Int32) :: Value.int (0 : Int32) :: Value.int (0 : Int32) :: Value.null :: Value.null :: Value.null :: Value.null :: Value.int (0 : Int32) :: Value.int (0 : Int32) :: Value.int (0 : Int32) :: Value.int (0 : Int32) :: Value.int (0 : Int32) :: Value.null :: Value.null :: Value.null :: Value.null :: Value.null :: Value.null :: Value.null :: Value.int (0 : Int32) :: []))) :: ov))) (Sn_u.trans (Sn_f Sf_hide)) ?_
  refine am_aload_n rfl rfl ?_
  refine x_bipush (v := (24 : Int32)) rfl (by decide) ?_
  refine am_newI ar_int (by decide) (N := 24) (by decide) (by decide) rfl ⟨Nat.le_of_ble_eq_true rfl, Nat.le_of_ble_eq_true rfl⟩ ?_
  refine am_eqh (h' := (Sn 169 7123 ((159, .inr (9, (Value.int (0 : Int32) :: Value.ref 160 :: Value.int (0 : Int32) :: Value.int (0 : Int32) :: Value.ref 161 :: Value.ref 162 :: Value.ref 163 :: Value.ref 164 :: Value.int (0 : Int32) :: Value.ref 165 :: Value.int (0 : Int32) :: Value.int (0 : Int32) :: Value.ref 166 :: Value.ref 167 :: Value.null :: Value.null :: Value.int (0 : Int32) :: Value.null :: Value.null :: Value.null :: Value.null :: Value.int (0 : Int32) :: Value.int (0 : Int32) :: Value.int (0 : Int32) :: Value.int (0 : Int32) :: Value.int (0 : Int32) :: Value.null :: Value.null :: Value.null :: Value.null :: Value.int (0 : Int32) :: Value.int (0 : Int32) :: Value.int (0 : Int32) :: Value.int (0 : Int32) :: Value.int (0 : Int32) :: Value.null :: Value.null :: Value.null :: Value.null :: Value.null :: Value.null :: Value.null :: Value.int (0 : Int32) :: []))) :: ov))) (Sn_n.trans (Sn_f (Sf_drop (((Sf_ne (a := 159) (k := 168) (by decide)).trans (hov 168 (by decide))).trans rfl)))) ?_
  refine am_putF f_9_34 rfl rfl rfl rfl (Nat.le_of_ble_eq_true rfl) rfl (by decide) (fun _ _ => ⟨rfl, rfl⟩) ?_
  refine am_eqh (h' := (Sn 169 7123 ((159, .inr (9, (Value.int (0 : Int32) :: Value.ref 160 :: Value.int (0 : Int32) :: Value.int (0 : Int32) :: Value.ref 161 :: Value.ref 162 :: Value.ref 163 :: Value.ref 164 :: Value.int (0 : Int32) :: Value.ref 165 :: Value.int (0 : Int32) :: Value.int (0 : Int32) :: Value.ref 166 :: Value.ref 167 :: Value.ref 168 :: Value.null :: Value.int (0 : Int32) :: Value.null :: Value.null :: Value.null :: Value.null :: Value.int (0 : Int32) :: Value.int (0 : Int32) :: Value.int (0 : Int32) :: Value.int (0 : Int32) :: Value.int (0 : Int32) :: Value.null :: Value.null :: Value.null :: Value.null :: Value.int (0 : Int32) :: Value.int (0 : Int32) :: Value.int (0 : Int32) :: Value.int (0 : Int32) :: Value.int (0 : Int32) :: Value.null :: Value.null :: Value.null :: Value.null :: Value.null :: Value.null :: Value.null :: Value.int (0 : Int32) :: []))) :: ov))) (Sn_u.trans (Sn_f Sf_hide)) ?_
  refine am_aload_n rfl rfl ?_
  refine x_bipush (v := (96 : Int32)) rfl (by decide) ?_
  refine am_newI ar_int (by decide) (N := 96) (by decide) (by decide) rfl ⟨Nat.le_of_ble_eq_true rfl, Nat.le_of_ble_eq_true rfl⟩ ?_
  refine am_eqh (h' := (Sn 170 7219 ((159, .inr (9, (Value.int (0 : Int32) :: Value.ref 160 :: Value.int (0 : Int32) :: Value.int (0 : Int32) :: Value.ref 161 :: Value.ref 162 :: Value.ref 163 :: Value.ref 164 :: Value.int (0 : Int32) :: Value.ref 165 :: Value.int (0 : Int32) :: Value.int (0 : Int32) :: Value.ref 166 :: Value.ref 167 :: Value.ref 168 :: Value.null :: Value.int (0 : Int32) :: Value.null :: Value.null :: Value.null :: Value.null :: Value.int (0 : Int32) :: Value.int (0 : Int32) :: Value.int (0 : Int32) :: Value.int (0 : Int32) :: Value.int (0 : Int32) :: Value.null :: Value.null :: Value.null :: Value.null :: Value.int (0 : Int32) :: Value.int (0 : Int32) :: Value.int (0 : Int32) :: Value.int (0 : Int32) :: Value.int (0 : Int32) :: Value.null :: Value.null :: Value.null :: Value.null :: Value.null :: Value.null :: Value.null :: Value.int (0 : Int32) :: []))) :: ov))) (Sn_n.trans (Sn_f (Sf_drop (((Sf_ne (a := 159) (k := 169) (by decide)).trans (hov 169 (by decide))).trans rfl)))) ?_
  refine am_putF f_9_37 rfl rfl rfl rfl (Nat.le_of_ble_eq_true rfl) rfl (by decide) (fun _ _ => ⟨rfl, rfl⟩) ?_
  refine am_eqh (h' := (Sn 170 7219 ((159, .inr (9, (Value.int (0 : Int32) :: Value.ref 160 :: Value.int (0 : Int32) :: Value.int (0 : Int32) :: Value.ref 161 :: Value.ref 162 :: Value.ref 163 :: Value.ref 164 :: Value.int (0 : Int32) :: Value.ref 165 :: Value.int (0 : Int32) :: Value.int (0 : Int32) :: Value.ref 166 :: Value.ref 167 :: Value.ref 168 :: Value.ref 169 :: Value.int (0 : Int32) :: Value.null :: Value.null :: Value.null :: Value.null :: Value.int (0 : Int32) :: Value.int (0 : Int32) :: Value.int (0 : Int32) :: Value.int (0 : Int32) :: Value.int (0 : Int32) :: Value.null :: Value.null :: Value.null :: Value.null :: Value.int (0 : Int32) :: Value.int (0 : Int32) :: Value.int (0 : Int32) :: Value.int (0 : Int32) :: Value.int (0 : Int32) :: Value.null :: Value.null :: Value.null :: Value.null :: Value.null :: Value.null :: Value.null :: Value.int (0 : Int32) :: []))) :: ov))) (Sn_u.trans (Sn_f Sf_hide)) ?_
  refine am_aload_n rfl rfl ?_
  refine x_sipush (v := (1648 : Int32)) rfl (by decide) ?_
  refine am_newI ar_int (by decide) (N := 1648) (by decide) (by decide) rfl ⟨Nat.le_of_ble_eq_true rfl, Nat.le_of_ble_eq_true rfl⟩ ?_
  refine am_eqh (h' := (Sn 171 8867 ((159, .inr (9, (Value.int (0 : Int32) :: Value.ref 160 :: Value.int (0 : Int32) :: Value.int (0 : Int32) :: Value.ref 161 :: Value.ref 162 :: Value.ref 163 :: Value.ref 164 :: Value.int (0 : Int32) :: Value.ref 165 :: Value.int (0 : Int32) :: Value.int (0 : Int32) :: Value.ref 166 :: Value.ref 167 :: Value.ref 168 :: Value.ref 169 :: Value.int (0 : Int32) :: Value.null :: Value.null :: Value.null :: Value.null :: Value.int (0 : Int32) :: Value.int (0 : Int32) :: Value.int (0 : Int32) :: Value.int (0 : Int32) :: Value.int (0 : Int32) :: Value.null :: Value.null :: Value.null :: Value.null :: Value.int (0 : Int32) :: Value.int (0 : Int32) :: Value.int (0 : Int32) :: Value.int (0 : Int32) :: Value.int (0 : Int32) :: Value.null :: Value.null :: Value.null :: Value.null :: Value.null :: Value.null :: Value.null :: Value.int (0 : Int32) :: []))) :: ov))) (Sn_n.trans (Sn_f (Sf_drop (((Sf_ne (a := 159) (k := 170) (by decide)).trans (hov 170 (by decide))).trans rfl)))) ?_
  refine am_putF f_9_40 rfl rfl rfl rfl (Nat.le_of_ble_eq_true rfl) rfl (by decide) (fun _ _ => ⟨rfl, rfl⟩) ?_
  refine am_eqh (h' := (Sn 171 8867 ((159, .inr (9, (Value.int (0 : Int32) :: Value.ref 160 :: Value.int (0 : Int32) :: Value.int (0 : Int32) :: Value.ref 161 :: Value.ref 162 :: Value.ref 163 :: Value.ref 164 :: Value.int (0 : Int32) :: Value.ref 165 :: Value.int (0 : Int32) :: Value.int (0 : Int32) :: Value.ref 166 :: Value.ref 167 :: Value.ref 168 :: Value.ref 169 :: Value.int (0 : Int32) :: Value.ref 170 :: Value.null :: Value.null :: Value.null :: Value.int (0 : Int32) :: Value.int (0 : Int32) :: Value.int (0 : Int32) :: Value.int (0 : Int32) :: Value.int (0 : Int32) :: Value.null :: Value.null :: Value.null :: Value.null :: Value.int (0 : Int32) :: Value.int (0 : Int32) :: Value.int (0 : Int32) :: Value.int (0 : Int32) :: Value.int (0 : Int32) :: Value.null :: Value.null :: Value.null :: Value.null :: Value.null :: Value.null :: Value.null :: Value.int (0 : Int32) :: []))) :: ov))) (Sn_u.trans (Sn_f Sf_hide)) ?_
  refine am_aload_n rfl rfl ?_
  refine x_sipush (v := (200 : Int32)) rfl (by decide) ?_
  refine am_newI ar_int (by decide) (N := 200) (by decide) (by decide) rfl ⟨Nat.le_of_ble_eq_true rfl, Nat.le_of_ble_eq_true rfl⟩ ?_
  refine am_eqh (h' := (Sn 172 9067 ((159, .inr (9, (Value.int (0 : Int32) :: Value.ref 160 :: Value.int (0 : Int32) :: Value.int (0 : Int32) :: Value.ref 161 :: Value.ref 162 :: Value.ref 163 :: Value.ref 164 :: Value.int (0 : Int32) :: Value.ref 165 :: Value.int (0 : Int32) :: Value.int (0 : Int32) :: Value.ref 166 :: Value.ref 167 :: Value.ref 168 :: Value.ref 169 :: Value.int (0 : Int32) :: Value.ref 170 :: Value.null :: Value.null :: Value.null :: Value.int (0 : Int32) :: Value.int (0 : Int32) :: Value.int (0 : Int32) :: Value.int (0 : Int32) :: Value.int (0 : Int32) :: Value.null :: Value.null :: Value.null :: Value.null :: Value.int (0 : Int32) :: Value.int (0 : Int32) :: Value.int (0 : Int32) :: Value.int (0 : Int32) :: Value.int (0 : Int32) :: Value.null :: Value.null :: Value.null :: Value.null :: Value.null :: Value.null :: Value.null :: Value.int (0 : Int32) :: []))) :: ov))) (Sn_n.trans (Sn_f (Sf_drop (((Sf_ne (a := 159) (k := 171) (by decide)).trans (hov 171 (by decide))).trans rfl)))) ?_
  refine am_putF f_9_43 rfl rfl rfl rfl (Nat.le_of_ble_eq_true rfl) rfl (by decide) (fun _ _ => ⟨rfl, rfl⟩) ?_
  refine am_eqh (h' := (Sn 172 9067 ((159, .inr (9, (Value.int (0 : Int32) :: Value.ref 160 :: Value.int (0 : Int32) :: Value.int (0 : Int32) :: Value.ref 161 :: Value.ref 162 :: Value.ref 163 :: Value.ref 164 :: Value.int (0 : Int32) :: Value.ref 165 :: Value.int (0 : Int32) :: Value.int (0 : Int32) :: Value.ref 166 :: Value.ref 167 :: Value.ref 168 :: Value.ref 169 :: Value.int (0 : Int32) :: Value.ref 170 :: Value.ref 171 :: Value.null :: Value.null :: Value.int (0 : Int32) :: Value.int (0 : Int32) :: Value.int (0 : Int32) :: Value.int (0 : Int32) :: Value.int (0 : Int32) :: Value.null :: Value.null :: Value.null :: Value.null :: Value.int (0 : Int32) :: Value.int (0 : Int32) :: Value.int (0 : Int32) :: Value.int (0 : Int32) :: Value.int (0 : Int32) :: Value.null :: Value.null :: Value.null :: Value.null :: Value.null :: Value.null :: Value.null :: Value.int (0 : Int32) :: []))) :: ov))) (Sn_u.trans (Sn_f Sf_hide)) ?_
  refine am_aload_n rfl rfl ?_
  refine x_iconst (v := (4 : Int32)) rfl (by decide) ?_
  refine am_newI ar_int (by decide) (N := 4) (by decide) (by decide) rfl ⟨Nat.le_of_ble_eq_true rfl, Nat.le_of_ble_eq_true rfl⟩ ?_
  refine am_eqh (h' := (Sn 173 9071 ((159, .inr (9, (Value.int (0 : Int32) :: Value.ref 160 :: Value.int (0 : Int32) :: Value.int (0 : Int32) :: Value.ref 161 :: Value.ref 162 :: Value.ref 163 :: Value.ref 164 :: Value.int (0 : Int32) :: Value.ref 165 :: Value.int (0 : Int32) :: Value.int (0 : Int32) :: Value.ref 166 :: Value.ref 167 :: Value.ref 168 :: Value.ref 169 :: Value.int (0 : Int32) :: Value.ref 170 :: Value.ref 171 :: Value.null :: Value.null :: Value.int (0 : Int32) :: Value.int (0 : Int32) :: Value.int (0 : Int32) :: Value.int (0 : Int32) :: Value.int (0 : Int32) :: Value.null :: Value.null :: Value.null :: Value.null :: Value.int (0 : Int32) :: Value.int (0 : Int32) :: Value.int (0 : Int32) :: Value.int (0 : Int32) :: Value.int (0 : Int32) :: Value.null :: Value.null :: Value.null :: Value.null :: Value.null :: Value.null :: Value.null :: Value.int (0 : Int32) :: []))) :: ov))) (Sn_n.trans (Sn_f (Sf_drop (((Sf_ne (a := 159) (k := 172) (by decide)).trans (hov 172 (by decide))).trans rfl)))) ?_
  refine am_putF f_9_46 rfl rfl rfl rfl (Nat.le_of_ble_eq_true rfl) rfl (by decide) (fun _ _ => ⟨rfl, rfl⟩) ?_
  refine am_eqh (h' := (Sn 173 9071 ((159, .inr (9, (Value.int (0 : Int32) :: Value.ref 160 :: Value.int (0 : Int32) :: Value.int (0 : Int32) :: Value.ref 161 :: Value.ref 162 :: Value.ref 163 :: Value.ref 164 :: Value.int (0 : Int32) :: Value.ref 165 :: Value.int (0 : Int32) :: Value.int (0 : Int32) :: Value.ref 166 :: Value.ref 167 :: Value.ref 168 :: Value.ref 169 :: Value.int (0 : Int32) :: Value.ref 170 :: Value.ref 171 :: Value.ref 172 :: Value.null :: Value.int (0 : Int32) :: Value.int (0 : Int32) :: Value.int (0 : Int32) :: Value.int (0 : Int32) :: Value.int (0 : Int32) :: Value.null :: Value.null :: Value.null :: Value.null :: Value.int (0 : Int32) :: Value.int (0 : Int32) :: Value.int (0 : Int32) :: Value.int (0 : Int32) :: Value.int (0 : Int32) :: Value.null :: Value.null :: Value.null :: Value.null :: Value.null :: Value.null :: Value.null :: Value.int (0 : Int32) :: []))) :: ov))) (Sn_u.trans (Sn_f Sf_hide)) ?_
  refine am_aload_n rfl rfl ?_
  refine x_iconst (v := (4 : Int32)) rfl (by decide) ?_
  refine am_newI ar_int (by decide) (N := 4) (by decide) (by decide) rfl ⟨Nat.le_of_ble_eq_true rfl, Nat.le_of_ble_eq_true rfl⟩ ?_
  refine am_eqh (h' := (Sn 174 9075 ((159, .inr (9, (Value.int (0 : Int32) :: Value.ref 160 :: Value.int (0 : Int32) :: Value.int (0 : Int32) :: Value.ref 161 :: Value.ref 162 :: Value.ref 163 :: Value.ref 164 :: Value.int (0 : Int32) :: Value.ref 165 :: Value.int (0 : Int32) :: Value.int (0 : Int32) :: Value.ref 166 :: Value.ref 167 :: Value.ref 168 :: Value.ref 169 :: Value.int (0 : Int32) :: Value.ref 170 :: Value.ref 171 :: Value.ref 172 :: Value.null :: Value.int (0 : Int32) :: Value.int (0 : Int32) :: Value.int (0 : Int32) :: Value.int (0 : Int32) :: Value.int (0 : Int32) :: Value.null :: Value.null :: Value.null :: Value.null :: Value.int (0 : Int32) :: Value.int (0 : Int32) :: Value.int (0 : Int32) :: Value.int (0 : Int32) :: Value.int (0 : Int32) :: Value.null :: Value.null :: Value.null :: Value.null :: Value.null :: Value.null :: Value.null :: Value.int (0 : Int32) :: []))) :: ov))) (Sn_n.trans (Sn_f (Sf_drop (((Sf_ne (a := 159) (k := 173) (by decide)).trans (hov 173 (by decide))).trans rfl)))) ?_
  refine am_putF f_9_49 rfl rfl rfl rfl (Nat.le_of_ble_eq_true rfl) rfl (by decide) (fun _ _ => ⟨rfl, rfl⟩) ?_
  refine am_eqh (h' := (Sn 174 9075 ((159, .inr (9, (Value.int (0 : Int32) :: Value.ref 160 :: Value.int (0 : Int32) :: Value.int (0 : Int32) :: Value.ref 161 :: Value.ref 162 :: Value.ref 163 :: Value.ref 164 :: Value.int (0 : Int32) :: Value.ref 165 :: Value.int (0 : Int32) :: Value.int (0 : Int32) :: Value.ref 166 :: Value.ref 167 :: Value.ref 168 :: Value.ref 169 :: Value.int (0 : Int32) :: Value.ref 170 :: Value.ref 171 :: Value.ref 172 :: Value.ref 173 :: Value.int (0 : Int32) :: Value.int (0 : Int32) :: Value.int (0 : Int32) :: Value.int (0 : Int32) :: Value.int (0 : Int32) :: Value.null :: Value.null :: Value.null :: Value.null :: Value.int (0 : Int32) :: Value.int (0 : Int32) :: Value.int (0 : Int32) :: Value.int (0 : Int32) :: Value.int (0 : Int32) :: Value.null :: Value.null :: Value.null :: Value.null :: Value.null :: Value.null :: Value.null :: Value.int (0 : Int32) :: []))) :: ov))) (Sn_u.trans (Sn_f Sf_hide)) ?_
  refine am_aload_n rfl rfl ?_
  refine x_iconst (v := (-1 : Int32)) rfl (by decide) ?_
  refine am_put f_9_52 rfl rfl (Nat.le_of_ble_eq_true rfl) rfl (by decide) (fun _ _ => ⟨rfl, rfl⟩) ?_
  refine am_eqh (h' := (Sn 174 9075 ((159, .inr (9, (Value.int (0 : Int32) :: Value.ref 160 :: Value.int (0 : Int32) :: Value.int (0 : Int32) :: Value.ref 161 :: Value.ref 162 :: Value.ref 163 :: Value.ref 164 :: Value.int (0 : Int32) :: Value.ref 165 :: Value.int (0 : Int32) :: Value.int (0 : Int32) :: Value.ref 166 :: Value.ref 167 :: Value.ref 168 :: Value.ref 169 :: Value.int (0 : Int32) :: Value.ref 170 :: Value.ref 171 :: Value.ref 172 :: Value.ref 173 :: Value.int (0 : Int32) :: Value.int (-1 : Int32) :: Value.int (0 : Int32) :: Value.int (0 : Int32) :: Value.int (0 : Int32) :: Value.null :: Value.null :: Value.null :: Value.null :: Value.int (0 : Int32) :: Value.int (0 : Int32) :: Value.int (0 : Int32) :: Value.int (0 : Int32) :: Value.int (0 : Int32) :: Value.null :: Value.null :: Value.null :: Value.null :: Value.null :: Value.null :: Value.null :: Value.int (0 : Int32) :: []))) :: ov))) (Sn_u.trans (Sn_f Sf_hide)) ?_
  refine am_aload_n rfl rfl ?_
  refine x_iconst (v := (-1 : Int32)) rfl (by decide) ?_
  refine am_put f_9_56 rfl rfl (Nat.le_of_ble_eq_true rfl) rfl (by decide) (fun _ _ => ⟨rfl, rfl⟩) ?_
  refine am_eqh (h' := (Sn 174 9075 ((159, .inr (9, (Value.int (0 : Int32) :: Value.ref 160 :: Value.int (0 : Int32) :: Value.int (0 : Int32) :: Value.ref 161 :: Value.ref 162 :: Value.ref 163 :: Value.ref 164 :: Value.int (0 : Int32) :: Value.ref 165 :: Value.int (0 : Int32) :: Value.int (0 : Int32) :: Value.ref 166 :: Value.ref 167 :: Value.ref 168 :: Value.ref 169 :: Value.int (0 : Int32) :: Value.ref 170 :: Value.ref 171 :: Value.ref 172 :: Value.ref 173 :: Value.int (0 : Int32) :: Value.int (-1 : Int32) :: Value.int (-1 : Int32) :: Value.int (0 : Int32) :: Value.int (0 : Int32) :: Value.null :: Value.null :: Value.null :: Value.null :: Value.int (0 : Int32) :: Value.int (0 : Int32) :: Value.int (0 : Int32) :: Value.int (0 : Int32) :: Value.int (0 : Int32) :: Value.null :: Value.null :: Value.null :: Value.null :: Value.null :: Value.null :: Value.null :: Value.int (0 : Int32) :: []))) :: ov))) (Sn_u.trans (Sn_f Sf_hide)) ?_
  refine am_aload_n rfl rfl ?_
  refine x_bipush (v := (30 : Int32)) rfl (by decide) ?_
  refine am_newI ar_int (by decide) (N := 30) (by decide) (by decide) rfl ⟨Nat.le_of_ble_eq_true rfl, Nat.le_of_ble_eq_true rfl⟩ ?_
  refine am_eqh (h' := (Sn 175 9105 ((159, .inr (9, (Value.int (0 : Int32) :: Value.ref 160 :: Value.int (0 : Int32) :: Value.int (0 : Int32) :: Value.ref 161 :: Value.ref 162 :: Value.ref 163 :: Value.ref 164 :: Value.int (0 : Int32) :: Value.ref 165 :: Value.int (0 : Int32) :: Value.int (0 : Int32) :: Value.ref 166 :: Value.ref 167 :: Value.ref 168 :: Value.ref 169 :: Value.int (0 : Int32) :: Value.ref 170 :: Value.ref 171 :: Value.ref 172 :: Value.ref 173 :: Value.int (0 : Int32) :: Value.int (-1 : Int32) :: Value.int (-1 : Int32) :: Value.int (0 : Int32) :: Value.int (0 : Int32) :: Value.null :: Value.null :: Value.null :: Value.null :: Value.int (0 : Int32) :: Value.int (0 : Int32) :: Value.int (0 : Int32) :: Value.int (0 : Int32) :: Value.int (0 : Int32) :: Value.null :: Value.null :: Value.null :: Value.null :: Value.null :: Value.null :: Value.null :: Value.int (0 : Int32) :: []))) :: ov))) (Sn_n.trans (Sn_f (Sf_drop (((Sf_ne (a := 159) (k := 174) (by decide)).trans (hov 174 (by decide))).trans rfl)))) ?_
  refine am_putF f_9_59 rfl rfl rfl rfl (Nat.le_of_ble_eq_true rfl) rfl (by decide) (fun _ _ => ⟨rfl, rfl⟩) ?_
  refine am_eqh (h' := (Sn 175 9105 ((159, .inr (9, (Value.int (0 : Int32) :: Value.ref 160 :: Value.int (0 : Int32) :: Value.int (0 : Int32) :: Value.ref 161 :: Value.ref 162 :: Value.ref 163 :: Value.ref 164 :: Value.int (0 : Int32) :: Value.ref 165 :: Value.int (0 : Int32) :: Value.int (0 : Int32) :: Value.ref 166 :: Value.ref 167 :: Value.ref 168 :: Value.ref 169 :: Value.int (0 : Int32) :: Value.ref 170 :: Value.ref 171 :: Value.ref 172 :: Value.ref 173 :: Value.int (0 : Int32) :: Value.int (-1 : Int32) :: Value.int (-1 : Int32) :: Value.int (0 : Int32) :: Value.int (0 : Int32) :: Value.ref 174 :: Value.null :: Value.null :: Value.null :: Value.int (0 : Int32) :: Value.int (0 : Int32) :: Value.int (0 : Int32) :: Value.int (0 : Int32) :: Value.int (0 : Int32) :: Value.null :: Value.null :: Value.null :: Value.null :: Value.null :: Value.null :: Value.null :: Value.int (0 : Int32) :: []))) :: ov))) (Sn_u.trans (Sn_f Sf_hide)) ?_
  refine am_aload_n rfl rfl ?_
  refine x_bipush (v := (10 : Int32)) rfl (by decide) ?_
  refine am_newI ar_int (by decide) (N := 10) (by decide) (by decide) rfl ⟨Nat.le_of_ble_eq_true rfl, Nat.le_of_ble_eq_true rfl⟩ ?_
  refine am_eqh (h' := (Sn 176 9115 ((159, .inr (9, (Value.int (0 : Int32) :: Value.ref 160 :: Value.int (0 : Int32) :: Value.int (0 : Int32) :: Value.ref 161 :: Value.ref 162 :: Value.ref 163 :: Value.ref 164 :: Value.int (0 : Int32) :: Value.ref 165 :: Value.int (0 : Int32) :: Value.int (0 : Int32) :: Value.ref 166 :: Value.ref 167 :: Value.ref 168 :: Value.ref 169 :: Value.int (0 : Int32) :: Value.ref 170 :: Value.ref 171 :: Value.ref 172 :: Value.ref 173 :: Value.int (0 : Int32) :: Value.int (-1 : Int32) :: Value.int (-1 : Int32) :: Value.int (0 : Int32) :: Value.int (0 : Int32) :: Value.ref 174 :: Value.null :: Value.null :: Value.null :: Value.int (0 : Int32) :: Value.int (0 : Int32) :: Value.int (0 : Int32) :: Value.int (0 : Int32) :: Value.int (0 : Int32) :: Value.null :: Value.null :: Value.null :: Value.null :: Value.null :: Value.null :: Value.null :: Value.int (0 : Int32) :: []))) :: ov))) (Sn_n.trans (Sn_f (Sf_drop (((Sf_ne (a := 159) (k := 175) (by decide)).trans (hov 175 (by decide))).trans rfl)))) ?_
  refine am_putF f_9_62 rfl rfl rfl rfl (Nat.le_of_ble_eq_true rfl) rfl (by decide) (fun _ _ => ⟨rfl, rfl⟩) ?_
  refine am_eqh (h' := (Sn 176 9115 ((159, .inr (9, (Value.int (0 : Int32) :: Value.ref 160 :: Value.int (0 : Int32) :: Value.int (0 : Int32) :: Value.ref 161 :: Value.ref 162 :: Value.ref 163 :: Value.ref 164 :: Value.int (0 : Int32) :: Value.ref 165 :: Value.int (0 : Int32) :: Value.int (0 : Int32) :: Value.ref 166 :: Value.ref 167 :: Value.ref 168 :: Value.ref 169 :: Value.int (0 : Int32) :: Value.ref 170 :: Value.ref 171 :: Value.ref 172 :: Value.ref 173 :: Value.int (0 : Int32) :: Value.int (-1 : Int32) :: Value.int (-1 : Int32) :: Value.int (0 : Int32) :: Value.int (0 : Int32) :: Value.ref 174 :: Value.ref 175 :: Value.null :: Value.null :: Value.int (0 : Int32) :: Value.int (0 : Int32) :: Value.int (0 : Int32) :: Value.int (0 : Int32) :: Value.int (0 : Int32) :: Value.null :: Value.null :: Value.null :: Value.null :: Value.null :: Value.null :: Value.null :: Value.int (0 : Int32) :: []))) :: ov))) (Sn_u.trans (Sn_f Sf_hide)) ?_
  refine am_aload_n rfl rfl ?_
  refine x_bipush (v := (10 : Int32)) rfl (by decide) ?_
  refine am_newI ar_int (by decide) (N := 10) (by decide) (by decide) rfl ⟨Nat.le_of_ble_eq_true rfl, Nat.le_of_ble_eq_true rfl⟩ ?_
  refine am_eqh (h' := (Sn 177 9125 ((159, .inr (9, (Value.int (0 : Int32) :: Value.ref 160 :: Value.int (0 : Int32) :: Value.int (0 : Int32) :: Value.ref 161 :: Value.ref 162 :: Value.ref 163 :: Value.ref 164 :: Value.int (0 : Int32) :: Value.ref 165 :: Value.int (0 : Int32) :: Value.int (0 : Int32) :: Value.ref 166 :: Value.ref 167 :: Value.ref 168 :: Value.ref 169 :: Value.int (0 : Int32) :: Value.ref 170 :: Value.ref 171 :: Value.ref 172 :: Value.ref 173 :: Value.int (0 : Int32) :: Value.int (-1 : Int32) :: Value.int (-1 : Int32) :: Value.int (0 : Int32) :: Value.int (0 : Int32) :: Value.ref 174 :: Value.ref 175 :: Value.null :: Value.null :: Value.int (0 : Int32) :: Value.int (0 : Int32) :: Value.int (0 : Int32) :: Value.int (0 : Int32) :: Value.int (0 : Int32) :: Value.null :: Value.null :: Value.null :: Value.null :: Value.null :: Value.null :: Value.null :: Value.int (0 : Int32) :: []))) :: ov))) (Sn_n.trans (Sn_f (Sf_drop (((Sf_ne (a := 159) (k := 176) (by decide)).trans (hov 176 (by decide))).trans rfl)))) ?_
  refine am_putF f_9_65 rfl rfl rfl rfl (Nat.le_of_ble_eq_true rfl) rfl (by decide) (fun _ _ => ⟨rfl, rfl⟩) ?_
  refine am_eqh (h' := (Sn 177 9125 ((159, .inr (9, (Value.int (0 : Int32) :: Value.ref 160 :: Value.int (0 : Int32) :: Value.int (0 : Int32) :: Value.ref 161 :: Value.ref 162 :: Value.ref 163 :: Value.ref 164 :: Value.int (0 : Int32) :: Value.ref 165 :: Value.int (0 : Int32) :: Value.int (0 : Int32) :: Value.ref 166 :: Value.ref 167 :: Value.ref 168 :: Value.ref 169 :: Value.int (0 : Int32) :: Value.ref 170 :: Value.ref 171 :: Value.ref 172 :: Value.ref 173 :: Value.int (0 : Int32) :: Value.int (-1 : Int32) :: Value.int (-1 : Int32) :: Value.int (0 : Int32) :: Value.int (0 : Int32) :: Value.ref 174 :: Value.ref 175 :: Value.ref 176 :: Value.null :: Value.int (0 : Int32) :: Value.int (0 : Int32) :: Value.int (0 : Int32) :: Value.int (0 : Int32) :: Value.int (0 : Int32) :: Value.null :: Value.null :: Value.null :: Value.null :: Value.null :: Value.null :: Value.null :: Value.int (0 : Int32) :: []))) :: ov))) (Sn_u.trans (Sn_f Sf_hide)) ?_
  refine am_aload_n rfl rfl ?_
  refine x_bipush (v := (10 : Int32)) rfl (by decide) ?_
  refine am_newI ar_int (by decide) (N := 10) (by decide) (by decide) rfl ⟨Nat.le_of_ble_eq_true rfl, Nat.le_of_ble_eq_true rfl⟩ ?_
  refine am_eqh (h' := (Sn 178 9135 ((159, .inr (9, (Value.int (0 : Int32) :: Value.ref 160 :: Value.int (0 : Int32) :: Value.int (0 : Int32) :: Value.ref 161 :: Value.ref 162 :: Value.ref 163 :: Value.ref 164 :: Value.int (0 : Int32) :: Value.ref 165 :: Value.int (0 : Int32) :: Value.int (0 : Int32) :: Value.ref 166 :: Value.ref 167 :: Value.ref 168 :: Value.ref 169 :: Value.int (0 : Int32) :: Value.ref 170 :: Value.ref 171 :: Value.ref 172 :: Value.ref 173 :: Value.int (0 : Int32) :: Value.int (-1 : Int32) :: Value.int (-1 : Int32) :: Value.int (0 : Int32) :: Value.int (0 : Int32) :: Value.ref 174 :: Value.ref 175 :: Value.ref 176 :: Value.null :: Value.int (0 : Int32) :: Value.int (0 : Int32) :: Value.int (0 : Int32) :: Value.int (0 : Int32) :: Value.int (0 : Int32) :: Value.null :: Value.null :: Value.null :: Value.null :: Value.null :: Value.null :: Value.null :: Value.int (0 : Int32) :: []))) :: ov))) (Sn_n.trans (Sn_f (Sf_drop (((Sf_ne (a := 159) (k := 177) (by decide)).trans (hov 177 (by decide))).trans rfl)))) ?_
  refine am_putF f_9_68 rfl rfl rfl rfl (Nat.le_of_ble_eq_true rfl) rfl (by decide) (fun _ _ => ⟨rfl, rfl⟩) ?_
  refine am_eqh (h' := (Sn 178 9135 ((159, .inr (9, (Value.int (0 : Int32) :: Value.ref 160 :: Value.int (0 : Int32) :: Value.int (0 : Int32) :: Value.ref 161 :: Value.ref 162 :: Value.ref 163 :: Value.ref 164 :: Value.int (0 : Int32) :: Value.ref 165 :: Value.int (0 : Int32) :: Value.int (0 : Int32) :: Value.ref 166 :: Value.ref 167 :: Value.ref 168 :: Value.ref 169 :: Value.int (0 : Int32) :: Value.ref 170 :: Value.ref 171 :: Value.ref 172 :: Value.ref 173 :: Value.int (0 : Int32) :: Value.int (-1 : Int32) :: Value.int (-1 : Int32) :: Value.int (0 : Int32) :: Value.int (0 : Int32) :: Value.ref 174 :: Value.ref 175 :: Value.ref 176 :: Value.ref 177 :: Value.int (0 : Int32) :: Value.int (0 : Int32) :: Value.int (0 : Int32) :: Value.int (0 : Int32) :: Value.int (0 : Int32) :: Value.null :: Value.null :: Value.null :: Value.null :: Value.null :: Value.null :: Value.null :: Value.int (0 : Int32) :: []))) :: ov))) (Sn_u.trans (Sn_f Sf_hide)) ?_
  refine am_aload_n rfl rfl ?_
  refine x_sipush (v := (1024 : Int32)) rfl (by decide) ?_
  refine am_newI ar_int (by decide) (N := 1024) (by decide) (by decide) rfl ⟨Nat.le_of_ble_eq_true rfl, Nat.le_of_ble_eq_true rfl⟩ ?_
  refine am_eqh (h' := (Sn 179 10159 ((159, .inr (9, (Value.int (0 : Int32) :: Value.ref 160 :: Value.int (0 : Int32) :: Value.int (0 : Int32) :: Value.ref 161 :: Value.ref 162 :: Value.ref 163 :: Value.ref 164 :: Value.int (0 : Int32) :: Value.ref 165 :: Value.int (0 : Int32) :: Value.int (0 : Int32) :: Value.ref 166 :: Value.ref 167 :: Value.ref 168 :: Value.ref 169 :: Value.int (0 : Int32) :: Value.ref 170 :: Value.ref 171 :: Value.ref 172 :: Value.ref 173 :: Value.int (0 : Int32) :: Value.int (-1 : Int32) :: Value.int (-1 : Int32) :: Value.int (0 : Int32) :: Value.int (0 : Int32) :: Value.ref 174 :: Value.ref 175 :: Value.ref 176 :: Value.ref 177 :: Value.int (0 : Int32) :: Value.int (0 : Int32) :: Value.int (0 : Int32) :: Value.int (0 : Int32) :: Value.int (0 : Int32) :: Value.null :: Value.null :: Value.null :: Value.null :: Value.null :: Value.null :: Value.null :: Value.int (0 : Int32) :: []))) :: ov))) (Sn_n.trans (Sn_f (Sf_drop (((Sf_ne (a := 159) (k := 178) (by decide)).trans (hov 178 (by decide))).trans rfl)))) ?_
  refine am_putF f_9_71 rfl rfl rfl rfl (Nat.le_of_ble_eq_true rfl) rfl (by decide) (fun _ _ => ⟨rfl, rfl⟩) ?_
  refine am_eqh (h' := (Sn 179 10159 ((159, .inr (9, (Value.int (0 : Int32) :: Value.ref 160 :: Value.int (0 : Int32) :: Value.int (0 : Int32) :: Value.ref 161 :: Value.ref 162 :: Value.ref 163 :: Value.ref 164 :: Value.int (0 : Int32) :: Value.ref 165 :: Value.int (0 : Int32) :: Value.int (0 : Int32) :: Value.ref 166 :: Value.ref 167 :: Value.ref 168 :: Value.ref 169 :: Value.int (0 : Int32) :: Value.ref 170 :: Value.ref 171 :: Value.ref 172 :: Value.ref 173 :: Value.int (0 : Int32) :: Value.int (-1 : Int32) :: Value.int (-1 : Int32) :: Value.int (0 : Int32) :: Value.int (0 : Int32) :: Value.ref 174 :: Value.ref 175 :: Value.ref 176 :: Value.ref 177 :: Value.int (0 : Int32) :: Value.int (0 : Int32) :: Value.int (0 : Int32) :: Value.int (0 : Int32) :: Value.int (0 : Int32) :: Value.ref 178 :: Value.null :: Value.null :: Value.null :: Value.null :: Value.null :: Value.null :: Value.int (0 : Int32) :: []))) :: ov))) (Sn_u.trans (Sn_f Sf_hide)) ?_
  refine am_aload_n rfl rfl ?_
  refine x_sipush (v := (1024 : Int32)) rfl (by decide) ?_
  refine am_newI ar_int (by decide) (N := 1024) (by decide) (by decide) rfl ⟨Nat.le_of_ble_eq_true rfl, Nat.le_of_ble_eq_true rfl⟩ ?_
  refine am_eqh (h' := (Sn 180 11183 ((159, .inr (9, (Value.int (0 : Int32) :: Value.ref 160 :: Value.int (0 : Int32) :: Value.int (0 : Int32) :: Value.ref 161 :: Value.ref 162 :: Value.ref 163 :: Value.ref 164 :: Value.int (0 : Int32) :: Value.ref 165 :: Value.int (0 : Int32) :: Value.int (0 : Int32) :: Value.ref 166 :: Value.ref 167 :: Value.ref 168 :: Value.ref 169 :: Value.int (0 : Int32) :: Value.ref 170 :: Value.ref 171 :: Value.ref 172 :: Value.ref 173 :: Value.int (0 : Int32) :: Value.int (-1 : Int32) :: Value.int (-1 : Int32) :: Value.int (0 : Int32) :: Value.int (0 : Int32) :: Value.ref 174 :: Value.ref 175 :: Value.ref 176 :: Value.ref 177 :: Value.int (0 : Int32) :: Value.int (0 : Int32) :: Value.int (0 : Int32) :: Value.int (0 : Int32) :: Value.int (0 : Int32) :: Value.ref 178 :: Value.null :: Value.null :: Value.null :: Value.null :: Value.null :: Value.null :: Value.int (0 : Int32) :: []))) :: ov))) (Sn_n.trans (Sn_f (Sf_drop (((Sf_ne (a := 159) (k := 179) (by decide)).trans (hov 179 (by decide))).trans rfl)))) ?_
  refine am_putF f_9_74 rfl rfl rfl rfl (Nat.le_of_ble_eq_true rfl) rfl (by decide) (fun _ _ => ⟨rfl, rfl⟩) ?_
  refine am_eqh (h' := (Sn 180 11183 ((159, .inr (9, (Value.int (0 : Int32) :: Value.ref 160 :: Value.int (0 : Int32) :: Value.int (0 : Int32) :: Value.ref 161 :: Value.ref 162 :: Value.ref 163 :: Value.ref 164 :: Value.int (0 : Int32) :: Value.ref 165 :: Value.int (0 : Int32) :: Value.int (0 : Int32) :: Value.ref 166 :: Value.ref 167 :: Value.ref 168 :: Value.ref 169 :: Value.int (0 : Int32) :: Value.ref 170 :: Value.ref 171 :: Value.ref 172 :: Value.ref 173 :: Value.int (0 : Int32) :: Value.int (-1 : Int32) :: Value.int (-1 : Int32) :: Value.int (0 : Int32) :: Value.int (0 : Int32) :: Value.ref 174 :: Value.ref 175 :: Value.ref 176 :: Value.ref 177 :: Value.int (0 : Int32) :: Value.int (0 : Int32) :: Value.int (0 : Int32) :: Value.int (0 : Int32) :: Value.int (0 : Int32) :: Value.ref 178 :: Value.ref 179 :: Value.null :: Value.null :: Value.null :: Value.null :: Value.null :: Value.int (0 : Int32) :: []))) :: ov))) (Sn_u.trans (Sn_f Sf_hide)) ?_
  refine am_aload_n rfl rfl ?_
  refine x_bipush (v := (100 : Int32)) rfl (by decide) ?_
  refine am_newI ar_int (by decide) (N := 100) (by decide) (by decide) rfl ⟨Nat.le_of_ble_eq_true rfl, Nat.le_of_ble_eq_true rfl⟩ ?_
  refine am_eqh (h' := (Sn 181 11283 ((159, .inr (9, (Value.int (0 : Int32) :: Value.ref 160 :: Value.int (0 : Int32) :: Value.int (0 : Int32) :: Value.ref 161 :: Value.ref 162 :: Value.ref 163 :: Value.ref 164 :: Value.int (0 : Int32) :: Value.ref 165 :: Value.int (0 : Int32) :: Value.int (0 : Int32) :: Value.ref 166 :: Value.ref 167 :: Value.ref 168 :: Value.ref 169 :: Value.int (0 : Int32) :: Value.ref 170 :: Value.ref 171 :: Value.ref 172 :: Value.ref 173 :: Value.int (0 : Int32) :: Value.int (-1 : Int32) :: Value.int (-1 : Int32) :: Value.int (0 : Int32) :: Value.int (0 : Int32) :: Value.ref 174 :: Value.ref 175 :: Value.ref 176 :: Value.ref 177 :: Value.int (0 : Int32) :: Value.int (0 : Int32) :: Value.int (0 : Int32) :: Value.int (0 : Int32) :: Value.int (0 : Int32) :: Value.ref 178 :: Value.ref 179 :: Value.null :: Value.null :: Value.null :: Value.null :: Value.null :: Value.int (0 : Int32) :: []))) :: ov))) (Sn_n.trans (Sn_f (Sf_drop (((Sf_ne (a := 159) (k := 180) (by decide)).trans (hov 180 (by decide))).trans rfl)))) ?_
  refine am_putF f_9_77 rfl rfl rfl rfl (Nat.le_of_ble_eq_true rfl) rfl (by decide) (fun _ _ => ⟨rfl, rfl⟩) ?_
  refine am_eqh (h' := (Sn 181 11283 ((159, .inr (9, (Value.int (0 : Int32) :: Value.ref 160 :: Value.int (0 : Int32) :: Value.int (0 : Int32) :: Value.ref 161 :: Value.ref 162 :: Value.ref 163 :: Value.ref 164 :: Value.int (0 : Int32) :: Value.ref 165 :: Value.int (0 : Int32) :: Value.int (0 : Int32) :: Value.ref 166 :: Value.ref 167 :: Value.ref 168 :: Value.ref 169 :: Value.int (0 : Int32) :: Value.ref 170 :: Value.ref 171 :: Value.ref 172 :: Value.ref 173 :: Value.int (0 : Int32) :: Value.int (-1 : Int32) :: Value.int (-1 : Int32) :: Value.int (0 : Int32) :: Value.int (0 : Int32) :: Value.ref 174 :: Value.ref 175 :: Value.ref 176 :: Value.ref 177 :: Value.int (0 : Int32) :: Value.int (0 : Int32) :: Value.int (0 : Int32) :: Value.int (0 : Int32) :: Value.int (0 : Int32) :: Value.ref 178 :: Value.ref 179 :: Value.ref 180 :: Value.null :: Value.null :: Value.null :: Value.null :: Value.int (0 : Int32) :: []))) :: ov))) (Sn_u.trans (Sn_f Sf_hide)) ?_
  refine am_aload_n rfl rfl ?_
  refine x_bipush (v := (24 : Int32)) rfl (by decide) ?_
  refine am_newI ar_int (by decide) (N := 24) (by decide) (by decide) rfl ⟨Nat.le_of_ble_eq_true rfl, Nat.le_of_ble_eq_true rfl⟩ ?_
  refine am_eqh (h' := (Sn 182 11307 ((159, .inr (9, (Value.int (0 : Int32) :: Value.ref 160 :: Value.int (0 : Int32) :: Value.int (0 : Int32) :: Value.ref 161 :: Value.ref 162 :: Value.ref 163 :: Value.ref 164 :: Value.int (0 : Int32) :: Value.ref 165 :: Value.int (0 : Int32) :: Value.int (0 : Int32) :: Value.ref 166 :: Value.ref 167 :: Value.ref 168 :: Value.ref 169 :: Value.int (0 : Int32) :: Value.ref 170 :: Value.ref 171 :: Value.ref 172 :: Value.ref 173 :: Value.int (0 : Int32) :: Value.int (-1 : Int32) :: Value.int (-1 : Int32) :: Value.int (0 : Int32) :: Value.int (0 : Int32) :: Value.ref 174 :: Value.ref 175 :: Value.ref 176 :: Value.ref 177 :: Value.int (0 : Int32) :: Value.int (0 : Int32) :: Value.int (0 : Int32) :: Value.int (0 : Int32) :: Value.int (0 : Int32) :: Value.ref 178 :: Value.ref 179 :: Value.ref 180 :: Value.null :: Value.null :: Value.null :: Value.null :: Value.int (0 : Int32) :: []))) :: ov))) (Sn_n.trans (Sn_f (Sf_drop (((Sf_ne (a := 159) (k := 181) (by decide)).trans (hov 181 (by decide))).trans rfl)))) ?_
  refine am_putF f_9_80 rfl rfl rfl rfl (Nat.le_of_ble_eq_true rfl) rfl (by decide) (fun _ _ => ⟨rfl, rfl⟩) ?_
  refine am_eqh (h' := (Sn 182 11307 ((159, .inr (9, (Value.int (0 : Int32) :: Value.ref 160 :: Value.int (0 : Int32) :: Value.int (0 : Int32) :: Value.ref 161 :: Value.ref 162 :: Value.ref 163 :: Value.ref 164 :: Value.int (0 : Int32) :: Value.ref 165 :: Value.int (0 : Int32) :: Value.int (0 : Int32) :: Value.ref 166 :: Value.ref 167 :: Value.ref 168 :: Value.ref 169 :: Value.int (0 : Int32) :: Value.ref 170 :: Value.ref 171 :: Value.ref 172 :: Value.ref 173 :: Value.int (0 : Int32) :: Value.int (-1 : Int32) :: Value.int (-1 : Int32) :: Value.int (0 : Int32) :: Value.int (0 : Int32) :: Value.ref 174 :: Value.ref 175 :: Value.ref 176 :: Value.ref 177 :: Value.int (0 : Int32) :: Value.int (0 : Int32) :: Value.int (0 : Int32) :: Value.int (0 : Int32) :: Value.int (0 : Int32) :: Value.ref 178 :: Value.ref 179 :: Value.ref 180 :: Value.ref 181 :: Value.null :: Value.null :: Value.null :: Value.int (0 : Int32) :: []))) :: ov))) (Sn_u.trans (Sn_f Sf_hide)) ?_
  refine am_aload_n rfl rfl ?_
  refine x_bipush (v := (24 : Int32)) rfl (by decide) ?_
  refine am_newI ar_int (by decide) (N := 24) (by decide) (by decide) rfl ⟨Nat.le_of_ble_eq_true rfl, Nat.le_of_ble_eq_true rfl⟩ ?_
  refine am_eqh (h' := (Sn 183 11331 ((159, .inr (9, (Value.int (0 : Int32) :: Value.ref 160 :: Value.int (0 : Int32) :: Value.int (0 : Int32) :: Value.ref 161 :: Value.ref 162 :: Value.ref 163 :: Value.ref 164 :: Value.int (0 : Int32) :: Value.ref 165 :: Value.int (0 : Int32) :: Value.int (0 : Int32) :: Value.ref 166 :: Value.ref 167 :: Value.ref 168 :: Value.ref 169 :: Value.int (0 : Int32) :: Value.ref 170 :: Value.ref 171 :: Value.ref 172 :: Value.ref 173 :: Value.int (0 : Int32) :: Value.int (-1 : Int32) :: Value.int (-1 : Int32) :: Value.int (0 : Int32) :: Value.int (0 : Int32) :: Value.ref 174 :: Value.ref 175 :: Value.ref 176 :: Value.ref 177 :: Value.int (0 : Int32) :: Value.int (0 : Int32) :: Value.int (0 : Int32) :: Value.int (0 : Int32) :: Value.int (0 : Int32) :: Value.ref 178 :: Value.ref 179 :: Value.ref 180 :: Value.ref 181 :: Value.null :: Value.null :: Value.null :: Value.int (0 : Int32) :: []))) :: ov))) (Sn_n.trans (Sn_f (Sf_drop (((Sf_ne (a := 159) (k := 182) (by decide)).trans (hov 182 (by decide))).trans rfl)))) ?_
  refine am_putF f_9_83 rfl rfl rfl rfl (Nat.le_of_ble_eq_true rfl) rfl (by decide) (fun _ _ => ⟨rfl, rfl⟩) ?_
  refine am_eqh (h' := (Sn 183 11331 ((159, .inr (9, (Value.int (0 : Int32) :: Value.ref 160 :: Value.int (0 : Int32) :: Value.int (0 : Int32) :: Value.ref 161 :: Value.ref 162 :: Value.ref 163 :: Value.ref 164 :: Value.int (0 : Int32) :: Value.ref 165 :: Value.int (0 : Int32) :: Value.int (0 : Int32) :: Value.ref 166 :: Value.ref 167 :: Value.ref 168 :: Value.ref 169 :: Value.int (0 : Int32) :: Value.ref 170 :: Value.ref 171 :: Value.ref 172 :: Value.ref 173 :: Value.int (0 : Int32) :: Value.int (-1 : Int32) :: Value.int (-1 : Int32) :: Value.int (0 : Int32) :: Value.int (0 : Int32) :: Value.ref 174 :: Value.ref 175 :: Value.ref 176 :: Value.ref 177 :: Value.int (0 : Int32) :: Value.int (0 : Int32) :: Value.int (0 : Int32) :: Value.int (0 : Int32) :: Value.int (0 : Int32) :: Value.ref 178 :: Value.ref 179 :: Value.ref 180 :: Value.ref 181 :: Value.ref 182 :: Value.null :: Value.null :: Value.int (0 : Int32) :: []))) :: ov))) (Sn_u.trans (Sn_f Sf_hide)) ?_
  refine am_aload_n rfl rfl ?_
  refine x_iconst (v := (4 : Int32)) rfl (by decide) ?_
  refine am_newI ar_int (by decide) (N := 4) (by decide) (by decide) rfl ⟨Nat.le_of_ble_eq_true rfl, Nat.le_of_ble_eq_true rfl⟩ ?_
  refine am_eqh (h' := (Sn 184 11335 ((159, .inr (9, (Value.int (0 : Int32) :: Value.ref 160 :: Value.int (0 : Int32) :: Value.int (0 : Int32) :: Value.ref 161 :: Value.ref 162 :: Value.ref 163 :: Value.ref 164 :: Value.int (0 : Int32) :: Value.ref 165 :: Value.int (0 : Int32) :: Value.int (0 : Int32) :: Value.ref 166 :: Value.ref 167 :: Value.ref 168 :: Value.ref 169 :: Value.int (0 : Int32) :: Value.ref 170 :: Value.ref 171 :: Value.ref 172 :: Value.ref 173 :: Value.int (0 : Int32) :: Value.int (-1 : Int32) :: Value.int (-1 : Int32) :: Value.int (0 : Int32) :: Value.int (0 : Int32) :: Value.ref 174 :: Value.ref 175 :: Value.ref 176 :: Value.ref 177 :: Value.int (0 : Int32) :: Value.int (0 : Int32) :: Value.int (0 : Int32) :: Value.int (0 : Int32) :: Value.int (0 : Int32) :: Value.ref 178 :: Value.ref 179 :: Value.ref 180 :: Value.ref 181 :: Value.ref 182 :: Value.null :: Value.null :: Value.int (0 : Int32) :: []))) :: ov))) (Sn_n.trans (Sn_f (Sf_drop (((Sf_ne (a := 159) (k := 183) (by decide)).trans (hov 183 (by decide))).trans rfl)))) ?_
  refine am_putF f_9_86 rfl rfl rfl rfl (Nat.le_of_ble_eq_true rfl) rfl (by decide) (fun _ _ => ⟨rfl, rfl⟩) ?_
  refine am_eqh (h' := (Sn 184 11335 ((159, .inr (9, (Value.int (0 : Int32) :: Value.ref 160 :: Value.int (0 : Int32) :: Value.int (0 : Int32) :: Value.ref 161 :: Value.ref 162 :: Value.ref 163 :: Value.ref 164 :: Value.int (0 : Int32) :: Value.ref 165 :: Value.int (0 : Int32) :: Value.int (0 : Int32) :: Value.ref 166 :: Value.ref 167 :: Value.ref 168 :: Value.ref 169 :: Value.int (0 : Int32) :: Value.ref 170 :: Value.ref 171 :: Value.ref 172 :: Value.ref 173 :: Value.int (0 : Int32) :: Value.int (-1 : Int32) :: Value.int (-1 : Int32) :: Value.int (0 : Int32) :: Value.int (0 : Int32) :: Value.ref 174 :: Value.ref 175 :: Value.ref 176 :: Value.ref 177 :: Value.int (0 : Int32) :: Value.int (0 : Int32) :: Value.int (0 : Int32) :: Value.int (0 : Int32) :: Value.int (0 : Int32) :: Value.ref 178 :: Value.ref 179 :: Value.ref 180 :: Value.ref 181 :: Value.ref 182 :: Value.ref 183 :: Value.null :: Value.int (0 : Int32) :: []))) :: ov))) (Sn_u.trans (Sn_f Sf_hide)) ?_
  refine am_aload_n rfl rfl ?_
  refine x_iconst (v := (4 : Int32)) rfl (by decide) ?_
  refine am_newI ar_int (by decide) (N := 4) (by decide) (by decide) rfl ⟨Nat.le_of_ble_eq_true rfl, Nat.le_of_ble_eq_true rfl⟩ ?_
  refine am_eqh (h' := (Sn 185 11339 ((159, .inr (9, (Value.int (0 : Int32) :: Value.ref 160 :: Value.int (0 : Int32) :: Value.int (0 : Int32) :: Value.ref 161 :: Value.ref 162 :: Value.ref 163 :: Value.ref 164 :: Value.int (0 : Int32) :: Value.ref 165 :: Value.int (0 : Int32) :: Value.int (0 : Int32) :: Value.ref 166 :: Value.ref 167 :: Value.ref 168 :: Value.ref 169 :: Value.int (0 : Int32) :: Value.ref 170 :: Value.ref 171 :: Value.ref 172 :: Value.ref 173 :: Value.int (0 : Int32) :: Value.int (-1 : Int32) :: Value.int (-1 : Int32) :: Value.int (0 : Int32) :: Value.int (0 : Int32) :: Value.ref 174 :: Value.ref 175 :: Value.ref 176 :: Value.ref 177 :: Value.int (0 : Int32) :: Value.int (0 : Int32) :: Value.int (0 : Int32) :: Value.int (0 : Int32) :: Value.int (0 : Int32) :: Value.ref 178 :: Value.ref 179 :: Value.ref 180 :: Value.ref 181 :: Value.ref 182 :: Value.ref 183 :: Value.null :: Value.int (0 : Int32) :: []))) :: ov))) (Sn_n.trans (Sn_f (Sf_drop (((Sf_ne (a := 159) (k := 184) (by decide)).trans (hov 184 (by decide))).trans rfl)))) ?_
  refine am_putF f_9_89 rfl rfl rfl rfl (Nat.le_of_ble_eq_true rfl) rfl (by decide) (fun _ _ => ⟨rfl, rfl⟩) ?_
  refine am_eqh (h' := (Sn 185 11339 ((159, .inr (9, (Value.int (0 : Int32) :: Value.ref 160 :: Value.int (0 : Int32) :: Value.int (0 : Int32) :: Value.ref 161 :: Value.ref 162 :: Value.ref 163 :: Value.ref 164 :: Value.int (0 : Int32) :: Value.ref 165 :: Value.int (0 : Int32) :: Value.int (0 : Int32) :: Value.ref 166 :: Value.ref 167 :: Value.ref 168 :: Value.ref 169 :: Value.int (0 : Int32) :: Value.ref 170 :: Value.ref 171 :: Value.ref 172 :: Value.ref 173 :: Value.int (0 : Int32) :: Value.int (-1 : Int32) :: Value.int (-1 : Int32) :: Value.int (0 : Int32) :: Value.int (0 : Int32) :: Value.ref 174 :: Value.ref 175 :: Value.ref 176 :: Value.ref 177 :: Value.int (0 : Int32) :: Value.int (0 : Int32) :: Value.int (0 : Int32) :: Value.int (0 : Int32) :: Value.int (0 : Int32) :: Value.ref 178 :: Value.ref 179 :: Value.ref 180 :: Value.ref 181 :: Value.ref 182 :: Value.ref 183 :: Value.ref 184 :: Value.int (0 : Int32) :: []))) :: ov))) (Sn_u.trans (Sn_f Sf_hide)) ?_
  refine am_eqh (h' := (Sn 185 11339 (ov))) (Sn_f (Sf_drop ((hov 159 (by decide)).trans rfl))) ?_
  exact am_vret rfl rfl rfl rfl K
