/-! Methods read off their code. Written by gen/emit.py. -/
def f_X0_brokenIn (a0 : Int32) (g : G) : Option (Int32 × G) := some (((a0 / (1000000 : Int32)), g))
set_option maxHeartbeats 4000000 in
set_option maxRecDepth 100000 in
theorem y_X0_brokenIn (a0 : Int32)  (g : G) (q : Int32 × G) {post : Int32 → G → Prop} (H : f_X0_brokenIn a0 g = some q) (K : post q.1 q.2) : Y m_X0_brokenIn 0 [.int a0] g post := by
  refine Y_of ok_X0_brokenIn pn_0 rfl (by decide) (Or.inr (Or.inl rfl)) (List.forall_mem_cons.mpr ⟨rfl, (fun _ h => absurd h List.not_mem_nil)⟩) (Nat.le_of_ble_eq_true rfl) ?_
  show u_V m_X0_brokenIn 0 post 0 [some (.int a0)] [] g
  unfold f_X0_brokenIn at H
  refine am_iload_n rfl rfl ?_
  refine am_ldc (v := (1000000 : Int32)) c_0_53 rfl ?_
  refine am_idiv rfl (by decide) ?_
  have H := Option.some.inj H
  subst H
  exact u_iret rfl rfl K
def f_X0_gather (t1 : Nat) (g : G) : Option (Int32 × G) := wr (up2 g 27 11 (0 : Int32)) fun g1 => bd (lp (fun (s4 : Int32 × G) => (if (24 : Int32) ≤ s4.1 then some (.inr (s4.2)) else ck s4.1 24 fun j8 => wr (up2 s4.2 29 j8 (-1 : Int32)) fun g9 => ck s4.1 24 fun j10 => bd ((if (g9 (t1 + 2) j10) = (1 : Int32) then if (10 : Int32) ≤ (g9 27 11) then some (g9) else ck s4.1 24 fun j15 => wr (up2 g9 29 j15 (g9 27 11)) fun g16 => ck (g16 27 11) 10 fun j17 => wr (up2 g16 28 j17 s4.1) fun g18 => wr (up2 g18 27 11 ((g18 27 11) + (1 : Int32))) fun g19 => some (g19) else some (g9) : Option (G))) fun (s12 : G) => some (.inl ((s4.1 + (1 : Int32)), s12)) : Option ((Int32 × G) ⊕ (G)))) 2000 ((0 : Int32), g1)) fun (s6 : G) => some (((s6 27 11), s6))
set_option maxHeartbeats 4000000 in
set_option maxRecDepth 100000 in
theorem y_X0_gather (t1 : Nat) (ht1 : isT t1) (g : G) (q : Int32 × G) {post : Int32 → G → Prop} (H : f_X0_gather t1 g = some q) (K : post q.1 q.2) : Y m_X0_gather 0 [.ref 27, .ref t1] g post := by
  refine Y_of ok_X0_gather pn_0 rfl (by decide) (Or.inr (Or.inl rfl)) (List.forall_mem_cons.mpr ⟨rfl, (List.forall_mem_cons.mpr ⟨rfl, (fun _ h => absurd h List.not_mem_nil)⟩)⟩) (Nat.le_of_ble_eq_true rfl) ?_
  show u_V m_X0_gather 0 post 0 [some (.ref 27), some (.ref t1), none] [] g
  unfold f_X0_gather at H
  refine am_aload_n rfl rfl ?_
  refine x_iconst (v := (0 : Int32)) rfl (by decide) ?_
  obtain ⟨g1, eg1, H⟩ := wr_some H
  refine x_putI f_0_46 rfl rfl (Nat.le_of_ble_eq_true rfl) rfl rfl (fun _ _ => ⟨rfl, rfl⟩) eg1 ?_
  refine x_iconst (v := (0 : Int32)) rfl (by decide) ?_
  refine am_istore_n rfl (Nat.le_of_ble_eq_true rfl) ?_
  obtain ⟨s21, H1, H⟩ := bd_some H
  have K2 : (fun (s6 : G) => u_V m_X0_gather 0 post 75 [some (.ref 27), none, none] [] s6) s21 := by
    clear H1
    obtain ⟨g5, e_g5⟩ : ∃ z, z = s21 := ⟨_, rfl⟩
    subst e_g5
    (try dsimp only at H); (try dsimp only)
    refine am_aload_n rfl rfl ?_
    refine u_getI f_0_46 rfl (Nat.le_of_ble_eq_true rfl) rfl rfl ?_
    have H := Option.some.inj H
    subst H
    exact u_iret rfl rfl K
  refine am_drop (L' := [some (.ref 27), some (.ref t1), some (.int (0 : Int32))]) (And.intro rfl (And.intro rfl (And.intro rfl trivial))) ?_
  refine lp_ind (P := (fun (s4 : Int32 × G) => u_V m_X0_gather 0 post 7 [some (.ref 27), some (.ref t1), some (.int s4.1)] [] s4.2)) (Q := (fun (s6 : G) => u_V m_X0_gather 0 post 75 [some (.ref 27), none, none] [] s6)) ?_ 2000 ((0 : Int32), g1) s21 H1 K2
  clear H1 H K
  intro s4 s21b H K
  obtain ⟨x2, g3⟩ := s4
  (try dsimp only at H); (try dsimp only)
  refine am_iload_n rfl rfl ?_
  refine x_bipush (v := (24 : Int32)) rfl (by decide) ?_
  refine am_icmp_ge rfl (fun c7 => ?_) (fun c7 => ?_)
  · have H := it_pos c7 H
    have H := Option.some.inj H
    subst H
    exact am_drop (L' := [some (.ref 27), none, none]) (And.intro rfl trivial) K
  · have H := it_neg c7 H
    refine am_aload_n rfl rfl ?_
    refine u_getR f_0_15 rfl (Nat.le_of_ble_eq_true rfl) rfl rfl ?_
    refine am_iload_n rfl rfl ?_
    refine x_iconst (v := (-1 : Int32)) rfl (by decide) ?_
    obtain ⟨j8, ej8, hj8, H⟩ := ck_some H
    obtain ⟨g9, eg9, H⟩ := wr_some H
    refine x_iast rfl (Nat.le_of_ble_eq_true rfl) rfl hj8 ej8 eg9 ?_
    refine am_aload_n rfl rfl ?_
    refine u_getR f_0_54 rfl (isT_lt0 ht1) (sk_T ht1) rfl ?_
    refine am_iload_n rfl rfl ?_
    obtain ⟨j10, ej10, hj10, H⟩ := ck_some H
    refine x_iald rfl (isT_lt ht1 (Nat.le_of_ble_eq_true rfl)) (sk_A ht1 (Nat.le_of_ble_eq_true rfl) (Nat.le_of_ble_eq_true rfl)) hj10 ej10 ?_
    refine x_iconst (v := (1 : Int32)) rfl (by decide) ?_
    obtain ⟨s20, H1, H⟩ := bd_some H
    have K : (fun (s12 : G) => u_V m_X0_gather 0 post 69 [some (.ref 27), some (.ref t1), some (.int x2)] [] s12) s20 := by
      clear H1
      obtain ⟨g11, e_g11⟩ : ∃ z, z = s20 := ⟨_, rfl⟩
      subst e_g11
      (try dsimp only at H); (try dsimp only)
      refine x_iinc (v := (x2 + (1 : Int32))) rfl rfl (Nat.le_of_ble_eq_true rfl) rfl ?_
      refine am_goto rfl ?_
      have H := Option.some.inj H
      subst H
      exact am_drop (L' := [some (.ref 27), some (.ref t1), some (.int (x2 + (1 : Int32)))]) (And.intro rfl (And.intro rfl (And.intro rfl trivial))) K
    have H := H1
    clear H1
    refine am_icmp_ne rfl (fun c13 => ?_) (fun c13 => ?_)
    · have H := it_neg c13 H
      have H := Option.some.inj H
      subst H
      exact am_drop (L' := [some (.ref 27), some (.ref t1), some (.int x2)]) (And.intro rfl (And.intro rfl (And.intro rfl trivial))) K
    · have H := it_pos c13 H
      refine am_aload_n rfl rfl ?_
      refine u_getI f_0_46 rfl (Nat.le_of_ble_eq_true rfl) rfl rfl ?_
      refine x_bipush (v := (10 : Int32)) rfl (by decide) ?_
      refine am_icmp_ge rfl (fun c14 => ?_) (fun c14 => ?_)
      · have H := it_pos c14 H
        have H := Option.some.inj H
        subst H
        exact am_drop (L' := [some (.ref 27), some (.ref t1), some (.int x2)]) (And.intro rfl (And.intro rfl (And.intro rfl trivial))) K
      · have H := it_neg c14 H
        refine am_aload_n rfl rfl ?_
        refine u_getR f_0_15 rfl (Nat.le_of_ble_eq_true rfl) rfl rfl ?_
        refine am_iload_n rfl rfl ?_
        refine am_aload_n rfl rfl ?_
        refine u_getI f_0_46 rfl (Nat.le_of_ble_eq_true rfl) rfl rfl ?_
        obtain ⟨j15, ej15, hj15, H⟩ := ck_some H
        obtain ⟨g16, eg16, H⟩ := wr_some H
        refine x_iast rfl (Nat.le_of_ble_eq_true rfl) rfl hj15 ej15 eg16 ?_
        refine am_aload_n rfl rfl ?_
        refine u_getR f_0_9 rfl (Nat.le_of_ble_eq_true rfl) rfl rfl ?_
        refine am_aload_n rfl rfl ?_
        refine u_getI f_0_46 rfl (Nat.le_of_ble_eq_true rfl) rfl rfl ?_
        refine am_iload_n rfl rfl ?_
        obtain ⟨j17, ej17, hj17, H⟩ := ck_some H
        obtain ⟨g18, eg18, H⟩ := wr_some H
        refine x_iast rfl (Nat.le_of_ble_eq_true rfl) rfl hj17 ej17 eg18 ?_
        refine am_aload_n rfl rfl ?_
        refine am_dup rfl rfl ?_
        refine u_getI f_0_46 rfl (Nat.le_of_ble_eq_true rfl) rfl rfl ?_
        refine x_iconst (v := (1 : Int32)) rfl (by decide) ?_
        refine am_iadd rfl ?_
        obtain ⟨g19, eg19, H⟩ := wr_some H
        refine x_putI f_0_46 rfl rfl (Nat.le_of_ble_eq_true rfl) rfl rfl (fun _ _ => ⟨rfl, rfl⟩) eg19 ?_
        have H := Option.some.inj H
        subst H
        exact am_drop (L' := [some (.ref 27), some (.ref t1), some (.int x2)]) (And.intro rfl (And.intro rfl (And.intro rfl trivial))) K
def f_X0_askWorths  (g : G) : Option (Int32 × G) := bd (lp (fun (s3 : Int32 × G) => (if (s3.2 27 11) ≤ s3.1 then some (.inr (.inl (s3.2))) else ck s3.1 10 fun j7 => bd2 (f_X5_worthFor (s3.2 28 j7) s3.2) fun r8 g9 => ck s3.1 10 fun j10 => wr (up2 g9 30 j10 r8) fun g11 => ck s3.1 10 fun j12 => if 0 ≤ (g11 30 j12) then some (.inl ((s3.1 + (1 : Int32)), g11)) else some (.inr (.inr (((0 : Int32), g11)))) : Option ((Int32 × G) ⊕ ((G) ⊕ (Int32 × G))))) 2000 ((0 : Int32), g)) fun s14m => (match s14m with | .inl s5 => (some (((1 : Int32), s5))) | .inr y => some y)
set_option maxHeartbeats 4000000 in
set_option maxRecDepth 100000 in
theorem y_X0_askWorths   (g : G) (q : Int32 × G) {post : Int32 → G → Prop} (H : f_X0_askWorths  g = some q) (K : post q.1 q.2) : Y m_X0_askWorths 3 [.ref 27, .ref 3, .ref 1] g post := by
  refine Y_of ok_X0_askWorths pn_0 rfl (by decide) (Or.inr (Or.inr rfl)) (List.forall_mem_cons.mpr ⟨rfl, (List.forall_mem_cons.mpr ⟨rfl, (List.forall_mem_cons.mpr ⟨rfl, (fun _ h => absurd h List.not_mem_nil)⟩)⟩)⟩) (Nat.le_of_ble_eq_true rfl) ?_
  show u_V m_X0_askWorths 3 post 0 [some (.ref 27), some (.ref 3), some (.ref 1), none] [] g
  unfold f_X0_askWorths at H
  refine x_iconst (v := (0 : Int32)) rfl (by decide) ?_
  refine am_istore_n rfl (Nat.le_of_ble_eq_true rfl) ?_
  obtain ⟨s14, H1, H⟩ := bd_some H
  have K2 : (Sum.elim (fun (s5 : G) => u_V m_X0_askWorths 3 post 44 [none, none, none, none] [] s5) (fun (q : Int32 × G) => post q.1 q.2)) s14 := by
    clear H1
    cases s14 with
    | inl s5 =>
      obtain ⟨g4, e_g4⟩ : ∃ z, z = s5 := ⟨_, rfl⟩
      subst e_g4
      (try dsimp only at H); (try dsimp only)
      refine x_iconst (v := (1 : Int32)) rfl (by decide) ?_
      have H := Option.some.inj H
      subst H
      exact u_zret rfl rfl (Or.inr rfl) K
    | inr y =>
      have H := Option.some.inj H
      subst H
      exact K
  refine am_drop (L' := [some (.ref 27), some (.ref 3), some (.ref 1), some (.int (0 : Int32))]) (And.intro rfl (And.intro rfl (And.intro rfl (And.intro rfl trivial)))) ?_
  refine lp_ind (P := (fun (s3 : Int32 × G) => u_V m_X0_askWorths 3 post 2 [some (.ref 27), some (.ref 3), some (.ref 1), some (.int s3.1)] [] s3.2)) (Q := (Sum.elim (fun (s5 : G) => u_V m_X0_askWorths 3 post 44 [none, none, none, none] [] s5) (fun (q : Int32 × G) => post q.1 q.2))) ?_ 2000 ((0 : Int32), g) s14 H1 K2
  clear H1 H K
  intro s3 s14b H K
  obtain ⟨x1, g2⟩ := s3
  (try dsimp only at H); (try dsimp only)
  refine am_iload_n rfl rfl ?_
  refine am_aload_n rfl rfl ?_
  refine u_getI f_0_46 rfl (Nat.le_of_ble_eq_true rfl) rfl rfl ?_
  refine am_icmp_ge rfl (fun c6 => ?_) (fun c6 => ?_)
  · have H := it_pos c6 H
    have H := Option.some.inj H
    subst H
    exact am_drop (L' := [none, none, none, none]) trivial K
  · have H := it_neg c6 H
    refine am_aload_n rfl rfl ?_
    refine u_getR f_0_18 rfl (Nat.le_of_ble_eq_true rfl) rfl rfl ?_
    refine am_iload_n rfl rfl ?_
    refine am_aload_n rfl rfl ?_
    refine am_aload_n rfl rfl ?_
    refine u_getR f_0_9 rfl (Nat.le_of_ble_eq_true rfl) rfl rfl ?_
    refine am_iload_n rfl rfl ?_
    obtain ⟨j7, ej7, hj7, H⟩ := ck_some H
    refine x_iald rfl (Nat.le_of_ble_eq_true rfl) rfl hj7 ej7 ?_
    refine am_aload_n rfl rfl ?_
    obtain ⟨r8, g9, H1, H⟩ := bd2_some H
    refine cv2i v_0_59 rfl rfl (Nat.le_of_ble_eq_true rfl) rfl (Nat.le_of_ble_eq_true rfl) (fun _ _ => Nat.le_of_ble_eq_true rfl) (y_X5_worthFor (g2 28 j7) g2 _ H1 ?_)
    obtain ⟨j10, ej10, hj10, H⟩ := ck_some H
    obtain ⟨g11, eg11, H⟩ := wr_some H
    refine x_iast rfl (Nat.le_of_ble_eq_true rfl) rfl hj10 ej10 eg11 ?_
    refine am_aload_n rfl rfl ?_
    refine u_getR f_0_18 rfl (Nat.le_of_ble_eq_true rfl) rfl rfl ?_
    refine am_iload_n rfl rfl ?_
    obtain ⟨j12, ej12, hj12, H⟩ := ck_some H
    refine x_iald rfl (Nat.le_of_ble_eq_true rfl) rfl hj12 ej12 ?_
    refine am_if_ge rfl (fun c13 => ?_) (fun c13 => ?_)
    · have H := it_pos c13 H
      refine x_iinc (v := (x1 + (1 : Int32))) rfl rfl (Nat.le_of_ble_eq_true rfl) rfl ?_
      refine am_goto rfl ?_
      have H := Option.some.inj H
      subst H
      exact am_drop (L' := [some (.ref 27), some (.ref 3), some (.ref 1), some (.int (x1 + (1 : Int32)))]) (And.intro rfl (And.intro rfl (And.intro rfl (And.intro rfl trivial)))) K
    · have H := it_neg c13 H
      refine x_iconst (v := (0 : Int32)) rfl (by decide) ?_
      have H := Option.some.inj H
      subst H
      exact u_zret rfl rfl (Or.inl rfl) K
def f_X0_recallSpot (a1 : Int32) (a2 : Int32) (g : G) : Option (Int32 × G) := if a1 = (-1 : Int32) then some (((0 : Int32), g)) else if a2 = (-1 : Int32) then some (((0 : Int32), g)) else ck ((a1 * (11 : Int32)) + a2) 110 fun j3 => wr (up2 g 34 j3 (1 : Int32)) fun g4 => some (((0 : Int32), g4))
set_option maxHeartbeats 4000000 in
set_option maxRecDepth 100000 in
theorem y_X0_recallSpot (a1 : Int32) (a2 : Int32)  (g : G) (q : Int32 × G) {post : Int32 → G → Prop} (H : f_X0_recallSpot a1 a2 g = some q) (K : post q.1 q.2) : Y m_X0_recallSpot 0 [.ref 27, .int a1, .int a2] g post := by
  refine Y_of ok_X0_recallSpot pn_0 rfl (by decide) (Or.inl rfl) (List.forall_mem_cons.mpr ⟨rfl, (List.forall_mem_cons.mpr ⟨rfl, (List.forall_mem_cons.mpr ⟨rfl, (fun _ h => absurd h List.not_mem_nil)⟩)⟩)⟩) (Nat.le_of_ble_eq_true rfl) ?_
  show u_V m_X0_recallSpot 0 post 0 [some (.ref 27), some (.int a1), some (.int a2)] [] g
  unfold f_X0_recallSpot at H
  refine am_iload_n rfl rfl ?_
  refine x_iconst (v := (-1 : Int32)) rfl (by decide) ?_
  refine am_icmp_eq rfl (fun c1 => ?_) (fun c1 => ?_)
  · have H := it_pos c1 H
    have H := Option.some.inj H
    subst H
    exact u_vret rfl rfl K
  · have H := it_neg c1 H
    refine am_iload_n rfl rfl ?_
    refine x_iconst (v := (-1 : Int32)) rfl (by decide) ?_
    refine am_icmp_eq rfl (fun c2 => ?_) (fun c2 => ?_)
    · have H := it_pos c2 H
      have H := Option.some.inj H
      subst H
      exact u_vret rfl rfl K
    · have H := it_neg c2 H
      refine am_aload_n rfl rfl ?_
      refine u_getR f_0_30 rfl (Nat.le_of_ble_eq_true rfl) rfl rfl ?_
      refine am_iload_n rfl rfl ?_
      refine x_bipush (v := (11 : Int32)) rfl (by decide) ?_
      refine am_imul rfl ?_
      refine am_iload_n rfl rfl ?_
      refine am_iadd rfl ?_
      refine x_iconst (v := (1 : Int32)) rfl (by decide) ?_
      obtain ⟨j3, ej3, hj3, H⟩ := ck_some H
      obtain ⟨g4, eg4, H⟩ := wr_some H
      refine x_zast rfl (Nat.le_of_ble_eq_true rfl) rfl hj3 ej3 (Or.inr rfl) eg4 ?_
      have H := Option.some.inj H
      subst H
      exact u_vret rfl rfl K
def f_X0_recallColour (a1 : Int32) (a2 : Int32) (g : G) : Option (Int32 × G) := if a1 = (-1 : Int32) then some (((0 : Int32), g)) else ck a1 10 fun j2 => ck a1 10 fun j3 => wr (up2 g 31 j3 ((g 31 j2) + a2)) fun g4 => ck a1 10 fun j5 => ck a1 10 fun j6 => wr (up2 g4 33 j6 (g4 32 j5)) fun g7 => ck a1 10 fun j8 => wr (up2 g7 32 j8 a2) fun g9 => some (((0 : Int32), g9))
set_option maxHeartbeats 4000000 in
set_option maxRecDepth 100000 in
theorem y_X0_recallColour (a1 : Int32) (a2 : Int32)  (g : G) (q : Int32 × G) {post : Int32 → G → Prop} (H : f_X0_recallColour a1 a2 g = some q) (K : post q.1 q.2) : Y m_X0_recallColour 0 [.ref 27, .int a1, .int a2] g post := by
  refine Y_of ok_X0_recallColour pn_0 rfl (by decide) (Or.inl rfl) (List.forall_mem_cons.mpr ⟨rfl, (List.forall_mem_cons.mpr ⟨rfl, (List.forall_mem_cons.mpr ⟨rfl, (fun _ h => absurd h List.not_mem_nil)⟩)⟩)⟩) (Nat.le_of_ble_eq_true rfl) ?_
  show u_V m_X0_recallColour 0 post 0 [some (.ref 27), some (.int a1), some (.int a2)] [] g
  unfold f_X0_recallColour at H
  refine am_iload_n rfl rfl ?_
  refine x_iconst (v := (-1 : Int32)) rfl (by decide) ?_
  refine am_icmp_eq rfl (fun c1 => ?_) (fun c1 => ?_)
  · have H := it_pos c1 H
    have H := Option.some.inj H
    subst H
    exact u_vret rfl rfl K
  · have H := it_neg c1 H
    refine am_aload_n rfl rfl ?_
    refine u_getR f_0_21 rfl (Nat.le_of_ble_eq_true rfl) rfl rfl ?_
    refine am_iload_n rfl rfl ?_
    refine am_dup2 rfl rfl rfl ?_
    obtain ⟨j2, ej2, hj2, H⟩ := ck_some H
    refine x_iald rfl (Nat.le_of_ble_eq_true rfl) rfl hj2 ej2 ?_
    refine am_iload_n rfl rfl ?_
    refine am_iadd rfl ?_
    obtain ⟨j3, ej3, hj3, H⟩ := ck_some H
    obtain ⟨g4, eg4, H⟩ := wr_some H
    refine x_iast rfl (Nat.le_of_ble_eq_true rfl) rfl hj3 ej3 eg4 ?_
    refine am_aload_n rfl rfl ?_
    refine u_getR f_0_27 rfl (Nat.le_of_ble_eq_true rfl) rfl rfl ?_
    refine am_iload_n rfl rfl ?_
    refine am_aload_n rfl rfl ?_
    refine u_getR f_0_24 rfl (Nat.le_of_ble_eq_true rfl) rfl rfl ?_
    refine am_iload_n rfl rfl ?_
    obtain ⟨j5, ej5, hj5, H⟩ := ck_some H
    refine x_iald rfl (Nat.le_of_ble_eq_true rfl) rfl hj5 ej5 ?_
    obtain ⟨j6, ej6, hj6, H⟩ := ck_some H
    obtain ⟨g7, eg7, H⟩ := wr_some H
    refine x_iast rfl (Nat.le_of_ble_eq_true rfl) rfl hj6 ej6 eg7 ?_
    refine am_aload_n rfl rfl ?_
    refine u_getR f_0_24 rfl (Nat.le_of_ble_eq_true rfl) rfl rfl ?_
    refine am_iload_n rfl rfl ?_
    refine am_iload_n rfl rfl ?_
    obtain ⟨j8, ej8, hj8, H⟩ := ck_some H
    obtain ⟨g9, eg9, H⟩ := wr_some H
    refine x_iast rfl (Nat.le_of_ble_eq_true rfl) rfl hj8 ej8 eg9 ?_
    have H := Option.some.inj H
    subst H
    exact u_vret rfl rfl K
def f_X0_recallPair (a1 : Int32) (a2 : Int32) (g : G) : Option (Int32 × G) := ck a1 24 fun j1 => if a2 = (99 : Int32) then bd2 (f_X0_recallSpot (g 29 j1) (10 : Int32) g) fun r12 g13 => some (((0 : Int32), g13)) else ck a2 24 fun j3 => bd2 (f_X0_recallSpot (g 29 j1) (g 29 j3) g) fun r4 g5 => bd2 (f_X0_recallSpot (g 29 j3) (g 29 j1) g5) fun r6 g7 => bd2 (f_X0_recallColour (g 29 j1) (1 : Int32) g7) fun r8 g9 => bd2 (f_X0_recallColour (g 29 j3) (-1 : Int32) g9) fun r10 g11 => some (((0 : Int32), g11))
set_option maxHeartbeats 4000000 in
set_option maxRecDepth 100000 in
theorem y_X0_recallPair (a1 : Int32) (a2 : Int32)  (g : G) (q : Int32 × G) {post : Int32 → G → Prop} (H : f_X0_recallPair a1 a2 g = some q) (K : post q.1 q.2) : Y m_X0_recallPair 1 [.ref 27, .int a1, .int a2] g post := by
  refine Y_of ok_X0_recallPair pn_0 rfl (by decide) (Or.inl rfl) (List.forall_mem_cons.mpr ⟨rfl, (List.forall_mem_cons.mpr ⟨rfl, (List.forall_mem_cons.mpr ⟨rfl, (fun _ h => absurd h List.not_mem_nil)⟩)⟩)⟩) (Nat.le_of_ble_eq_true rfl) ?_
  show u_V m_X0_recallPair 1 post 0 [some (.ref 27), some (.int a1), some (.int a2), none, none] [] g
  unfold f_X0_recallPair at H
  refine am_aload_n rfl rfl ?_
  refine u_getR f_0_15 rfl (Nat.le_of_ble_eq_true rfl) rfl rfl ?_
  refine am_iload_n rfl rfl ?_
  obtain ⟨j1, ej1, hj1, H⟩ := ck_some H
  refine x_iald rfl (Nat.le_of_ble_eq_true rfl) rfl hj1 ej1 ?_
  refine am_istore_n rfl (Nat.le_of_ble_eq_true rfl) ?_
  refine am_iload_n rfl rfl ?_
  refine x_bipush (v := (99 : Int32)) rfl (by decide) ?_
  refine am_icmp_ne rfl (fun c2 => ?_) (fun c2 => ?_)
  · have H := it_neg c2 H
    refine am_aload_n rfl rfl ?_
    refine u_getR f_0_15 rfl (Nat.le_of_ble_eq_true rfl) rfl rfl ?_
    refine am_iload_n rfl rfl ?_
    obtain ⟨j3, ej3, hj3, H⟩ := ck_some H
    refine x_iald rfl (Nat.le_of_ble_eq_true rfl) rfl hj3 ej3 ?_
    refine am_istore rfl (Nat.le_of_ble_eq_true rfl) ?_
    refine am_aload_n rfl rfl ?_
    refine am_iload_n rfl rfl ?_
    refine am_iload rfl rfl ?_
    obtain ⟨r4, g5, H1, H⟩ := bd2_some H
    refine cv2v v_0_87 rfl rfl (Nat.le_of_ble_eq_true rfl) rfl (Nat.le_of_ble_eq_true rfl) (fun _ _ => Nat.le_of_ble_eq_true rfl) (y_X0_recallSpot (g 29 j1) (g 29 j3) g _ H1 ?_)
    refine am_aload_n rfl rfl ?_
    refine am_iload rfl rfl ?_
    refine am_iload_n rfl rfl ?_
    obtain ⟨r6, g7, H1, H⟩ := bd2_some H
    refine cv2v v_0_87 rfl rfl (Nat.le_of_ble_eq_true rfl) rfl (Nat.le_of_ble_eq_true rfl) (fun _ _ => Nat.le_of_ble_eq_true rfl) (y_X0_recallSpot (g 29 j3) (g 29 j1) g5 _ H1 ?_)
    refine am_aload_n rfl rfl ?_
    refine am_iload_n rfl rfl ?_
    refine x_iconst (v := (1 : Int32)) rfl (by decide) ?_
    obtain ⟨r8, g9, H1, H⟩ := bd2_some H
    refine cv2v v_0_90 rfl rfl (Nat.le_of_ble_eq_true rfl) rfl (Nat.le_of_ble_eq_true rfl) (fun _ _ => Nat.le_of_ble_eq_true rfl) (y_X0_recallColour (g 29 j1) (1 : Int32) g7 _ H1 ?_)
    refine am_aload_n rfl rfl ?_
    refine am_iload rfl rfl ?_
    refine x_iconst (v := (-1 : Int32)) rfl (by decide) ?_
    obtain ⟨r10, g11, H1, H⟩ := bd2_some H
    refine cv2v v_0_90 rfl rfl (Nat.le_of_ble_eq_true rfl) rfl (Nat.le_of_ble_eq_true rfl) (fun _ _ => Nat.le_of_ble_eq_true rfl) (y_X0_recallColour (g 29 j3) (-1 : Int32) g9 _ H1 ?_)
    have H := Option.some.inj H
    subst H
    exact u_vret rfl rfl K
  · have H := it_pos c2 H
    refine am_aload_n rfl rfl ?_
    refine am_iload_n rfl rfl ?_
    refine x_bipush (v := (10 : Int32)) rfl (by decide) ?_
    obtain ⟨r12, g13, H1, H⟩ := bd2_some H
    refine cv2v v_0_87 rfl rfl (Nat.le_of_ble_eq_true rfl) rfl (Nat.le_of_ble_eq_true rfl) (fun _ _ => Nat.le_of_ble_eq_true rfl) (y_X0_recallSpot (g 29 j1) (10 : Int32) g _ H1 ?_)
    have H := Option.some.inj H
    subst H
    exact u_vret rfl rfl K
def f_X0_recall (t1 : Nat) (g : G) : Option (Int32 × G) := bd2 (f_J7_fill_53178 31 10 (0 : Int32) g) fun r1 g2 => bd2 (f_J7_fill_53178 32 10 (0 : Int32) g2) fun r3 g4 => bd2 (f_J7_fill_53178 33 10 (0 : Int32) g4) fun r5 g6 => bd (lp (fun (s9 : Int32 × G) => (if (110 : Int32) ≤ s9.1 then some (.inr (s9.2)) else ck s9.1 110 fun j13 => wr (up2 s9.2 34 j13 (0 : Int32)) fun g14 => some (.inl ((s9.1 + (1 : Int32)), g14)) : Option ((Int32 × G) ⊕ (G)))) 2000 ((0 : Int32), g6)) fun (s11 : G) => bd (lp (fun (s18 : Int32 × G) => (if (s18.2 t1 2) ≤ s18.1 then some (.inr (s18.2)) else bd (lp (fun (s24 : Int32 × G) => (ck s18.1 6 fun j27 => if (s24.2 (t1 + 5) j27) ≤ s24.1 then some (.inr (s24.2)) else ck ((s18.1 * (5 : Int32)) + s24.1) 30 fun j29 => ck ((s18.1 * (5 : Int32)) + s24.1) 30 fun j30 => bd2 (f_X0_recallPair (s24.2 (t1 + 7) j29) (s24.2 (t1 + 8) j30) s24.2) fun r31 g32 => some (.inl ((s24.1 + (1 : Int32)), g32)) : Option ((Int32 × G) ⊕ (G)))) 2000 ((0 : Int32), s18.2)) fun (s26 : G) => some (.inl ((s18.1 + (1 : Int32)), s26)) : Option ((Int32 × G) ⊕ (G)))) 2000 ((0 : Int32), s11)) fun (s20 : G) => some (((0 : Int32), s20))
set_option maxHeartbeats 4000000 in
set_option maxRecDepth 100000 in
theorem y_X0_recall (t1 : Nat) (ht1 : isT t1) (g : G) (q : Int32 × G) {post : Int32 → G → Prop} (H : f_X0_recall t1 g = some q) (K : post q.1 q.2) : Y m_X0_recall 2 [.ref 27, .ref t1] g post := by
  refine Y_of ok_X0_recall pn_0 rfl (by decide) (Or.inl rfl) (List.forall_mem_cons.mpr ⟨rfl, (List.forall_mem_cons.mpr ⟨rfl, (fun _ h => absurd h List.not_mem_nil)⟩)⟩) (Nat.le_of_ble_eq_true rfl) ?_
  show u_V m_X0_recall 2 post 0 [some (.ref 27), some (.ref t1), none, none, none] [] g
  unfold f_X0_recall at H
  refine am_aload_n rfl rfl ?_
  refine u_getR f_0_21 rfl (Nat.le_of_ble_eq_true rfl) rfl rfl ?_
  refine x_iconst (v := (0 : Int32)) rfl (by decide) ?_
  obtain ⟨r1, g2, H1, H⟩ := bd2_some H
  refine cs2v s_0_65 rfl rfl (Nat.le_of_ble_eq_true rfl) (fun _ _ => Nat.le_of_ble_eq_true rfl) (y_J7_fill_53178 31 10 (0 : Int32) (Nat.le_of_ble_eq_true rfl) rfl g _ H1 ?_)
  refine am_aload_n rfl rfl ?_
  refine u_getR f_0_24 rfl (Nat.le_of_ble_eq_true rfl) rfl rfl ?_
  refine x_iconst (v := (0 : Int32)) rfl (by decide) ?_
  obtain ⟨r3, g4, H1, H⟩ := bd2_some H
  refine cs2v s_0_65 rfl rfl (Nat.le_of_ble_eq_true rfl) (fun _ _ => Nat.le_of_ble_eq_true rfl) (y_J7_fill_53178 32 10 (0 : Int32) (Nat.le_of_ble_eq_true rfl) rfl g2 _ H1 ?_)
  refine am_aload_n rfl rfl ?_
  refine u_getR f_0_27 rfl (Nat.le_of_ble_eq_true rfl) rfl rfl ?_
  refine x_iconst (v := (0 : Int32)) rfl (by decide) ?_
  obtain ⟨r5, g6, H1, H⟩ := bd2_some H
  refine cs2v s_0_65 rfl rfl (Nat.le_of_ble_eq_true rfl) (fun _ _ => Nat.le_of_ble_eq_true rfl) (y_J7_fill_53178 33 10 (0 : Int32) (Nat.le_of_ble_eq_true rfl) rfl g4 _ H1 ?_)
  refine x_iconst (v := (0 : Int32)) rfl (by decide) ?_
  refine am_istore_n rfl (Nat.le_of_ble_eq_true rfl) ?_
  obtain ⟨s15, H1, H⟩ := bd_some H
  have K2 : (fun (s11 : G) => u_V m_X0_recall 2 post 45 [some (.ref 27), some (.ref t1), none, none, none] [] s11) s15 := by
    clear H1
    obtain ⟨g10, e_g10⟩ : ∃ z, z = s15 := ⟨_, rfl⟩
    subst e_g10
    (try dsimp only at H); (try dsimp only)
    refine x_iconst (v := (0 : Int32)) rfl (by decide) ?_
    refine am_istore_n rfl (Nat.le_of_ble_eq_true rfl) ?_
    obtain ⟨s34, H1, H⟩ := bd_some H
    have K2 : (fun (s20 : G) => u_V m_X0_recall 2 post 104 [none, none, none, none, none] [] s20) s34 := by
      clear H1
      obtain ⟨g19, e_g19⟩ : ∃ z, z = s34 := ⟨_, rfl⟩
      subst e_g19
      (try dsimp only at H); (try dsimp only)
      have H := Option.some.inj H
      subst H
      exact u_vret rfl rfl K
    refine am_drop (L' := [some (.ref 27), some (.ref t1), some (.int (0 : Int32)), none, none]) (And.intro rfl (And.intro rfl (And.intro rfl trivial))) ?_
    refine lp_ind (P := (fun (s18 : Int32 × G) => u_V m_X0_recall 2 post 47 [some (.ref 27), some (.ref t1), some (.int s18.1), none, none] [] s18.2)) (Q := (fun (s20 : G) => u_V m_X0_recall 2 post 104 [none, none, none, none, none] [] s20)) ?_ 2000 ((0 : Int32), g10) s34 H1 K2
    clear H1 H K
    intro s18 s34b H K
    obtain ⟨x16, g17⟩ := s18
    (try dsimp only at H); (try dsimp only)
    refine am_iload_n rfl rfl ?_
    refine am_aload_n rfl rfl ?_
    refine u_getI f_0_71 rfl (isT_lt0 ht1) (sk_T ht1) rfl ?_
    refine am_icmp_ge rfl (fun c21 => ?_) (fun c21 => ?_)
    · have H := it_pos c21 H
      have H := Option.some.inj H
      subst H
      exact am_drop (L' := [none, none, none, none, none]) trivial K
    · have H := it_neg c21 H
      refine x_iconst (v := (0 : Int32)) rfl (by decide) ?_
      refine am_istore_n rfl (Nat.le_of_ble_eq_true rfl) ?_
      obtain ⟨s33, H1, H⟩ := bd_some H
      have K2 : (fun (s26 : G) => u_V m_X0_recall 2 post 98 [some (.ref 27), some (.ref t1), some (.int x16), none, none] [] s26) s33 := by
        clear H1
        obtain ⟨g25, e_g25⟩ : ∃ z, z = s33 := ⟨_, rfl⟩
        subst e_g25
        (try dsimp only at H); (try dsimp only)
        refine x_iinc (v := (x16 + (1 : Int32))) rfl rfl (Nat.le_of_ble_eq_true rfl) rfl ?_
        refine am_goto rfl ?_
        have H := Option.some.inj H
        subst H
        exact am_drop (L' := [some (.ref 27), some (.ref t1), some (.int (x16 + (1 : Int32))), none, none]) (And.intro rfl (And.intro rfl (And.intro rfl trivial))) K
      refine am_drop (L' := [some (.ref 27), some (.ref t1), some (.int x16), some (.int (0 : Int32)), none]) (And.intro rfl (And.intro rfl (And.intro rfl (And.intro rfl trivial)))) ?_
      refine lp_ind (P := (fun (s24 : Int32 × G) => u_V m_X0_recall 2 post 57 [some (.ref 27), some (.ref t1), some (.int x16), some (.int s24.1), none] [] s24.2)) (Q := (fun (s26 : G) => u_V m_X0_recall 2 post 98 [some (.ref 27), some (.ref t1), some (.int x16), none, none] [] s26)) ?_ 2000 ((0 : Int32), g17) s33 H1 K2
      clear H1 H K
      intro s24 s33b H K
      obtain ⟨x22, g23⟩ := s24
      (try dsimp only at H); (try dsimp only)
      refine am_iload_n rfl rfl ?_
      refine am_aload_n rfl rfl ?_
      refine u_getR f_0_74 rfl (isT_lt0 ht1) (sk_T ht1) rfl ?_
      refine am_iload_n rfl rfl ?_
      obtain ⟨j27, ej27, hj27, H⟩ := ck_some H
      refine x_iald rfl (isT_lt ht1 (Nat.le_of_ble_eq_true rfl)) (sk_A ht1 (Nat.le_of_ble_eq_true rfl) (Nat.le_of_ble_eq_true rfl)) hj27 ej27 ?_
      refine am_icmp_ge rfl (fun c28 => ?_) (fun c28 => ?_)
      · have H := it_pos c28 H
        have H := Option.some.inj H
        subst H
        exact am_drop (L' := [some (.ref 27), some (.ref t1), some (.int x16), none, none]) (And.intro rfl (And.intro rfl (And.intro rfl trivial))) K
      · have H := it_neg c28 H
        refine am_iload_n rfl rfl ?_
        refine x_iconst (v := (5 : Int32)) rfl (by decide) ?_
        refine am_imul rfl ?_
        refine am_iload_n rfl rfl ?_
        refine am_iadd rfl ?_
        refine am_istore rfl (Nat.le_of_ble_eq_true rfl) ?_
        refine am_aload_n rfl rfl ?_
        refine am_aload_n rfl rfl ?_
        refine u_getR f_0_77 rfl (isT_lt0 ht1) (sk_T ht1) rfl ?_
        refine am_iload rfl rfl ?_
        obtain ⟨j29, ej29, hj29, H⟩ := ck_some H
        refine x_iald rfl (isT_lt ht1 (Nat.le_of_ble_eq_true rfl)) (sk_A ht1 (Nat.le_of_ble_eq_true rfl) (Nat.le_of_ble_eq_true rfl)) hj29 ej29 ?_
        refine am_aload_n rfl rfl ?_
        refine u_getR f_0_80 rfl (isT_lt0 ht1) (sk_T ht1) rfl ?_
        refine am_iload rfl rfl ?_
        obtain ⟨j30, ej30, hj30, H⟩ := ck_some H
        refine x_iald rfl (isT_lt ht1 (Nat.le_of_ble_eq_true rfl)) (sk_A ht1 (Nat.le_of_ble_eq_true rfl) (Nat.le_of_ble_eq_true rfl)) hj30 ej30 ?_
        obtain ⟨r31, g32, H1, H⟩ := bd2_some H
        refine cv2v v_0_83 rfl rfl (Nat.le_of_ble_eq_true rfl) rfl (Nat.le_of_ble_eq_true rfl) (fun _ _ => Nat.le_of_ble_eq_true rfl) (y_X0_recallPair (g23 (t1 + 7) j29) (g23 (t1 + 8) j30) g23 _ H1 ?_)
        refine x_iinc (v := (x22 + (1 : Int32))) rfl rfl (Nat.le_of_ble_eq_true rfl) rfl ?_
        refine am_goto rfl ?_
        have H := Option.some.inj H
        subst H
        exact am_drop (L' := [some (.ref 27), some (.ref t1), some (.int x16), some (.int (x22 + (1 : Int32))), none]) (And.intro rfl (And.intro rfl (And.intro rfl (And.intro rfl trivial)))) K
  refine am_drop (L' := [some (.ref 27), some (.ref t1), some (.int (0 : Int32)), none, none]) (And.intro rfl (And.intro rfl (And.intro rfl trivial))) ?_
  refine lp_ind (P := (fun (s9 : Int32 × G) => u_V m_X0_recall 2 post 26 [some (.ref 27), some (.ref t1), some (.int s9.1), none, none] [] s9.2)) (Q := (fun (s11 : G) => u_V m_X0_recall 2 post 45 [some (.ref 27), some (.ref t1), none, none, none] [] s11)) ?_ 2000 ((0 : Int32), g6) s15 H1 K2
  clear H1 H K
  intro s9 s15b H K
  obtain ⟨x7, g8⟩ := s9
  (try dsimp only at H); (try dsimp only)
  refine am_iload_n rfl rfl ?_
  refine x_bipush (v := (110 : Int32)) rfl (by decide) ?_
  refine am_icmp_ge rfl (fun c12 => ?_) (fun c12 => ?_)
  · have H := it_pos c12 H
    have H := Option.some.inj H
    subst H
    exact am_drop (L' := [some (.ref 27), some (.ref t1), none, none, none]) (And.intro rfl (And.intro rfl trivial)) K
  · have H := it_neg c12 H
    refine am_aload_n rfl rfl ?_
    refine u_getR f_0_30 rfl (Nat.le_of_ble_eq_true rfl) rfl rfl ?_
    refine am_iload_n rfl rfl ?_
    refine x_iconst (v := (0 : Int32)) rfl (by decide) ?_
    obtain ⟨j13, ej13, hj13, H⟩ := ck_some H
    obtain ⟨g14, eg14, H⟩ := wr_some H
    refine x_zast rfl (Nat.le_of_ble_eq_true rfl) rfl hj13 ej13 (Or.inl rfl) eg14 ?_
    refine x_iinc (v := (x7 + (1 : Int32))) rfl rfl (Nat.le_of_ble_eq_true rfl) rfl ?_
    refine am_goto rfl ?_
    have H := Option.some.inj H
    subst H
    exact am_drop (L' := [some (.ref 27), some (.ref t1), some (.int (x7 + (1 : Int32))), none, none]) (And.intro rfl (And.intro rfl (And.intro rfl trivial))) K
def f_X0_basePrice (a1 : Int32) (a2 : Int32) (a3 : Int32) (g : G) : Option (Int32 × G) := ck ((a1 * (11 : Int32)) + a2) 110 fun j1 => if (g 34 j1) = 0 then some ((((((200 : Int32) * a3) * a3) + (0 : Int32)), g)) else some ((((((200 : Int32) * a3) * a3) + (1000000 : Int32)), g))
set_option maxHeartbeats 4000000 in
set_option maxRecDepth 100000 in
theorem y_X0_basePrice (a1 : Int32) (a2 : Int32) (a3 : Int32)  (g : G) (q : Int32 × G) {post : Int32 → G → Prop} (H : f_X0_basePrice a1 a2 a3 g = some q) (K : post q.1 q.2) : Y m_X0_basePrice 0 [.ref 27, .int a1, .int a2, .int a3] g post := by
  refine Y_of ok_X0_basePrice pn_0 rfl (by decide) (Or.inr (Or.inl rfl)) (List.forall_mem_cons.mpr ⟨rfl, (List.forall_mem_cons.mpr ⟨rfl, (List.forall_mem_cons.mpr ⟨rfl, (List.forall_mem_cons.mpr ⟨rfl, (fun _ h => absurd h List.not_mem_nil)⟩)⟩)⟩)⟩) (Nat.le_of_ble_eq_true rfl) ?_
  show u_V m_X0_basePrice 0 post 0 [some (.ref 27), some (.int a1), some (.int a2), some (.int a3)] [] g
  unfold f_X0_basePrice at H
  refine x_sipush (v := (200 : Int32)) rfl (by decide) ?_
  refine am_iload_n rfl rfl ?_
  refine am_imul rfl ?_
  refine am_iload_n rfl rfl ?_
  refine am_imul rfl ?_
  refine am_aload_n rfl rfl ?_
  refine u_getR f_0_30 rfl (Nat.le_of_ble_eq_true rfl) rfl rfl ?_
  refine am_iload_n rfl rfl ?_
  refine x_bipush (v := (11 : Int32)) rfl (by decide) ?_
  refine am_imul rfl ?_
  refine am_iload_n rfl rfl ?_
  refine am_iadd rfl ?_
  obtain ⟨j1, ej1, hj1, H⟩ := ck_some H
  refine x_zald rfl (Nat.le_of_ble_eq_true rfl) rfl hj1 ej1 ?_
  refine am_if_eq rfl (fun c2 => ?_) (fun c2 => ?_)
  · have H := it_pos c2 H
    refine x_iconst (v := (0 : Int32)) rfl (by decide) ?_
    refine am_iadd rfl ?_
    have H := Option.some.inj H
    subst H
    exact u_iret rfl rfl K
  · have H := it_neg c2 H
    refine am_ldc (v := (1000000 : Int32)) c_0_53 rfl ?_
    refine am_goto rfl ?_
    refine am_iadd rfl ?_
    have H := Option.some.inj H
    subst H
    exact u_iret rfl rfl K
def f_X0_colourPrice (a1 : Int32) (a2 : Int32) (g : G) : Option (Int32 × G) := ck a1 10 fun j1 => bd ((if ((g 31 j1) * a2) ≤ 0 then some ((0 : Int32)) else some ((1 : Int32)) : Option (Int32))) fun (s3 : Int32) => ck a1 10 fun j4 => bd ((if (g 32 j4) = a2 then ck a1 10 fun j12 => if (g 33 j12) = a2 then bd ((if s3 = 0 then some ((0 : Int32)) else some ((40 : Int32)) : Option (Int32))) fun (s15 : Int32) => if (1 : Int32) = 0 then some (.inr (((s15 + (0 : Int32)), g))) else some (.inr (((s15 + (1000000 : Int32)), g))) else some (.inl ()) else some (.inl ()) : Option ((Unit) ⊕ (Int32 × G)))) fun s19m => (match s19m with | .inl _ => (bd ((if s3 = 0 then some ((0 : Int32)) else some ((40 : Int32)) : Option (Int32))) fun (s7 : Int32) => if (0 : Int32) = 0 then some (((s7 + (0 : Int32)), g)) else some (((s7 + (1000000 : Int32)), g))) | .inr y => some y)
set_option maxHeartbeats 4000000 in
set_option maxRecDepth 100000 in
theorem y_X0_colourPrice (a1 : Int32) (a2 : Int32)  (g : G) (q : Int32 × G) {post : Int32 → G → Prop} (H : f_X0_colourPrice a1 a2 g = some q) (K : post q.1 q.2) : Y m_X0_colourPrice 0 [.ref 27, .int a1, .int a2] g post := by
  refine Y_of ok_X0_colourPrice pn_0 rfl (by decide) (Or.inr (Or.inl rfl)) (List.forall_mem_cons.mpr ⟨rfl, (List.forall_mem_cons.mpr ⟨rfl, (List.forall_mem_cons.mpr ⟨rfl, (fun _ h => absurd h List.not_mem_nil)⟩)⟩)⟩) (Nat.le_of_ble_eq_true rfl) ?_
  show u_V m_X0_colourPrice 0 post 0 [some (.ref 27), some (.int a1), some (.int a2), none, none] [] g
  unfold f_X0_colourPrice at H
  refine am_aload_n rfl rfl ?_
  refine u_getR f_0_21 rfl (Nat.le_of_ble_eq_true rfl) rfl rfl ?_
  refine am_iload_n rfl rfl ?_
  obtain ⟨j1, ej1, hj1, H⟩ := ck_some H
  refine x_iald rfl (Nat.le_of_ble_eq_true rfl) rfl hj1 ej1 ?_
  refine am_iload_n rfl rfl ?_
  refine am_imul rfl ?_
  obtain ⟨s21, H1, H⟩ := bd_some H
  have K : (fun (s3 : Int32) => u_V m_X0_colourPrice 0 post 16 [some (.ref 27), some (.int a1), some (.int a2), none, none] [.int s3] g) s21 := by
    clear H1
    obtain ⟨x2, e_x2⟩ : ∃ z, z = s21 := ⟨_, rfl⟩
    subst e_x2
    (try dsimp only at H); (try dsimp only)
    refine am_istore_n rfl (Nat.le_of_ble_eq_true rfl) ?_
    refine am_aload_n rfl rfl ?_
    refine u_getR f_0_24 rfl (Nat.le_of_ble_eq_true rfl) rfl rfl ?_
    refine am_iload_n rfl rfl ?_
    obtain ⟨j4, ej4, hj4, H⟩ := ck_some H
    refine x_iald rfl (Nat.le_of_ble_eq_true rfl) rfl hj4 ej4 ?_
    refine am_iload_n rfl rfl ?_
    obtain ⟨s19, H1, H⟩ := bd_some H
    have K : (Sum.elim (fun (_ : Unit) => u_V m_X0_colourPrice 0 post 41 [none, none, none, some (.int x2), none] [] g) (fun (q : Int32 × G) => post q.1 q.2)) s19 := by
      clear H1
      cases s19 with
      | inl s5 =>
        (try dsimp only at H); (try dsimp only)
        refine x_iconst (v := (0 : Int32)) rfl (by decide) ?_
        refine am_istore rfl (Nat.le_of_ble_eq_true rfl) ?_
        refine am_iload_n rfl rfl ?_
        obtain ⟨s10, H1, H⟩ := bd_some H
        have K : (fun (s7 : Int32) => u_V m_X0_colourPrice 0 post 54 [none, none, none, none, some (.int (0 : Int32))] [.int s7] g) s10 := by
          clear H1
          obtain ⟨x6, e_x6⟩ : ∃ z, z = s10 := ⟨_, rfl⟩
          subst e_x6
          (try dsimp only at H); (try dsimp only)
          refine am_iload rfl rfl ?_
          refine am_if_eq rfl (fun c8 => ?_) (fun c8 => ?_)
          · have H := it_pos c8 H
            refine x_iconst (v := (0 : Int32)) rfl (by decide) ?_
            refine am_iadd rfl ?_
            have H := Option.some.inj H
            subst H
            exact u_iret rfl rfl K
          · have H := it_neg c8 H
            refine am_ldc (v := (1000000 : Int32)) c_0_53 rfl ?_
            refine am_goto rfl ?_
            refine am_iadd rfl ?_
            have H := Option.some.inj H
            subst H
            exact u_iret rfl rfl K
        have H := H1
        clear H1
        refine am_if_eq rfl (fun c9 => ?_) (fun c9 => ?_)
        · have H := it_pos c9 H
          refine x_iconst (v := (0 : Int32)) rfl (by decide) ?_
          have H := Option.some.inj H
          subst H
          exact am_drop (L' := [none, none, none, none, some (.int (0 : Int32))]) (And.intro rfl trivial) K
        · have H := it_neg c9 H
          refine x_bipush (v := (40 : Int32)) rfl (by decide) ?_
          refine am_goto rfl ?_
          have H := Option.some.inj H
          subst H
          exact am_drop (L' := [none, none, none, none, some (.int (0 : Int32))]) (And.intro rfl trivial) K
      | inr y =>
        have H := Option.some.inj H
        subst H
        exact K
    have H := H1
    clear H1
    refine am_icmp_ne rfl (fun c11 => ?_) (fun c11 => ?_)
    · have H := it_neg c11 H
      have H := Option.some.inj H
      subst H
      exact am_drop (L' := [none, none, none, some (.int x2), none]) (And.intro rfl trivial) K
    · have H := it_pos c11 H
      refine am_aload_n rfl rfl ?_
      refine u_getR f_0_27 rfl (Nat.le_of_ble_eq_true rfl) rfl rfl ?_
      refine am_iload_n rfl rfl ?_
      obtain ⟨j12, ej12, hj12, H⟩ := ck_some H
      refine x_iald rfl (Nat.le_of_ble_eq_true rfl) rfl hj12 ej12 ?_
      refine am_iload_n rfl rfl ?_
      refine am_icmp_ne rfl (fun c13 => ?_) (fun c13 => ?_)
      · have H := it_neg c13 H
        have H := Option.some.inj H
        subst H
        exact am_drop (L' := [none, none, none, some (.int x2), none]) (And.intro rfl trivial) K
      · have H := it_pos c13 H
        refine x_iconst (v := (1 : Int32)) rfl (by decide) ?_
        refine am_goto rfl ?_
        refine am_istore rfl (Nat.le_of_ble_eq_true rfl) ?_
        refine am_iload_n rfl rfl ?_
        obtain ⟨s18, H1, H⟩ := bd_some H
        have K : (fun (s15 : Int32) => u_V m_X0_colourPrice 0 post 54 [none, none, none, none, some (.int (1 : Int32))] [.int s15] g) s18 := by
          clear H1
          obtain ⟨x14, e_x14⟩ : ∃ z, z = s18 := ⟨_, rfl⟩
          subst e_x14
          (try dsimp only at H); (try dsimp only)
          refine am_iload rfl rfl ?_
          refine am_if_eq rfl (fun c16 => ?_) (fun c16 => ?_)
          · have H := it_pos c16 H
            refine x_iconst (v := (0 : Int32)) rfl (by decide) ?_
            refine am_iadd rfl ?_
            have H := Option.some.inj H
            subst H
            exact u_iret rfl rfl K
          · have H := it_neg c16 H
            refine am_ldc (v := (1000000 : Int32)) c_0_53 rfl ?_
            refine am_goto rfl ?_
            refine am_iadd rfl ?_
            have H := Option.some.inj H
            subst H
            exact u_iret rfl rfl K
        have H := H1
        clear H1
        refine am_if_eq rfl (fun c17 => ?_) (fun c17 => ?_)
        · have H := it_pos c17 H
          refine x_iconst (v := (0 : Int32)) rfl (by decide) ?_
          have H := Option.some.inj H
          subst H
          exact am_drop (L' := [none, none, none, none, some (.int (1 : Int32))]) (And.intro rfl trivial) K
        · have H := it_neg c17 H
          refine x_bipush (v := (40 : Int32)) rfl (by decide) ?_
          refine am_goto rfl ?_
          have H := Option.some.inj H
          subst H
          exact am_drop (L' := [none, none, none, none, some (.int (1 : Int32))]) (And.intro rfl trivial) K
  have H := H1
  clear H1
  refine am_if_le rfl (fun c20 => ?_) (fun c20 => ?_)
  · have H := it_pos c20 H
    refine x_iconst (v := (0 : Int32)) rfl (by decide) ?_
    have H := Option.some.inj H
    subst H
    exact am_drop (L' := [some (.ref 27), some (.int a1), some (.int a2), none, none]) (And.intro rfl (And.intro rfl (And.intro rfl trivial))) K
  · have H := it_neg c20 H
    refine x_iconst (v := (1 : Int32)) rfl (by decide) ?_
    refine am_goto rfl ?_
    have H := Option.some.inj H
    subst H
    exact am_drop (L' := [some (.ref 27), some (.int a1), some (.int a2), none, none]) (And.intro rfl (And.intro rfl (And.intro rfl trivial))) K
def f_X0_priceTwo (a1 : Int32) (a2 : Int32) (a3 : Int32) (g : G) : Option (Int32 × G) := bd2 (f_X0_colourPrice a1 (1 : Int32) g) fun r1 g2 => bd2 (f_X0_colourPrice a2 (-1 : Int32) g2) fun r3 g4 => bd2 (f_X0_colourPrice a1 (-1 : Int32) g4) fun r5 g6 => bd2 (f_X0_colourPrice a2 (1 : Int32) g6) fun r7 g8 => bd ((if (r1 + r3) ≤ (r5 + r7) then some ((0 : Int32)) else some ((1 : Int32)) : Option (Int32))) fun (s10 : Int32) => ck ((a1 * (11 : Int32)) + a2) 110 fun j11 => bz s10 (wr (up2 g8 35 j11 s10) fun g12 => bd2 (f_X0_basePrice a1 a2 a3 g12) fun r14 g15 => ck a1 10 fun j16 => ck a2 10 fun j17 => bd2 (f_J9_abs_0f7a4 ((g15 30 j16) - (g15 30 j17)) g15) fun r18 g19 => bd2 (f_J9_min_7cf53 (r1 + r3) (r5 + r7) g19) fun r20 g21 => ck ((a1 * (11 : Int32)) + a2) 110 fun j22 => wr (up2 g21 36 j22 ((r14 + (r18 / (10 : Int32))) + r20)) fun g23 => some (((0 : Int32), g23)))
set_option maxHeartbeats 4000000 in
set_option maxRecDepth 100000 in
theorem y_X0_priceTwo (a1 : Int32) (a2 : Int32) (a3 : Int32)  (g : G) (q : Int32 × G) {post : Int32 → G → Prop} (H : f_X0_priceTwo a1 a2 a3 g = some q) (K : post q.1 q.2) : Y m_X0_priceTwo 1 [.ref 27, .int a1, .int a2, .int a3] g post := by
  refine Y_of ok_X0_priceTwo pn_0 rfl (by decide) (Or.inl rfl) (List.forall_mem_cons.mpr ⟨rfl, (List.forall_mem_cons.mpr ⟨rfl, (List.forall_mem_cons.mpr ⟨rfl, (List.forall_mem_cons.mpr ⟨rfl, (fun _ h => absurd h List.not_mem_nil)⟩)⟩)⟩)⟩) (Nat.le_of_ble_eq_true rfl) ?_
  show u_V m_X0_priceTwo 1 post 0 [some (.ref 27), some (.int a1), some (.int a2), some (.int a3), none, none, none] [] g
  unfold f_X0_priceTwo at H
  refine am_aload_n rfl rfl ?_
  refine am_iload_n rfl rfl ?_
  refine x_iconst (v := (1 : Int32)) rfl (by decide) ?_
  obtain ⟨r1, g2, H1, H⟩ := bd2_some H
  refine cv2i v_0_108 rfl rfl (Nat.le_of_ble_eq_true rfl) rfl (Nat.le_of_ble_eq_true rfl) (fun _ _ => Nat.le_of_ble_eq_true rfl) (y_X0_colourPrice a1 (1 : Int32) g _ H1 ?_)
  refine am_aload_n rfl rfl ?_
  refine am_iload_n rfl rfl ?_
  refine x_iconst (v := (-1 : Int32)) rfl (by decide) ?_
  obtain ⟨r3, g4, H1, H⟩ := bd2_some H
  refine cv2i v_0_108 rfl rfl (Nat.le_of_ble_eq_true rfl) rfl (Nat.le_of_ble_eq_true rfl) (fun _ _ => Nat.le_of_ble_eq_true rfl) (y_X0_colourPrice a2 (-1 : Int32) g2 _ H1 ?_)
  refine am_iadd rfl ?_
  refine am_istore rfl (Nat.le_of_ble_eq_true rfl) ?_
  refine am_aload_n rfl rfl ?_
  refine am_iload_n rfl rfl ?_
  refine x_iconst (v := (-1 : Int32)) rfl (by decide) ?_
  obtain ⟨r5, g6, H1, H⟩ := bd2_some H
  refine cv2i v_0_108 rfl rfl (Nat.le_of_ble_eq_true rfl) rfl (Nat.le_of_ble_eq_true rfl) (fun _ _ => Nat.le_of_ble_eq_true rfl) (y_X0_colourPrice a1 (-1 : Int32) g4 _ H1 ?_)
  refine am_aload_n rfl rfl ?_
  refine am_iload_n rfl rfl ?_
  refine x_iconst (v := (1 : Int32)) rfl (by decide) ?_
  obtain ⟨r7, g8, H1, H⟩ := bd2_some H
  refine cv2i v_0_108 rfl rfl (Nat.le_of_ble_eq_true rfl) rfl (Nat.le_of_ble_eq_true rfl) (fun _ _ => Nat.le_of_ble_eq_true rfl) (y_X0_colourPrice a2 (1 : Int32) g6 _ H1 ?_)
  refine am_iadd rfl ?_
  refine am_istore rfl (Nat.le_of_ble_eq_true rfl) ?_
  refine am_iload_n rfl rfl ?_
  refine x_bipush (v := (11 : Int32)) rfl (by decide) ?_
  refine am_imul rfl ?_
  refine am_iload_n rfl rfl ?_
  refine am_iadd rfl ?_
  refine am_istore rfl (Nat.le_of_ble_eq_true rfl) ?_
  refine am_aload_n rfl rfl ?_
  refine u_getR f_0_34 rfl (Nat.le_of_ble_eq_true rfl) rfl rfl ?_
  refine am_iload rfl rfl ?_
  refine am_iload rfl rfl ?_
  refine am_iload rfl rfl ?_
  obtain ⟨s25, H1, H⟩ := bd_some H
  have K : (fun (s10 : Int32) => u_V m_X0_priceTwo 1 post 56 [some (.ref 27), some (.int a1), some (.int a2), some (.int a3), some (.int (r1 + r3)), some (.int (r5 + r7)), some (.int ((a1 * (11 : Int32)) + a2))] [.int s10, .int ((a1 * (11 : Int32)) + a2), .ref 35] g8) s25 := by
    clear H1
    obtain ⟨x9, e_x9⟩ : ∃ z, z = s25 := ⟨_, rfl⟩
    subst e_x9
    (try dsimp only at H); (try dsimp only)
    obtain ⟨j11, ej11, hj11, H⟩ := ck_some H
    obtain ⟨hb13, H⟩ := bz_some H
    obtain ⟨g12, eg12, H⟩ := wr_some H
    refine x_zast rfl (Nat.le_of_ble_eq_true rfl) rfl hj11 ej11 hb13 eg12 ?_
    refine am_aload_n rfl rfl ?_
    refine u_getR f_0_37 rfl (Nat.le_of_ble_eq_true rfl) rfl rfl ?_
    refine am_iload rfl rfl ?_
    refine am_aload_n rfl rfl ?_
    refine am_iload_n rfl rfl ?_
    refine am_iload_n rfl rfl ?_
    refine am_iload_n rfl rfl ?_
    obtain ⟨r14, g15, H1, H⟩ := bd2_some H
    refine cv3i v_0_100 rfl rfl (Nat.le_of_ble_eq_true rfl) rfl (Nat.le_of_ble_eq_true rfl) (fun _ _ => Nat.le_of_ble_eq_true rfl) (y_X0_basePrice a1 a2 a3 g12 _ H1 ?_)
    refine am_aload_n rfl rfl ?_
    refine u_getR f_0_18 rfl (Nat.le_of_ble_eq_true rfl) rfl rfl ?_
    refine am_iload_n rfl rfl ?_
    obtain ⟨j16, ej16, hj16, H⟩ := ck_some H
    refine x_iald rfl (Nat.le_of_ble_eq_true rfl) rfl hj16 ej16 ?_
    refine am_aload_n rfl rfl ?_
    refine u_getR f_0_18 rfl (Nat.le_of_ble_eq_true rfl) rfl rfl ?_
    refine am_iload_n rfl rfl ?_
    obtain ⟨j17, ej17, hj17, H⟩ := ck_some H
    refine x_iald rfl (Nat.le_of_ble_eq_true rfl) rfl hj17 ej17 ?_
    refine am_isub rfl ?_
    obtain ⟨r18, g19, H1, H⟩ := bd2_some H
    refine cs1i s_0_111 rfl rfl (Nat.le_of_ble_eq_true rfl) (fun _ _ => Nat.le_of_ble_eq_true rfl) (y_J9_abs_0f7a4 ((g15 30 j16) - (g15 30 j17)) g15 _ H1 ?_)
    refine x_bipush (v := (10 : Int32)) rfl (by decide) ?_
    refine am_idiv rfl (by decide) ?_
    refine am_iadd rfl ?_
    refine am_iload rfl rfl ?_
    refine am_iload rfl rfl ?_
    obtain ⟨r20, g21, H1, H⟩ := bd2_some H
    refine cs2i s_0_94 rfl rfl (Nat.le_of_ble_eq_true rfl) (fun _ _ => Nat.le_of_ble_eq_true rfl) (y_J9_min_7cf53 (r1 + r3) (r5 + r7) g19 _ H1 ?_)
    refine am_iadd rfl ?_
    obtain ⟨j22, ej22, hj22, H⟩ := ck_some H
    obtain ⟨g23, eg23, H⟩ := wr_some H
    refine x_iast rfl (Nat.le_of_ble_eq_true rfl) rfl hj22 ej22 eg23 ?_
    have H := Option.some.inj H
    subst H
    exact u_vret rfl rfl K
  have H := H1
  clear H1
  refine am_icmp_ge rfl (fun c24 => ?_) (fun c24 => ?_)
  · have H := it_pos c24 H
    refine x_iconst (v := (0 : Int32)) rfl (by decide) ?_
    have H := Option.some.inj H
    subst H
    exact am_drop (L' := [some (.ref 27), some (.int a1), some (.int a2), some (.int a3), some (.int (r1 + r3)), some (.int (r5 + r7)), some (.int ((a1 * (11 : Int32)) + a2))]) (And.intro rfl (And.intro rfl (And.intro rfl (And.intro rfl (And.intro rfl (And.intro rfl (And.intro rfl trivial))))))) K
  · have H := it_neg c24 H
    refine x_iconst (v := (1 : Int32)) rfl (by decide) ?_
    refine am_goto rfl ?_
    have H := Option.some.inj H
    subst H
    exact am_drop (L' := [some (.ref 27), some (.int a1), some (.int a2), some (.int a3), some (.int (r1 + r3)), some (.int (r5 + r7)), some (.int ((a1 * (11 : Int32)) + a2))]) (And.intro rfl (And.intro rfl (And.intro rfl (And.intro rfl (And.intro rfl (And.intro rfl (And.intro rfl trivial))))))) K
def f_X0_priceAll  (g : G) : Option (Int32 × G) := bd (lp (fun (s4 : Int32 × Int32 × G) => (if (s4.2.2 27 11) ≤ s4.2.1 then some (.inr (s4.1, s4.2.2)) else ck s4.2.1 10 fun j9 => ck (s4.2.2 28 j9) 24 fun j10 => bd2 (f_J9_min_7cf53 s4.1 (s4.2.2 19 j10) s4.2.2) fun r11 g12 => some (.inl (r11, (s4.2.1 + (1 : Int32)), g12)) : Option ((Int32 × Int32 × G) ⊕ (Int32 × G)))) 2000 ((2147483647 : Int32), (0 : Int32), g)) fun (s7 : Int32 × G) => bd (lp (fun (s16 : Int32 × G) => (if (s16.2 27 11) ≤ s16.1 then some (.inr (s16.2)) else ck s16.1 10 fun j20 => ck (s16.2 28 j20) 24 fun j21 => bd2 (f_X0_basePrice s16.1 (10 : Int32) ((s16.2 19 j21) - s7.1) s16.2) fun r22 g23 => ck ((s16.1 * (11 : Int32)) + (10 : Int32)) 110 fun j24 => wr (up2 g23 36 j24 r22) fun g25 => bd (lp (fun (s28 : Int32 × G) => (if (s28.2 27 11) ≤ s28.1 then some (.inr (s28.2)) else ck s16.1 10 fun j32 => ck (s28.2 28 j32) 24 fun j33 => ck s28.1 10 fun j34 => ck (s28.2 28 j34) 24 fun j35 => bd2 (f_X0_priceTwo s16.1 s28.1 ((s28.2 19 j33) - (s28.2 19 j35)) s28.2) fun r36 g37 => some (.inl ((s28.1 + (1 : Int32)), g37)) : Option ((Int32 × G) ⊕ (G)))) 2000 ((s16.1 + (1 : Int32)), g25)) fun (s30 : G) => some (.inl ((s16.1 + (1 : Int32)), s30)) : Option ((Int32 × G) ⊕ (G)))) 2000 ((0 : Int32), s7.2)) fun (s18 : G) => some (((0 : Int32), s18))
set_option maxHeartbeats 4000000 in
set_option maxRecDepth 100000 in
theorem y_X0_priceAll   (g : G) (q : Int32 × G) {post : Int32 → G → Prop} (H : f_X0_priceAll  g = some q) (K : post q.1 q.2) : Y m_X0_priceAll 2 [.ref 27, .ref 19] g post := by
  refine Y_of ok_X0_priceAll pn_0 rfl (by decide) (Or.inl rfl) (List.forall_mem_cons.mpr ⟨rfl, (List.forall_mem_cons.mpr ⟨rfl, (fun _ h => absurd h List.not_mem_nil)⟩)⟩) (Nat.le_of_ble_eq_true rfl) ?_
  show u_V m_X0_priceAll 2 post 0 [some (.ref 27), some (.ref 19), none, none, none] [] g
  unfold f_X0_priceAll at H
  refine am_ldc (v := (2147483647 : Int32)) c_0_93 rfl ?_
  refine am_istore_n rfl (Nat.le_of_ble_eq_true rfl) ?_
  refine x_iconst (v := (0 : Int32)) rfl (by decide) ?_
  refine am_istore_n rfl (Nat.le_of_ble_eq_true rfl) ?_
  obtain ⟨s13, H1, H⟩ := bd_some H
  have K2 : (fun (s7 : Int32 × G) => u_V m_X0_priceAll 2 post 32 [some (.ref 27), some (.ref 19), some (.int s7.1), none, none] [] s7.2) s13 := by
    clear H1
    obtain ⟨x5, g6⟩ := s13
    (try dsimp only at H); (try dsimp only)
    refine x_iconst (v := (0 : Int32)) rfl (by decide) ?_
    refine am_istore_n rfl (Nat.le_of_ble_eq_true rfl) ?_
    obtain ⟨s39, H1, H⟩ := bd_some H
    have K2 : (fun (s18 : G) => u_V m_X0_priceAll 2 post 122 [none, none, none, none, none] [] s18) s39 := by
      clear H1
      obtain ⟨g17, e_g17⟩ : ∃ z, z = s39 := ⟨_, rfl⟩
      subst e_g17
      (try dsimp only at H); (try dsimp only)
      have H := Option.some.inj H
      subst H
      exact u_vret rfl rfl K
    refine am_drop (L' := [some (.ref 27), some (.ref 19), some (.int x5), some (.int (0 : Int32)), none]) (And.intro rfl (And.intro rfl (And.intro rfl (And.intro rfl trivial)))) ?_
    refine lp_ind (P := (fun (s16 : Int32 × G) => u_V m_X0_priceAll 2 post 34 [some (.ref 27), some (.ref 19), some (.int x5), some (.int s16.1), none] [] s16.2)) (Q := (fun (s18 : G) => u_V m_X0_priceAll 2 post 122 [none, none, none, none, none] [] s18)) ?_ 2000 ((0 : Int32), g6) s39 H1 K2
    clear H1 H K
    intro s16 s39b H K
    obtain ⟨x14, g15⟩ := s16
    (try dsimp only at H); (try dsimp only)
    refine am_iload_n rfl rfl ?_
    refine am_aload_n rfl rfl ?_
    refine u_getI f_0_46 rfl (Nat.le_of_ble_eq_true rfl) rfl rfl ?_
    refine am_icmp_ge rfl (fun c19 => ?_) (fun c19 => ?_)
    · have H := it_pos c19 H
      have H := Option.some.inj H
      subst H
      exact am_drop (L' := [none, none, none, none, none]) trivial K
    · have H := it_neg c19 H
      refine am_aload_n rfl rfl ?_
      refine u_getR f_0_37 rfl (Nat.le_of_ble_eq_true rfl) rfl rfl ?_
      refine am_iload_n rfl rfl ?_
      refine x_bipush (v := (11 : Int32)) rfl (by decide) ?_
      refine am_imul rfl ?_
      refine x_bipush (v := (10 : Int32)) rfl (by decide) ?_
      refine am_iadd rfl ?_
      refine am_aload_n rfl rfl ?_
      refine am_iload_n rfl rfl ?_
      refine x_bipush (v := (10 : Int32)) rfl (by decide) ?_
      refine am_aload_n rfl rfl ?_
      refine am_aload_n rfl rfl ?_
      refine u_getR f_0_9 rfl (Nat.le_of_ble_eq_true rfl) rfl rfl ?_
      refine am_iload_n rfl rfl ?_
      obtain ⟨j20, ej20, hj20, H⟩ := ck_some H
      refine x_iald rfl (Nat.le_of_ble_eq_true rfl) rfl hj20 ej20 ?_
      obtain ⟨j21, ej21, hj21, H⟩ := ck_some H
      refine x_iald rfl (Nat.le_of_ble_eq_true rfl) rfl hj21 ej21 ?_
      refine am_iload_n rfl rfl ?_
      refine am_isub rfl ?_
      obtain ⟨r22, g23, H1, H⟩ := bd2_some H
      refine cv3i v_0_100 rfl rfl (Nat.le_of_ble_eq_true rfl) rfl (Nat.le_of_ble_eq_true rfl) (fun _ _ => Nat.le_of_ble_eq_true rfl) (y_X0_basePrice x14 (10 : Int32) ((g15 19 j21) - x5) g15 _ H1 ?_)
      obtain ⟨j24, ej24, hj24, H⟩ := ck_some H
      obtain ⟨g25, eg25, H⟩ := wr_some H
      refine x_iast rfl (Nat.le_of_ble_eq_true rfl) rfl hj24 ej24 eg25 ?_
      refine am_iload_n rfl rfl ?_
      refine x_iconst (v := (1 : Int32)) rfl (by decide) ?_
      refine am_iadd rfl ?_
      refine am_istore rfl (Nat.le_of_ble_eq_true rfl) ?_
      obtain ⟨s38, H1, H⟩ := bd_some H
      have K2 : (fun (s30 : G) => u_V m_X0_priceAll 2 post 116 [some (.ref 27), some (.ref 19), some (.int x5), some (.int x14), none] [] s30) s38 := by
        clear H1
        obtain ⟨g29, e_g29⟩ : ∃ z, z = s38 := ⟨_, rfl⟩
        subst e_g29
        (try dsimp only at H); (try dsimp only)
        refine x_iinc (v := (x14 + (1 : Int32))) rfl rfl (Nat.le_of_ble_eq_true rfl) rfl ?_
        refine am_goto rfl ?_
        have H := Option.some.inj H
        subst H
        exact am_drop (L' := [some (.ref 27), some (.ref 19), some (.int x5), some (.int (x14 + (1 : Int32))), none]) (And.intro rfl (And.intro rfl (And.intro rfl (And.intro rfl trivial)))) K
      refine am_drop (L' := [some (.ref 27), some (.ref 19), some (.int x5), some (.int x14), some (.int (x14 + (1 : Int32)))]) (And.intro rfl (And.intro rfl (And.intro rfl (And.intro rfl (And.intro rfl trivial))))) ?_
      refine lp_ind (P := (fun (s28 : Int32 × G) => u_V m_X0_priceAll 2 post 76 [some (.ref 27), some (.ref 19), some (.int x5), some (.int x14), some (.int s28.1)] [] s28.2)) (Q := (fun (s30 : G) => u_V m_X0_priceAll 2 post 116 [some (.ref 27), some (.ref 19), some (.int x5), some (.int x14), none] [] s30)) ?_ 2000 ((x14 + (1 : Int32)), g25) s38 H1 K2
      clear H1 H K
      intro s28 s38b H K
      obtain ⟨x26, g27⟩ := s28
      (try dsimp only at H); (try dsimp only)
      refine am_iload rfl rfl ?_
      refine am_aload_n rfl rfl ?_
      refine u_getI f_0_46 rfl (Nat.le_of_ble_eq_true rfl) rfl rfl ?_
      refine am_icmp_ge rfl (fun c31 => ?_) (fun c31 => ?_)
      · have H := it_pos c31 H
        have H := Option.some.inj H
        subst H
        exact am_drop (L' := [some (.ref 27), some (.ref 19), some (.int x5), some (.int x14), none]) (And.intro rfl (And.intro rfl (And.intro rfl (And.intro rfl trivial)))) K
      · have H := it_neg c31 H
        refine am_aload_n rfl rfl ?_
        refine am_iload_n rfl rfl ?_
        refine am_iload rfl rfl ?_
        refine am_aload_n rfl rfl ?_
        refine am_aload_n rfl rfl ?_
        refine u_getR f_0_9 rfl (Nat.le_of_ble_eq_true rfl) rfl rfl ?_
        refine am_iload_n rfl rfl ?_
        obtain ⟨j32, ej32, hj32, H⟩ := ck_some H
        refine x_iald rfl (Nat.le_of_ble_eq_true rfl) rfl hj32 ej32 ?_
        obtain ⟨j33, ej33, hj33, H⟩ := ck_some H
        refine x_iald rfl (Nat.le_of_ble_eq_true rfl) rfl hj33 ej33 ?_
        refine am_aload_n rfl rfl ?_
        refine am_aload_n rfl rfl ?_
        refine u_getR f_0_9 rfl (Nat.le_of_ble_eq_true rfl) rfl rfl ?_
        refine am_iload rfl rfl ?_
        obtain ⟨j34, ej34, hj34, H⟩ := ck_some H
        refine x_iald rfl (Nat.le_of_ble_eq_true rfl) rfl hj34 ej34 ?_
        obtain ⟨j35, ej35, hj35, H⟩ := ck_some H
        refine x_iald rfl (Nat.le_of_ble_eq_true rfl) rfl hj35 ej35 ?_
        refine am_isub rfl ?_
        obtain ⟨r36, g37, H1, H⟩ := bd2_some H
        refine cv3v v_0_104 rfl rfl (Nat.le_of_ble_eq_true rfl) rfl (Nat.le_of_ble_eq_true rfl) (fun _ _ => Nat.le_of_ble_eq_true rfl) (y_X0_priceTwo x14 x26 ((g27 19 j33) - (g27 19 j35)) g27 _ H1 ?_)
        refine x_iinc (v := (x26 + (1 : Int32))) rfl rfl (Nat.le_of_ble_eq_true rfl) rfl ?_
        refine am_goto rfl ?_
        have H := Option.some.inj H
        subst H
        exact am_drop (L' := [some (.ref 27), some (.ref 19), some (.int x5), some (.int x14), some (.int (x26 + (1 : Int32)))]) (And.intro rfl (And.intro rfl (And.intro rfl (And.intro rfl (And.intro rfl trivial))))) K
  refine am_drop (L' := [some (.ref 27), some (.ref 19), some (.int (2147483647 : Int32)), some (.int (0 : Int32)), none]) (And.intro rfl (And.intro rfl (And.intro rfl (And.intro rfl trivial)))) ?_
  refine lp_ind (P := (fun (s4 : Int32 × Int32 × G) => u_V m_X0_priceAll 2 post 5 [some (.ref 27), some (.ref 19), some (.int s4.1), some (.int s4.2.1), none] [] s4.2.2)) (Q := (fun (s7 : Int32 × G) => u_V m_X0_priceAll 2 post 32 [some (.ref 27), some (.ref 19), some (.int s7.1), none, none] [] s7.2)) ?_ 2000 ((2147483647 : Int32), (0 : Int32), g) s13 H1 K2
  clear H1 H K
  intro s4 s13b H K
  obtain ⟨x1, x2, g3⟩ := s4
  (try dsimp only at H); (try dsimp only)
  refine am_iload_n rfl rfl ?_
  refine am_aload_n rfl rfl ?_
  refine u_getI f_0_46 rfl (Nat.le_of_ble_eq_true rfl) rfl rfl ?_
  refine am_icmp_ge rfl (fun c8 => ?_) (fun c8 => ?_)
  · have H := it_pos c8 H
    have H := Option.some.inj H
    subst H
    exact am_drop (L' := [some (.ref 27), some (.ref 19), some (.int x1), none, none]) (And.intro rfl (And.intro rfl (And.intro rfl trivial))) K
  · have H := it_neg c8 H
    refine am_iload_n rfl rfl ?_
    refine am_aload_n rfl rfl ?_
    refine am_aload_n rfl rfl ?_
    refine u_getR f_0_9 rfl (Nat.le_of_ble_eq_true rfl) rfl rfl ?_
    refine am_iload_n rfl rfl ?_
    obtain ⟨j9, ej9, hj9, H⟩ := ck_some H
    refine x_iald rfl (Nat.le_of_ble_eq_true rfl) rfl hj9 ej9 ?_
    obtain ⟨j10, ej10, hj10, H⟩ := ck_some H
    refine x_iald rfl (Nat.le_of_ble_eq_true rfl) rfl hj10 ej10 ?_
    obtain ⟨r11, g12, H1, H⟩ := bd2_some H
    refine cs2i s_0_94 rfl rfl (Nat.le_of_ble_eq_true rfl) (fun _ _ => Nat.le_of_ble_eq_true rfl) (y_J9_min_7cf53 x1 (g3 19 j10) g3 _ H1 ?_)
    refine am_istore_n rfl (Nat.le_of_ble_eq_true rfl) ?_
    refine x_iinc (v := (x2 + (1 : Int32))) rfl rfl (Nat.le_of_ble_eq_true rfl) rfl ?_
    refine am_goto rfl ?_
    have H := Option.some.inj H
    subst H
    exact am_drop (L' := [some (.ref 27), some (.ref 19), some (.int r11), some (.int (x2 + (1 : Int32))), none]) (And.intro rfl (And.intro rfl (And.intro rfl (And.intro rfl trivial)))) K
def f_X0_firstFree  (g : G) : Option (Int32 × G) := bd (lp (fun (s2 : Int32) => (if (g 27 11) ≤ s2 then some (.inr (.inl ())) else ck s2 10 fun j5 => if (g 37 j5) = (-1 : Int32) then some (.inr (.inr ((s2, g)))) else some (.inl ((s2 + (1 : Int32)))) : Option ((Int32) ⊕ ((Unit) ⊕ (Int32 × G))))) 2000 (0 : Int32)) fun s7m => (match s7m with | .inl _ => (some (((-1 : Int32), g))) | .inr y => some y)
set_option maxHeartbeats 4000000 in
set_option maxRecDepth 100000 in
theorem y_X0_firstFree   (g : G) (q : Int32 × G) {post : Int32 → G → Prop} (H : f_X0_firstFree  g = some q) (K : post q.1 q.2) : Y m_X0_firstFree 0 [.ref 27] g post := by
  refine Y_of ok_X0_firstFree pn_0 rfl (by decide) (Or.inr (Or.inl rfl)) (List.forall_mem_cons.mpr ⟨rfl, (fun _ h => absurd h List.not_mem_nil)⟩) (Nat.le_of_ble_eq_true rfl) ?_
  show u_V m_X0_firstFree 0 post 0 [some (.ref 27), none] [] g
  unfold f_X0_firstFree at H
  refine x_iconst (v := (0 : Int32)) rfl (by decide) ?_
  refine am_istore_n rfl (Nat.le_of_ble_eq_true rfl) ?_
  obtain ⟨s7, H1, H⟩ := bd_some H
  have K2 : (Sum.elim (fun (_ : Unit) => u_V m_X0_firstFree 0 post 28 [none, none] [] g) (fun (q : Int32 × G) => post q.1 q.2)) s7 := by
    clear H1
    cases s7 with
    | inl s3 =>
      (try dsimp only at H); (try dsimp only)
      refine x_iconst (v := (-1 : Int32)) rfl (by decide) ?_
      have H := Option.some.inj H
      subst H
      exact u_iret rfl rfl K
    | inr y =>
      have H := Option.some.inj H
      subst H
      exact K
  refine am_drop (L' := [some (.ref 27), some (.int (0 : Int32))]) (And.intro rfl (And.intro rfl trivial)) ?_
  refine lp_ind (P := (fun (s2 : Int32) => u_V m_X0_firstFree 0 post 2 [some (.ref 27), some (.int s2)] [] g)) (Q := (Sum.elim (fun (_ : Unit) => u_V m_X0_firstFree 0 post 28 [none, none] [] g) (fun (q : Int32 × G) => post q.1 q.2))) ?_ 2000 (0 : Int32) s7 H1 K2
  clear H1 H K
  intro s2 s7b H K
  obtain ⟨x1, e_x1⟩ : ∃ z, z = s2 := ⟨_, rfl⟩
  subst e_x1
  (try dsimp only at H); (try dsimp only)
  refine am_iload_n rfl rfl ?_
  refine am_aload_n rfl rfl ?_
  refine u_getI f_0_46 rfl (Nat.le_of_ble_eq_true rfl) rfl rfl ?_
  refine am_icmp_ge rfl (fun c4 => ?_) (fun c4 => ?_)
  · have H := it_pos c4 H
    have H := Option.some.inj H
    subst H
    exact am_drop (L' := [none, none]) trivial K
  · have H := it_neg c4 H
    refine am_aload_n rfl rfl ?_
    refine u_getR f_0_40 rfl (Nat.le_of_ble_eq_true rfl) rfl rfl ?_
    refine am_iload_n rfl rfl ?_
    obtain ⟨j5, ej5, hj5, H⟩ := ck_some H
    refine x_iald rfl (Nat.le_of_ble_eq_true rfl) rfl hj5 ej5 ?_
    refine x_iconst (v := (-1 : Int32)) rfl (by decide) ?_
    refine am_icmp_ne rfl (fun c6 => ?_) (fun c6 => ?_)
    · have H := it_neg c6 H
      refine x_iinc (v := (x1 + (1 : Int32))) rfl rfl (Nat.le_of_ble_eq_true rfl) rfl ?_
      refine am_goto rfl ?_
      have H := Option.some.inj H
      subst H
      exact am_drop (L' := [some (.ref 27), some (.int (x1 + (1 : Int32)))]) (And.intro rfl (And.intro rfl trivial)) K
    · have H := it_pos c6 H
      refine am_iload_n rfl rfl ?_
      have H := Option.some.inj H
      subst H
      exact u_iret rfl rfl K
def f_X0_search : Nat → Int32 → Int32 → Int32 → G → Option (Int32 × G)
  | 0, _, _, _, _ => none
  | n + 1, a1, a2, a3, g => if (g 27 12) ≤ a1 then some (((0 : Int32), g)) else if a3 ≤ (10 : Int32) then bd2 (f_X0_firstFree  g) fun r3 g4 => if r3 = (-1 : Int32) then wr (up2 g4 27 12 a1) fun g38 => cz (0 : Int32) (0 : Int32) (10 : Int32) 10 10 (wr (up1 g38 38 (va_cpy (g38 37) (g38 38) (0 : Int32).toNatClampNeg (0 : Int32).toNatClampNeg (10 : Int32).toNatClampNeg)) fun g39 => some (((0 : Int32), g39))) else bd (lp (fun (s8 : Int32 × G) => (if (s8.2 27 11) ≤ s8.1 then some (.inr (s8.2)) else ck s8.1 10 fun j12 => bd ((if (s8.2 37 j12) = (-1 : Int32) then ck r3 10 fun j16 => wr (up2 s8.2 37 j16 s8.1) fun g17 => ck s8.1 10 fun j18 => wr (up2 g17 37 j18 r3) fun g19 => ck ((r3 * (11 : Int32)) + s8.1) 110 fun j20 => bd2 (f_X0_search n (a1 + (g19 36 j20)) a2 (a3 + (1 : Int32)) g19) fun r21 g22 => ck s8.1 10 fun j23 => wr (up2 g22 37 j23 (-1 : Int32)) fun g24 => some (g24) else some (s8.2) : Option (G))) fun (s14 : G) => some (.inl ((s8.1 + (1 : Int32)), s14)) : Option ((Int32 × G) ⊕ (G)))) 2000 ((r3 + (1 : Int32)), g4)) fun (s10 : G) => bd ((if a2 = 0 then some (s10) else ck r3 10 fun j32 => wr (up2 s10 37 j32 (10 : Int32)) fun g33 => ck ((r3 * (11 : Int32)) + (10 : Int32)) 110 fun j34 => bd2 (f_X0_search n (a1 + (g33 36 j34)) (0 : Int32) (a3 + (1 : Int32)) g33) fun r35 g36 => some (g36) : Option (G))) fun (s28 : G) => ck r3 10 fun j29 => wr (up2 s28 37 j29 (-1 : Int32)) fun g30 => some (((0 : Int32), g30)) else some (((0 : Int32), g))
set_option maxHeartbeats 4000000 in
set_option maxRecDepth 100000 in
theorem y_X0_search : ∀ (n : Nat) (a1 : Int32) (a2 : Int32) (a3 : Int32)  (g : G) (q : Int32 × G) {post : Int32 → G → Prop} (H : f_X0_search n a1 a2 a3 g = some q) (K : post q.1 q.2), Y m_X0_search (1 + n) [.ref 27, .int a1, .int a2, .int a3] g post := by
  intro n
  induction n with
  | zero =>
    intro a1 a2 a3 g q post H K
    cases H
  | succ n ih =>
    intro a1 a2 a3 g q post H K
    refine Y_of ok_X0_search pn_0 rfl (by decide) (Or.inl rfl) (List.forall_mem_cons.mpr ⟨rfl, (List.forall_mem_cons.mpr ⟨rfl, (List.forall_mem_cons.mpr ⟨rfl, (List.forall_mem_cons.mpr ⟨rfl, (fun _ h => absurd h List.not_mem_nil)⟩)⟩)⟩)⟩) (Nat.le_of_ble_eq_true rfl) ?_
    show u_V m_X0_search (1 + n + 1) post 0 [some (.ref 27), some (.int a1), some (.int a2), some (.int a3), none, none] [] g
    rw [f_X0_search] at H
    refine am_iload_n rfl rfl ?_
    refine am_aload_n rfl rfl ?_
    refine u_getI f_0_50 rfl (Nat.le_of_ble_eq_true rfl) rfl rfl ?_
    refine am_icmp_ge rfl (fun c1 => ?_) (fun c1 => ?_)
    · have H := it_pos c1 H
      have H := Option.some.inj H
      subst H
      exact u_vret rfl rfl K
    · have H := it_neg c1 H
      refine am_iload_n rfl rfl ?_
      refine x_bipush (v := (10 : Int32)) rfl (by decide) ?_
      refine am_icmp_le rfl (fun c2 => ?_) (fun c2 => ?_)
      · have H := it_pos c2 H
        refine am_aload_n rfl rfl ?_
        obtain ⟨r3, g4, H1, H⟩ := bd2_some H
        refine cv0i v_0_119 rfl rfl (Nat.le_of_ble_eq_true rfl) rfl (by omega) (fun _ _ => Nat.le_of_ble_eq_true rfl) (y_X0_firstFree  g _ H1 ?_)
        refine am_istore rfl (Nat.le_of_ble_eq_true rfl) ?_
        refine am_iload rfl rfl ?_
        refine x_iconst (v := (-1 : Int32)) rfl (by decide) ?_
        refine am_icmp_ne rfl (fun c5 => ?_) (fun c5 => ?_)
        · have H := it_neg c5 H
          refine am_iload rfl rfl ?_
          refine x_iconst (v := (1 : Int32)) rfl (by decide) ?_
          refine am_iadd rfl ?_
          refine am_istore rfl (Nat.le_of_ble_eq_true rfl) ?_
          obtain ⟨s26, H1, H⟩ := bd_some H
          have K2 : (fun (s10 : G) => u_V m_X0_search (1 + n + 1) post 129 [some (.ref 27), some (.int a1), some (.int a2), some (.int a3), some (.int r3), none] [] s10) s26 := by
            clear H1
            obtain ⟨g9, e_g9⟩ : ∃ z, z = s26 := ⟨_, rfl⟩
            subst e_g9
            (try dsimp only at H); (try dsimp only)
            refine am_iload_n rfl rfl ?_
            obtain ⟨s37, H1, H⟩ := bd_some H
            have K : (fun (s28 : G) => u_V m_X0_search (1 + n + 1) post 165 [some (.ref 27), none, none, none, some (.int r3), none] [] s28) s37 := by
              clear H1
              obtain ⟨g27, e_g27⟩ : ∃ z, z = s37 := ⟨_, rfl⟩
              subst e_g27
              (try dsimp only at H); (try dsimp only)
              refine am_aload_n rfl rfl ?_
              refine u_getR f_0_40 rfl (Nat.le_of_ble_eq_true rfl) rfl rfl ?_
              refine am_iload rfl rfl ?_
              refine x_iconst (v := (-1 : Int32)) rfl (by decide) ?_
              obtain ⟨j29, ej29, hj29, H⟩ := ck_some H
              obtain ⟨g30, eg30, H⟩ := wr_some H
              refine x_iast rfl (Nat.le_of_ble_eq_true rfl) rfl hj29 ej29 eg30 ?_
              have H := Option.some.inj H
              subst H
              exact u_vret rfl rfl K
            have H := H1
            clear H1
            refine am_if_eq rfl (fun c31 => ?_) (fun c31 => ?_)
            · have H := it_pos c31 H
              have H := Option.some.inj H
              subst H
              exact am_drop (L' := [some (.ref 27), none, none, none, some (.int r3), none]) (And.intro rfl (And.intro rfl trivial)) K
            · have H := it_neg c31 H
              refine am_aload_n rfl rfl ?_
              refine u_getR f_0_40 rfl (Nat.le_of_ble_eq_true rfl) rfl rfl ?_
              refine am_iload rfl rfl ?_
              refine x_bipush (v := (10 : Int32)) rfl (by decide) ?_
              obtain ⟨j32, ej32, hj32, H⟩ := ck_some H
              obtain ⟨g33, eg33, H⟩ := wr_some H
              refine x_iast rfl (Nat.le_of_ble_eq_true rfl) rfl hj32 ej32 eg33 ?_
              refine am_aload_n rfl rfl ?_
              refine am_iload_n rfl rfl ?_
              refine am_aload_n rfl rfl ?_
              refine u_getR f_0_37 rfl (Nat.le_of_ble_eq_true rfl) rfl rfl ?_
              refine am_iload rfl rfl ?_
              refine x_bipush (v := (11 : Int32)) rfl (by decide) ?_
              refine am_imul rfl ?_
              refine x_bipush (v := (10 : Int32)) rfl (by decide) ?_
              refine am_iadd rfl ?_
              obtain ⟨j34, ej34, hj34, H⟩ := ck_some H
              refine x_iald rfl (Nat.le_of_ble_eq_true rfl) rfl hj34 ej34 ?_
              refine am_iadd rfl ?_
              refine x_iconst (v := (0 : Int32)) rfl (by decide) ?_
              refine am_iload_n rfl rfl ?_
              refine x_iconst (v := (1 : Int32)) rfl (by decide) ?_
              refine am_iadd rfl ?_
              obtain ⟨r35, g36, H1, H⟩ := bd2_some H
              refine cv3v v_0_115 rfl rfl (Nat.le_of_ble_eq_true rfl) rfl (Nat.le_refl _) (fun _ _ => Nat.le_of_ble_eq_true rfl) (ih (a1 + (g33 36 j34)) (0 : Int32) (a3 + (1 : Int32)) g33 _ H1 ?_)
              have H := Option.some.inj H
              subst H
              exact am_drop (L' := [some (.ref 27), none, none, none, some (.int r3), none]) (And.intro rfl (And.intro rfl trivial)) K
          refine am_drop (L' := [some (.ref 27), some (.int a1), some (.int a2), some (.int a3), some (.int r3), some (.int (r3 + (1 : Int32)))]) (And.intro rfl (And.intro rfl (And.intro rfl (And.intro rfl (And.intro rfl (And.intro rfl trivial)))))) ?_
          refine lp_ind (P := (fun (s8 : Int32 × G) => u_V m_X0_search (1 + n + 1) post 54 [some (.ref 27), some (.int a1), some (.int a2), some (.int a3), some (.int r3), some (.int s8.1)] [] s8.2)) (Q := (fun (s10 : G) => u_V m_X0_search (1 + n + 1) post 129 [some (.ref 27), some (.int a1), some (.int a2), some (.int a3), some (.int r3), none] [] s10)) ?_ 2000 ((r3 + (1 : Int32)), g4) s26 H1 K2
          clear H1 H K
          intro s8 s26b H K
          obtain ⟨x6, g7⟩ := s8
          (try dsimp only at H); (try dsimp only)
          refine am_iload rfl rfl ?_
          refine am_aload_n rfl rfl ?_
          refine u_getI f_0_46 rfl (Nat.le_of_ble_eq_true rfl) rfl rfl ?_
          refine am_icmp_ge rfl (fun c11 => ?_) (fun c11 => ?_)
          · have H := it_pos c11 H
            have H := Option.some.inj H
            subst H
            exact am_drop (L' := [some (.ref 27), some (.int a1), some (.int a2), some (.int a3), some (.int r3), none]) (And.intro rfl (And.intro rfl (And.intro rfl (And.intro rfl (And.intro rfl trivial))))) K
          · have H := it_neg c11 H
            refine am_aload_n rfl rfl ?_
            refine u_getR f_0_40 rfl (Nat.le_of_ble_eq_true rfl) rfl rfl ?_
            refine am_iload rfl rfl ?_
            obtain ⟨j12, ej12, hj12, H⟩ := ck_some H
            refine x_iald rfl (Nat.le_of_ble_eq_true rfl) rfl hj12 ej12 ?_
            refine x_iconst (v := (-1 : Int32)) rfl (by decide) ?_
            obtain ⟨s25, H1, H⟩ := bd_some H
            have K : (fun (s14 : G) => u_V m_X0_search (1 + n + 1) post 123 [some (.ref 27), some (.int a1), some (.int a2), some (.int a3), some (.int r3), some (.int x6)] [] s14) s25 := by
              clear H1
              obtain ⟨g13, e_g13⟩ : ∃ z, z = s25 := ⟨_, rfl⟩
              subst e_g13
              (try dsimp only at H); (try dsimp only)
              refine x_iinc (v := (x6 + (1 : Int32))) rfl rfl (Nat.le_of_ble_eq_true rfl) rfl ?_
              refine am_goto rfl ?_
              have H := Option.some.inj H
              subst H
              exact am_drop (L' := [some (.ref 27), some (.int a1), some (.int a2), some (.int a3), some (.int r3), some (.int (x6 + (1 : Int32)))]) (And.intro rfl (And.intro rfl (And.intro rfl (And.intro rfl (And.intro rfl (And.intro rfl trivial)))))) K
            have H := H1
            clear H1
            refine am_icmp_ne rfl (fun c15 => ?_) (fun c15 => ?_)
            · have H := it_neg c15 H
              have H := Option.some.inj H
              subst H
              exact am_drop (L' := [some (.ref 27), some (.int a1), some (.int a2), some (.int a3), some (.int r3), some (.int x6)]) (And.intro rfl (And.intro rfl (And.intro rfl (And.intro rfl (And.intro rfl (And.intro rfl trivial)))))) K
            · have H := it_pos c15 H
              refine am_aload_n rfl rfl ?_
              refine u_getR f_0_40 rfl (Nat.le_of_ble_eq_true rfl) rfl rfl ?_
              refine am_iload rfl rfl ?_
              refine am_iload rfl rfl ?_
              obtain ⟨j16, ej16, hj16, H⟩ := ck_some H
              obtain ⟨g17, eg17, H⟩ := wr_some H
              refine x_iast rfl (Nat.le_of_ble_eq_true rfl) rfl hj16 ej16 eg17 ?_
              refine am_aload_n rfl rfl ?_
              refine u_getR f_0_40 rfl (Nat.le_of_ble_eq_true rfl) rfl rfl ?_
              refine am_iload rfl rfl ?_
              refine am_iload rfl rfl ?_
              obtain ⟨j18, ej18, hj18, H⟩ := ck_some H
              obtain ⟨g19, eg19, H⟩ := wr_some H
              refine x_iast rfl (Nat.le_of_ble_eq_true rfl) rfl hj18 ej18 eg19 ?_
              refine am_aload_n rfl rfl ?_
              refine am_iload_n rfl rfl ?_
              refine am_aload_n rfl rfl ?_
              refine u_getR f_0_37 rfl (Nat.le_of_ble_eq_true rfl) rfl rfl ?_
              refine am_iload rfl rfl ?_
              refine x_bipush (v := (11 : Int32)) rfl (by decide) ?_
              refine am_imul rfl ?_
              refine am_iload rfl rfl ?_
              refine am_iadd rfl ?_
              obtain ⟨j20, ej20, hj20, H⟩ := ck_some H
              refine x_iald rfl (Nat.le_of_ble_eq_true rfl) rfl hj20 ej20 ?_
              refine am_iadd rfl ?_
              refine am_iload_n rfl rfl ?_
              refine am_iload_n rfl rfl ?_
              refine x_iconst (v := (1 : Int32)) rfl (by decide) ?_
              refine am_iadd rfl ?_
              obtain ⟨r21, g22, H1, H⟩ := bd2_some H
              refine cv3v v_0_115 rfl rfl (Nat.le_of_ble_eq_true rfl) rfl (Nat.le_refl _) (fun _ _ => Nat.le_of_ble_eq_true rfl) (ih (a1 + (g19 36 j20)) a2 (a3 + (1 : Int32)) g19 _ H1 ?_)
              refine am_aload_n rfl rfl ?_
              refine u_getR f_0_40 rfl (Nat.le_of_ble_eq_true rfl) rfl rfl ?_
              refine am_iload rfl rfl ?_
              refine x_iconst (v := (-1 : Int32)) rfl (by decide) ?_
              obtain ⟨j23, ej23, hj23, H⟩ := ck_some H
              obtain ⟨g24, eg24, H⟩ := wr_some H
              refine x_iast rfl (Nat.le_of_ble_eq_true rfl) rfl hj23 ej23 eg24 ?_
              have H := Option.some.inj H
              subst H
              exact am_drop (L' := [some (.ref 27), some (.int a1), some (.int a2), some (.int a3), some (.int r3), some (.int x6)]) (And.intro rfl (And.intro rfl (And.intro rfl (And.intro rfl (And.intro rfl (And.intro rfl trivial)))))) K
        · have H := it_pos c5 H
          refine am_aload_n rfl rfl ?_
          refine am_iload_n rfl rfl ?_
          obtain ⟨g38, eg38, H⟩ := wr_some H
          refine x_putI f_0_50 rfl rfl (Nat.le_of_ble_eq_true rfl) rfl rfl (fun _ _ => ⟨rfl, rfl⟩) eg38 ?_
          refine am_aload_n rfl rfl ?_
          refine u_getR f_0_40 rfl (Nat.le_of_ble_eq_true rfl) rfl rfl ?_
          refine x_iconst (v := (0 : Int32)) rfl (by decide) ?_
          refine am_aload_n rfl rfl ?_
          refine u_getR f_0_43 rfl (Nat.le_of_ble_eq_true rfl) rfl rfl ?_
          refine x_iconst (v := (0 : Int32)) rfl (by decide) ?_
          refine x_bipush (v := (10 : Int32)) rfl (by decide) ?_
          obtain ⟨hc40, hc41, hc42, hc43, hc44, H⟩ := cz_some H
          obtain ⟨g39, eg39, H⟩ := wr_some H
          refine x_copy a_0_123 rfl (Nat.le_of_ble_eq_true rfl) rfl (Nat.le_of_ble_eq_true rfl) rfl hc40 hc41 hc42 hc43 hc44 (Nat.le_of_ble_eq_true rfl) (fun _ _ => Nat.le_of_ble_eq_true rfl) eg39 ?_
          have H := Option.some.inj H
          subst H
          exact u_vret rfl rfl K
      · have H := it_neg c2 H
        have H := Option.some.inj H
        subst H
        exact u_vret rfl rfl K
def f_X0_findWay  (g : G) : Option (Int32 × G) := bd2 (f_J7_fill_53178 37 10 (-1 : Int32) g) fun r1 g2 => wr (up2 g2 27 12 (2147483647 : Int32)) fun g3 => if ((g3 27 11) - (g3 27 11) / (2 : Int32) * (2 : Int32)) = (1 : Int32) then bd2 (f_X0_search 12 (0 : Int32) (1 : Int32) (0 : Int32) g3) fun r7 g8 => some (((0 : Int32), g8)) else bd2 (f_X0_search 12 (0 : Int32) (0 : Int32) (0 : Int32) g3) fun r5 g6 => some (((0 : Int32), g6))
set_option maxHeartbeats 4000000 in
set_option maxRecDepth 100000 in
theorem y_X0_findWay   (g : G) (q : Int32 × G) {post : Int32 → G → Prop} (H : f_X0_findWay  g = some q) (K : post q.1 q.2) : Y m_X0_findWay 14 [.ref 27] g post := by
  refine Y_of ok_X0_findWay pn_0 rfl (by decide) (Or.inl rfl) (List.forall_mem_cons.mpr ⟨rfl, (fun _ h => absurd h List.not_mem_nil)⟩) (Nat.le_of_ble_eq_true rfl) ?_
  show u_V m_X0_findWay 14 post 0 [some (.ref 27)] [] g
  unfold f_X0_findWay at H
  refine am_aload_n rfl rfl ?_
  refine u_getR f_0_40 rfl (Nat.le_of_ble_eq_true rfl) rfl rfl ?_
  refine x_iconst (v := (-1 : Int32)) rfl (by decide) ?_
  obtain ⟨r1, g2, H1, H⟩ := bd2_some H
  refine cs2v s_0_65 rfl rfl (Nat.le_of_ble_eq_true rfl) (fun _ _ => Nat.le_of_ble_eq_true rfl) (y_J7_fill_53178 37 10 (-1 : Int32) (Nat.le_of_ble_eq_true rfl) rfl g _ H1 ?_)
  refine am_aload_n rfl rfl ?_
  refine am_ldc (v := (2147483647 : Int32)) c_0_93 rfl ?_
  obtain ⟨g3, eg3, H⟩ := wr_some H
  refine x_putI f_0_50 rfl rfl (Nat.le_of_ble_eq_true rfl) rfl rfl (fun _ _ => ⟨rfl, rfl⟩) eg3 ?_
  refine am_aload_n rfl rfl ?_
  refine x_iconst (v := (0 : Int32)) rfl (by decide) ?_
  refine am_aload_n rfl rfl ?_
  refine u_getI f_0_46 rfl (Nat.le_of_ble_eq_true rfl) rfl rfl ?_
  refine x_iconst (v := (2 : Int32)) rfl (by decide) ?_
  refine am_irem rfl (by decide) ?_
  refine x_iconst (v := (1 : Int32)) rfl (by decide) ?_
  refine am_icmp_ne rfl (fun c4 => ?_) (fun c4 => ?_)
  · have H := it_neg c4 H
    refine x_iconst (v := (0 : Int32)) rfl (by decide) ?_
    refine x_iconst (v := (0 : Int32)) rfl (by decide) ?_
    obtain ⟨r5, g6, H1, H⟩ := bd2_some H
    refine cv3v v_0_115 rfl rfl (Nat.le_of_ble_eq_true rfl) rfl (Nat.le_of_ble_eq_true rfl) (fun _ _ => Nat.le_of_ble_eq_true rfl) (y_X0_search 12 (0 : Int32) (0 : Int32) (0 : Int32) g3 _ H1 ?_)
    have H := Option.some.inj H
    subst H
    exact u_vret rfl rfl K
  · have H := it_pos c4 H
    refine x_iconst (v := (1 : Int32)) rfl (by decide) ?_
    refine am_goto rfl ?_
    refine x_iconst (v := (0 : Int32)) rfl (by decide) ?_
    obtain ⟨r7, g8, H1, H⟩ := bd2_some H
    refine cv3v v_0_115 rfl rfl (Nat.le_of_ble_eq_true rfl) rfl (Nat.le_of_ble_eq_true rfl) (fun _ _ => Nat.le_of_ble_eq_true rfl) (y_X0_search 12 (0 : Int32) (1 : Int32) (0 : Int32) g3 _ H1 ?_)
    have H := Option.some.inj H
    subst H
    exact u_vret rfl rfl K
def f_X0_writeRound (t1 : Nat) (a2 : Int32) (g : G) : Option (Int32 × G) := bd (lp (fun (s4 : Int32 × Int32 × G) => (if (s4.2.2 27 11) ≤ s4.2.1 then some (.inr (s4.1, s4.2.2)) else ck s4.2.1 10 fun j9 => bd ((if (s4.2.2 38 j9) ≤ s4.2.1 then some ((s4.1, s4.2.2)) else bd ((if (s4.2.2 38 j9) = (10 : Int32) then some (.inl (s4.1, s4.2.2)) else ck ((s4.2.1 * (11 : Int32)) + (s4.2.2 38 j9)) 110 fun j37 => if (s4.2.2 35 j37) = 0 then some (.inl (s4.1, s4.2.2)) else bd ((if (s4.2.2 38 j9) = (10 : Int32) then some ((99 : Int32)) else ck (s4.2.2 38 j9) 10 fun j56 => some ((s4.2.2 28 j56)) : Option (Int32))) fun (s40 : Int32) => bd ((if (1 : Int32) = 0 then ck s4.2.1 10 fun j53 => some ((s4.2.2 28 j53)) else some (s40) : Option (Int32))) fun (s42 : Int32) => ck s4.1 30 fun j43 => wr (up2 s4.2.2 (t1 + 7) j43 s42) fun g44 => bd ((if (1 : Int32) = 0 then some (s40) else ck s4.2.1 10 fun j50 => some ((g44 28 j50)) : Option (Int32))) fun (s46 : Int32) => ck s4.1 30 fun j47 => wr (up2 g44 (t1 + 8) j47 s46) fun g48 => some (.inr (((s4.1 + (1 : Int32)), g48))) : Option ((Int32 × G) ⊕ (Int32 × G)))) fun s58m => (match s58m with | .inl s16 => (bd ((if (s4.2.2 38 j9) = (10 : Int32) then some ((99 : Int32)) else ck (s4.2.2 38 j9) 10 fun j34 => some ((s16.2 28 j34)) : Option (Int32))) fun (s18 : Int32) => bd ((if (0 : Int32) = 0 then ck s4.2.1 10 fun j31 => some ((s16.2 28 j31)) else some (s18) : Option (Int32))) fun (s20 : Int32) => ck s16.1 30 fun j21 => wr (up2 s16.2 (t1 + 7) j21 s20) fun g22 => bd ((if (0 : Int32) = 0 then some (s18) else ck s4.2.1 10 fun j28 => some ((g22 28 j28)) : Option (Int32))) fun (s24 : Int32) => ck s16.1 30 fun j25 => wr (up2 g22 (t1 + 8) j25 s24) fun g26 => some (((s16.1 + (1 : Int32)), g26))) | .inr y => some y) : Option (Int32 × G))) fun (s12 : Int32 × G) => some (.inl (s12.1, (s4.2.1 + (1 : Int32)), s12.2)) : Option ((Int32 × Int32 × G) ⊕ (Int32 × G)))) 2000 (((g t1 2) * (5 : Int32)), (0 : Int32), g)) fun (s7 : Int32 × G) => ck (g t1 2) 6 fun j61 => wr (up2 s7.2 (t1 + 4) j61 a2) fun g62 => ck (g t1 2) 6 fun j63 => wr (up2 g62 (t1 + 5) j63 (s7.1 - ((g t1 2) * (5 : Int32)))) fun g64 => ck (g t1 2) 6 fun j65 => wr (up2 g64 (t1 + 6) j65 (g64 27 12)) fun g66 => wr (up2 g66 t1 2 ((g66 t1 2) + (1 : Int32))) fun g67 => ck (g t1 2) 6 fun j68 => some (((g67 (t1 + 5) j68), g67))
set_option maxHeartbeats 4000000 in
set_option maxRecDepth 100000 in
theorem y_X0_writeRound (t1 : Nat) (a2 : Int32) (ht1 : isT t1) (g : G) (q : Int32 × G) {post : Int32 → G → Prop} (H : f_X0_writeRound t1 a2 g = some q) (K : post q.1 q.2) : Y m_X0_writeRound 0 [.ref 27, .ref t1, .int a2] g post := by
  refine Y_of ok_X0_writeRound pn_0 rfl (by decide) (Or.inr (Or.inl rfl)) (List.forall_mem_cons.mpr ⟨rfl, (List.forall_mem_cons.mpr ⟨rfl, (List.forall_mem_cons.mpr ⟨rfl, (fun _ h => absurd h List.not_mem_nil)⟩)⟩)⟩) (Nat.le_of_ble_eq_true rfl) ?_
  show u_V m_X0_writeRound 0 post 0 [some (.ref 27), some (.ref t1), some (.int a2), none, none, none, none, none, none] [] g
  unfold f_X0_writeRound at H
  refine am_aload_n rfl rfl ?_
  refine u_getI f_0_71 rfl (isT_lt0 ht1) (sk_T ht1) rfl ?_
  refine am_istore_n rfl (Nat.le_of_ble_eq_true rfl) ?_
  refine am_iload_n rfl rfl ?_
  refine x_iconst (v := (5 : Int32)) rfl (by decide) ?_
  refine am_imul rfl ?_
  refine am_istore rfl (Nat.le_of_ble_eq_true rfl) ?_
  refine x_iconst (v := (0 : Int32)) rfl (by decide) ?_
  refine am_istore rfl (Nat.le_of_ble_eq_true rfl) ?_
  obtain ⟨s60, H1, H⟩ := bd_some H
  have K2 : (fun (s7 : Int32 × G) => u_V m_X0_writeRound 0 post 146 [some (.ref 27), some (.ref t1), some (.int a2), some (.int (g t1 2)), some (.int s7.1), none, none, none, none] [] s7.2) s60 := by
    clear H1
    obtain ⟨x5, g6⟩ := s60
    (try dsimp only at H); (try dsimp only)
    refine am_aload_n rfl rfl ?_
    refine u_getR f_0_129 rfl (isT_lt0 ht1) (sk_T ht1) rfl ?_
    refine am_iload_n rfl rfl ?_
    refine am_iload_n rfl rfl ?_
    obtain ⟨j61, ej61, hj61, H⟩ := ck_some H
    obtain ⟨g62, eg62, H⟩ := wr_some H
    refine x_iast rfl (isT_lt ht1 (Nat.le_of_ble_eq_true rfl)) (sk_A ht1 (Nat.le_of_ble_eq_true rfl) (Nat.le_of_ble_eq_true rfl)) hj61 ej61 eg62 ?_
    refine am_aload_n rfl rfl ?_
    refine u_getR f_0_74 rfl (isT_lt0 ht1) (sk_T ht1) rfl ?_
    refine am_iload_n rfl rfl ?_
    refine am_iload rfl rfl ?_
    refine am_iload_n rfl rfl ?_
    refine x_iconst (v := (5 : Int32)) rfl (by decide) ?_
    refine am_imul rfl ?_
    refine am_isub rfl ?_
    obtain ⟨j63, ej63, hj63, H⟩ := ck_some H
    obtain ⟨g64, eg64, H⟩ := wr_some H
    refine x_iast rfl (isT_lt ht1 (Nat.le_of_ble_eq_true rfl)) (sk_A ht1 (Nat.le_of_ble_eq_true rfl) (Nat.le_of_ble_eq_true rfl)) hj63 ej63 eg64 ?_
    refine am_aload_n rfl rfl ?_
    refine u_getR f_0_132 rfl (isT_lt0 ht1) (sk_T ht1) rfl ?_
    refine am_iload_n rfl rfl ?_
    refine am_aload_n rfl rfl ?_
    refine u_getI f_0_50 rfl (Nat.le_of_ble_eq_true rfl) rfl rfl ?_
    obtain ⟨j65, ej65, hj65, H⟩ := ck_some H
    obtain ⟨g66, eg66, H⟩ := wr_some H
    refine x_iast rfl (isT_lt ht1 (Nat.le_of_ble_eq_true rfl)) (sk_A ht1 (Nat.le_of_ble_eq_true rfl) (Nat.le_of_ble_eq_true rfl)) hj65 ej65 eg66 ?_
    refine am_aload_n rfl rfl ?_
    refine am_dup rfl rfl ?_
    refine u_getI f_0_71 rfl (isT_lt0 ht1) (sk_T ht1) rfl ?_
    refine x_iconst (v := (1 : Int32)) rfl (by decide) ?_
    refine am_iadd rfl ?_
    obtain ⟨g67, eg67, H⟩ := wr_some H
    refine x_putI f_0_71 rfl rfl (isT_lt0 ht1) (sk_T ht1) rfl (fun _ _ => ⟨rfl, rfl⟩) eg67 ?_
    refine am_aload_n rfl rfl ?_
    refine u_getR f_0_74 rfl (isT_lt0 ht1) (sk_T ht1) rfl ?_
    refine am_iload_n rfl rfl ?_
    obtain ⟨j68, ej68, hj68, H⟩ := ck_some H
    refine x_iald rfl (isT_lt ht1 (Nat.le_of_ble_eq_true rfl)) (sk_A ht1 (Nat.le_of_ble_eq_true rfl) (Nat.le_of_ble_eq_true rfl)) hj68 ej68 ?_
    have H := Option.some.inj H
    subst H
    exact u_iret rfl rfl K
  refine am_drop (L' := [some (.ref 27), some (.ref t1), some (.int a2), some (.int (g t1 2)), some (.int ((g t1 2) * (5 : Int32))), some (.int (0 : Int32)), none, none, none]) (And.intro rfl (And.intro rfl (And.intro rfl (And.intro rfl (And.intro rfl (And.intro rfl trivial)))))) ?_
  refine lp_ind (P := (fun (s4 : Int32 × Int32 × G) => u_V m_X0_writeRound 0 post 13 [some (.ref 27), some (.ref t1), some (.int a2), some (.int (g t1 2)), some (.int s4.1), some (.int s4.2.1), none, none, none] [] s4.2.2)) (Q := (fun (s7 : Int32 × G) => u_V m_X0_writeRound 0 post 146 [some (.ref 27), some (.ref t1), some (.int a2), some (.int (g t1 2)), some (.int s7.1), none, none, none, none] [] s7.2)) ?_ 2000 (((g t1 2) * (5 : Int32)), (0 : Int32), g) s60 H1 K2
  clear H1 H K
  intro s4 s60b H K
  obtain ⟨x1, x2, g3⟩ := s4
  (try dsimp only at H); (try dsimp only)
  refine am_iload rfl rfl ?_
  refine am_aload_n rfl rfl ?_
  refine u_getI f_0_46 rfl (Nat.le_of_ble_eq_true rfl) rfl rfl ?_
  refine am_icmp_ge rfl (fun c8 => ?_) (fun c8 => ?_)
  · have H := it_pos c8 H
    have H := Option.some.inj H
    subst H
    exact am_drop (L' := [some (.ref 27), some (.ref t1), some (.int a2), some (.int (g t1 2)), some (.int x1), none, none, none, none]) (And.intro rfl (And.intro rfl (And.intro rfl (And.intro rfl (And.intro rfl trivial))))) K
  · have H := it_neg c8 H
    refine am_aload_n rfl rfl ?_
    refine u_getR f_0_43 rfl (Nat.le_of_ble_eq_true rfl) rfl rfl ?_
    refine am_iload rfl rfl ?_
    obtain ⟨j9, ej9, hj9, H⟩ := ck_some H
    refine x_iald rfl (Nat.le_of_ble_eq_true rfl) rfl hj9 ej9 ?_
    refine am_istore rfl (Nat.le_of_ble_eq_true rfl) ?_
    refine am_iload rfl rfl ?_
    refine am_iload rfl rfl ?_
    obtain ⟨s59, H1, H⟩ := bd_some H
    have K : (fun (s12 : Int32 × G) => u_V m_X0_writeRound 0 post 140 [some (.ref 27), some (.ref t1), some (.int a2), some (.int (g t1 2)), some (.int s12.1), some (.int x2), none, none, none] [] s12.2) s59 := by
      clear H1
      obtain ⟨x10, g11⟩ := s59
      (try dsimp only at H); (try dsimp only)
      refine x_iinc (v := (x2 + (1 : Int32))) rfl rfl (Nat.le_of_ble_eq_true rfl) rfl ?_
      refine am_goto rfl ?_
      have H := Option.some.inj H
      subst H
      exact am_drop (L' := [some (.ref 27), some (.ref t1), some (.int a2), some (.int (g t1 2)), some (.int x10), some (.int (x2 + (1 : Int32))), none, none, none]) (And.intro rfl (And.intro rfl (And.intro rfl (And.intro rfl (And.intro rfl (And.intro rfl trivial)))))) K
    have H := H1
    clear H1
    refine am_icmp_le rfl (fun c13 => ?_) (fun c13 => ?_)
    · have H := it_pos c13 H
      have H := Option.some.inj H
      subst H
      exact am_drop (L' := [some (.ref 27), some (.ref t1), some (.int a2), some (.int (g t1 2)), some (.int x1), some (.int x2), none, none, none]) (And.intro rfl (And.intro rfl (And.intro rfl (And.intro rfl (And.intro rfl (And.intro rfl trivial)))))) K
    · have H := it_neg c13 H
      refine am_iload rfl rfl ?_
      refine x_bipush (v := (10 : Int32)) rfl (by decide) ?_
      obtain ⟨s58, H1, H⟩ := bd_some H
      have K : (Sum.elim (fun (s16 : Int32 × G) => u_V m_X0_writeRound 0 post 65 [some (.ref 27), some (.ref t1), some (.int a2), some (.int (g t1 2)), some (.int s16.1), some (.int x2), some (.int (g3 38 j9)), none, none] [] s16.2) (fun (s12 : Int32 × G) => u_V m_X0_writeRound 0 post 140 [some (.ref 27), some (.ref t1), some (.int a2), some (.int (g t1 2)), some (.int s12.1), some (.int x2), none, none, none] [] s12.2)) s58 := by
        clear H1
        cases s58 with
        | inl s16 =>
          obtain ⟨x14, g15⟩ := s16
          (try dsimp only at H); (try dsimp only)
          refine x_iconst (v := (0 : Int32)) rfl (by decide) ?_
          refine am_istore rfl (Nat.le_of_ble_eq_true rfl) ?_
          refine am_iload rfl rfl ?_
          refine x_bipush (v := (10 : Int32)) rfl (by decide) ?_
          obtain ⟨s35, H1, H⟩ := bd_some H
          have K : (fun (s18 : Int32) => u_V m_X0_writeRound 0 post 87 [some (.ref 27), some (.ref t1), some (.int a2), some (.int (g t1 2)), some (.int x14), some (.int x2), none, some (.int (0 : Int32)), none] [.int s18] g15) s35 := by
            clear H1
            obtain ⟨x17, e_x17⟩ : ∃ z, z = s35 := ⟨_, rfl⟩
            subst e_x17
            (try dsimp only at H); (try dsimp only)
            refine am_istore rfl (Nat.le_of_ble_eq_true rfl) ?_
            refine am_aload_n rfl rfl ?_
            refine u_getR f_0_77 rfl (isT_lt0 ht1) (sk_T ht1) rfl ?_
            refine am_iload rfl rfl ?_
            refine am_iload rfl rfl ?_
            obtain ⟨s32, H1, H⟩ := bd_some H
            have K : (fun (s20 : Int32) => u_V m_X0_writeRound 0 post 112 [some (.ref 27), some (.ref t1), some (.int a2), some (.int (g t1 2)), some (.int x14), some (.int x2), none, some (.int (0 : Int32)), some (.int x17)] [.int s20, .int x14, .ref (t1 + 7)] g15) s32 := by
              clear H1
              obtain ⟨x19, e_x19⟩ : ∃ z, z = s32 := ⟨_, rfl⟩
              subst e_x19
              (try dsimp only at H); (try dsimp only)
              obtain ⟨j21, ej21, hj21, H⟩ := ck_some H
              obtain ⟨g22, eg22, H⟩ := wr_some H
              refine x_iast rfl (isT_lt ht1 (Nat.le_of_ble_eq_true rfl)) (sk_A ht1 (Nat.le_of_ble_eq_true rfl) (Nat.le_of_ble_eq_true rfl)) hj21 ej21 eg22 ?_
              refine am_aload_n rfl rfl ?_
              refine u_getR f_0_80 rfl (isT_lt0 ht1) (sk_T ht1) rfl ?_
              refine am_iload rfl rfl ?_
              refine am_iload rfl rfl ?_
              obtain ⟨s29, H1, H⟩ := bd_some H
              have K : (fun (s24 : Int32) => u_V m_X0_writeRound 0 post 136 [some (.ref 27), some (.ref t1), some (.int a2), some (.int (g t1 2)), some (.int x14), some (.int x2), none, none, none] [.int s24, .int x14, .ref (t1 + 8)] g22) s29 := by
                clear H1
                obtain ⟨x23, e_x23⟩ : ∃ z, z = s29 := ⟨_, rfl⟩
                subst e_x23
                (try dsimp only at H); (try dsimp only)
                obtain ⟨j25, ej25, hj25, H⟩ := ck_some H
                obtain ⟨g26, eg26, H⟩ := wr_some H
                refine x_iast rfl (isT_lt ht1 (Nat.le_of_ble_eq_true rfl)) (sk_A ht1 (Nat.le_of_ble_eq_true rfl) (Nat.le_of_ble_eq_true rfl)) hj25 ej25 eg26 ?_
                refine x_iinc (v := (x14 + (1 : Int32))) rfl rfl (Nat.le_of_ble_eq_true rfl) rfl ?_
                have H := Option.some.inj H
                subst H
                exact am_drop (L' := [some (.ref 27), some (.ref t1), some (.int a2), some (.int (g t1 2)), some (.int (x14 + (1 : Int32))), some (.int x2), none, none, none]) (And.intro rfl (And.intro rfl (And.intro rfl (And.intro rfl (And.intro rfl (And.intro rfl trivial)))))) K
              have H := H1
              clear H1
              refine am_if_eq rfl (fun c27 => ?_) (fun c27 => ?_)
              · have H := it_pos c27 H
                refine am_iload rfl rfl ?_
                have H := Option.some.inj H
                subst H
                exact am_drop (L' := [some (.ref 27), some (.ref t1), some (.int a2), some (.int (g t1 2)), some (.int x14), some (.int x2), none, none, none]) (And.intro rfl (And.intro rfl (And.intro rfl (And.intro rfl (And.intro rfl (And.intro rfl trivial)))))) K
              · have H := it_neg c27 H
                refine am_aload_n rfl rfl ?_
                refine u_getR f_0_9 rfl (Nat.le_of_ble_eq_true rfl) rfl rfl ?_
                refine am_iload rfl rfl ?_
                obtain ⟨j28, ej28, hj28, H⟩ := ck_some H
                refine x_iald rfl (Nat.le_of_ble_eq_true rfl) rfl hj28 ej28 ?_
                refine am_goto rfl ?_
                have H := Option.some.inj H
                subst H
                exact am_drop (L' := [some (.ref 27), some (.ref t1), some (.int a2), some (.int (g t1 2)), some (.int x14), some (.int x2), none, none, none]) (And.intro rfl (And.intro rfl (And.intro rfl (And.intro rfl (And.intro rfl (And.intro rfl trivial)))))) K
            have H := H1
            clear H1
            refine am_if_eq rfl (fun c30 => ?_) (fun c30 => ?_)
            · have H := it_pos c30 H
              refine am_aload_n rfl rfl ?_
              refine u_getR f_0_9 rfl (Nat.le_of_ble_eq_true rfl) rfl rfl ?_
              refine am_iload rfl rfl ?_
              obtain ⟨j31, ej31, hj31, H⟩ := ck_some H
              refine x_iald rfl (Nat.le_of_ble_eq_true rfl) rfl hj31 ej31 ?_
              have H := Option.some.inj H
              subst H
              exact am_drop (L' := [some (.ref 27), some (.ref t1), some (.int a2), some (.int (g t1 2)), some (.int x14), some (.int x2), none, some (.int (0 : Int32)), some (.int x17)]) (And.intro rfl (And.intro rfl (And.intro rfl (And.intro rfl (And.intro rfl (And.intro rfl (And.intro rfl (And.intro rfl trivial)))))))) K
            · have H := it_neg c30 H
              refine am_iload rfl rfl ?_
              refine am_goto rfl ?_
              have H := Option.some.inj H
              subst H
              exact am_drop (L' := [some (.ref 27), some (.ref t1), some (.int a2), some (.int (g t1 2)), some (.int x14), some (.int x2), none, some (.int (0 : Int32)), some (.int x17)]) (And.intro rfl (And.intro rfl (And.intro rfl (And.intro rfl (And.intro rfl (And.intro rfl (And.intro rfl (And.intro rfl trivial)))))))) K
          have H := H1
          clear H1
          refine am_icmp_ne rfl (fun c33 => ?_) (fun c33 => ?_)
          · have H := it_neg c33 H
            refine am_aload_n rfl rfl ?_
            refine u_getR f_0_9 rfl (Nat.le_of_ble_eq_true rfl) rfl rfl ?_
            refine am_iload rfl rfl ?_
            obtain ⟨j34, ej34, hj34, H⟩ := ck_some H
            refine x_iald rfl (Nat.le_of_ble_eq_true rfl) rfl hj34 ej34 ?_
            have H := Option.some.inj H
            subst H
            exact am_drop (L' := [some (.ref 27), some (.ref t1), some (.int a2), some (.int (g t1 2)), some (.int x14), some (.int x2), none, some (.int (0 : Int32)), none]) (And.intro rfl (And.intro rfl (And.intro rfl (And.intro rfl (And.intro rfl (And.intro rfl (And.intro rfl trivial))))))) K
          · have H := it_pos c33 H
            refine x_bipush (v := (99 : Int32)) rfl (by decide) ?_
            refine am_goto rfl ?_
            have H := Option.some.inj H
            subst H
            exact am_drop (L' := [some (.ref 27), some (.ref t1), some (.int a2), some (.int (g t1 2)), some (.int x14), some (.int x2), none, some (.int (0 : Int32)), none]) (And.intro rfl (And.intro rfl (And.intro rfl (And.intro rfl (And.intro rfl (And.intro rfl (And.intro rfl trivial))))))) K
        | inr y =>
          have H := Option.some.inj H
          subst H
          exact K
      have H := H1
      clear H1
      refine am_icmp_eq rfl (fun c36 => ?_) (fun c36 => ?_)
      · have H := it_pos c36 H
        have H := Option.some.inj H
        subst H
        exact am_drop (L' := [some (.ref 27), some (.ref t1), some (.int a2), some (.int (g t1 2)), some (.int x1), some (.int x2), some (.int (g3 38 j9)), none, none]) (And.intro rfl (And.intro rfl (And.intro rfl (And.intro rfl (And.intro rfl (And.intro rfl (And.intro rfl trivial))))))) K
      · have H := it_neg c36 H
        refine am_aload_n rfl rfl ?_
        refine u_getR f_0_34 rfl (Nat.le_of_ble_eq_true rfl) rfl rfl ?_
        refine am_iload rfl rfl ?_
        refine x_bipush (v := (11 : Int32)) rfl (by decide) ?_
        refine am_imul rfl ?_
        refine am_iload rfl rfl ?_
        refine am_iadd rfl ?_
        obtain ⟨j37, ej37, hj37, H⟩ := ck_some H
        refine x_zald rfl (Nat.le_of_ble_eq_true rfl) rfl hj37 ej37 ?_
        refine am_if_eq rfl (fun c38 => ?_) (fun c38 => ?_)
        · have H := it_pos c38 H
          have H := Option.some.inj H
          subst H
          exact am_drop (L' := [some (.ref 27), some (.ref t1), some (.int a2), some (.int (g t1 2)), some (.int x1), some (.int x2), some (.int (g3 38 j9)), none, none]) (And.intro rfl (And.intro rfl (And.intro rfl (And.intro rfl (And.intro rfl (And.intro rfl (And.intro rfl trivial))))))) K
        · have H := it_neg c38 H
          refine x_iconst (v := (1 : Int32)) rfl (by decide) ?_
          refine am_goto rfl ?_
          refine am_istore rfl (Nat.le_of_ble_eq_true rfl) ?_
          refine am_iload rfl rfl ?_
          refine x_bipush (v := (10 : Int32)) rfl (by decide) ?_
          obtain ⟨s57, H1, H⟩ := bd_some H
          have K : (fun (s40 : Int32) => u_V m_X0_writeRound 0 post 87 [some (.ref 27), some (.ref t1), some (.int a2), some (.int (g t1 2)), some (.int x1), some (.int x2), none, some (.int (1 : Int32)), none] [.int s40] g3) s57 := by
            clear H1
            obtain ⟨x39, e_x39⟩ : ∃ z, z = s57 := ⟨_, rfl⟩
            subst e_x39
            (try dsimp only at H); (try dsimp only)
            refine am_istore rfl (Nat.le_of_ble_eq_true rfl) ?_
            refine am_aload_n rfl rfl ?_
            refine u_getR f_0_77 rfl (isT_lt0 ht1) (sk_T ht1) rfl ?_
            refine am_iload rfl rfl ?_
            refine am_iload rfl rfl ?_
            obtain ⟨s54, H1, H⟩ := bd_some H
            have K : (fun (s42 : Int32) => u_V m_X0_writeRound 0 post 112 [some (.ref 27), some (.ref t1), some (.int a2), some (.int (g t1 2)), some (.int x1), some (.int x2), none, some (.int (1 : Int32)), some (.int x39)] [.int s42, .int x1, .ref (t1 + 7)] g3) s54 := by
              clear H1
              obtain ⟨x41, e_x41⟩ : ∃ z, z = s54 := ⟨_, rfl⟩
              subst e_x41
              (try dsimp only at H); (try dsimp only)
              obtain ⟨j43, ej43, hj43, H⟩ := ck_some H
              obtain ⟨g44, eg44, H⟩ := wr_some H
              refine x_iast rfl (isT_lt ht1 (Nat.le_of_ble_eq_true rfl)) (sk_A ht1 (Nat.le_of_ble_eq_true rfl) (Nat.le_of_ble_eq_true rfl)) hj43 ej43 eg44 ?_
              refine am_aload_n rfl rfl ?_
              refine u_getR f_0_80 rfl (isT_lt0 ht1) (sk_T ht1) rfl ?_
              refine am_iload rfl rfl ?_
              refine am_iload rfl rfl ?_
              obtain ⟨s51, H1, H⟩ := bd_some H
              have K : (fun (s46 : Int32) => u_V m_X0_writeRound 0 post 136 [some (.ref 27), some (.ref t1), some (.int a2), some (.int (g t1 2)), some (.int x1), some (.int x2), none, none, none] [.int s46, .int x1, .ref (t1 + 8)] g44) s51 := by
                clear H1
                obtain ⟨x45, e_x45⟩ : ∃ z, z = s51 := ⟨_, rfl⟩
                subst e_x45
                (try dsimp only at H); (try dsimp only)
                obtain ⟨j47, ej47, hj47, H⟩ := ck_some H
                obtain ⟨g48, eg48, H⟩ := wr_some H
                refine x_iast rfl (isT_lt ht1 (Nat.le_of_ble_eq_true rfl)) (sk_A ht1 (Nat.le_of_ble_eq_true rfl) (Nat.le_of_ble_eq_true rfl)) hj47 ej47 eg48 ?_
                refine x_iinc (v := (x1 + (1 : Int32))) rfl rfl (Nat.le_of_ble_eq_true rfl) rfl ?_
                have H := Option.some.inj H
                subst H
                exact am_drop (L' := [some (.ref 27), some (.ref t1), some (.int a2), some (.int (g t1 2)), some (.int (x1 + (1 : Int32))), some (.int x2), none, none, none]) (And.intro rfl (And.intro rfl (And.intro rfl (And.intro rfl (And.intro rfl (And.intro rfl trivial)))))) K
              have H := H1
              clear H1
              refine am_if_eq rfl (fun c49 => ?_) (fun c49 => ?_)
              · have H := it_pos c49 H
                refine am_iload rfl rfl ?_
                have H := Option.some.inj H
                subst H
                exact am_drop (L' := [some (.ref 27), some (.ref t1), some (.int a2), some (.int (g t1 2)), some (.int x1), some (.int x2), none, none, none]) (And.intro rfl (And.intro rfl (And.intro rfl (And.intro rfl (And.intro rfl (And.intro rfl trivial)))))) K
              · have H := it_neg c49 H
                refine am_aload_n rfl rfl ?_
                refine u_getR f_0_9 rfl (Nat.le_of_ble_eq_true rfl) rfl rfl ?_
                refine am_iload rfl rfl ?_
                obtain ⟨j50, ej50, hj50, H⟩ := ck_some H
                refine x_iald rfl (Nat.le_of_ble_eq_true rfl) rfl hj50 ej50 ?_
                refine am_goto rfl ?_
                have H := Option.some.inj H
                subst H
                exact am_drop (L' := [some (.ref 27), some (.ref t1), some (.int a2), some (.int (g t1 2)), some (.int x1), some (.int x2), none, none, none]) (And.intro rfl (And.intro rfl (And.intro rfl (And.intro rfl (And.intro rfl (And.intro rfl trivial)))))) K
            have H := H1
            clear H1
            refine am_if_eq rfl (fun c52 => ?_) (fun c52 => ?_)
            · have H := it_pos c52 H
              refine am_aload_n rfl rfl ?_
              refine u_getR f_0_9 rfl (Nat.le_of_ble_eq_true rfl) rfl rfl ?_
              refine am_iload rfl rfl ?_
              obtain ⟨j53, ej53, hj53, H⟩ := ck_some H
              refine x_iald rfl (Nat.le_of_ble_eq_true rfl) rfl hj53 ej53 ?_
              have H := Option.some.inj H
              subst H
              exact am_drop (L' := [some (.ref 27), some (.ref t1), some (.int a2), some (.int (g t1 2)), some (.int x1), some (.int x2), none, some (.int (1 : Int32)), some (.int x39)]) (And.intro rfl (And.intro rfl (And.intro rfl (And.intro rfl (And.intro rfl (And.intro rfl (And.intro rfl (And.intro rfl trivial)))))))) K
            · have H := it_neg c52 H
              refine am_iload rfl rfl ?_
              refine am_goto rfl ?_
              have H := Option.some.inj H
              subst H
              exact am_drop (L' := [some (.ref 27), some (.ref t1), some (.int a2), some (.int (g t1 2)), some (.int x1), some (.int x2), none, some (.int (1 : Int32)), some (.int x39)]) (And.intro rfl (And.intro rfl (And.intro rfl (And.intro rfl (And.intro rfl (And.intro rfl (And.intro rfl (And.intro rfl trivial)))))))) K
          have H := H1
          clear H1
          refine am_icmp_ne rfl (fun c55 => ?_) (fun c55 => ?_)
          · have H := it_neg c55 H
            refine am_aload_n rfl rfl ?_
            refine u_getR f_0_9 rfl (Nat.le_of_ble_eq_true rfl) rfl rfl ?_
            refine am_iload rfl rfl ?_
            obtain ⟨j56, ej56, hj56, H⟩ := ck_some H
            refine x_iald rfl (Nat.le_of_ble_eq_true rfl) rfl hj56 ej56 ?_
            have H := Option.some.inj H
            subst H
            exact am_drop (L' := [some (.ref 27), some (.ref t1), some (.int a2), some (.int (g t1 2)), some (.int x1), some (.int x2), none, some (.int (1 : Int32)), none]) (And.intro rfl (And.intro rfl (And.intro rfl (And.intro rfl (And.intro rfl (And.intro rfl (And.intro rfl trivial))))))) K
          · have H := it_pos c55 H
            refine x_bipush (v := (99 : Int32)) rfl (by decide) ?_
            refine am_goto rfl ?_
            have H := Option.some.inj H
            subst H
            exact am_drop (L' := [some (.ref 27), some (.ref t1), some (.int a2), some (.int (g t1 2)), some (.int x1), some (.int x2), none, some (.int (1 : Int32)), none]) (And.intro rfl (And.intro rfl (And.intro rfl (And.intro rfl (And.intro rfl (And.intro rfl (And.intro rfl trivial))))))) K
def f_X3_begin (t1 : Nat) (g : G) : Option (Int32 × G) := bd (lp (fun (s3 : Int32 × G) => (if (24 : Int32) ≤ s3.1 then some (.inr (.inl (s3.2))) else bd2 (f_X7_hasIn t1 s3.1 s3.2) fun r7 g8 => bd ((if r7 = 0 then some (.inl (g8)) else bd2 (f_X5_worthFor s3.1 g8) fun r12 g13 => ck s3.1 24 fun j14 => wr (up2 g13 40 j14 r12) fun g15 => ck s3.1 24 fun j16 => if 0 ≤ (g15 40 j16) then some (.inl (g15)) else some (.inr (.inr (.inr (((0 : Int32), g15))))) : Option ((G) ⊕ ((Int32 × G) ⊕ ((G) ⊕ (Int32 × G)))))) fun s18m => (match s18m with | .inl s10 => (some (.inl ((s3.1 + (1 : Int32)), s10))) | .inr y => some y) : Option ((Int32 × G) ⊕ ((G) ⊕ (Int32 × G))))) 2000 ((0 : Int32), g)) fun s19m => (match s19m with | .inl s5 => (some (((1 : Int32), s5))) | .inr y => some y)
set_option maxHeartbeats 4000000 in
set_option maxRecDepth 100000 in
theorem y_X3_begin (t1 : Nat) (ht1 : isT t1) (g : G) (q : Int32 × G) {post : Int32 → G → Prop} (H : f_X3_begin t1 g = some q) (K : post q.1 q.2) : Y m_X3_begin 3 [.ref 39, .ref t1, .ref 3, .ref 1] g post := by
  refine Y_of ok_X3_begin pn_3 rfl (by decide) (Or.inr (Or.inr rfl)) (List.forall_mem_cons.mpr ⟨rfl, (List.forall_mem_cons.mpr ⟨rfl, (List.forall_mem_cons.mpr ⟨rfl, (List.forall_mem_cons.mpr ⟨rfl, (fun _ h => absurd h List.not_mem_nil)⟩)⟩)⟩)⟩) (Nat.le_of_ble_eq_true rfl) ?_
  show u_V m_X3_begin 3 post 0 [some (.ref 39), some (.ref t1), some (.ref 3), some (.ref 1), none] [] g
  unfold f_X3_begin at H
  refine x_iconst (v := (0 : Int32)) rfl (by decide) ?_
  refine am_istore rfl (Nat.le_of_ble_eq_true rfl) ?_
  obtain ⟨s19, H1, H⟩ := bd_some H
  have K2 : (Sum.elim (fun (s5 : G) => u_V m_X3_begin 3 post 51 [none, none, none, none, none] [] s5) (fun (q : Int32 × G) => post q.1 q.2)) s19 := by
    clear H1
    cases s19 with
    | inl s5 =>
      obtain ⟨g4, e_g4⟩ : ∃ z, z = s5 := ⟨_, rfl⟩
      subst e_g4
      (try dsimp only at H); (try dsimp only)
      refine x_iconst (v := (1 : Int32)) rfl (by decide) ?_
      have H := Option.some.inj H
      subst H
      exact u_zret rfl rfl (Or.inr rfl) K
    | inr y =>
      have H := Option.some.inj H
      subst H
      exact K
  refine am_drop (L' := [some (.ref 39), some (.ref t1), some (.ref 3), some (.ref 1), some (.int (0 : Int32))]) (And.intro rfl (And.intro rfl (And.intro rfl (And.intro rfl (And.intro rfl trivial))))) ?_
  refine lp_ind (P := (fun (s3 : Int32 × G) => u_V m_X3_begin 3 post 3 [some (.ref 39), some (.ref t1), some (.ref 3), some (.ref 1), some (.int s3.1)] [] s3.2)) (Q := (Sum.elim (fun (s5 : G) => u_V m_X3_begin 3 post 51 [none, none, none, none, none] [] s5) (fun (q : Int32 × G) => post q.1 q.2))) ?_ 2000 ((0 : Int32), g) s19 H1 K2
  clear H1 H K
  intro s3 s19b H K
  obtain ⟨x1, g2⟩ := s3
  (try dsimp only at H); (try dsimp only)
  refine am_iload rfl rfl ?_
  refine x_bipush (v := (24 : Int32)) rfl (by decide) ?_
  refine am_icmp_ge rfl (fun c6 => ?_) (fun c6 => ?_)
  · have H := it_pos c6 H
    have H := Option.some.inj H
    subst H
    exact am_drop (L' := [none, none, none, none, none]) trivial K
  · have H := it_neg c6 H
    refine am_aload_n rfl rfl ?_
    refine am_iload rfl rfl ?_
    obtain ⟨r7, g8, H1, H⟩ := bd2_some H
    refine cv1i v_3_15 rfl rfl (isT_lt0 ht1) (sk_T ht1) (Nat.le_of_ble_eq_true rfl) (fun _ _ => Nat.le_of_ble_eq_true rfl) (y_X7_hasIn t1 x1 ht1 g2 _ H1 ?_)
    obtain ⟨s18, H1, H⟩ := bd_some H
    have K : (Sum.elim (fun (s10 : G) => u_V m_X3_begin 3 post 45 [some (.ref 39), some (.ref t1), some (.ref 3), some (.ref 1), some (.int x1)] [] s10) (Sum.elim (fun (s3 : Int32 × G) => u_V m_X3_begin 3 post 3 [some (.ref 39), some (.ref t1), some (.ref 3), some (.ref 1), some (.int s3.1)] [] s3.2) (Sum.elim (fun (s5 : G) => u_V m_X3_begin 3 post 51 [none, none, none, none, none] [] s5) (fun (q : Int32 × G) => post q.1 q.2)))) s18 := by
      clear H1
      cases s18 with
      | inl s10 =>
        obtain ⟨g9, e_g9⟩ : ∃ z, z = s10 := ⟨_, rfl⟩
        subst e_g9
        (try dsimp only at H); (try dsimp only)
        refine x_iinc (v := (x1 + (1 : Int32))) rfl rfl (Nat.le_of_ble_eq_true rfl) rfl ?_
        refine am_goto rfl ?_
        have H := Option.some.inj H
        subst H
        exact am_drop (L' := [some (.ref 39), some (.ref t1), some (.ref 3), some (.ref 1), some (.int (x1 + (1 : Int32)))]) (And.intro rfl (And.intro rfl (And.intro rfl (And.intro rfl (And.intro rfl trivial))))) K
      | inr y =>
        have H := Option.some.inj H
        subst H
        exact K
    have H := H1
    clear H1
    refine am_if_eq rfl (fun c11 => ?_) (fun c11 => ?_)
    · have H := it_pos c11 H
      have H := Option.some.inj H
      subst H
      exact am_drop (L' := [some (.ref 39), some (.ref t1), some (.ref 3), some (.ref 1), some (.int x1)]) (And.intro rfl (And.intro rfl (And.intro rfl (And.intro rfl (And.intro rfl trivial))))) K
    · have H := it_neg c11 H
      refine am_aload_n rfl rfl ?_
      refine u_getR f_3_9 rfl (Nat.le_of_ble_eq_true rfl) rfl rfl ?_
      refine am_iload rfl rfl ?_
      refine am_aload_n rfl rfl ?_
      refine am_iload rfl rfl ?_
      refine am_aload_n rfl rfl ?_
      obtain ⟨r12, g13, H1, H⟩ := bd2_some H
      refine cv2i v_3_21 rfl rfl (Nat.le_of_ble_eq_true rfl) rfl (Nat.le_of_ble_eq_true rfl) (fun _ _ => Nat.le_of_ble_eq_true rfl) (y_X5_worthFor x1 g8 _ H1 ?_)
      obtain ⟨j14, ej14, hj14, H⟩ := ck_some H
      obtain ⟨g15, eg15, H⟩ := wr_some H
      refine x_iast rfl (Nat.le_of_ble_eq_true rfl) rfl hj14 ej14 eg15 ?_
      refine am_aload_n rfl rfl ?_
      refine u_getR f_3_9 rfl (Nat.le_of_ble_eq_true rfl) rfl rfl ?_
      refine am_iload rfl rfl ?_
      obtain ⟨j16, ej16, hj16, H⟩ := ck_some H
      refine x_iald rfl (Nat.le_of_ble_eq_true rfl) rfl hj16 ej16 ?_
      refine am_if_ge rfl (fun c17 => ?_) (fun c17 => ?_)
      · have H := it_pos c17 H
        have H := Option.some.inj H
        subst H
        exact am_drop (L' := [some (.ref 39), some (.ref t1), some (.ref 3), some (.ref 1), some (.int x1)]) (And.intro rfl (And.intro rfl (And.intro rfl (And.intro rfl (And.intro rfl trivial))))) K
      · have H := it_neg c17 H
        refine x_iconst (v := (0 : Int32)) rfl (by decide) ?_
        have H := Option.some.inj H
        subst H
        exact u_zret rfl rfl (Or.inl rfl) K
def f_X3_total (t1 : Nat) (g : G) : Option (Int32 × G) := bd (lp (fun (s3 : Int32 × Int32) => (if (g t1 1) ≤ s3.2 then some (.inr (s3.1)) else ck s3.2 10 fun j7 => ck (g (t1 + 1) j7) 24 fun j8 => some (.inl ((s3.1 + (g 40 j8)), (s3.2 + (1 : Int32)))) : Option ((Int32 × Int32) ⊕ (Int32)))) 2000 ((0 : Int32), (0 : Int32))) fun (s5 : Int32) => some ((s5, g))
set_option maxHeartbeats 4000000 in
set_option maxRecDepth 100000 in
theorem y_X3_total (t1 : Nat) (ht1 : isT t1) (g : G) (q : Int32 × G) {post : Int32 → G → Prop} (H : f_X3_total t1 g = some q) (K : post q.1 q.2) : Y m_X3_total 0 [.ref 39, .ref t1] g post := by
  refine Y_of ok_X3_total pn_3 rfl (by decide) (Or.inr (Or.inl rfl)) (List.forall_mem_cons.mpr ⟨rfl, (List.forall_mem_cons.mpr ⟨rfl, (fun _ h => absurd h List.not_mem_nil)⟩)⟩) (Nat.le_of_ble_eq_true rfl) ?_
  show u_V m_X3_total 0 post 0 [some (.ref 39), some (.ref t1), none, none] [] g
  unfold f_X3_total at H
  refine x_iconst (v := (0 : Int32)) rfl (by decide) ?_
  refine am_istore_n rfl (Nat.le_of_ble_eq_true rfl) ?_
  refine x_iconst (v := (0 : Int32)) rfl (by decide) ?_
  refine am_istore_n rfl (Nat.le_of_ble_eq_true rfl) ?_
  obtain ⟨s9, H1, H⟩ := bd_some H
  have K2 : (fun (s5 : Int32) => u_V m_X3_total 0 post 32 [none, none, some (.int s5), none] [] g) s9 := by
    clear H1
    obtain ⟨x4, e_x4⟩ : ∃ z, z = s9 := ⟨_, rfl⟩
    subst e_x4
    (try dsimp only at H); (try dsimp only)
    refine am_iload_n rfl rfl ?_
    have H := Option.some.inj H
    subst H
    exact u_iret rfl rfl K
  refine am_drop (L' := [some (.ref 39), some (.ref t1), some (.int (0 : Int32)), some (.int (0 : Int32))]) (And.intro rfl (And.intro rfl (And.intro rfl (And.intro rfl trivial)))) ?_
  refine lp_ind (P := (fun (s3 : Int32 × Int32) => u_V m_X3_total 0 post 4 [some (.ref 39), some (.ref t1), some (.int s3.1), some (.int s3.2)] [] g)) (Q := (fun (s5 : Int32) => u_V m_X3_total 0 post 32 [none, none, some (.int s5), none] [] g)) ?_ 2000 ((0 : Int32), (0 : Int32)) s9 H1 K2
  clear H1 H K
  intro s3 s9b H K
  obtain ⟨x1, x2⟩ := s3
  (try dsimp only at H); (try dsimp only)
  refine am_iload_n rfl rfl ?_
  refine am_aload_n rfl rfl ?_
  refine u_getI f_3_27 rfl (isT_lt0 ht1) (sk_T ht1) rfl ?_
  refine am_icmp_ge rfl (fun c6 => ?_) (fun c6 => ?_)
  · have H := it_pos c6 H
    have H := Option.some.inj H
    subst H
    exact am_drop (L' := [none, none, some (.int x1), none]) (And.intro rfl trivial) K
  · have H := it_neg c6 H
    refine am_iload_n rfl rfl ?_
    refine am_aload_n rfl rfl ?_
    refine u_getR f_3_9 rfl (Nat.le_of_ble_eq_true rfl) rfl rfl ?_
    refine am_aload_n rfl rfl ?_
    refine u_getR f_3_31 rfl (isT_lt0 ht1) (sk_T ht1) rfl ?_
    refine am_iload_n rfl rfl ?_
    obtain ⟨j7, ej7, hj7, H⟩ := ck_some H
    refine x_iald rfl (isT_lt ht1 (Nat.le_of_ble_eq_true rfl)) (sk_A ht1 (Nat.le_of_ble_eq_true rfl) (Nat.le_of_ble_eq_true rfl)) hj7 ej7 ?_
    obtain ⟨j8, ej8, hj8, H⟩ := ck_some H
    refine x_iald rfl (Nat.le_of_ble_eq_true rfl) rfl hj8 ej8 ?_
    refine am_iadd rfl ?_
    refine am_istore_n rfl (Nat.le_of_ble_eq_true rfl) ?_
    refine x_iinc (v := (x2 + (1 : Int32))) rfl rfl (Nat.le_of_ble_eq_true rfl) rfl ?_
    refine am_goto rfl ?_
    have H := Option.some.inj H
    subst H
    exact am_drop (L' := [some (.ref 39), some (.ref t1), some (.int (x1 + (g 40 j8))), some (.int (x2 + (1 : Int32)))]) (And.intro rfl (And.intro rfl (And.intro rfl (And.intro rfl trivial)))) K
def f_X6_isPlayed (a0 : Int32) (g : G) : Option (Int32 × G) := if a0 = 0 then some (((1 : Int32), g)) else if a0 = (1 : Int32) then some (((1 : Int32), g)) else if a0 = (2 : Int32) then some (((1 : Int32), g)) else some (((0 : Int32), g))
set_option maxHeartbeats 4000000 in
set_option maxRecDepth 100000 in
theorem y_X6_isPlayed (a0 : Int32)  (g : G) (q : Int32 × G) {post : Int32 → G → Prop} (H : f_X6_isPlayed a0 g = some q) (K : post q.1 q.2) : Y m_X6_isPlayed 0 [.int a0] g post := by
  refine Y_of ok_X6_isPlayed pn_6 rfl (by decide) (Or.inr (Or.inr rfl)) (List.forall_mem_cons.mpr ⟨rfl, (fun _ h => absurd h List.not_mem_nil)⟩) (Nat.le_of_ble_eq_true rfl) ?_
  show u_V m_X6_isPlayed 0 post 0 [some (.int a0)] [] g
  unfold f_X6_isPlayed at H
  refine am_iload_n rfl rfl ?_
  refine am_if_eq rfl (fun c1 => ?_) (fun c1 => ?_)
  · have H := it_pos c1 H
    refine x_iconst (v := (1 : Int32)) rfl (by decide) ?_
    refine am_goto rfl ?_
    have H := Option.some.inj H
    subst H
    exact u_zret rfl rfl (Or.inr rfl) K
  · have H := it_neg c1 H
    refine am_iload_n rfl rfl ?_
    refine x_iconst (v := (1 : Int32)) rfl (by decide) ?_
    refine am_icmp_eq rfl (fun c2 => ?_) (fun c2 => ?_)
    · have H := it_pos c2 H
      refine x_iconst (v := (1 : Int32)) rfl (by decide) ?_
      refine am_goto rfl ?_
      have H := Option.some.inj H
      subst H
      exact u_zret rfl rfl (Or.inr rfl) K
    · have H := it_neg c2 H
      refine am_iload_n rfl rfl ?_
      refine x_iconst (v := (2 : Int32)) rfl (by decide) ?_
      refine am_icmp_ne rfl (fun c3 => ?_) (fun c3 => ?_)
      · have H := it_neg c3 H
        refine x_iconst (v := (0 : Int32)) rfl (by decide) ?_
        have H := Option.some.inj H
        subst H
        exact u_zret rfl rfl (Or.inl rfl) K
      · have H := it_pos c3 H
        refine x_iconst (v := (1 : Int32)) rfl (by decide) ?_
        refine am_goto rfl ?_
        have H := Option.some.inj H
        subst H
        exact u_zret rfl rfl (Or.inr rfl) K
def f_X6_whiteHalves (a0 : Int32) (g : G) : Option (Int32 × G) := if a0 = (1 : Int32) then some (((1 : Int32), g)) else if a0 = (2 : Int32) then some (((2 : Int32), g)) else if a0 = (4 : Int32) then some (((2 : Int32), g)) else some (((0 : Int32), g))
set_option maxHeartbeats 4000000 in
set_option maxRecDepth 100000 in
theorem y_X6_whiteHalves (a0 : Int32)  (g : G) (q : Int32 × G) {post : Int32 → G → Prop} (H : f_X6_whiteHalves a0 g = some q) (K : post q.1 q.2) : Y m_X6_whiteHalves 0 [.int a0] g post := by
  refine Y_of ok_X6_whiteHalves pn_6 rfl (by decide) (Or.inr (Or.inl rfl)) (List.forall_mem_cons.mpr ⟨rfl, (fun _ h => absurd h List.not_mem_nil)⟩) (Nat.le_of_ble_eq_true rfl) ?_
  show u_V m_X6_whiteHalves 0 post 0 [some (.int a0)] [] g
  unfold f_X6_whiteHalves at H
  refine am_iload_n rfl rfl ?_
  refine x_iconst (v := (1 : Int32)) rfl (by decide) ?_
  refine am_icmp_ne rfl (fun c1 => ?_) (fun c1 => ?_)
  · have H := it_neg c1 H
    refine am_iload_n rfl rfl ?_
    refine x_iconst (v := (2 : Int32)) rfl (by decide) ?_
    refine am_icmp_eq rfl (fun c2 => ?_) (fun c2 => ?_)
    · have H := it_pos c2 H
      refine x_iconst (v := (2 : Int32)) rfl (by decide) ?_
      refine am_goto rfl ?_
      have H := Option.some.inj H
      subst H
      exact u_iret rfl rfl K
    · have H := it_neg c2 H
      refine am_iload_n rfl rfl ?_
      refine x_iconst (v := (4 : Int32)) rfl (by decide) ?_
      refine am_icmp_ne rfl (fun c3 => ?_) (fun c3 => ?_)
      · have H := it_neg c3 H
        refine x_iconst (v := (0 : Int32)) rfl (by decide) ?_
        have H := Option.some.inj H
        subst H
        exact u_iret rfl rfl K
      · have H := it_pos c3 H
        refine x_iconst (v := (2 : Int32)) rfl (by decide) ?_
        refine am_goto rfl ?_
        have H := Option.some.inj H
        subst H
        exact u_iret rfl rfl K
  · have H := it_pos c1 H
    refine x_iconst (v := (1 : Int32)) rfl (by decide) ?_
    have H := Option.some.inj H
    subst H
    exact u_iret rfl rfl K
def f_X3_roundThousandths (a0 : Int32) (g : G) : Option (Int32 × G) := bd2 (f_J9_floorDiv_7cf53 a0 (1000 : Int32) g) fun r1 g2 => bd2 (f_J9_floorMod_7cf53 a0 (1000 : Int32) g2) fun r3 g4 => bd ((if (r1 - r1 / (2 : Int32) * (2 : Int32)) = 0 then some ((0 : Int32)) else some ((1 : Int32)) : Option (Int32))) fun (s6 : Int32) => bd ((if (500 : Int32) < r3 then some (.inl ()) else if r3 = (500 : Int32) then if s6 = 0 then some (.inr ((r1, g4))) else some (.inl ()) else some (.inr ((r1, g4))) : Option ((Unit) ⊕ (Int32 × G)))) fun s11m => (match s11m with | .inl _ => (some (((r1 + (1 : Int32)), g4))) | .inr y => some y)
set_option maxHeartbeats 4000000 in
set_option maxRecDepth 100000 in
theorem y_X3_roundThousandths (a0 : Int32)  (g : G) (q : Int32 × G) {post : Int32 → G → Prop} (H : f_X3_roundThousandths a0 g = some q) (K : post q.1 q.2) : Y m_X3_roundThousandths 1 [.int a0] g post := by
  refine Y_of ok_X3_roundThousandths pn_3 rfl (by decide) (Or.inr (Or.inl rfl)) (List.forall_mem_cons.mpr ⟨rfl, (fun _ h => absurd h List.not_mem_nil)⟩) (Nat.le_of_ble_eq_true rfl) ?_
  show u_V m_X3_roundThousandths 1 post 0 [some (.int a0), none, none, none] [] g
  unfold f_X3_roundThousandths at H
  refine am_iload_n rfl rfl ?_
  refine x_sipush (v := (1000 : Int32)) rfl (by decide) ?_
  obtain ⟨r1, g2, H1, H⟩ := bd2_some H
  refine cs2i s_3_74 rfl rfl (Nat.le_of_ble_eq_true rfl) (fun _ _ => Nat.le_of_ble_eq_true rfl) (y_J9_floorDiv_7cf53 a0 (1000 : Int32) g _ H1 ?_)
  refine am_istore_n rfl (Nat.le_of_ble_eq_true rfl) ?_
  refine am_iload_n rfl rfl ?_
  refine x_sipush (v := (1000 : Int32)) rfl (by decide) ?_
  obtain ⟨r3, g4, H1, H⟩ := bd2_some H
  refine cs2i s_3_77 rfl rfl (Nat.le_of_ble_eq_true rfl) (fun _ _ => Nat.le_of_ble_eq_true rfl) (y_J9_floorMod_7cf53 a0 (1000 : Int32) g2 _ H1 ?_)
  refine am_istore_n rfl (Nat.le_of_ble_eq_true rfl) ?_
  refine am_iload_n rfl rfl ?_
  refine x_iconst (v := (2 : Int32)) rfl (by decide) ?_
  refine am_irem rfl (by decide) ?_
  obtain ⟨s13, H1, H⟩ := bd_some H
  have K : (fun (s6 : Int32) => u_V m_X3_roundThousandths 1 post 27 [none, some (.int r1), some (.int r3), none] [.int s6] g4) s13 := by
    clear H1
    obtain ⟨x5, e_x5⟩ : ∃ z, z = s13 := ⟨_, rfl⟩
    subst e_x5
    (try dsimp only at H); (try dsimp only)
    refine am_istore_n rfl (Nat.le_of_ble_eq_true rfl) ?_
    refine am_iload_n rfl rfl ?_
    refine x_sipush (v := (500 : Int32)) rfl (by decide) ?_
    obtain ⟨s11, H1, H⟩ := bd_some H
    have K : (Sum.elim (fun (_ : Unit) => u_V m_X3_roundThousandths 1 post 46 [none, some (.int r1), none, none] [] g4) (fun (q : Int32 × G) => post q.1 q.2)) s11 := by
      clear H1
      cases s11 with
      | inl s7 =>
        (try dsimp only at H); (try dsimp only)
        refine am_iload_n rfl rfl ?_
        refine x_iconst (v := (1 : Int32)) rfl (by decide) ?_
        refine am_iadd rfl ?_
        refine am_goto rfl ?_
        have H := Option.some.inj H
        subst H
        exact u_iret rfl rfl K
      | inr y =>
        have H := Option.some.inj H
        subst H
        exact K
    have H := H1
    clear H1
    refine am_icmp_gt rfl (fun c8 => ?_) (fun c8 => ?_)
    · have H := it_pos c8 H
      have H := Option.some.inj H
      subst H
      exact am_drop (L' := [none, some (.int r1), none, none]) (And.intro rfl trivial) K
    · have H := it_neg c8 H
      refine am_iload_n rfl rfl ?_
      refine x_sipush (v := (500 : Int32)) rfl (by decide) ?_
      refine am_icmp_ne rfl (fun c9 => ?_) (fun c9 => ?_)
      · have H := it_neg c9 H
        refine am_iload_n rfl rfl ?_
        have H := Option.some.inj H
        subst H
        exact u_iret rfl rfl K
      · have H := it_pos c9 H
        refine am_iload_n rfl rfl ?_
        refine am_if_eq rfl (fun c10 => ?_) (fun c10 => ?_)
        · have H := it_pos c10 H
          refine am_iload_n rfl rfl ?_
          have H := Option.some.inj H
          subst H
          exact u_iret rfl rfl K
        · have H := it_neg c10 H
          have H := Option.some.inj H
          subst H
          exact am_drop (L' := [none, some (.int r1), none, none]) (And.intro rfl trivial) K
  have H := H1
  clear H1
  refine am_if_eq rfl (fun c12 => ?_) (fun c12 => ?_)
  · have H := it_pos c12 H
    refine x_iconst (v := (0 : Int32)) rfl (by decide) ?_
    have H := Option.some.inj H
    subst H
    exact am_drop (L' := [none, some (.int r1), some (.int r3), none]) (And.intro rfl (And.intro rfl trivial)) K
  · have H := it_neg c12 H
    refine x_iconst (v := (1 : Int32)) rfl (by decide) ?_
    refine am_goto rfl ?_
    have H := Option.some.inj H
    subst H
    exact am_drop (L' := [none, some (.int r1), some (.int r3), none]) (And.intro rfl (And.intro rfl trivial)) K
def f_X3_gain (a0 : Int32) (a1 : Int32) (a2 : Int32) (g : G) : Option (Int32 × G) := bd2 (f_J9_min_7cf53 (400 : Int32) a2 g) fun r1 g2 => bd2 (f_J9_max_7cf53 (-400 : Int32) r1 g2) fun r3 g4 => bd2 (f_X3_roundThousandths (a0 * (((500 : Int32) * a1) - ((500 : Int32) + (((5 : Int32) * r3) / (4 : Int32))))) g4) fun r5 g6 => some ((r5, g6))
set_option maxHeartbeats 4000000 in
set_option maxRecDepth 100000 in
theorem y_X3_gain (a0 : Int32) (a1 : Int32) (a2 : Int32)  (g : G) (q : Int32 × G) {post : Int32 → G → Prop} (H : f_X3_gain a0 a1 a2 g = some q) (K : post q.1 q.2) : Y m_X3_gain 2 [.int a0, .int a1, .int a2] g post := by
  refine Y_of ok_X3_gain pn_3 rfl (by decide) (Or.inr (Or.inl rfl)) (List.forall_mem_cons.mpr ⟨rfl, (List.forall_mem_cons.mpr ⟨rfl, (List.forall_mem_cons.mpr ⟨rfl, (fun _ h => absurd h List.not_mem_nil)⟩)⟩)⟩) (Nat.le_of_ble_eq_true rfl) ?_
  show u_V m_X3_gain 2 post 0 [some (.int a0), some (.int a1), some (.int a2), none, none] [] g
  unfold f_X3_gain at H
  refine x_sipush (v := (-400 : Int32)) rfl (by decide) ?_
  refine x_sipush (v := (400 : Int32)) rfl (by decide) ?_
  refine am_iload_n rfl rfl ?_
  obtain ⟨r1, g2, H1, H⟩ := bd2_some H
  refine cs2i s_3_62 rfl rfl (Nat.le_of_ble_eq_true rfl) (fun _ _ => Nat.le_of_ble_eq_true rfl) (y_J9_min_7cf53 (400 : Int32) a2 g _ H1 ?_)
  obtain ⟨r3, g4, H1, H⟩ := bd2_some H
  refine cs2i s_3_68 rfl rfl (Nat.le_of_ble_eq_true rfl) (fun _ _ => Nat.le_of_ble_eq_true rfl) (y_J9_max_7cf53 (-400 : Int32) r1 g2 _ H1 ?_)
  refine am_istore_n rfl (Nat.le_of_ble_eq_true rfl) ?_
  refine x_sipush (v := (500 : Int32)) rfl (by decide) ?_
  refine x_iconst (v := (5 : Int32)) rfl (by decide) ?_
  refine am_iload_n rfl rfl ?_
  refine am_imul rfl ?_
  refine x_iconst (v := (4 : Int32)) rfl (by decide) ?_
  refine am_idiv rfl (by decide) ?_
  refine am_iadd rfl ?_
  refine am_istore rfl (Nat.le_of_ble_eq_true rfl) ?_
  refine am_iload_n rfl rfl ?_
  refine x_sipush (v := (500 : Int32)) rfl (by decide) ?_
  refine am_iload_n rfl rfl ?_
  refine am_imul rfl ?_
  refine am_iload rfl rfl ?_
  refine am_isub rfl ?_
  refine am_imul rfl ?_
  obtain ⟨r5, g6, H1, H⟩ := bd2_some H
  refine cs1i s_3_71 rfl rfl (Nat.le_of_ble_eq_true rfl) (fun _ _ => Nat.le_of_ble_eq_true rfl) (y_X3_roundThousandths (a0 * (((500 : Int32) * a1) - ((500 : Int32) + (((5 : Int32) * r3) / (4 : Int32))))) g4 _ H1 ?_)
  have H := Option.some.inj H
  subst H
  exact u_iret rfl rfl K
def f_X6_blackHalves (a0 : Int32) (g : G) : Option (Int32 × G) := if a0 = (1 : Int32) then some (((1 : Int32), g)) else if a0 = 0 then some (((2 : Int32), g)) else if a0 = (3 : Int32) then some (((2 : Int32), g)) else some (((0 : Int32), g))
set_option maxHeartbeats 4000000 in
set_option maxRecDepth 100000 in
theorem y_X6_blackHalves (a0 : Int32)  (g : G) (q : Int32 × G) {post : Int32 → G → Prop} (H : f_X6_blackHalves a0 g = some q) (K : post q.1 q.2) : Y m_X6_blackHalves 0 [.int a0] g post := by
  refine Y_of ok_X6_blackHalves pn_6 rfl (by decide) (Or.inr (Or.inl rfl)) (List.forall_mem_cons.mpr ⟨rfl, (fun _ h => absurd h List.not_mem_nil)⟩) (Nat.le_of_ble_eq_true rfl) ?_
  show u_V m_X6_blackHalves 0 post 0 [some (.int a0)] [] g
  unfold f_X6_blackHalves at H
  refine am_iload_n rfl rfl ?_
  refine x_iconst (v := (1 : Int32)) rfl (by decide) ?_
  refine am_icmp_ne rfl (fun c1 => ?_) (fun c1 => ?_)
  · have H := it_neg c1 H
    refine am_iload_n rfl rfl ?_
    refine am_if_eq rfl (fun c2 => ?_) (fun c2 => ?_)
    · have H := it_pos c2 H
      refine x_iconst (v := (2 : Int32)) rfl (by decide) ?_
      refine am_goto rfl ?_
      have H := Option.some.inj H
      subst H
      exact u_iret rfl rfl K
    · have H := it_neg c2 H
      refine am_iload_n rfl rfl ?_
      refine x_iconst (v := (3 : Int32)) rfl (by decide) ?_
      refine am_icmp_ne rfl (fun c3 => ?_) (fun c3 => ?_)
      · have H := it_neg c3 H
        refine x_iconst (v := (0 : Int32)) rfl (by decide) ?_
        have H := Option.some.inj H
        subst H
        exact u_iret rfl rfl K
      · have H := it_pos c3 H
        refine x_iconst (v := (2 : Int32)) rfl (by decide) ?_
        refine am_goto rfl ?_
        have H := Option.some.inj H
        subst H
        exact u_iret rfl rfl K
  · have H := it_pos c1 H
    refine x_iconst (v := (1 : Int32)) rfl (by decide) ?_
    have H := Option.some.inj H
    subst H
    exact u_iret rfl rfl K
def f_X3_goThrough (t1 : Nat) (a2 : Int32) (g : G) : Option (Int32 × G) := bd (lp (fun (s3 : Int32 × G) => (ck a2 6 fun j6 => if (s3.2 (t1 + 5) j6) ≤ s3.1 then some (.inr (s3.2)) else ck ((a2 * (5 : Int32)) + s3.1) 30 fun j8 => ck ((a2 * (5 : Int32)) + s3.1) 30 fun j9 => ck ((a2 * (5 : Int32)) + s3.1) 30 fun j10 => bd ((if (s3.2 (t1 + 8) j10) = (99 : Int32) then some (s3.2) else bd2 (f_X6_isPlayed (s3.2 17 j8) s3.2) fun r14 g15 => if r14 = 0 then some (g15) else ck (s3.2 (t1 + 7) j9) 24 fun j17 => ck (s3.2 (t1 + 8) j10) 24 fun j18 => bd2 (f_X5_stepFor (s3.2 (t1 + 7) j9) g15) fun r19 g20 => bd2 (f_X5_stepFor (s3.2 (t1 + 8) j10) g20) fun r21 g22 => ck (s3.2 (t1 + 7) j9) 24 fun j23 => bd2 (f_X6_whiteHalves (s3.2 17 j8) g22) fun r24 g25 => bd2 (f_X3_gain r19 r24 ((g15 40 j17) - (g15 40 j18)) g25) fun r26 g27 => ck (s3.2 (t1 + 7) j9) 24 fun j28 => wr (up2 g27 40 j28 ((g22 40 j23) + r26)) fun g29 => ck (s3.2 (t1 + 8) j10) 24 fun j30 => bd2 (f_X6_blackHalves (s3.2 17 j8) g29) fun r31 g32 => bd2 (f_X3_gain r21 r31 (-((g15 40 j17) - (g15 40 j18))) g32) fun r33 g34 => ck (s3.2 (t1 + 8) j10) 24 fun j35 => wr (up2 g34 40 j35 ((g29 40 j30) + r33)) fun g36 => some (g36) : Option (G))) fun (s12 : G) => some (.inl ((s3.1 + (1 : Int32)), s12)) : Option ((Int32 × G) ⊕ (G)))) 2000 ((0 : Int32), g)) fun (s5 : G) => some (((0 : Int32), s5))
set_option maxHeartbeats 4000000 in
set_option maxRecDepth 100000 in
theorem y_X3_goThrough (t1 : Nat) (a2 : Int32) (ht1 : isT t1) (g : G) (q : Int32 × G) {post : Int32 → G → Prop} (H : f_X3_goThrough t1 a2 g = some q) (K : post q.1 q.2) : Y m_X3_goThrough 3 [.ref 39, .ref t1, .int a2, .ref 17, .ref 3, .ref 1] g post := by
  refine Y_of ok_X3_goThrough pn_3 rfl (by decide) (Or.inl rfl) (List.forall_mem_cons.mpr ⟨rfl, (List.forall_mem_cons.mpr ⟨rfl, (List.forall_mem_cons.mpr ⟨rfl, (List.forall_mem_cons.mpr ⟨rfl, (List.forall_mem_cons.mpr ⟨rfl, (List.forall_mem_cons.mpr ⟨rfl, (fun _ h => absurd h List.not_mem_nil)⟩)⟩)⟩)⟩)⟩)⟩) (Nat.le_of_ble_eq_true rfl) ?_
  show u_V m_X3_goThrough 3 post 0 [some (.ref 39), some (.ref t1), some (.int a2), some (.ref 17), some (.ref 3), some (.ref 1), none, none, none, none, none, none, none, none] [] g
  unfold f_X3_goThrough at H
  refine x_iconst (v := (0 : Int32)) rfl (by decide) ?_
  refine am_istore rfl (Nat.le_of_ble_eq_true rfl) ?_
  obtain ⟨s38, H1, H⟩ := bd_some H
  have K2 : (fun (s5 : G) => u_V m_X3_goThrough 3 post 151 [none, none, none, none, none, none, none, none, none, none, none, none, none, none] [] s5) s38 := by
    clear H1
    obtain ⟨g4, e_g4⟩ : ∃ z, z = s38 := ⟨_, rfl⟩
    subst e_g4
    (try dsimp only at H); (try dsimp only)
    have H := Option.some.inj H
    subst H
    exact u_vret rfl rfl K
  refine am_drop (L' := [some (.ref 39), some (.ref t1), some (.int a2), some (.ref 17), some (.ref 3), some (.ref 1), some (.int (0 : Int32)), none, none, none, none, none, none, none]) (And.intro rfl (And.intro rfl (And.intro rfl (And.intro rfl (And.intro rfl (And.intro rfl (And.intro rfl trivial))))))) ?_
  refine lp_ind (P := (fun (s3 : Int32 × G) => u_V m_X3_goThrough 3 post 3 [some (.ref 39), some (.ref t1), some (.int a2), some (.ref 17), some (.ref 3), some (.ref 1), some (.int s3.1), none, none, none, none, none, none, none] [] s3.2)) (Q := (fun (s5 : G) => u_V m_X3_goThrough 3 post 151 [none, none, none, none, none, none, none, none, none, none, none, none, none, none] [] s5)) ?_ 2000 ((0 : Int32), g) s38 H1 K2
  clear H1 H K
  intro s3 s38b H K
  obtain ⟨x1, g2⟩ := s3
  (try dsimp only at H); (try dsimp only)
  refine am_iload rfl rfl ?_
  refine am_aload_n rfl rfl ?_
  refine u_getR f_3_34 rfl (isT_lt0 ht1) (sk_T ht1) rfl ?_
  refine am_iload_n rfl rfl ?_
  obtain ⟨j6, ej6, hj6, H⟩ := ck_some H
  refine x_iald rfl (isT_lt ht1 (Nat.le_of_ble_eq_true rfl)) (sk_A ht1 (Nat.le_of_ble_eq_true rfl) (Nat.le_of_ble_eq_true rfl)) hj6 ej6 ?_
  refine am_icmp_ge rfl (fun c7 => ?_) (fun c7 => ?_)
  · have H := it_pos c7 H
    have H := Option.some.inj H
    subst H
    exact am_drop (L' := [none, none, none, none, none, none, none, none, none, none, none, none, none, none]) trivial K
  · have H := it_neg c7 H
    refine am_iload_n rfl rfl ?_
    refine x_iconst (v := (5 : Int32)) rfl (by decide) ?_
    refine am_imul rfl ?_
    refine am_iload rfl rfl ?_
    refine am_iadd rfl ?_
    refine am_istore rfl (Nat.le_of_ble_eq_true rfl) ?_
    refine am_aload_n rfl rfl ?_
    refine am_iload rfl rfl ?_
    obtain ⟨j8, ej8, hj8, H⟩ := ck_some H
    refine x_iald rfl (Nat.le_of_ble_eq_true rfl) rfl hj8 ej8 ?_
    refine am_istore rfl (Nat.le_of_ble_eq_true rfl) ?_
    refine am_aload_n rfl rfl ?_
    refine u_getR f_3_37 rfl (isT_lt0 ht1) (sk_T ht1) rfl ?_
    refine am_iload rfl rfl ?_
    obtain ⟨j9, ej9, hj9, H⟩ := ck_some H
    refine x_iald rfl (isT_lt ht1 (Nat.le_of_ble_eq_true rfl)) (sk_A ht1 (Nat.le_of_ble_eq_true rfl) (Nat.le_of_ble_eq_true rfl)) hj9 ej9 ?_
    refine am_istore rfl (Nat.le_of_ble_eq_true rfl) ?_
    refine am_aload_n rfl rfl ?_
    refine u_getR f_3_40 rfl (isT_lt0 ht1) (sk_T ht1) rfl ?_
    refine am_iload rfl rfl ?_
    obtain ⟨j10, ej10, hj10, H⟩ := ck_some H
    refine x_iald rfl (isT_lt ht1 (Nat.le_of_ble_eq_true rfl)) (sk_A ht1 (Nat.le_of_ble_eq_true rfl) (Nat.le_of_ble_eq_true rfl)) hj10 ej10 ?_
    refine am_istore rfl (Nat.le_of_ble_eq_true rfl) ?_
    refine am_iload rfl rfl ?_
    refine x_bipush (v := (99 : Int32)) rfl (by decide) ?_
    obtain ⟨s37, H1, H⟩ := bd_some H
    have K : (fun (s12 : G) => u_V m_X3_goThrough 3 post 145 [some (.ref 39), some (.ref t1), some (.int a2), some (.ref 17), some (.ref 3), some (.ref 1), some (.int x1), none, none, none, none, none, none, none] [] s12) s37 := by
      clear H1
      obtain ⟨g11, e_g11⟩ : ∃ z, z = s37 := ⟨_, rfl⟩
      subst e_g11
      (try dsimp only at H); (try dsimp only)
      refine x_iinc (v := (x1 + (1 : Int32))) rfl rfl (Nat.le_of_ble_eq_true rfl) rfl ?_
      refine am_goto rfl ?_
      have H := Option.some.inj H
      subst H
      exact am_drop (L' := [some (.ref 39), some (.ref t1), some (.int a2), some (.ref 17), some (.ref 3), some (.ref 1), some (.int (x1 + (1 : Int32))), none, none, none, none, none, none, none]) (And.intro rfl (And.intro rfl (And.intro rfl (And.intro rfl (And.intro rfl (And.intro rfl (And.intro rfl trivial))))))) K
    have H := H1
    clear H1
    refine am_icmp_eq rfl (fun c13 => ?_) (fun c13 => ?_)
    · have H := it_pos c13 H
      have H := Option.some.inj H
      subst H
      exact am_drop (L' := [some (.ref 39), some (.ref t1), some (.int a2), some (.ref 17), some (.ref 3), some (.ref 1), some (.int x1), none, none, none, none, none, none, none]) (And.intro rfl (And.intro rfl (And.intro rfl (And.intro rfl (And.intro rfl (And.intro rfl (And.intro rfl trivial))))))) K
    · have H := it_neg c13 H
      refine am_iload rfl rfl ?_
      obtain ⟨r14, g15, H1, H⟩ := bd2_some H
      refine cs1i s_3_43 rfl rfl (Nat.le_of_ble_eq_true rfl) (fun _ _ => Nat.le_of_ble_eq_true rfl) (y_X6_isPlayed (g2 17 j8) g2 _ H1 ?_)
      refine am_if_eq rfl (fun c16 => ?_) (fun c16 => ?_)
      · have H := it_pos c16 H
        have H := Option.some.inj H
        subst H
        exact am_drop (L' := [some (.ref 39), some (.ref t1), some (.int a2), some (.ref 17), some (.ref 3), some (.ref 1), some (.int x1), none, none, none, none, none, none, none]) (And.intro rfl (And.intro rfl (And.intro rfl (And.intro rfl (And.intro rfl (And.intro rfl (And.intro rfl trivial))))))) K
      · have H := it_neg c16 H
        refine am_aload_n rfl rfl ?_
        refine u_getR f_3_9 rfl (Nat.le_of_ble_eq_true rfl) rfl rfl ?_
        refine am_iload rfl rfl ?_
        obtain ⟨j17, ej17, hj17, H⟩ := ck_some H
        refine x_iald rfl (Nat.le_of_ble_eq_true rfl) rfl hj17 ej17 ?_
        refine am_aload_n rfl rfl ?_
        refine u_getR f_3_9 rfl (Nat.le_of_ble_eq_true rfl) rfl rfl ?_
        refine am_iload rfl rfl ?_
        obtain ⟨j18, ej18, hj18, H⟩ := ck_some H
        refine x_iald rfl (Nat.le_of_ble_eq_true rfl) rfl hj18 ej18 ?_
        refine am_isub rfl ?_
        refine am_istore rfl (Nat.le_of_ble_eq_true rfl) ?_
        refine am_aload rfl rfl ?_
        refine am_iload rfl rfl ?_
        refine am_aload rfl rfl ?_
        obtain ⟨r19, g20, H1, H⟩ := bd2_some H
        refine cv2i v_3_48 rfl rfl (Nat.le_of_ble_eq_true rfl) rfl (Nat.le_of_ble_eq_true rfl) (fun _ _ => Nat.le_of_ble_eq_true rfl) (y_X5_stepFor (g2 (t1 + 7) j9) g15 _ H1 ?_)
        refine am_istore rfl (Nat.le_of_ble_eq_true rfl) ?_
        refine am_aload rfl rfl ?_
        refine am_iload rfl rfl ?_
        refine am_aload rfl rfl ?_
        obtain ⟨r21, g22, H1, H⟩ := bd2_some H
        refine cv2i v_3_48 rfl rfl (Nat.le_of_ble_eq_true rfl) rfl (Nat.le_of_ble_eq_true rfl) (fun _ _ => Nat.le_of_ble_eq_true rfl) (y_X5_stepFor (g2 (t1 + 8) j10) g20 _ H1 ?_)
        refine am_istore rfl (Nat.le_of_ble_eq_true rfl) ?_
        refine am_aload_n rfl rfl ?_
        refine u_getR f_3_9 rfl (Nat.le_of_ble_eq_true rfl) rfl rfl ?_
        refine am_iload rfl rfl ?_
        refine am_dup2 rfl rfl rfl ?_
        obtain ⟨j23, ej23, hj23, H⟩ := ck_some H
        refine x_iald rfl (Nat.le_of_ble_eq_true rfl) rfl hj23 ej23 ?_
        refine am_iload rfl rfl ?_
        refine am_iload rfl rfl ?_
        obtain ⟨r24, g25, H1, H⟩ := bd2_some H
        refine cs1i s_3_51 rfl rfl (Nat.le_of_ble_eq_true rfl) (fun _ _ => Nat.le_of_ble_eq_true rfl) (y_X6_whiteHalves (g2 17 j8) g22 _ H1 ?_)
        refine am_iload rfl rfl ?_
        obtain ⟨r26, g27, H1, H⟩ := bd2_some H
        refine cs3i s_3_55 rfl rfl (Nat.le_of_ble_eq_true rfl) (fun _ _ => Nat.le_of_ble_eq_true rfl) (y_X3_gain r19 r24 ((g15 40 j17) - (g15 40 j18)) g25 _ H1 ?_)
        refine am_iadd rfl ?_
        obtain ⟨j28, ej28, hj28, H⟩ := ck_some H
        obtain ⟨g29, eg29, H⟩ := wr_some H
        refine x_iast rfl (Nat.le_of_ble_eq_true rfl) rfl hj28 ej28 eg29 ?_
        refine am_aload_n rfl rfl ?_
        refine u_getR f_3_9 rfl (Nat.le_of_ble_eq_true rfl) rfl rfl ?_
        refine am_iload rfl rfl ?_
        refine am_dup2 rfl rfl rfl ?_
        obtain ⟨j30, ej30, hj30, H⟩ := ck_some H
        refine x_iald rfl (Nat.le_of_ble_eq_true rfl) rfl hj30 ej30 ?_
        refine am_iload rfl rfl ?_
        refine am_iload rfl rfl ?_
        obtain ⟨r31, g32, H1, H⟩ := bd2_some H
        refine cs1i s_3_59 rfl rfl (Nat.le_of_ble_eq_true rfl) (fun _ _ => Nat.le_of_ble_eq_true rfl) (y_X6_blackHalves (g2 17 j8) g29 _ H1 ?_)
        refine am_iload rfl rfl ?_
        refine am_ineg rfl ?_
        obtain ⟨r33, g34, H1, H⟩ := bd2_some H
        refine cs3i s_3_55 rfl rfl (Nat.le_of_ble_eq_true rfl) (fun _ _ => Nat.le_of_ble_eq_true rfl) (y_X3_gain r21 r31 (-((g15 40 j17) - (g15 40 j18))) g32 _ H1 ?_)
        refine am_iadd rfl ?_
        obtain ⟨j35, ej35, hj35, H⟩ := ck_some H
        obtain ⟨g36, eg36, H⟩ := wr_some H
        refine x_iast rfl (Nat.le_of_ble_eq_true rfl) rfl hj35 ej35 eg36 ?_
        have H := Option.some.inj H
        subst H
        exact am_drop (L' := [some (.ref 39), some (.ref t1), some (.int a2), some (.ref 17), some (.ref 3), some (.ref 1), some (.int x1), none, none, none, none, none, none, none]) (And.intro rfl (And.intro rfl (And.intro rfl (And.intro rfl (And.intro rfl (And.intro rfl (And.intro rfl trivial))))))) K
def f_X6_read (t1 : Nat) (a2 : Int32) (a3 : Int32) (g : G) : Option (Int32 × G) := bd2 (f_J7_fill_53178 16 30 (-1 : Int32) g) fun r1 g2 => bd (lp (fun (s5 : Int32 × G) => (if (s5.2 t1 3) ≤ s5.1 then some (.inr (s5.2)) else ck s5.1 60 fun j9 => ck (s5.2 (t1 + 9) j9) 30 fun j10 => bd2 (f_X7_isKnown t1 s5.1 a3 s5.2) fun r11 g12 => bd ((if r11 = 0 then some (g12) else bd ((if (s5.2 16 j10) = (-1 : Int32) then some (.inl ()) else ck (s5.2 16 j10) 60 fun j20 => ck s5.1 60 fun j21 => if (g12 (t1 + 12) j21) < (g12 (t1 + 12) j20) then some (.inr (g12)) else some (.inl ()) : Option ((Unit) ⊕ (G)))) fun s23m => (match s23m with | .inl _ => (ck (s5.2 (t1 + 9) j9) 30 fun j17 => wr (up2 g12 16 j17 s5.1) fun g18 => some (g18)) | .inr y => some y) : Option (G))) fun (s14 : G) => some (.inl ((s5.1 + (1 : Int32)), s14)) : Option ((Int32 × G) ⊕ (G)))) 2000 ((0 : Int32), g2)) fun (s7 : G) => bd (lp (fun (s28 : Int32 × G) => (if (30 : Int32) ≤ s28.1 then some (.inr (s28.2)) else ck s28.1 30 fun j32 => bd ((if (s28.2 16 j32) = (-1 : Int32) then some (.inl (s28.1, s28.2)) else ck (s28.2 16 j32) 60 fun j39 => if (s28.2 (t1 + 11) j39) ≤ a2 then ck (s28.2 16 j32) 60 fun j41 => ck s28.1 30 fun j42 => wr (up2 s28.2 17 j42 (s28.2 (t1 + 10) j41)) fun g43 => some (.inr (.inl ((s28.1 + (1 : Int32)), g43))) else some (.inl (s28.1, s28.2)) : Option ((Int32 × G) ⊕ ((Int32 × G) ⊕ (G))))) fun s44m => (match s44m with | .inl s35 => (ck s28.1 30 fun j36 => wr (up2 s35.2 17 j36 (-1 : Int32)) fun g37 => some (.inl ((s35.1 + (1 : Int32)), g37))) | .inr y => some y) : Option ((Int32 × G) ⊕ (G)))) 2000 ((0 : Int32), s7)) fun (s30 : G) => some (((0 : Int32), s30))
set_option maxHeartbeats 4000000 in
set_option maxRecDepth 100000 in
theorem y_X6_read (t1 : Nat) (a2 : Int32) (a3 : Int32) (ht1 : isT t1) (g : G) (q : Int32 × G) {post : Int32 → G → Prop} (H : f_X6_read t1 a2 a3 g = some q) (K : post q.1 q.2) : Y m_X6_read 1 [.ref 15, .ref t1, .int a2, .int a3] g post := by
  refine Y_of ok_X6_read pn_6 rfl (by decide) (Or.inl rfl) (List.forall_mem_cons.mpr ⟨rfl, (List.forall_mem_cons.mpr ⟨rfl, (List.forall_mem_cons.mpr ⟨rfl, (List.forall_mem_cons.mpr ⟨rfl, (fun _ h => absurd h List.not_mem_nil)⟩)⟩)⟩)⟩) (Nat.le_of_ble_eq_true rfl) ?_
  show u_V m_X6_read 1 post 0 [some (.ref 15), some (.ref t1), some (.int a2), some (.int a3), none, none, none] [] g
  unfold f_X6_read at H
  refine am_aload_n rfl rfl ?_
  refine u_getR f_6_9 rfl (Nat.le_of_ble_eq_true rfl) rfl rfl ?_
  refine x_iconst (v := (-1 : Int32)) rfl (by decide) ?_
  obtain ⟨r1, g2, H1, H⟩ := bd2_some H
  refine cs2v s_6_45 rfl rfl (Nat.le_of_ble_eq_true rfl) (fun _ _ => Nat.le_of_ble_eq_true rfl) (y_J7_fill_53178 16 30 (-1 : Int32) (Nat.le_of_ble_eq_true rfl) rfl g _ H1 ?_)
  refine x_iconst (v := (0 : Int32)) rfl (by decide) ?_
  refine am_istore rfl (Nat.le_of_ble_eq_true rfl) ?_
  obtain ⟨s25, H1, H⟩ := bd_some H
  have K2 : (fun (s7 : G) => u_V m_X6_read 1 post 86 [some (.ref 15), some (.ref t1), some (.int a2), none, none, none, none] [] s7) s25 := by
    clear H1
    obtain ⟨g6, e_g6⟩ : ∃ z, z = s25 := ⟨_, rfl⟩
    subst e_g6
    (try dsimp only at H); (try dsimp only)
    refine x_iconst (v := (0 : Int32)) rfl (by decide) ?_
    refine am_istore rfl (Nat.le_of_ble_eq_true rfl) ?_
    obtain ⟨s45, H1, H⟩ := bd_some H
    have K2 : (fun (s30 : G) => u_V m_X6_read 1 post 146 [none, none, none, none, none, none, none] [] s30) s45 := by
      clear H1
      obtain ⟨g29, e_g29⟩ : ∃ z, z = s45 := ⟨_, rfl⟩
      subst e_g29
      (try dsimp only at H); (try dsimp only)
      have H := Option.some.inj H
      subst H
      exact u_vret rfl rfl K
    refine am_drop (L' := [some (.ref 15), some (.ref t1), some (.int a2), none, some (.int (0 : Int32)), none, none]) (And.intro rfl (And.intro rfl (And.intro rfl (And.intro rfl trivial)))) ?_
    refine lp_ind (P := (fun (s28 : Int32 × G) => u_V m_X6_read 1 post 89 [some (.ref 15), some (.ref t1), some (.int a2), none, some (.int s28.1), none, none] [] s28.2)) (Q := (fun (s30 : G) => u_V m_X6_read 1 post 146 [none, none, none, none, none, none, none] [] s30)) ?_ 2000 ((0 : Int32), g6) s45 H1 K2
    clear H1 H K
    intro s28 s45b H K
    obtain ⟨x26, g27⟩ := s28
    (try dsimp only at H); (try dsimp only)
    refine am_iload rfl rfl ?_
    refine x_bipush (v := (30 : Int32)) rfl (by decide) ?_
    refine am_icmp_ge rfl (fun c31 => ?_) (fun c31 => ?_)
    · have H := it_pos c31 H
      have H := Option.some.inj H
      subst H
      exact am_drop (L' := [none, none, none, none, none, none, none]) trivial K
    · have H := it_neg c31 H
      refine am_aload_n rfl rfl ?_
      refine u_getR f_6_9 rfl (Nat.le_of_ble_eq_true rfl) rfl rfl ?_
      refine am_iload rfl rfl ?_
      obtain ⟨j32, ej32, hj32, H⟩ := ck_some H
      refine x_iald rfl (Nat.le_of_ble_eq_true rfl) rfl hj32 ej32 ?_
      refine am_istore rfl (Nat.le_of_ble_eq_true rfl) ?_
      refine am_aload_n rfl rfl ?_
      refine u_getR f_6_15 rfl (Nat.le_of_ble_eq_true rfl) rfl rfl ?_
      refine am_iload rfl rfl ?_
      refine am_iload rfl rfl ?_
      refine x_iconst (v := (-1 : Int32)) rfl (by decide) ?_
      obtain ⟨s44, H1, H⟩ := bd_some H
      have K : (Sum.elim (fun (s35 : Int32 × G) => u_V m_X6_read 1 post 128 [some (.ref 15), some (.ref t1), some (.int a2), none, some (.int s35.1), none, none] [.int x26, .ref 17] s35.2) (Sum.elim (fun (s28 : Int32 × G) => u_V m_X6_read 1 post 89 [some (.ref 15), some (.ref t1), some (.int a2), none, some (.int s28.1), none, none] [] s28.2) (fun (s30 : G) => u_V m_X6_read 1 post 146 [none, none, none, none, none, none, none] [] s30))) s44 := by
        clear H1
        cases s44 with
        | inl s35 =>
          obtain ⟨x33, g34⟩ := s35
          (try dsimp only at H); (try dsimp only)
          refine x_iconst (v := (-1 : Int32)) rfl (by decide) ?_
          refine am_goto rfl ?_
          obtain ⟨j36, ej36, hj36, H⟩ := ck_some H
          obtain ⟨g37, eg37, H⟩ := wr_some H
          refine x_iast rfl (Nat.le_of_ble_eq_true rfl) rfl hj36 ej36 eg37 ?_
          refine x_iinc (v := (x33 + (1 : Int32))) rfl rfl (Nat.le_of_ble_eq_true rfl) rfl ?_
          refine am_goto rfl ?_
          have H := Option.some.inj H
          subst H
          exact am_drop (L' := [some (.ref 15), some (.ref t1), some (.int a2), none, some (.int (x33 + (1 : Int32))), none, none]) (And.intro rfl (And.intro rfl (And.intro rfl (And.intro rfl trivial)))) K
        | inr y =>
          have H := Option.some.inj H
          subst H
          exact K
      have H := H1
      clear H1
      refine am_icmp_eq rfl (fun c38 => ?_) (fun c38 => ?_)
      · have H := it_pos c38 H
        have H := Option.some.inj H
        subst H
        exact am_drop (L' := [some (.ref 15), some (.ref t1), some (.int a2), none, some (.int x26), none, none]) (And.intro rfl (And.intro rfl (And.intro rfl (And.intro rfl trivial)))) K
      · have H := it_neg c38 H
        refine am_aload_n rfl rfl ?_
        refine u_getR f_6_67 rfl (isT_lt0 ht1) (sk_T ht1) rfl ?_
        refine am_iload rfl rfl ?_
        obtain ⟨j39, ej39, hj39, H⟩ := ck_some H
        refine x_iald rfl (isT_lt ht1 (Nat.le_of_ble_eq_true rfl)) (sk_A ht1 (Nat.le_of_ble_eq_true rfl) (Nat.le_of_ble_eq_true rfl)) hj39 ej39 ?_
        refine am_iload_n rfl rfl ?_
        refine am_icmp_le rfl (fun c40 => ?_) (fun c40 => ?_)
        · have H := it_pos c40 H
          refine am_aload_n rfl rfl ?_
          refine u_getR f_6_70 rfl (isT_lt0 ht1) (sk_T ht1) rfl ?_
          refine am_iload rfl rfl ?_
          obtain ⟨j41, ej41, hj41, H⟩ := ck_some H
          refine x_iald rfl (isT_lt ht1 (Nat.le_of_ble_eq_true rfl)) (sk_A ht1 (Nat.le_of_ble_eq_true rfl) (Nat.le_of_ble_eq_true rfl)) hj41 ej41 ?_
          obtain ⟨j42, ej42, hj42, H⟩ := ck_some H
          obtain ⟨g43, eg43, H⟩ := wr_some H
          refine x_iast rfl (Nat.le_of_ble_eq_true rfl) rfl hj42 ej42 eg43 ?_
          refine x_iinc (v := (x26 + (1 : Int32))) rfl rfl (Nat.le_of_ble_eq_true rfl) rfl ?_
          refine am_goto rfl ?_
          have H := Option.some.inj H
          subst H
          exact am_drop (L' := [some (.ref 15), some (.ref t1), some (.int a2), none, some (.int (x26 + (1 : Int32))), none, none]) (And.intro rfl (And.intro rfl (And.intro rfl (And.intro rfl trivial)))) K
        · have H := it_neg c40 H
          have H := Option.some.inj H
          subst H
          exact am_drop (L' := [some (.ref 15), some (.ref t1), some (.int a2), none, some (.int x26), none, none]) (And.intro rfl (And.intro rfl (And.intro rfl (And.intro rfl trivial)))) K
  refine am_drop (L' := [some (.ref 15), some (.ref t1), some (.int a2), some (.int a3), some (.int (0 : Int32)), none, none]) (And.intro rfl (And.intro rfl (And.intro rfl (And.intro rfl (And.intro rfl trivial))))) ?_
  refine lp_ind (P := (fun (s5 : Int32 × G) => u_V m_X6_read 1 post 11 [some (.ref 15), some (.ref t1), some (.int a2), some (.int a3), some (.int s5.1), none, none] [] s5.2)) (Q := (fun (s7 : G) => u_V m_X6_read 1 post 86 [some (.ref 15), some (.ref t1), some (.int a2), none, none, none, none] [] s7)) ?_ 2000 ((0 : Int32), g2) s25 H1 K2
  clear H1 H K
  intro s5 s25b H K
  obtain ⟨x3, g4⟩ := s5
  (try dsimp only at H); (try dsimp only)
  refine am_iload rfl rfl ?_
  refine am_aload_n rfl rfl ?_
  refine u_getI f_6_51 rfl (isT_lt0 ht1) (sk_T ht1) rfl ?_
  refine am_icmp_ge rfl (fun c8 => ?_) (fun c8 => ?_)
  · have H := it_pos c8 H
    have H := Option.some.inj H
    subst H
    exact am_drop (L' := [some (.ref 15), some (.ref t1), some (.int a2), none, none, none, none]) (And.intro rfl (And.intro rfl (And.intro rfl trivial))) K
  · have H := it_neg c8 H
    refine am_aload_n rfl rfl ?_
    refine u_getR f_6_57 rfl (isT_lt0 ht1) (sk_T ht1) rfl ?_
    refine am_iload rfl rfl ?_
    obtain ⟨j9, ej9, hj9, H⟩ := ck_some H
    refine x_iald rfl (isT_lt ht1 (Nat.le_of_ble_eq_true rfl)) (sk_A ht1 (Nat.le_of_ble_eq_true rfl) (Nat.le_of_ble_eq_true rfl)) hj9 ej9 ?_
    refine am_istore rfl (Nat.le_of_ble_eq_true rfl) ?_
    refine am_aload_n rfl rfl ?_
    refine u_getR f_6_9 rfl (Nat.le_of_ble_eq_true rfl) rfl rfl ?_
    refine am_iload rfl rfl ?_
    obtain ⟨j10, ej10, hj10, H⟩ := ck_some H
    refine x_iald rfl (Nat.le_of_ble_eq_true rfl) rfl hj10 ej10 ?_
    refine am_istore rfl (Nat.le_of_ble_eq_true rfl) ?_
    refine am_aload_n rfl rfl ?_
    refine am_iload rfl rfl ?_
    refine am_iload_n rfl rfl ?_
    obtain ⟨r11, g12, H1, H⟩ := bd2_some H
    refine cv2i v_6_60 rfl rfl (isT_lt0 ht1) (sk_T ht1) (Nat.le_of_ble_eq_true rfl) (fun _ _ => Nat.le_of_ble_eq_true rfl) (y_X7_isKnown t1 x3 a3 ht1 g4 _ H1 ?_)
    obtain ⟨s24, H1, H⟩ := bd_some H
    have K : (fun (s14 : G) => u_V m_X6_read 1 post 80 [some (.ref 15), some (.ref t1), some (.int a2), some (.int a3), some (.int x3), none, none] [] s14) s24 := by
      clear H1
      obtain ⟨g13, e_g13⟩ : ∃ z, z = s24 := ⟨_, rfl⟩
      subst e_g13
      (try dsimp only at H); (try dsimp only)
      refine x_iinc (v := (x3 + (1 : Int32))) rfl rfl (Nat.le_of_ble_eq_true rfl) rfl ?_
      refine am_goto rfl ?_
      have H := Option.some.inj H
      subst H
      exact am_drop (L' := [some (.ref 15), some (.ref t1), some (.int a2), some (.int a3), some (.int (x3 + (1 : Int32))), none, none]) (And.intro rfl (And.intro rfl (And.intro rfl (And.intro rfl (And.intro rfl trivial))))) K
    have H := H1
    clear H1
    refine am_if_eq rfl (fun c15 => ?_) (fun c15 => ?_)
    · have H := it_pos c15 H
      have H := Option.some.inj H
      subst H
      exact am_drop (L' := [some (.ref 15), some (.ref t1), some (.int a2), some (.int a3), some (.int x3), none, none]) (And.intro rfl (And.intro rfl (And.intro rfl (And.intro rfl (And.intro rfl trivial))))) K
    · have H := it_neg c15 H
      refine am_iload rfl rfl ?_
      refine x_iconst (v := (-1 : Int32)) rfl (by decide) ?_
      obtain ⟨s23, H1, H⟩ := bd_some H
      have K : (Sum.elim (fun (_ : Unit) => u_V m_X6_read 1 post 71 [some (.ref 15), some (.ref t1), some (.int a2), some (.int a3), some (.int x3), some (.int (g4 (t1 + 9) j9)), none] [] g12) (fun (s14 : G) => u_V m_X6_read 1 post 80 [some (.ref 15), some (.ref t1), some (.int a2), some (.int a3), some (.int x3), none, none] [] s14)) s23 := by
        clear H1
        cases s23 with
        | inl s16 =>
          (try dsimp only at H); (try dsimp only)
          refine am_aload_n rfl rfl ?_
          refine u_getR f_6_9 rfl (Nat.le_of_ble_eq_true rfl) rfl rfl ?_
          refine am_iload rfl rfl ?_
          refine am_iload rfl rfl ?_
          obtain ⟨j17, ej17, hj17, H⟩ := ck_some H
          obtain ⟨g18, eg18, H⟩ := wr_some H
          refine x_iast rfl (Nat.le_of_ble_eq_true rfl) rfl hj17 ej17 eg18 ?_
          have H := Option.some.inj H
          subst H
          exact am_drop (L' := [some (.ref 15), some (.ref t1), some (.int a2), some (.int a3), some (.int x3), none, none]) (And.intro rfl (And.intro rfl (And.intro rfl (And.intro rfl (And.intro rfl trivial))))) K
        | inr y =>
          have H := Option.some.inj H
          subst H
          exact K
      have H := H1
      clear H1
      refine am_icmp_eq rfl (fun c19 => ?_) (fun c19 => ?_)
      · have H := it_pos c19 H
        have H := Option.some.inj H
        subst H
        exact am_drop (L' := [some (.ref 15), some (.ref t1), some (.int a2), some (.int a3), some (.int x3), some (.int (g4 (t1 + 9) j9)), none]) (And.intro rfl (And.intro rfl (And.intro rfl (And.intro rfl (And.intro rfl (And.intro rfl trivial)))))) K
      · have H := it_neg c19 H
        refine am_aload_n rfl rfl ?_
        refine u_getR f_6_64 rfl (isT_lt0 ht1) (sk_T ht1) rfl ?_
        refine am_iload rfl rfl ?_
        obtain ⟨j20, ej20, hj20, H⟩ := ck_some H
        refine x_iald rfl (isT_lt ht1 (Nat.le_of_ble_eq_true rfl)) (sk_A ht1 (Nat.le_of_ble_eq_true rfl) (Nat.le_of_ble_eq_true rfl)) hj20 ej20 ?_
        refine am_aload_n rfl rfl ?_
        refine u_getR f_6_64 rfl (isT_lt0 ht1) (sk_T ht1) rfl ?_
        refine am_iload rfl rfl ?_
        obtain ⟨j21, ej21, hj21, H⟩ := ck_some H
        refine x_iald rfl (isT_lt ht1 (Nat.le_of_ble_eq_true rfl)) (sk_A ht1 (Nat.le_of_ble_eq_true rfl) (Nat.le_of_ble_eq_true rfl)) hj21 ej21 ?_
        refine am_icmp_gt rfl (fun c22 => ?_) (fun c22 => ?_)
        · have H := it_pos c22 H
          have H := Option.some.inj H
          subst H
          exact am_drop (L' := [some (.ref 15), some (.ref t1), some (.int a2), some (.int a3), some (.int x3), none, none]) (And.intro rfl (And.intro rfl (And.intro rfl (And.intro rfl (And.intro rfl trivial))))) K
        · have H := it_neg c22 H
          have H := Option.some.inj H
          subst H
          exact am_drop (L' := [some (.ref 15), some (.ref t1), some (.int a2), some (.int a3), some (.int x3), some (.int (g4 (t1 + 9) j9)), none]) (And.intro rfl (And.intro rfl (And.intro rfl (And.intro rfl (And.intro rfl (And.intro rfl trivial)))))) K
def f_X6_score (t1 : Nat) (a2 : Int32) (g : G) : Option (Int32 × G) := bd2 (f_J7_fill_53178 19 24 (0 : Int32) g) fun r1 g2 => bd (lp (fun (s5 : Int32 × G) => (if (s5.2 t1 2) ≤ s5.1 then some (.inr (s5.2)) else bd (lp (fun (s11 : Int32 × G) => (ck s5.1 6 fun j14 => if (s11.2 (t1 + 5) j14) ≤ s11.1 then some (.inr (s11.2)) else ck ((s5.1 * (5 : Int32)) + s11.1) 30 fun j16 => bd ((if (s11.2 (t1 + 8) j16) = (99 : Int32) then ck s5.1 6 fun j20 => if a2 < (s11.2 (t1 + 4) j20) then some (s11.2) else ck ((s5.1 * (5 : Int32)) + s11.1) 30 fun j22 => ck (s11.2 (t1 + 7) j22) 24 fun j23 => ck (s11.2 (t1 + 7) j22) 24 fun j24 => wr (up2 s11.2 19 j24 ((s11.2 19 j23) + (2 : Int32))) fun g25 => some (g25) else ck ((s5.1 * (5 : Int32)) + s11.1) 30 fun j26 => ck (s11.2 (t1 + 7) j26) 24 fun j27 => ck ((s5.1 * (5 : Int32)) + s11.1) 30 fun j28 => bd2 (f_X6_whiteHalves (s11.2 17 j28) s11.2) fun r29 g30 => ck (s11.2 (t1 + 7) j26) 24 fun j31 => wr (up2 g30 19 j31 ((s11.2 19 j27) + r29)) fun g32 => ck ((s5.1 * (5 : Int32)) + s11.1) 30 fun j33 => ck (g32 (t1 + 8) j33) 24 fun j34 => ck ((s5.1 * (5 : Int32)) + s11.1) 30 fun j35 => bd2 (f_X6_blackHalves (g32 17 j35) g32) fun r36 g37 => ck (g32 (t1 + 8) j33) 24 fun j38 => wr (up2 g37 19 j38 ((g32 19 j34) + r36)) fun g39 => some (g39) : Option (G))) fun (s18 : G) => some (.inl ((s11.1 + (1 : Int32)), s18)) : Option ((Int32 × G) ⊕ (G)))) 2000 ((0 : Int32), s5.2)) fun (s13 : G) => some (.inl ((s5.1 + (1 : Int32)), s13)) : Option ((Int32 × G) ⊕ (G)))) 2000 ((0 : Int32), g2)) fun (s7 : G) => some (((0 : Int32), s7))
set_option maxHeartbeats 4000000 in
set_option maxRecDepth 100000 in
theorem y_X6_score (t1 : Nat) (a2 : Int32) (ht1 : isT t1) (g : G) (q : Int32 × G) {post : Int32 → G → Prop} (H : f_X6_score t1 a2 g = some q) (K : post q.1 q.2) : Y m_X6_score 1 [.ref 15, .ref t1, .int a2] g post := by
  refine Y_of ok_X6_score pn_6 rfl (by decide) (Or.inl rfl) (List.forall_mem_cons.mpr ⟨rfl, (List.forall_mem_cons.mpr ⟨rfl, (List.forall_mem_cons.mpr ⟨rfl, (fun _ h => absurd h List.not_mem_nil)⟩)⟩)⟩) (Nat.le_of_ble_eq_true rfl) ?_
  show u_V m_X6_score 1 post 0 [some (.ref 15), some (.ref t1), some (.int a2), none, none, none] [] g
  unfold f_X6_score at H
  refine am_aload_n rfl rfl ?_
  refine u_getR f_6_21 rfl (Nat.le_of_ble_eq_true rfl) rfl rfl ?_
  refine x_iconst (v := (0 : Int32)) rfl (by decide) ?_
  obtain ⟨r1, g2, H1, H⟩ := bd2_some H
  refine cs2v s_6_45 rfl rfl (Nat.le_of_ble_eq_true rfl) (fun _ _ => Nat.le_of_ble_eq_true rfl) (y_J7_fill_53178 19 24 (0 : Int32) (Nat.le_of_ble_eq_true rfl) rfl g _ H1 ?_)
  refine x_iconst (v := (0 : Int32)) rfl (by decide) ?_
  refine am_istore_n rfl (Nat.le_of_ble_eq_true rfl) ?_
  obtain ⟨s42, H1, H⟩ := bd_some H
  have K2 : (fun (s7 : G) => u_V m_X6_score 1 post 143 [none, none, none, none, none, none] [] s7) s42 := by
    clear H1
    obtain ⟨g6, e_g6⟩ : ∃ z, z = s42 := ⟨_, rfl⟩
    subst e_g6
    (try dsimp only at H); (try dsimp only)
    have H := Option.some.inj H
    subst H
    exact u_vret rfl rfl K
  refine am_drop (L' := [some (.ref 15), some (.ref t1), some (.int a2), some (.int (0 : Int32)), none, none]) (And.intro rfl (And.intro rfl (And.intro rfl (And.intro rfl trivial)))) ?_
  refine lp_ind (P := (fun (s5 : Int32 × G) => u_V m_X6_score 1 post 10 [some (.ref 15), some (.ref t1), some (.int a2), some (.int s5.1), none, none] [] s5.2)) (Q := (fun (s7 : G) => u_V m_X6_score 1 post 143 [none, none, none, none, none, none] [] s7)) ?_ 2000 ((0 : Int32), g2) s42 H1 K2
  clear H1 H K
  intro s5 s42b H K
  obtain ⟨x3, g4⟩ := s5
  (try dsimp only at H); (try dsimp only)
  refine am_iload_n rfl rfl ?_
  refine am_aload_n rfl rfl ?_
  refine u_getI f_6_73 rfl (isT_lt0 ht1) (sk_T ht1) rfl ?_
  refine am_icmp_ge rfl (fun c8 => ?_) (fun c8 => ?_)
  · have H := it_pos c8 H
    have H := Option.some.inj H
    subst H
    exact am_drop (L' := [none, none, none, none, none, none]) trivial K
  · have H := it_neg c8 H
    refine x_iconst (v := (0 : Int32)) rfl (by decide) ?_
    refine am_istore rfl (Nat.le_of_ble_eq_true rfl) ?_
    obtain ⟨s41, H1, H⟩ := bd_some H
    have K2 : (fun (s13 : G) => u_V m_X6_score 1 post 137 [some (.ref 15), some (.ref t1), some (.int a2), some (.int x3), none, none] [] s13) s41 := by
      clear H1
      obtain ⟨g12, e_g12⟩ : ∃ z, z = s41 := ⟨_, rfl⟩
      subst e_g12
      (try dsimp only at H); (try dsimp only)
      refine x_iinc (v := (x3 + (1 : Int32))) rfl rfl (Nat.le_of_ble_eq_true rfl) rfl ?_
      refine am_goto rfl ?_
      have H := Option.some.inj H
      subst H
      exact am_drop (L' := [some (.ref 15), some (.ref t1), some (.int a2), some (.int (x3 + (1 : Int32))), none, none]) (And.intro rfl (And.intro rfl (And.intro rfl (And.intro rfl trivial)))) K
    refine am_drop (L' := [some (.ref 15), some (.ref t1), some (.int a2), some (.int x3), some (.int (0 : Int32)), none]) (And.intro rfl (And.intro rfl (And.intro rfl (And.intro rfl (And.intro rfl trivial))))) ?_
    refine lp_ind (P := (fun (s11 : Int32 × G) => u_V m_X6_score 1 post 21 [some (.ref 15), some (.ref t1), some (.int a2), some (.int x3), some (.int s11.1), none] [] s11.2)) (Q := (fun (s13 : G) => u_V m_X6_score 1 post 137 [some (.ref 15), some (.ref t1), some (.int a2), some (.int x3), none, none] [] s13)) ?_ 2000 ((0 : Int32), g4) s41 H1 K2
    clear H1 H K
    intro s11 s41b H K
    obtain ⟨x9, g10⟩ := s11
    (try dsimp only at H); (try dsimp only)
    refine am_iload rfl rfl ?_
    refine am_aload_n rfl rfl ?_
    refine u_getR f_6_76 rfl (isT_lt0 ht1) (sk_T ht1) rfl ?_
    refine am_iload_n rfl rfl ?_
    obtain ⟨j14, ej14, hj14, H⟩ := ck_some H
    refine x_iald rfl (isT_lt ht1 (Nat.le_of_ble_eq_true rfl)) (sk_A ht1 (Nat.le_of_ble_eq_true rfl) (Nat.le_of_ble_eq_true rfl)) hj14 ej14 ?_
    refine am_icmp_ge rfl (fun c15 => ?_) (fun c15 => ?_)
    · have H := it_pos c15 H
      have H := Option.some.inj H
      subst H
      exact am_drop (L' := [some (.ref 15), some (.ref t1), some (.int a2), some (.int x3), none, none]) (And.intro rfl (And.intro rfl (And.intro rfl (And.intro rfl trivial)))) K
    · have H := it_neg c15 H
      refine am_iload_n rfl rfl ?_
      refine x_iconst (v := (5 : Int32)) rfl (by decide) ?_
      refine am_imul rfl ?_
      refine am_iload rfl rfl ?_
      refine am_iadd rfl ?_
      refine am_istore rfl (Nat.le_of_ble_eq_true rfl) ?_
      refine am_aload_n rfl rfl ?_
      refine u_getR f_6_79 rfl (isT_lt0 ht1) (sk_T ht1) rfl ?_
      refine am_iload rfl rfl ?_
      obtain ⟨j16, ej16, hj16, H⟩ := ck_some H
      refine x_iald rfl (isT_lt ht1 (Nat.le_of_ble_eq_true rfl)) (sk_A ht1 (Nat.le_of_ble_eq_true rfl) (Nat.le_of_ble_eq_true rfl)) hj16 ej16 ?_
      refine x_bipush (v := (99 : Int32)) rfl (by decide) ?_
      obtain ⟨s40, H1, H⟩ := bd_some H
      have K : (fun (s18 : G) => u_V m_X6_score 1 post 131 [some (.ref 15), some (.ref t1), some (.int a2), some (.int x3), some (.int x9), none] [] s18) s40 := by
        clear H1
        obtain ⟨g17, e_g17⟩ : ∃ z, z = s40 := ⟨_, rfl⟩
        subst e_g17
        (try dsimp only at H); (try dsimp only)
        refine x_iinc (v := (x9 + (1 : Int32))) rfl rfl (Nat.le_of_ble_eq_true rfl) rfl ?_
        refine am_goto rfl ?_
        have H := Option.some.inj H
        subst H
        exact am_drop (L' := [some (.ref 15), some (.ref t1), some (.int a2), some (.int x3), some (.int (x9 + (1 : Int32))), none]) (And.intro rfl (And.intro rfl (And.intro rfl (And.intro rfl (And.intro rfl trivial))))) K
      have H := H1
      clear H1
      refine am_icmp_eq rfl (fun c19 => ?_) (fun c19 => ?_)
      · have H := it_pos c19 H
        refine am_aload_n rfl rfl ?_
        refine u_getR f_6_92 rfl (isT_lt0 ht1) (sk_T ht1) rfl ?_
        refine am_iload_n rfl rfl ?_
        obtain ⟨j20, ej20, hj20, H⟩ := ck_some H
        refine x_iald rfl (isT_lt ht1 (Nat.le_of_ble_eq_true rfl)) (sk_A ht1 (Nat.le_of_ble_eq_true rfl) (Nat.le_of_ble_eq_true rfl)) hj20 ej20 ?_
        refine am_iload_n rfl rfl ?_
        refine am_icmp_gt rfl (fun c21 => ?_) (fun c21 => ?_)
        · have H := it_pos c21 H
          have H := Option.some.inj H
          subst H
          exact am_drop (L' := [some (.ref 15), some (.ref t1), some (.int a2), some (.int x3), some (.int x9), none]) (And.intro rfl (And.intro rfl (And.intro rfl (And.intro rfl (And.intro rfl trivial))))) K
        · have H := it_neg c21 H
          refine am_aload_n rfl rfl ?_
          refine u_getR f_6_21 rfl (Nat.le_of_ble_eq_true rfl) rfl rfl ?_
          refine am_aload_n rfl rfl ?_
          refine u_getR f_6_82 rfl (isT_lt0 ht1) (sk_T ht1) rfl ?_
          refine am_iload rfl rfl ?_
          obtain ⟨j22, ej22, hj22, H⟩ := ck_some H
          refine x_iald rfl (isT_lt ht1 (Nat.le_of_ble_eq_true rfl)) (sk_A ht1 (Nat.le_of_ble_eq_true rfl) (Nat.le_of_ble_eq_true rfl)) hj22 ej22 ?_
          refine am_dup2 rfl rfl rfl ?_
          obtain ⟨j23, ej23, hj23, H⟩ := ck_some H
          refine x_iald rfl (Nat.le_of_ble_eq_true rfl) rfl hj23 ej23 ?_
          refine x_iconst (v := (2 : Int32)) rfl (by decide) ?_
          refine am_iadd rfl ?_
          obtain ⟨j24, ej24, hj24, H⟩ := ck_some H
          obtain ⟨g25, eg25, H⟩ := wr_some H
          refine x_iast rfl (Nat.le_of_ble_eq_true rfl) rfl hj24 ej24 eg25 ?_
          have H := Option.some.inj H
          subst H
          exact am_drop (L' := [some (.ref 15), some (.ref t1), some (.int a2), some (.int x3), some (.int x9), none]) (And.intro rfl (And.intro rfl (And.intro rfl (And.intro rfl (And.intro rfl trivial))))) K
      · have H := it_neg c19 H
        refine am_aload_n rfl rfl ?_
        refine u_getR f_6_21 rfl (Nat.le_of_ble_eq_true rfl) rfl rfl ?_
        refine am_aload_n rfl rfl ?_
        refine u_getR f_6_82 rfl (isT_lt0 ht1) (sk_T ht1) rfl ?_
        refine am_iload rfl rfl ?_
        obtain ⟨j26, ej26, hj26, H⟩ := ck_some H
        refine x_iald rfl (isT_lt ht1 (Nat.le_of_ble_eq_true rfl)) (sk_A ht1 (Nat.le_of_ble_eq_true rfl) (Nat.le_of_ble_eq_true rfl)) hj26 ej26 ?_
        refine am_dup2 rfl rfl rfl ?_
        obtain ⟨j27, ej27, hj27, H⟩ := ck_some H
        refine x_iald rfl (Nat.le_of_ble_eq_true rfl) rfl hj27 ej27 ?_
        refine am_aload_n rfl rfl ?_
        refine u_getR f_6_15 rfl (Nat.le_of_ble_eq_true rfl) rfl rfl ?_
        refine am_iload rfl rfl ?_
        obtain ⟨j28, ej28, hj28, H⟩ := ck_some H
        refine x_iald rfl (Nat.le_of_ble_eq_true rfl) rfl hj28 ej28 ?_
        obtain ⟨r29, g30, H1, H⟩ := bd2_some H
        refine cs1i s_6_85 rfl rfl (Nat.le_of_ble_eq_true rfl) (fun _ _ => Nat.le_of_ble_eq_true rfl) (y_X6_whiteHalves (g10 17 j28) g10 _ H1 ?_)
        refine am_iadd rfl ?_
        obtain ⟨j31, ej31, hj31, H⟩ := ck_some H
        obtain ⟨g32, eg32, H⟩ := wr_some H
        refine x_iast rfl (Nat.le_of_ble_eq_true rfl) rfl hj31 ej31 eg32 ?_
        refine am_aload_n rfl rfl ?_
        refine u_getR f_6_21 rfl (Nat.le_of_ble_eq_true rfl) rfl rfl ?_
        refine am_aload_n rfl rfl ?_
        refine u_getR f_6_79 rfl (isT_lt0 ht1) (sk_T ht1) rfl ?_
        refine am_iload rfl rfl ?_
        obtain ⟨j33, ej33, hj33, H⟩ := ck_some H
        refine x_iald rfl (isT_lt ht1 (Nat.le_of_ble_eq_true rfl)) (sk_A ht1 (Nat.le_of_ble_eq_true rfl) (Nat.le_of_ble_eq_true rfl)) hj33 ej33 ?_
        refine am_dup2 rfl rfl rfl ?_
        obtain ⟨j34, ej34, hj34, H⟩ := ck_some H
        refine x_iald rfl (Nat.le_of_ble_eq_true rfl) rfl hj34 ej34 ?_
        refine am_aload_n rfl rfl ?_
        refine u_getR f_6_15 rfl (Nat.le_of_ble_eq_true rfl) rfl rfl ?_
        refine am_iload rfl rfl ?_
        obtain ⟨j35, ej35, hj35, H⟩ := ck_some H
        refine x_iald rfl (Nat.le_of_ble_eq_true rfl) rfl hj35 ej35 ?_
        obtain ⟨r36, g37, H1, H⟩ := bd2_some H
        refine cs1i s_6_89 rfl rfl (Nat.le_of_ble_eq_true rfl) (fun _ _ => Nat.le_of_ble_eq_true rfl) (y_X6_blackHalves (g32 17 j35) g32 _ H1 ?_)
        refine am_iadd rfl ?_
        obtain ⟨j38, ej38, hj38, H⟩ := ck_some H
        obtain ⟨g39, eg39, H⟩ := wr_some H
        refine x_iast rfl (Nat.le_of_ble_eq_true rfl) rfl hj38 ej38 eg39 ?_
        refine am_goto rfl ?_
        have H := Option.some.inj H
        subst H
        exact am_drop (L' := [some (.ref 15), some (.ref t1), some (.int a2), some (.int x3), some (.int x9), none]) (And.intro rfl (And.intro rfl (And.intro rfl (And.intro rfl (And.intro rfl trivial))))) K
def f_X6_addFoe (a1 : Int32) (a2 : Int32) (g : G) : Option (Int32 × G) := ck a1 24 fun j1 => bd ((if (g 20 j1) = 0 then some ((1 : Int32)) else some ((0 : Int32)) : Option (Int32))) fun (s3 : Int32) => bd ((if s3 = 0 then ck a1 24 fun j26 => bd2 (f_J9_min_7cf53 (g 22 j26) a2 g) fun r27 g28 => some ((r27, g28)) else some ((a2, g)) : Option (Int32 × G))) fun (s6 : Int32 × G) => ck a1 24 fun j7 => wr (up2 s6.2 22 j7 s6.1) fun g8 => bd ((if s3 = 0 then ck a1 24 fun j21 => bd2 (f_J9_max_7cf53 (g8 23 j21) a2 g8) fun r22 g23 => some ((r22, g23)) else some ((a2, g8)) : Option (Int32 × G))) fun (s11 : Int32 × G) => ck a1 24 fun j12 => wr (up2 s11.2 23 j12 s11.1) fun g13 => ck a1 24 fun j14 => ck a1 24 fun j15 => wr (up2 g13 21 j15 ((g13 21 j14) + a2)) fun g16 => ck a1 24 fun j17 => ck a1 24 fun j18 => wr (up2 g16 20 j18 ((g16 20 j17) + (1 : Int32))) fun g19 => some (((0 : Int32), g19))
set_option maxHeartbeats 4000000 in
set_option maxRecDepth 100000 in
theorem y_X6_addFoe (a1 : Int32) (a2 : Int32)  (g : G) (q : Int32 × G) {post : Int32 → G → Prop} (H : f_X6_addFoe a1 a2 g = some q) (K : post q.1 q.2) : Y m_X6_addFoe 1 [.ref 15, .int a1, .int a2] g post := by
  refine Y_of ok_X6_addFoe pn_6 rfl (by decide) (Or.inl rfl) (List.forall_mem_cons.mpr ⟨rfl, (List.forall_mem_cons.mpr ⟨rfl, (List.forall_mem_cons.mpr ⟨rfl, (fun _ h => absurd h List.not_mem_nil)⟩)⟩)⟩) (Nat.le_of_ble_eq_true rfl) ?_
  show u_V m_X6_addFoe 1 post 0 [some (.ref 15), some (.int a1), some (.int a2), none] [] g
  unfold f_X6_addFoe at H
  refine am_aload_n rfl rfl ?_
  refine u_getR f_6_24 rfl (Nat.le_of_ble_eq_true rfl) rfl rfl ?_
  refine am_iload_n rfl rfl ?_
  obtain ⟨j1, ej1, hj1, H⟩ := ck_some H
  refine x_iald rfl (Nat.le_of_ble_eq_true rfl) rfl hj1 ej1 ?_
  obtain ⟨s31, H1, H⟩ := bd_some H
  have K : (fun (s3 : Int32) => u_V m_X6_addFoe 1 post 14 [some (.ref 15), some (.int a1), some (.int a2), none] [.int s3] g) s31 := by
    clear H1
    obtain ⟨x2, e_x2⟩ : ∃ z, z = s31 := ⟨_, rfl⟩
    subst e_x2
    (try dsimp only at H); (try dsimp only)
    refine am_istore_n rfl (Nat.le_of_ble_eq_true rfl) ?_
    refine am_aload_n rfl rfl ?_
    refine u_getR f_6_30 rfl (Nat.le_of_ble_eq_true rfl) rfl rfl ?_
    refine am_iload_n rfl rfl ?_
    refine am_iload_n rfl rfl ?_
    obtain ⟨s29, H1, H⟩ := bd_some H
    have K : (fun (s6 : Int32 × G) => u_V m_X6_addFoe 1 post 38 [some (.ref 15), some (.int a1), some (.int a2), some (.int x2)] [.int s6.1, .int a1, .ref 22] s6.2) s29 := by
      clear H1
      obtain ⟨x4, g5⟩ := s29
      (try dsimp only at H); (try dsimp only)
      obtain ⟨j7, ej7, hj7, H⟩ := ck_some H
      obtain ⟨g8, eg8, H⟩ := wr_some H
      refine x_iast rfl (Nat.le_of_ble_eq_true rfl) rfl hj7 ej7 eg8 ?_
      refine am_aload_n rfl rfl ?_
      refine u_getR f_6_33 rfl (Nat.le_of_ble_eq_true rfl) rfl rfl ?_
      refine am_iload_n rfl rfl ?_
      refine am_iload_n rfl rfl ?_
      obtain ⟨s24, H1, H⟩ := bd_some H
      have K : (fun (s11 : Int32 × G) => u_V m_X6_addFoe 1 post 62 [some (.ref 15), some (.int a1), some (.int a2), none] [.int s11.1, .int a1, .ref 23] s11.2) s24 := by
        clear H1
        obtain ⟨x9, g10⟩ := s24
        (try dsimp only at H); (try dsimp only)
        obtain ⟨j12, ej12, hj12, H⟩ := ck_some H
        obtain ⟨g13, eg13, H⟩ := wr_some H
        refine x_iast rfl (Nat.le_of_ble_eq_true rfl) rfl hj12 ej12 eg13 ?_
        refine am_aload_n rfl rfl ?_
        refine u_getR f_6_27 rfl (Nat.le_of_ble_eq_true rfl) rfl rfl ?_
        refine am_iload_n rfl rfl ?_
        refine am_dup2 rfl rfl rfl ?_
        obtain ⟨j14, ej14, hj14, H⟩ := ck_some H
        refine x_iald rfl (Nat.le_of_ble_eq_true rfl) rfl hj14 ej14 ?_
        refine am_iload_n rfl rfl ?_
        refine am_iadd rfl ?_
        obtain ⟨j15, ej15, hj15, H⟩ := ck_some H
        obtain ⟨g16, eg16, H⟩ := wr_some H
        refine x_iast rfl (Nat.le_of_ble_eq_true rfl) rfl hj15 ej15 eg16 ?_
        refine am_aload_n rfl rfl ?_
        refine u_getR f_6_24 rfl (Nat.le_of_ble_eq_true rfl) rfl rfl ?_
        refine am_iload_n rfl rfl ?_
        refine am_dup2 rfl rfl rfl ?_
        obtain ⟨j17, ej17, hj17, H⟩ := ck_some H
        refine x_iald rfl (Nat.le_of_ble_eq_true rfl) rfl hj17 ej17 ?_
        refine x_iconst (v := (1 : Int32)) rfl (by decide) ?_
        refine am_iadd rfl ?_
        obtain ⟨j18, ej18, hj18, H⟩ := ck_some H
        obtain ⟨g19, eg19, H⟩ := wr_some H
        refine x_iast rfl (Nat.le_of_ble_eq_true rfl) rfl hj18 ej18 eg19 ?_
        have H := Option.some.inj H
        subst H
        exact u_vret rfl rfl K
      have H := H1
      clear H1
      refine am_if_eq rfl (fun c20 => ?_) (fun c20 => ?_)
      · have H := it_pos c20 H
        refine am_aload_n rfl rfl ?_
        refine u_getR f_6_33 rfl (Nat.le_of_ble_eq_true rfl) rfl rfl ?_
        refine am_iload_n rfl rfl ?_
        obtain ⟨j21, ej21, hj21, H⟩ := ck_some H
        refine x_iald rfl (Nat.le_of_ble_eq_true rfl) rfl hj21 ej21 ?_
        refine am_iload_n rfl rfl ?_
        obtain ⟨r22, g23, H1, H⟩ := bd2_some H
        refine cs2i s_6_113 rfl rfl (Nat.le_of_ble_eq_true rfl) (fun _ _ => Nat.le_of_ble_eq_true rfl) (y_J9_max_7cf53 (g8 23 j21) a2 g8 _ H1 ?_)
        have H := Option.some.inj H
        subst H
        exact am_drop (L' := [some (.ref 15), some (.int a1), some (.int a2), none]) (And.intro rfl (And.intro rfl (And.intro rfl trivial))) K
      · have H := it_neg c20 H
        refine am_iload_n rfl rfl ?_
        refine am_goto rfl ?_
        have H := Option.some.inj H
        subst H
        exact am_drop (L' := [some (.ref 15), some (.int a1), some (.int a2), none]) (And.intro rfl (And.intro rfl (And.intro rfl trivial))) K
    have H := H1
    clear H1
    refine am_if_eq rfl (fun c25 => ?_) (fun c25 => ?_)
    · have H := it_pos c25 H
      refine am_aload_n rfl rfl ?_
      refine u_getR f_6_30 rfl (Nat.le_of_ble_eq_true rfl) rfl rfl ?_
      refine am_iload_n rfl rfl ?_
      obtain ⟨j26, ej26, hj26, H⟩ := ck_some H
      refine x_iald rfl (Nat.le_of_ble_eq_true rfl) rfl hj26 ej26 ?_
      refine am_iload_n rfl rfl ?_
      obtain ⟨r27, g28, H1, H⟩ := bd2_some H
      refine cs2i s_6_107 rfl rfl (Nat.le_of_ble_eq_true rfl) (fun _ _ => Nat.le_of_ble_eq_true rfl) (y_J9_min_7cf53 (g 22 j26) a2 g _ H1 ?_)
      have H := Option.some.inj H
      subst H
      exact am_drop (L' := [some (.ref 15), some (.int a1), some (.int a2), some (.int x2)]) (And.intro rfl (And.intro rfl (And.intro rfl (And.intro rfl trivial)))) K
    · have H := it_neg c25 H
      refine am_iload_n rfl rfl ?_
      refine am_goto rfl ?_
      have H := Option.some.inj H
      subst H
      exact am_drop (L' := [some (.ref 15), some (.int a1), some (.int a2), some (.int x2)]) (And.intro rfl (And.intro rfl (And.intro rfl (And.intro rfl trivial)))) K
  have H := H1
  clear H1
  refine am_if_ne rfl (fun c30 => ?_) (fun c30 => ?_)
  · have H := it_neg c30 H
    refine x_iconst (v := (0 : Int32)) rfl (by decide) ?_
    have H := Option.some.inj H
    subst H
    exact am_drop (L' := [some (.ref 15), some (.int a1), some (.int a2), none]) (And.intro rfl (And.intro rfl (And.intro rfl trivial))) K
  · have H := it_pos c30 H
    refine x_iconst (v := (1 : Int32)) rfl (by decide) ?_
    refine am_goto rfl ?_
    have H := Option.some.inj H
    subst H
    exact am_drop (L' := [some (.ref 15), some (.int a1), some (.int a2), none]) (And.intro rfl (And.intro rfl (And.intro rfl trivial))) K
def f_X6_tallyPair (a1 : Int32) (a2 : Int32) (a3 : Int32) (g : G) : Option (Int32 × G) := ck a2 24 fun j1 => bd2 (f_X6_addFoe a1 (g 19 j1) g) fun r2 g3 => ck a1 24 fun j4 => bd2 (f_X6_addFoe a2 (g3 19 j4) g3) fun r5 g6 => bd ((if a3 = (2 : Int32) then ck a1 24 fun j39 => ck a1 24 fun j40 => wr (up2 g6 24 j40 ((g6 24 j39) + (1 : Int32))) fun g41 => some (g41) else some (g6) : Option (G))) fun (s8 : G) => bd ((if a3 = 0 then ck a2 24 fun j34 => ck a2 24 fun j35 => wr (up2 s8 24 j35 ((s8 24 j34) + (1 : Int32))) fun g36 => some (g36) else some (s8) : Option (G))) fun (s10 : G) => ck a1 24 fun j11 => ck a2 24 fun j12 => bd ((if (s10 19 j11) = (s10 19 j12) then ck a1 24 fun j22 => bd2 (f_X6_whiteHalves a3 s10) fun r23 g24 => ck a1 24 fun j25 => wr (up2 g24 25 j25 ((s10 25 j22) + r23)) fun g26 => ck a2 24 fun j27 => bd2 (f_X6_blackHalves a3 g26) fun r28 g29 => ck a2 24 fun j30 => wr (up2 g29 25 j30 ((g26 25 j27) + r28)) fun g31 => some (g31) else some (s10) : Option (G))) fun (s14 : G) => bd2 (f_X6_isPlayed a3 s14) fun r15 g16 => if r15 = 0 then some (((0 : Int32), g16)) else ck a2 24 fun j18 => ck a2 24 fun j19 => wr (up2 g16 26 j19 ((g16 26 j18) + (1 : Int32))) fun g20 => some (((0 : Int32), g20))
set_option maxHeartbeats 4000000 in
set_option maxRecDepth 100000 in
theorem y_X6_tallyPair (a1 : Int32) (a2 : Int32) (a3 : Int32)  (g : G) (q : Int32 × G) {post : Int32 → G → Prop} (H : f_X6_tallyPair a1 a2 a3 g = some q) (K : post q.1 q.2) : Y m_X6_tallyPair 2 [.ref 15, .int a1, .int a2, .int a3] g post := by
  refine Y_of ok_X6_tallyPair pn_6 rfl (by decide) (Or.inl rfl) (List.forall_mem_cons.mpr ⟨rfl, (List.forall_mem_cons.mpr ⟨rfl, (List.forall_mem_cons.mpr ⟨rfl, (List.forall_mem_cons.mpr ⟨rfl, (fun _ h => absurd h List.not_mem_nil)⟩)⟩)⟩)⟩) (Nat.le_of_ble_eq_true rfl) ?_
  show u_V m_X6_tallyPair 2 post 0 [some (.ref 15), some (.int a1), some (.int a2), some (.int a3)] [] g
  unfold f_X6_tallyPair at H
  refine am_aload_n rfl rfl ?_
  refine am_iload_n rfl rfl ?_
  refine am_aload_n rfl rfl ?_
  refine u_getR f_6_21 rfl (Nat.le_of_ble_eq_true rfl) rfl rfl ?_
  refine am_iload_n rfl rfl ?_
  obtain ⟨j1, ej1, hj1, H⟩ := ck_some H
  refine x_iald rfl (Nat.le_of_ble_eq_true rfl) rfl hj1 ej1 ?_
  obtain ⟨r2, g3, H1, H⟩ := bd2_some H
  refine cv2v v_6_99 rfl rfl (Nat.le_of_ble_eq_true rfl) rfl (Nat.le_of_ble_eq_true rfl) (fun _ _ => Nat.le_of_ble_eq_true rfl) (y_X6_addFoe a1 (g 19 j1) g _ H1 ?_)
  refine am_aload_n rfl rfl ?_
  refine am_iload_n rfl rfl ?_
  refine am_aload_n rfl rfl ?_
  refine u_getR f_6_21 rfl (Nat.le_of_ble_eq_true rfl) rfl rfl ?_
  refine am_iload_n rfl rfl ?_
  obtain ⟨j4, ej4, hj4, H⟩ := ck_some H
  refine x_iald rfl (Nat.le_of_ble_eq_true rfl) rfl hj4 ej4 ?_
  obtain ⟨r5, g6, H1, H⟩ := bd2_some H
  refine cv2v v_6_99 rfl rfl (Nat.le_of_ble_eq_true rfl) rfl (Nat.le_of_ble_eq_true rfl) (fun _ _ => Nat.le_of_ble_eq_true rfl) (y_X6_addFoe a2 (g3 19 j4) g3 _ H1 ?_)
  refine am_iload_n rfl rfl ?_
  refine x_iconst (v := (2 : Int32)) rfl (by decide) ?_
  obtain ⟨s42, H1, H⟩ := bd_some H
  have K : (fun (s8 : G) => u_V m_X6_tallyPair 2 post 37 [some (.ref 15), some (.int a1), some (.int a2), some (.int a3)] [] s8) s42 := by
    clear H1
    obtain ⟨g7, e_g7⟩ : ∃ z, z = s42 := ⟨_, rfl⟩
    subst e_g7
    (try dsimp only at H); (try dsimp only)
    refine am_iload_n rfl rfl ?_
    obtain ⟨s37, H1, H⟩ := bd_some H
    have K : (fun (s10 : G) => u_V m_X6_tallyPair 2 post 51 [some (.ref 15), some (.int a1), some (.int a2), some (.int a3)] [] s10) s37 := by
      clear H1
      obtain ⟨g9, e_g9⟩ : ∃ z, z = s37 := ⟨_, rfl⟩
      subst e_g9
      (try dsimp only at H); (try dsimp only)
      refine am_aload_n rfl rfl ?_
      refine u_getR f_6_21 rfl (Nat.le_of_ble_eq_true rfl) rfl rfl ?_
      refine am_iload_n rfl rfl ?_
      obtain ⟨j11, ej11, hj11, H⟩ := ck_some H
      refine x_iald rfl (Nat.le_of_ble_eq_true rfl) rfl hj11 ej11 ?_
      refine am_aload_n rfl rfl ?_
      refine u_getR f_6_21 rfl (Nat.le_of_ble_eq_true rfl) rfl rfl ?_
      refine am_iload_n rfl rfl ?_
      obtain ⟨j12, ej12, hj12, H⟩ := ck_some H
      refine x_iald rfl (Nat.le_of_ble_eq_true rfl) rfl hj12 ej12 ?_
      obtain ⟨s32, H1, H⟩ := bd_some H
      have K : (fun (s14 : G) => u_V m_X6_tallyPair 2 post 92 [some (.ref 15), none, some (.int a2), some (.int a3)] [] s14) s32 := by
        clear H1
        obtain ⟨g13, e_g13⟩ : ∃ z, z = s32 := ⟨_, rfl⟩
        subst e_g13
        (try dsimp only at H); (try dsimp only)
        refine am_iload_n rfl rfl ?_
        obtain ⟨r15, g16, H1, H⟩ := bd2_some H
        refine cs1i s_6_103 rfl rfl (Nat.le_of_ble_eq_true rfl) (fun _ _ => Nat.le_of_ble_eq_true rfl) (y_X6_isPlayed a3 g13 _ H1 ?_)
        refine am_if_eq rfl (fun c17 => ?_) (fun c17 => ?_)
        · have H := it_pos c17 H
          have H := Option.some.inj H
          subst H
          exact u_vret rfl rfl K
        · have H := it_neg c17 H
          refine am_aload_n rfl rfl ?_
          refine u_getR f_6_42 rfl (Nat.le_of_ble_eq_true rfl) rfl rfl ?_
          refine am_iload_n rfl rfl ?_
          refine am_dup2 rfl rfl rfl ?_
          obtain ⟨j18, ej18, hj18, H⟩ := ck_some H
          refine x_iald rfl (Nat.le_of_ble_eq_true rfl) rfl hj18 ej18 ?_
          refine x_iconst (v := (1 : Int32)) rfl (by decide) ?_
          refine am_iadd rfl ?_
          obtain ⟨j19, ej19, hj19, H⟩ := ck_some H
          obtain ⟨g20, eg20, H⟩ := wr_some H
          refine x_iast rfl (Nat.le_of_ble_eq_true rfl) rfl hj19 ej19 eg20 ?_
          have H := Option.some.inj H
          subst H
          exact u_vret rfl rfl K
      have H := H1
      clear H1
      refine am_icmp_ne rfl (fun c21 => ?_) (fun c21 => ?_)
      · have H := it_neg c21 H
        have H := Option.some.inj H
        subst H
        exact am_drop (L' := [some (.ref 15), none, some (.int a2), some (.int a3)]) (And.intro rfl (And.intro rfl (And.intro rfl trivial))) K
      · have H := it_pos c21 H
        refine am_aload_n rfl rfl ?_
        refine u_getR f_6_39 rfl (Nat.le_of_ble_eq_true rfl) rfl rfl ?_
        refine am_iload_n rfl rfl ?_
        refine am_dup2 rfl rfl rfl ?_
        obtain ⟨j22, ej22, hj22, H⟩ := ck_some H
        refine x_iald rfl (Nat.le_of_ble_eq_true rfl) rfl hj22 ej22 ?_
        refine am_iload_n rfl rfl ?_
        obtain ⟨r23, g24, H1, H⟩ := bd2_some H
        refine cs1i s_6_85 rfl rfl (Nat.le_of_ble_eq_true rfl) (fun _ _ => Nat.le_of_ble_eq_true rfl) (y_X6_whiteHalves a3 g9 _ H1 ?_)
        refine am_iadd rfl ?_
        obtain ⟨j25, ej25, hj25, H⟩ := ck_some H
        obtain ⟨g26, eg26, H⟩ := wr_some H
        refine x_iast rfl (Nat.le_of_ble_eq_true rfl) rfl hj25 ej25 eg26 ?_
        refine am_aload_n rfl rfl ?_
        refine u_getR f_6_39 rfl (Nat.le_of_ble_eq_true rfl) rfl rfl ?_
        refine am_iload_n rfl rfl ?_
        refine am_dup2 rfl rfl rfl ?_
        obtain ⟨j27, ej27, hj27, H⟩ := ck_some H
        refine x_iald rfl (Nat.le_of_ble_eq_true rfl) rfl hj27 ej27 ?_
        refine am_iload_n rfl rfl ?_
        obtain ⟨r28, g29, H1, H⟩ := bd2_some H
        refine cs1i s_6_89 rfl rfl (Nat.le_of_ble_eq_true rfl) (fun _ _ => Nat.le_of_ble_eq_true rfl) (y_X6_blackHalves a3 g26 _ H1 ?_)
        refine am_iadd rfl ?_
        obtain ⟨j30, ej30, hj30, H⟩ := ck_some H
        obtain ⟨g31, eg31, H⟩ := wr_some H
        refine x_iast rfl (Nat.le_of_ble_eq_true rfl) rfl hj30 ej30 eg31 ?_
        have H := Option.some.inj H
        subst H
        exact am_drop (L' := [some (.ref 15), none, some (.int a2), some (.int a3)]) (And.intro rfl (And.intro rfl (And.intro rfl trivial))) K
    have H := H1
    clear H1
    refine am_if_ne rfl (fun c33 => ?_) (fun c33 => ?_)
    · have H := it_neg c33 H
      have H := Option.some.inj H
      subst H
      exact am_drop (L' := [some (.ref 15), some (.int a1), some (.int a2), some (.int a3)]) (And.intro rfl (And.intro rfl (And.intro rfl (And.intro rfl trivial)))) K
    · have H := it_pos c33 H
      refine am_aload_n rfl rfl ?_
      refine u_getR f_6_36 rfl (Nat.le_of_ble_eq_true rfl) rfl rfl ?_
      refine am_iload_n rfl rfl ?_
      refine am_dup2 rfl rfl rfl ?_
      obtain ⟨j34, ej34, hj34, H⟩ := ck_some H
      refine x_iald rfl (Nat.le_of_ble_eq_true rfl) rfl hj34 ej34 ?_
      refine x_iconst (v := (1 : Int32)) rfl (by decide) ?_
      refine am_iadd rfl ?_
      obtain ⟨j35, ej35, hj35, H⟩ := ck_some H
      obtain ⟨g36, eg36, H⟩ := wr_some H
      refine x_iast rfl (Nat.le_of_ble_eq_true rfl) rfl hj35 ej35 eg36 ?_
      have H := Option.some.inj H
      subst H
      exact am_drop (L' := [some (.ref 15), some (.int a1), some (.int a2), some (.int a3)]) (And.intro rfl (And.intro rfl (And.intro rfl (And.intro rfl trivial)))) K
  have H := H1
  clear H1
  refine am_icmp_ne rfl (fun c38 => ?_) (fun c38 => ?_)
  · have H := it_neg c38 H
    have H := Option.some.inj H
    subst H
    exact am_drop (L' := [some (.ref 15), some (.int a1), some (.int a2), some (.int a3)]) (And.intro rfl (And.intro rfl (And.intro rfl (And.intro rfl trivial)))) K
  · have H := it_pos c38 H
    refine am_aload_n rfl rfl ?_
    refine u_getR f_6_36 rfl (Nat.le_of_ble_eq_true rfl) rfl rfl ?_
    refine am_iload_n rfl rfl ?_
    refine am_dup2 rfl rfl rfl ?_
    obtain ⟨j39, ej39, hj39, H⟩ := ck_some H
    refine x_iald rfl (Nat.le_of_ble_eq_true rfl) rfl hj39 ej39 ?_
    refine x_iconst (v := (1 : Int32)) rfl (by decide) ?_
    refine am_iadd rfl ?_
    obtain ⟨j40, ej40, hj40, H⟩ := ck_some H
    obtain ⟨g41, eg41, H⟩ := wr_some H
    refine x_iast rfl (Nat.le_of_ble_eq_true rfl) rfl hj40 ej40 eg41 ?_
    have H := Option.some.inj H
    subst H
    exact am_drop (L' := [some (.ref 15), some (.int a1), some (.int a2), some (.int a3)]) (And.intro rfl (And.intro rfl (And.intro rfl (And.intro rfl trivial)))) K
def f_X6_tally (t1 : Nat) (g : G) : Option (Int32 × G) := bd2 (f_J7_fill_53178 20 24 (0 : Int32) g) fun r1 g2 => bd2 (f_J7_fill_53178 21 24 (0 : Int32) g2) fun r3 g4 => bd2 (f_J7_fill_53178 24 24 (0 : Int32) g4) fun r5 g6 => bd2 (f_J7_fill_53178 25 24 (0 : Int32) g6) fun r7 g8 => bd2 (f_J7_fill_53178 26 24 (0 : Int32) g8) fun r9 g10 => bd (lp (fun (s13 : Int32 × G) => (if (s13.2 t1 2) ≤ s13.1 then some (.inr (s13.2)) else bd (lp (fun (s19 : Int32 × G) => (ck s13.1 6 fun j22 => if (s19.2 (t1 + 5) j22) ≤ s19.1 then some (.inr (s19.2)) else ck ((s13.1 * (5 : Int32)) + s19.1) 30 fun j24 => bd ((if (s19.2 (t1 + 8) j24) = (99 : Int32) then some (s19.2) else ck ((s13.1 * (5 : Int32)) + s19.1) 30 fun j28 => ck ((s13.1 * (5 : Int32)) + s19.1) 30 fun j29 => ck ((s13.1 * (5 : Int32)) + s19.1) 30 fun j30 => bd2 (f_X6_tallyPair (s19.2 (t1 + 7) j28) (s19.2 (t1 + 8) j29) (s19.2 17 j30) s19.2) fun r31 g32 => some (g32) : Option (G))) fun (s26 : G) => some (.inl ((s19.1 + (1 : Int32)), s26)) : Option ((Int32 × G) ⊕ (G)))) 2000 ((0 : Int32), s13.2)) fun (s21 : G) => some (.inl ((s13.1 + (1 : Int32)), s21)) : Option ((Int32 × G) ⊕ (G)))) 2000 ((0 : Int32), g10)) fun (s15 : G) => some (((0 : Int32), s15))
set_option maxHeartbeats 4000000 in
set_option maxRecDepth 100000 in
theorem y_X6_tally (t1 : Nat) (ht1 : isT t1) (g : G) (q : Int32 × G) {post : Int32 → G → Prop} (H : f_X6_tally t1 g = some q) (K : post q.1 q.2) : Y m_X6_tally 3 [.ref 15, .ref t1] g post := by
  refine Y_of ok_X6_tally pn_6 rfl (by decide) (Or.inl rfl) (List.forall_mem_cons.mpr ⟨rfl, (List.forall_mem_cons.mpr ⟨rfl, (fun _ h => absurd h List.not_mem_nil)⟩)⟩) (Nat.le_of_ble_eq_true rfl) ?_
  show u_V m_X6_tally 3 post 0 [some (.ref 15), some (.ref t1), none, none, none] [] g
  unfold f_X6_tally at H
  refine am_aload_n rfl rfl ?_
  refine u_getR f_6_24 rfl (Nat.le_of_ble_eq_true rfl) rfl rfl ?_
  refine x_iconst (v := (0 : Int32)) rfl (by decide) ?_
  obtain ⟨r1, g2, H1, H⟩ := bd2_some H
  refine cs2v s_6_45 rfl rfl (Nat.le_of_ble_eq_true rfl) (fun _ _ => Nat.le_of_ble_eq_true rfl) (y_J7_fill_53178 20 24 (0 : Int32) (Nat.le_of_ble_eq_true rfl) rfl g _ H1 ?_)
  refine am_aload_n rfl rfl ?_
  refine u_getR f_6_27 rfl (Nat.le_of_ble_eq_true rfl) rfl rfl ?_
  refine x_iconst (v := (0 : Int32)) rfl (by decide) ?_
  obtain ⟨r3, g4, H1, H⟩ := bd2_some H
  refine cs2v s_6_45 rfl rfl (Nat.le_of_ble_eq_true rfl) (fun _ _ => Nat.le_of_ble_eq_true rfl) (y_J7_fill_53178 21 24 (0 : Int32) (Nat.le_of_ble_eq_true rfl) rfl g2 _ H1 ?_)
  refine am_aload_n rfl rfl ?_
  refine u_getR f_6_36 rfl (Nat.le_of_ble_eq_true rfl) rfl rfl ?_
  refine x_iconst (v := (0 : Int32)) rfl (by decide) ?_
  obtain ⟨r5, g6, H1, H⟩ := bd2_some H
  refine cs2v s_6_45 rfl rfl (Nat.le_of_ble_eq_true rfl) (fun _ _ => Nat.le_of_ble_eq_true rfl) (y_J7_fill_53178 24 24 (0 : Int32) (Nat.le_of_ble_eq_true rfl) rfl g4 _ H1 ?_)
  refine am_aload_n rfl rfl ?_
  refine u_getR f_6_39 rfl (Nat.le_of_ble_eq_true rfl) rfl rfl ?_
  refine x_iconst (v := (0 : Int32)) rfl (by decide) ?_
  obtain ⟨r7, g8, H1, H⟩ := bd2_some H
  refine cs2v s_6_45 rfl rfl (Nat.le_of_ble_eq_true rfl) (fun _ _ => Nat.le_of_ble_eq_true rfl) (y_J7_fill_53178 25 24 (0 : Int32) (Nat.le_of_ble_eq_true rfl) rfl g6 _ H1 ?_)
  refine am_aload_n rfl rfl ?_
  refine u_getR f_6_42 rfl (Nat.le_of_ble_eq_true rfl) rfl rfl ?_
  refine x_iconst (v := (0 : Int32)) rfl (by decide) ?_
  obtain ⟨r9, g10, H1, H⟩ := bd2_some H
  refine cs2v s_6_45 rfl rfl (Nat.le_of_ble_eq_true rfl) (fun _ _ => Nat.le_of_ble_eq_true rfl) (y_J7_fill_53178 26 24 (0 : Int32) (Nat.le_of_ble_eq_true rfl) rfl g8 _ H1 ?_)
  refine x_iconst (v := (0 : Int32)) rfl (by decide) ?_
  refine am_istore_n rfl (Nat.le_of_ble_eq_true rfl) ?_
  obtain ⟨s35, H1, H⟩ := bd_some H
  have K2 : (fun (s15 : G) => u_V m_X6_tally 3 post 118 [none, none, none, none, none] [] s15) s35 := by
    clear H1
    obtain ⟨g14, e_g14⟩ : ∃ z, z = s35 := ⟨_, rfl⟩
    subst e_g14
    (try dsimp only at H); (try dsimp only)
    have H := Option.some.inj H
    subst H
    exact u_vret rfl rfl K
  refine am_drop (L' := [some (.ref 15), some (.ref t1), some (.int (0 : Int32)), none, none]) (And.intro rfl (And.intro rfl (And.intro rfl trivial))) ?_
  refine lp_ind (P := (fun (s13 : Int32 × G) => u_V m_X6_tally 3 post 42 [some (.ref 15), some (.ref t1), some (.int s13.1), none, none] [] s13.2)) (Q := (fun (s15 : G) => u_V m_X6_tally 3 post 118 [none, none, none, none, none] [] s15)) ?_ 2000 ((0 : Int32), g10) s35 H1 K2
  clear H1 H K
  intro s13 s35b H K
  obtain ⟨x11, g12⟩ := s13
  (try dsimp only at H); (try dsimp only)
  refine am_iload_n rfl rfl ?_
  refine am_aload_n rfl rfl ?_
  refine u_getI f_6_73 rfl (isT_lt0 ht1) (sk_T ht1) rfl ?_
  refine am_icmp_ge rfl (fun c16 => ?_) (fun c16 => ?_)
  · have H := it_pos c16 H
    have H := Option.some.inj H
    subst H
    exact am_drop (L' := [none, none, none, none, none]) trivial K
  · have H := it_neg c16 H
    refine x_iconst (v := (0 : Int32)) rfl (by decide) ?_
    refine am_istore_n rfl (Nat.le_of_ble_eq_true rfl) ?_
    obtain ⟨s34, H1, H⟩ := bd_some H
    have K2 : (fun (s21 : G) => u_V m_X6_tally 3 post 112 [some (.ref 15), some (.ref t1), some (.int x11), none, none] [] s21) s34 := by
      clear H1
      obtain ⟨g20, e_g20⟩ : ∃ z, z = s34 := ⟨_, rfl⟩
      subst e_g20
      (try dsimp only at H); (try dsimp only)
      refine x_iinc (v := (x11 + (1 : Int32))) rfl rfl (Nat.le_of_ble_eq_true rfl) rfl ?_
      refine am_goto rfl ?_
      have H := Option.some.inj H
      subst H
      exact am_drop (L' := [some (.ref 15), some (.ref t1), some (.int (x11 + (1 : Int32))), none, none]) (And.intro rfl (And.intro rfl (And.intro rfl trivial))) K
    refine am_drop (L' := [some (.ref 15), some (.ref t1), some (.int x11), some (.int (0 : Int32)), none]) (And.intro rfl (And.intro rfl (And.intro rfl (And.intro rfl trivial)))) ?_
    refine lp_ind (P := (fun (s19 : Int32 × G) => u_V m_X6_tally 3 post 52 [some (.ref 15), some (.ref t1), some (.int x11), some (.int s19.1), none] [] s19.2)) (Q := (fun (s21 : G) => u_V m_X6_tally 3 post 112 [some (.ref 15), some (.ref t1), some (.int x11), none, none] [] s21)) ?_ 2000 ((0 : Int32), g12) s34 H1 K2
    clear H1 H K
    intro s19 s34b H K
    obtain ⟨x17, g18⟩ := s19
    (try dsimp only at H); (try dsimp only)
    refine am_iload_n rfl rfl ?_
    refine am_aload_n rfl rfl ?_
    refine u_getR f_6_76 rfl (isT_lt0 ht1) (sk_T ht1) rfl ?_
    refine am_iload_n rfl rfl ?_
    obtain ⟨j22, ej22, hj22, H⟩ := ck_some H
    refine x_iald rfl (isT_lt ht1 (Nat.le_of_ble_eq_true rfl)) (sk_A ht1 (Nat.le_of_ble_eq_true rfl) (Nat.le_of_ble_eq_true rfl)) hj22 ej22 ?_
    refine am_icmp_ge rfl (fun c23 => ?_) (fun c23 => ?_)
    · have H := it_pos c23 H
      have H := Option.some.inj H
      subst H
      exact am_drop (L' := [some (.ref 15), some (.ref t1), some (.int x11), none, none]) (And.intro rfl (And.intro rfl (And.intro rfl trivial))) K
    · have H := it_neg c23 H
      refine am_iload_n rfl rfl ?_
      refine x_iconst (v := (5 : Int32)) rfl (by decide) ?_
      refine am_imul rfl ?_
      refine am_iload_n rfl rfl ?_
      refine am_iadd rfl ?_
      refine am_istore rfl (Nat.le_of_ble_eq_true rfl) ?_
      refine am_aload_n rfl rfl ?_
      refine u_getR f_6_79 rfl (isT_lt0 ht1) (sk_T ht1) rfl ?_
      refine am_iload rfl rfl ?_
      obtain ⟨j24, ej24, hj24, H⟩ := ck_some H
      refine x_iald rfl (isT_lt ht1 (Nat.le_of_ble_eq_true rfl)) (sk_A ht1 (Nat.le_of_ble_eq_true rfl) (Nat.le_of_ble_eq_true rfl)) hj24 ej24 ?_
      refine x_bipush (v := (99 : Int32)) rfl (by decide) ?_
      obtain ⟨s33, H1, H⟩ := bd_some H
      have K : (fun (s26 : G) => u_V m_X6_tally 3 post 106 [some (.ref 15), some (.ref t1), some (.int x11), some (.int x17), none] [] s26) s33 := by
        clear H1
        obtain ⟨g25, e_g25⟩ : ∃ z, z = s33 := ⟨_, rfl⟩
        subst e_g25
        (try dsimp only at H); (try dsimp only)
        refine x_iinc (v := (x17 + (1 : Int32))) rfl rfl (Nat.le_of_ble_eq_true rfl) rfl ?_
        refine am_goto rfl ?_
        have H := Option.some.inj H
        subst H
        exact am_drop (L' := [some (.ref 15), some (.ref t1), some (.int x11), some (.int (x17 + (1 : Int32))), none]) (And.intro rfl (And.intro rfl (And.intro rfl (And.intro rfl trivial)))) K
      have H := H1
      clear H1
      refine am_icmp_eq rfl (fun c27 => ?_) (fun c27 => ?_)
      · have H := it_pos c27 H
        have H := Option.some.inj H
        subst H
        exact am_drop (L' := [some (.ref 15), some (.ref t1), some (.int x11), some (.int x17), none]) (And.intro rfl (And.intro rfl (And.intro rfl (And.intro rfl trivial)))) K
      · have H := it_neg c27 H
        refine am_aload_n rfl rfl ?_
        refine am_aload_n rfl rfl ?_
        refine u_getR f_6_82 rfl (isT_lt0 ht1) (sk_T ht1) rfl ?_
        refine am_iload rfl rfl ?_
        obtain ⟨j28, ej28, hj28, H⟩ := ck_some H
        refine x_iald rfl (isT_lt ht1 (Nat.le_of_ble_eq_true rfl)) (sk_A ht1 (Nat.le_of_ble_eq_true rfl) (Nat.le_of_ble_eq_true rfl)) hj28 ej28 ?_
        refine am_aload_n rfl rfl ?_
        refine u_getR f_6_79 rfl (isT_lt0 ht1) (sk_T ht1) rfl ?_
        refine am_iload rfl rfl ?_
        obtain ⟨j29, ej29, hj29, H⟩ := ck_some H
        refine x_iald rfl (isT_lt ht1 (Nat.le_of_ble_eq_true rfl)) (sk_A ht1 (Nat.le_of_ble_eq_true rfl) (Nat.le_of_ble_eq_true rfl)) hj29 ej29 ?_
        refine am_aload_n rfl rfl ?_
        refine u_getR f_6_15 rfl (Nat.le_of_ble_eq_true rfl) rfl rfl ?_
        refine am_iload rfl rfl ?_
        obtain ⟨j30, ej30, hj30, H⟩ := ck_some H
        refine x_iald rfl (Nat.le_of_ble_eq_true rfl) rfl hj30 ej30 ?_
        obtain ⟨r31, g32, H1, H⟩ := bd2_some H
        refine cv3v v_6_95 rfl rfl (Nat.le_of_ble_eq_true rfl) rfl (Nat.le_of_ble_eq_true rfl) (fun _ _ => Nat.le_of_ble_eq_true rfl) (y_X6_tallyPair (g18 (t1 + 7) j28) (g18 (t1 + 8) j29) (g18 17 j30) g18 _ H1 ?_)
        have H := Option.some.inj H
        subst H
        exact am_drop (L' := [some (.ref 15), some (.ref t1), some (.int x11), some (.int x17), none]) (And.intro rfl (And.intro rfl (And.intro rfl (And.intro rfl trivial)))) K
def f_X6_amountOf (a1 : Int32) (a2 : Int32) (g : G) : Option (Int32 × G) := if a1 = (1 : Int32) then ck a2 24 fun j2 => some (((g 21 j2), g)) else if a1 = (2 : Int32) then ck a2 24 fun j4 => if (3 : Int32) ≤ (g 20 j4) then ck a2 24 fun j6 => ck a2 24 fun j7 => ck a2 24 fun j8 => some (((((g 21 j6) - (g 22 j7)) - (g 23 j8)), g)) else some (((0 : Int32), g)) else if a1 = (3 : Int32) then ck a2 24 fun j10 => some (((g 24 j10), g)) else if a1 = (4 : Int32) then ck a2 24 fun j12 => some (((g 25 j12), g)) else ck a2 24 fun j13 => some (((g 26 j13), g))
set_option maxHeartbeats 4000000 in
set_option maxRecDepth 100000 in
theorem y_X6_amountOf (a1 : Int32) (a2 : Int32)  (g : G) (q : Int32 × G) {post : Int32 → G → Prop} (H : f_X6_amountOf a1 a2 g = some q) (K : post q.1 q.2) : Y m_X6_amountOf 0 [.ref 15, .int a1, .int a2] g post := by
  refine Y_of ok_X6_amountOf pn_6 rfl (by decide) (Or.inr (Or.inl rfl)) (List.forall_mem_cons.mpr ⟨rfl, (List.forall_mem_cons.mpr ⟨rfl, (List.forall_mem_cons.mpr ⟨rfl, (fun _ h => absurd h List.not_mem_nil)⟩)⟩)⟩) (Nat.le_of_ble_eq_true rfl) ?_
  show u_V m_X6_amountOf 0 post 0 [some (.ref 15), some (.int a1), some (.int a2)] [] g
  unfold f_X6_amountOf at H
  refine am_iload_n rfl rfl ?_
  by_cases c1 : a1 = (1 : Int32)
  · have H := it_pos c1 H
    refine am_tsw1 (j := 0) rfl c1 (by decide +kernel) rfl rfl ?_
    refine am_aload_n rfl rfl ?_
    refine u_getR f_6_27 rfl (Nat.le_of_ble_eq_true rfl) rfl rfl ?_
    refine am_iload_n rfl rfl ?_
    obtain ⟨j2, ej2, hj2, H⟩ := ck_some H
    refine x_iald rfl (Nat.le_of_ble_eq_true rfl) rfl hj2 ej2 ?_
    have H := Option.some.inj H
    subst H
    exact u_iret rfl rfl K
  have H := it_neg c1 H
  by_cases c3 : a1 = (2 : Int32)
  · have H := it_pos c3 H
    refine am_tsw1 (j := 1) rfl c3 (by decide +kernel) rfl rfl ?_
    refine am_aload_n rfl rfl ?_
    refine u_getR f_6_24 rfl (Nat.le_of_ble_eq_true rfl) rfl rfl ?_
    refine am_iload_n rfl rfl ?_
    obtain ⟨j4, ej4, hj4, H⟩ := ck_some H
    refine x_iald rfl (Nat.le_of_ble_eq_true rfl) rfl hj4 ej4 ?_
    refine x_iconst (v := (3 : Int32)) rfl (by decide) ?_
    refine am_icmp_ge rfl (fun c5 => ?_) (fun c5 => ?_)
    · have H := it_pos c5 H
      refine am_aload_n rfl rfl ?_
      refine u_getR f_6_27 rfl (Nat.le_of_ble_eq_true rfl) rfl rfl ?_
      refine am_iload_n rfl rfl ?_
      obtain ⟨j6, ej6, hj6, H⟩ := ck_some H
      refine x_iald rfl (Nat.le_of_ble_eq_true rfl) rfl hj6 ej6 ?_
      refine am_aload_n rfl rfl ?_
      refine u_getR f_6_30 rfl (Nat.le_of_ble_eq_true rfl) rfl rfl ?_
      refine am_iload_n rfl rfl ?_
      obtain ⟨j7, ej7, hj7, H⟩ := ck_some H
      refine x_iald rfl (Nat.le_of_ble_eq_true rfl) rfl hj7 ej7 ?_
      refine am_isub rfl ?_
      refine am_aload_n rfl rfl ?_
      refine u_getR f_6_33 rfl (Nat.le_of_ble_eq_true rfl) rfl rfl ?_
      refine am_iload_n rfl rfl ?_
      obtain ⟨j8, ej8, hj8, H⟩ := ck_some H
      refine x_iald rfl (Nat.le_of_ble_eq_true rfl) rfl hj8 ej8 ?_
      refine am_isub rfl ?_
      have H := Option.some.inj H
      subst H
      exact u_iret rfl rfl K
    · have H := it_neg c5 H
      refine x_iconst (v := (0 : Int32)) rfl (by decide) ?_
      refine am_goto rfl ?_
      have H := Option.some.inj H
      subst H
      exact u_iret rfl rfl K
  have H := it_neg c3 H
  by_cases c9 : a1 = (3 : Int32)
  · have H := it_pos c9 H
    refine am_tsw1 (j := 2) rfl c9 (by decide +kernel) rfl rfl ?_
    refine am_aload_n rfl rfl ?_
    refine u_getR f_6_36 rfl (Nat.le_of_ble_eq_true rfl) rfl rfl ?_
    refine am_iload_n rfl rfl ?_
    obtain ⟨j10, ej10, hj10, H⟩ := ck_some H
    refine x_iald rfl (Nat.le_of_ble_eq_true rfl) rfl hj10 ej10 ?_
    have H := Option.some.inj H
    subst H
    exact u_iret rfl rfl K
  have H := it_neg c9 H
  by_cases c11 : a1 = (4 : Int32)
  · have H := it_pos c11 H
    refine am_tsw1 (j := 3) rfl c11 (by decide +kernel) rfl rfl ?_
    refine am_aload_n rfl rfl ?_
    refine u_getR f_6_39 rfl (Nat.le_of_ble_eq_true rfl) rfl rfl ?_
    refine am_iload_n rfl rfl ?_
    obtain ⟨j12, ej12, hj12, H⟩ := ck_some H
    refine x_iald rfl (Nat.le_of_ble_eq_true rfl) rfl hj12 ej12 ?_
    have H := Option.some.inj H
    subst H
    exact u_iret rfl rfl K
  have H := it_neg c11 H
  refine am_tswD rfl rfl (am_out (lo := 1) 4 (And.intro c11 (And.intro c9 (And.intro c3 (And.intro c1 trivial))))) ?_
  refine am_aload_n rfl rfl ?_
  refine u_getR f_6_42 rfl (Nat.le_of_ble_eq_true rfl) rfl rfl ?_
  refine am_iload_n rfl rfl ?_
  obtain ⟨j13, ej13, hj13, H⟩ := ck_some H
  refine x_iald rfl (Nat.le_of_ble_eq_true rfl) rfl hj13 ej13 ?_
  have H := Option.some.inj H
  subst H
  exact u_iret rfl rfl K
def f_X6_parting (t1 : Nat) (a2 : Int32) (a3 : Int32) (g : G) : Option (Int32 × G) := ck a2 24 fun j1 => ck a3 24 fun j2 => if (g 19 j1) = (g 19 j2) then bd (lp (fun (s6 : Int32 × G) => (if (4 : Int32) < s6.1 then some (.inr (.inr (((0 : Int32), s6.2)))) else ck s6.1 5 fun j13 => bd ((if (s6.2 (t1 + 3) j13) = 0 then some (((0 : Int32), s6.2)) else bd2 (f_X6_amountOf (s6.2 (t1 + 3) j13) a2 s6.2) fun r26 g27 => some ((r26, g27)) : Option (Int32 × G))) fun (s16 : Int32 × G) => bd ((if (s6.2 (t1 + 3) j13) = 0 then some (((0 : Int32), s16.2)) else bd2 (f_X6_amountOf (s6.2 (t1 + 3) j13) a3 s16.2) fun r22 g23 => some ((r22, g23)) : Option (Int32 × G))) fun (s19 : Int32 × G) => if s16.1 = s19.1 then some (.inl ((s6.1 + (1 : Int32)), s19.2)) else some (.inr (.inl (s6.1, s16.1, s19.1, s19.2))) : Option ((Int32 × G) ⊕ ((Int32 × Int32 × Int32 × G) ⊕ (Int32 × G))))) 2000 ((1 : Int32), g)) fun s29m => (match s29m with | .inl s11 => (if s11.2.1 ≤ s11.2.2.1 then some (((((10 : Int32) * s11.1) + (2 : Int32)), s11.2.2.2)) else some (((((10 : Int32) * s11.1) + (1 : Int32)), s11.2.2.2))) | .inr y => some y) else ck a2 24 fun j31 => ck a3 24 fun j32 => if (g 19 j31) ≤ (g 19 j32) then some (((2 : Int32), g)) else some (((1 : Int32), g))
set_option maxHeartbeats 4000000 in
set_option maxRecDepth 100000 in
theorem y_X6_parting (t1 : Nat) (a2 : Int32) (a3 : Int32) (ht1 : isT t1) (g : G) (q : Int32 × G) {post : Int32 → G → Prop} (H : f_X6_parting t1 a2 a3 g = some q) (K : post q.1 q.2) : Y m_X6_parting 1 [.ref 15, .ref t1, .int a2, .int a3] g post := by
  refine Y_of ok_X6_parting pn_6 rfl (by decide) (Or.inr (Or.inl rfl)) (List.forall_mem_cons.mpr ⟨rfl, (List.forall_mem_cons.mpr ⟨rfl, (List.forall_mem_cons.mpr ⟨rfl, (List.forall_mem_cons.mpr ⟨rfl, (fun _ h => absurd h List.not_mem_nil)⟩)⟩)⟩)⟩) (Nat.le_of_ble_eq_true rfl) ?_
  show u_V m_X6_parting 1 post 0 [some (.ref 15), some (.ref t1), some (.int a2), some (.int a3), none, none, none, none] [] g
  unfold f_X6_parting at H
  refine am_aload_n rfl rfl ?_
  refine u_getR f_6_21 rfl (Nat.le_of_ble_eq_true rfl) rfl rfl ?_
  refine am_iload_n rfl rfl ?_
  obtain ⟨j1, ej1, hj1, H⟩ := ck_some H
  refine x_iald rfl (Nat.le_of_ble_eq_true rfl) rfl hj1 ej1 ?_
  refine am_aload_n rfl rfl ?_
  refine u_getR f_6_21 rfl (Nat.le_of_ble_eq_true rfl) rfl rfl ?_
  refine am_iload_n rfl rfl ?_
  obtain ⟨j2, ej2, hj2, H⟩ := ck_some H
  refine x_iald rfl (Nat.le_of_ble_eq_true rfl) rfl hj2 ej2 ?_
  refine am_icmp_eq rfl (fun c3 => ?_) (fun c3 => ?_)
  · have H := it_pos c3 H
    refine x_iconst (v := (1 : Int32)) rfl (by decide) ?_
    refine am_istore rfl (Nat.le_of_ble_eq_true rfl) ?_
    obtain ⟨s29, H1, H⟩ := bd_some H
    have K2 : (Sum.elim (fun (s11 : Int32 × Int32 × Int32 × G) => u_V m_X6_parting 1 post 97 [none, none, none, none, some (.int s11.1), none, some (.int s11.2.1), some (.int s11.2.2.1)] [] s11.2.2.2) (fun (q : Int32 × G) => post q.1 q.2)) s29 := by
      clear H1
      cases s29 with
      | inl s11 =>
        obtain ⟨x7, x8, x9, g10⟩ := s11
        (try dsimp only at H); (try dsimp only)
        refine x_bipush (v := (10 : Int32)) rfl (by decide) ?_
        refine am_iload rfl rfl ?_
        refine am_imul rfl ?_
        refine am_iload rfl rfl ?_
        refine am_iload rfl rfl ?_
        refine am_icmp_le rfl (fun c30 => ?_) (fun c30 => ?_)
        · have H := it_pos c30 H
          refine x_iconst (v := (2 : Int32)) rfl (by decide) ?_
          refine am_iadd rfl ?_
          have H := Option.some.inj H
          subst H
          exact u_iret rfl rfl K
        · have H := it_neg c30 H
          refine x_iconst (v := (1 : Int32)) rfl (by decide) ?_
          refine am_goto rfl ?_
          refine am_iadd rfl ?_
          have H := Option.some.inj H
          subst H
          exact u_iret rfl rfl K
      | inr y =>
        have H := Option.some.inj H
        subst H
        exact K
    refine am_drop (L' := [some (.ref 15), some (.ref t1), some (.int a2), some (.int a3), some (.int (1 : Int32)), none, none, none]) (And.intro rfl (And.intro rfl (And.intro rfl (And.intro rfl (And.intro rfl trivial))))) ?_
    refine lp_ind (P := (fun (s6 : Int32 × G) => u_V m_X6_parting 1 post 39 [some (.ref 15), some (.ref t1), some (.int a2), some (.int a3), some (.int s6.1), none, none, none] [] s6.2)) (Q := (Sum.elim (fun (s11 : Int32 × Int32 × Int32 × G) => u_V m_X6_parting 1 post 97 [none, none, none, none, some (.int s11.1), none, some (.int s11.2.1), some (.int s11.2.2.1)] [] s11.2.2.2) (fun (q : Int32 × G) => post q.1 q.2))) ?_ 2000 ((1 : Int32), g) s29 H1 K2
    clear H1 H K
    intro s6 s29b H K
    obtain ⟨x4, g5⟩ := s6
    (try dsimp only at H); (try dsimp only)
    refine am_iload rfl rfl ?_
    refine x_iconst (v := (4 : Int32)) rfl (by decide) ?_
    refine am_icmp_gt rfl (fun c12 => ?_) (fun c12 => ?_)
    · have H := it_pos c12 H
      refine x_iconst (v := (0 : Int32)) rfl (by decide) ?_
      have H := Option.some.inj H
      subst H
      exact u_iret rfl rfl K
    · have H := it_neg c12 H
      refine am_aload_n rfl rfl ?_
      refine u_getR f_6_116 rfl (isT_lt0 ht1) (sk_T ht1) rfl ?_
      refine am_iload rfl rfl ?_
      obtain ⟨j13, ej13, hj13, H⟩ := ck_some H
      refine x_iald rfl (isT_lt ht1 (Nat.le_of_ble_eq_true rfl)) (sk_A ht1 (Nat.le_of_ble_eq_true rfl) (Nat.le_of_ble_eq_true rfl)) hj13 ej13 ?_
      refine am_istore rfl (Nat.le_of_ble_eq_true rfl) ?_
      refine am_iload rfl rfl ?_
      obtain ⟨s28, H1, H⟩ := bd_some H
      have K : (fun (s16 : Int32 × G) => u_V m_X6_parting 1 post 70 [some (.ref 15), some (.ref t1), some (.int a2), some (.int a3), some (.int x4), some (.int (g5 (t1 + 3) j13)), none, none] [.int s16.1] s16.2) s28 := by
        clear H1
        obtain ⟨x14, g15⟩ := s28
        (try dsimp only at H); (try dsimp only)
        refine am_istore rfl (Nat.le_of_ble_eq_true rfl) ?_
        refine am_iload rfl rfl ?_
        obtain ⟨s24, H1, H⟩ := bd_some H
        have K : (fun (s19 : Int32 × G) => u_V m_X6_parting 1 post 88 [some (.ref 15), some (.ref t1), some (.int a2), some (.int a3), some (.int x4), none, some (.int x14), none] [.int s19.1] s19.2) s24 := by
          clear H1
          obtain ⟨x17, g18⟩ := s24
          (try dsimp only at H); (try dsimp only)
          refine am_istore rfl (Nat.le_of_ble_eq_true rfl) ?_
          refine am_iload rfl rfl ?_
          refine am_iload rfl rfl ?_
          refine am_icmp_eq rfl (fun c20 => ?_) (fun c20 => ?_)
          · have H := it_pos c20 H
            refine x_iinc (v := (x4 + (1 : Int32))) rfl rfl (Nat.le_of_ble_eq_true rfl) rfl ?_
            refine am_goto rfl ?_
            have H := Option.some.inj H
            subst H
            exact am_drop (L' := [some (.ref 15), some (.ref t1), some (.int a2), some (.int a3), some (.int (x4 + (1 : Int32))), none, none, none]) (And.intro rfl (And.intro rfl (And.intro rfl (And.intro rfl (And.intro rfl trivial))))) K
          · have H := it_neg c20 H
            have H := Option.some.inj H
            subst H
            exact am_drop (L' := [none, none, none, none, some (.int x4), none, some (.int x14), some (.int x17)]) (And.intro rfl (And.intro rfl (And.intro rfl trivial))) K
        have H := H1
        clear H1
        refine am_if_ne rfl (fun c21 => ?_) (fun c21 => ?_)
        · have H := it_neg c21 H
          refine am_aload_n rfl rfl ?_
          refine am_iload rfl rfl ?_
          refine am_iload_n rfl rfl ?_
          obtain ⟨r22, g23, H1, H⟩ := bd2_some H
          refine cv2i v_6_119 rfl rfl (Nat.le_of_ble_eq_true rfl) rfl (Nat.le_of_ble_eq_true rfl) (fun _ _ => Nat.le_of_ble_eq_true rfl) (y_X6_amountOf (g5 (t1 + 3) j13) a3 g15 _ H1 ?_)
          have H := Option.some.inj H
          subst H
          exact am_drop (L' := [some (.ref 15), some (.ref t1), some (.int a2), some (.int a3), some (.int x4), none, some (.int x14), none]) (And.intro rfl (And.intro rfl (And.intro rfl (And.intro rfl (And.intro rfl (And.intro rfl trivial)))))) K
        · have H := it_pos c21 H
          refine x_iconst (v := (0 : Int32)) rfl (by decide) ?_
          refine am_goto rfl ?_
          have H := Option.some.inj H
          subst H
          exact am_drop (L' := [some (.ref 15), some (.ref t1), some (.int a2), some (.int a3), some (.int x4), none, some (.int x14), none]) (And.intro rfl (And.intro rfl (And.intro rfl (And.intro rfl (And.intro rfl (And.intro rfl trivial)))))) K
      have H := H1
      clear H1
      refine am_if_ne rfl (fun c25 => ?_) (fun c25 => ?_)
      · have H := it_neg c25 H
        refine am_aload_n rfl rfl ?_
        refine am_iload rfl rfl ?_
        refine am_iload_n rfl rfl ?_
        obtain ⟨r26, g27, H1, H⟩ := bd2_some H
        refine cv2i v_6_119 rfl rfl (Nat.le_of_ble_eq_true rfl) rfl (Nat.le_of_ble_eq_true rfl) (fun _ _ => Nat.le_of_ble_eq_true rfl) (y_X6_amountOf (g5 (t1 + 3) j13) a2 g5 _ H1 ?_)
        have H := Option.some.inj H
        subst H
        exact am_drop (L' := [some (.ref 15), some (.ref t1), some (.int a2), some (.int a3), some (.int x4), some (.int (g5 (t1 + 3) j13)), none, none]) (And.intro rfl (And.intro rfl (And.intro rfl (And.intro rfl (And.intro rfl (And.intro rfl trivial)))))) K
      · have H := it_pos c25 H
        refine x_iconst (v := (0 : Int32)) rfl (by decide) ?_
        refine am_goto rfl ?_
        have H := Option.some.inj H
        subst H
        exact am_drop (L' := [some (.ref 15), some (.ref t1), some (.int a2), some (.int a3), some (.int x4), some (.int (g5 (t1 + 3) j13)), none, none]) (And.intro rfl (And.intro rfl (And.intro rfl (And.intro rfl (And.intro rfl (And.intro rfl trivial)))))) K
  · have H := it_neg c3 H
    refine am_aload_n rfl rfl ?_
    refine u_getR f_6_21 rfl (Nat.le_of_ble_eq_true rfl) rfl rfl ?_
    refine am_iload_n rfl rfl ?_
    obtain ⟨j31, ej31, hj31, H⟩ := ck_some H
    refine x_iald rfl (Nat.le_of_ble_eq_true rfl) rfl hj31 ej31 ?_
    refine am_aload_n rfl rfl ?_
    refine u_getR f_6_21 rfl (Nat.le_of_ble_eq_true rfl) rfl rfl ?_
    refine am_iload_n rfl rfl ?_
    obtain ⟨j32, ej32, hj32, H⟩ := ck_some H
    refine x_iald rfl (Nat.le_of_ble_eq_true rfl) rfl hj32 ej32 ?_
    refine am_icmp_le rfl (fun c33 => ?_) (fun c33 => ?_)
    · have H := it_pos c33 H
      refine x_iconst (v := (2 : Int32)) rfl (by decide) ?_
      have H := Option.some.inj H
      subst H
      exact u_iret rfl rfl K
    · have H := it_neg c33 H
      refine x_iconst (v := (1 : Int32)) rfl (by decide) ?_
      refine am_goto rfl ?_
      have H := Option.some.inj H
      subst H
      exact u_iret rfl rfl K
def f_X6_aheadOf (t1 : Nat) (a2 : Int32) (g : G) : Option (Int32 × G) := bd (lp (fun (s4 : Int32 × Int32 × G) => (if (s4.2.2 t1 1) ≤ s4.2.1 then some (.inr (s4.1, s4.2.2)) else ck s4.2.1 10 fun j9 => bd2 (f_X6_parting t1 (s4.2.2 (t1 + 1) j9) a2 s4.2.2) fun r10 g11 => bd ((if (r10 - r10 / (10 : Int32) * (10 : Int32)) = (1 : Int32) then some ((s4.1 + (1 : Int32))) else some (s4.1) : Option (Int32))) fun (s13 : Int32) => some (.inl (s13, (s4.2.1 + (1 : Int32)), g11)) : Option ((Int32 × Int32 × G) ⊕ (Int32 × G)))) 2000 ((0 : Int32), (0 : Int32), g)) fun (s7 : Int32 × G) => some ((s7.1, s7.2))
set_option maxHeartbeats 4000000 in
set_option maxRecDepth 100000 in
theorem y_X6_aheadOf (t1 : Nat) (a2 : Int32) (ht1 : isT t1) (g : G) (q : Int32 × G) {post : Int32 → G → Prop} (H : f_X6_aheadOf t1 a2 g = some q) (K : post q.1 q.2) : Y m_X6_aheadOf 2 [.ref 15, .ref t1, .int a2] g post := by
  refine Y_of ok_X6_aheadOf pn_6 rfl (by decide) (Or.inr (Or.inl rfl)) (List.forall_mem_cons.mpr ⟨rfl, (List.forall_mem_cons.mpr ⟨rfl, (List.forall_mem_cons.mpr ⟨rfl, (fun _ h => absurd h List.not_mem_nil)⟩)⟩)⟩) (Nat.le_of_ble_eq_true rfl) ?_
  show u_V m_X6_aheadOf 2 post 0 [some (.ref 15), some (.ref t1), some (.int a2), none, none] [] g
  unfold f_X6_aheadOf at H
  refine x_iconst (v := (0 : Int32)) rfl (by decide) ?_
  refine am_istore_n rfl (Nat.le_of_ble_eq_true rfl) ?_
  refine x_iconst (v := (0 : Int32)) rfl (by decide) ?_
  refine am_istore rfl (Nat.le_of_ble_eq_true rfl) ?_
  obtain ⟨s16, H1, H⟩ := bd_some H
  have K2 : (fun (s7 : Int32 × G) => u_V m_X6_aheadOf 2 post 43 [none, none, none, some (.int s7.1), none] [] s7.2) s16 := by
    clear H1
    obtain ⟨x5, g6⟩ := s16
    (try dsimp only at H); (try dsimp only)
    refine am_iload_n rfl rfl ?_
    have H := Option.some.inj H
    subst H
    exact u_iret rfl rfl K
  refine am_drop (L' := [some (.ref 15), some (.ref t1), some (.int a2), some (.int (0 : Int32)), some (.int (0 : Int32))]) (And.intro rfl (And.intro rfl (And.intro rfl (And.intro rfl (And.intro rfl trivial))))) ?_
  refine lp_ind (P := (fun (s4 : Int32 × Int32 × G) => u_V m_X6_aheadOf 2 post 5 [some (.ref 15), some (.ref t1), some (.int a2), some (.int s4.1), some (.int s4.2.1)] [] s4.2.2)) (Q := (fun (s7 : Int32 × G) => u_V m_X6_aheadOf 2 post 43 [none, none, none, some (.int s7.1), none] [] s7.2)) ?_ 2000 ((0 : Int32), (0 : Int32), g) s16 H1 K2
  clear H1 H K
  intro s4 s16b H K
  obtain ⟨x1, x2, g3⟩ := s4
  (try dsimp only at H); (try dsimp only)
  refine am_iload rfl rfl ?_
  refine am_aload_n rfl rfl ?_
  refine u_getI f_6_122 rfl (isT_lt0 ht1) (sk_T ht1) rfl ?_
  refine am_icmp_ge rfl (fun c8 => ?_) (fun c8 => ?_)
  · have H := it_pos c8 H
    have H := Option.some.inj H
    subst H
    exact am_drop (L' := [none, none, none, some (.int x1), none]) (And.intro rfl trivial) K
  · have H := it_neg c8 H
    refine am_aload_n rfl rfl ?_
    refine am_aload_n rfl rfl ?_
    refine am_aload_n rfl rfl ?_
    refine u_getR f_6_125 rfl (isT_lt0 ht1) (sk_T ht1) rfl ?_
    refine am_iload rfl rfl ?_
    obtain ⟨j9, ej9, hj9, H⟩ := ck_some H
    refine x_iald rfl (isT_lt ht1 (Nat.le_of_ble_eq_true rfl)) (sk_A ht1 (Nat.le_of_ble_eq_true rfl) (Nat.le_of_ble_eq_true rfl)) hj9 ej9 ?_
    refine am_iload_n rfl rfl ?_
    obtain ⟨r10, g11, H1, H⟩ := bd2_some H
    refine cv3i v_6_128 rfl rfl (Nat.le_of_ble_eq_true rfl) rfl (Nat.le_of_ble_eq_true rfl) (fun _ _ => Nat.le_of_ble_eq_true rfl) (y_X6_parting t1 (g3 (t1 + 1) j9) a2 ht1 g3 _ H1 ?_)
    refine x_bipush (v := (10 : Int32)) rfl (by decide) ?_
    refine am_irem rfl (by decide) ?_
    refine x_iconst (v := (1 : Int32)) rfl (by decide) ?_
    obtain ⟨s15, H1, H⟩ := bd_some H
    have K : (fun (s13 : Int32) => u_V m_X6_aheadOf 2 post 37 [some (.ref 15), some (.ref t1), some (.int a2), some (.int s13), some (.int x2)] [] g11) s15 := by
      clear H1
      obtain ⟨x12, e_x12⟩ : ∃ z, z = s15 := ⟨_, rfl⟩
      subst e_x12
      (try dsimp only at H); (try dsimp only)
      refine x_iinc (v := (x2 + (1 : Int32))) rfl rfl (Nat.le_of_ble_eq_true rfl) rfl ?_
      refine am_goto rfl ?_
      have H := Option.some.inj H
      subst H
      exact am_drop (L' := [some (.ref 15), some (.ref t1), some (.int a2), some (.int x12), some (.int (x2 + (1 : Int32)))]) (And.intro rfl (And.intro rfl (And.intro rfl (And.intro rfl (And.intro rfl trivial))))) K
    have H := H1
    clear H1
    refine am_icmp_ne rfl (fun c14 => ?_) (fun c14 => ?_)
    · have H := it_neg c14 H
      have H := Option.some.inj H
      subst H
      exact am_drop (L' := [some (.ref 15), some (.ref t1), some (.int a2), some (.int x1), some (.int x2)]) (And.intro rfl (And.intro rfl (And.intro rfl (And.intro rfl (And.intro rfl trivial))))) K
    · have H := it_pos c14 H
      refine x_iinc (v := (x1 + (1 : Int32))) rfl rfl (Nat.le_of_ble_eq_true rfl) rfl ?_
      have H := Option.some.inj H
      subst H
      exact am_drop (L' := [some (.ref 15), some (.ref t1), some (.int a2), some (.int (x1 + (1 : Int32))), some (.int x2)]) (And.intro rfl (And.intro rfl (And.intro rfl (And.intro rfl (And.intro rfl trivial))))) K
def f_X6_lesserAlike (t1 : Nat) (a2 : Int32) (g : G) : Option (Int32 × G) := bd (lp (fun (s4 : Int32 × Int32 × G) => (if (s4.2.2 t1 1) ≤ s4.2.1 then some (.inr (s4.1, s4.2.2)) else ck s4.2.1 10 fun j9 => bd ((if a2 ≤ (s4.2.2 (t1 + 1) j9) then some ((s4.1, s4.2.2)) else bd2 (f_X6_parting t1 (s4.2.2 (t1 + 1) j9) a2 s4.2.2) fun r14 g15 => if r14 = 0 then some (((s4.1 + (1 : Int32)), g15)) else some ((s4.1, g15)) : Option (Int32 × G))) fun (s12 : Int32 × G) => some (.inl (s12.1, (s4.2.1 + (1 : Int32)), s12.2)) : Option ((Int32 × Int32 × G) ⊕ (Int32 × G)))) 2000 ((0 : Int32), (0 : Int32), g)) fun (s7 : Int32 × G) => some ((s7.1, s7.2))
set_option maxHeartbeats 4000000 in
set_option maxRecDepth 100000 in
theorem y_X6_lesserAlike (t1 : Nat) (a2 : Int32) (ht1 : isT t1) (g : G) (q : Int32 × G) {post : Int32 → G → Prop} (H : f_X6_lesserAlike t1 a2 g = some q) (K : post q.1 q.2) : Y m_X6_lesserAlike 2 [.ref 15, .ref t1, .int a2] g post := by
  refine Y_of ok_X6_lesserAlike pn_6 rfl (by decide) (Or.inr (Or.inl rfl)) (List.forall_mem_cons.mpr ⟨rfl, (List.forall_mem_cons.mpr ⟨rfl, (List.forall_mem_cons.mpr ⟨rfl, (fun _ h => absurd h List.not_mem_nil)⟩)⟩)⟩) (Nat.le_of_ble_eq_true rfl) ?_
  show u_V m_X6_lesserAlike 2 post 0 [some (.ref 15), some (.ref t1), some (.int a2), none, none, none] [] g
  unfold f_X6_lesserAlike at H
  refine x_iconst (v := (0 : Int32)) rfl (by decide) ?_
  refine am_istore_n rfl (Nat.le_of_ble_eq_true rfl) ?_
  refine x_iconst (v := (0 : Int32)) rfl (by decide) ?_
  refine am_istore rfl (Nat.le_of_ble_eq_true rfl) ?_
  obtain ⟨s18, H1, H⟩ := bd_some H
  have K2 : (fun (s7 : Int32 × G) => u_V m_X6_lesserAlike 2 post 49 [none, none, none, some (.int s7.1), none, none] [] s7.2) s18 := by
    clear H1
    obtain ⟨x5, g6⟩ := s18
    (try dsimp only at H); (try dsimp only)
    refine am_iload_n rfl rfl ?_
    have H := Option.some.inj H
    subst H
    exact u_iret rfl rfl K
  refine am_drop (L' := [some (.ref 15), some (.ref t1), some (.int a2), some (.int (0 : Int32)), some (.int (0 : Int32)), none]) (And.intro rfl (And.intro rfl (And.intro rfl (And.intro rfl (And.intro rfl trivial))))) ?_
  refine lp_ind (P := (fun (s4 : Int32 × Int32 × G) => u_V m_X6_lesserAlike 2 post 5 [some (.ref 15), some (.ref t1), some (.int a2), some (.int s4.1), some (.int s4.2.1), none] [] s4.2.2)) (Q := (fun (s7 : Int32 × G) => u_V m_X6_lesserAlike 2 post 49 [none, none, none, some (.int s7.1), none, none] [] s7.2)) ?_ 2000 ((0 : Int32), (0 : Int32), g) s18 H1 K2
  clear H1 H K
  intro s4 s18b H K
  obtain ⟨x1, x2, g3⟩ := s4
  (try dsimp only at H); (try dsimp only)
  refine am_iload rfl rfl ?_
  refine am_aload_n rfl rfl ?_
  refine u_getI f_6_122 rfl (isT_lt0 ht1) (sk_T ht1) rfl ?_
  refine am_icmp_ge rfl (fun c8 => ?_) (fun c8 => ?_)
  · have H := it_pos c8 H
    have H := Option.some.inj H
    subst H
    exact am_drop (L' := [none, none, none, some (.int x1), none, none]) (And.intro rfl trivial) K
  · have H := it_neg c8 H
    refine am_aload_n rfl rfl ?_
    refine u_getR f_6_125 rfl (isT_lt0 ht1) (sk_T ht1) rfl ?_
    refine am_iload rfl rfl ?_
    obtain ⟨j9, ej9, hj9, H⟩ := ck_some H
    refine x_iald rfl (isT_lt ht1 (Nat.le_of_ble_eq_true rfl)) (sk_A ht1 (Nat.le_of_ble_eq_true rfl) (Nat.le_of_ble_eq_true rfl)) hj9 ej9 ?_
    refine am_istore rfl (Nat.le_of_ble_eq_true rfl) ?_
    refine am_iload rfl rfl ?_
    refine am_iload_n rfl rfl ?_
    obtain ⟨s17, H1, H⟩ := bd_some H
    have K : (fun (s12 : Int32 × G) => u_V m_X6_lesserAlike 2 post 43 [some (.ref 15), some (.ref t1), some (.int a2), some (.int s12.1), some (.int x2), none] [] s12.2) s17 := by
      clear H1
      obtain ⟨x10, g11⟩ := s17
      (try dsimp only at H); (try dsimp only)
      refine x_iinc (v := (x2 + (1 : Int32))) rfl rfl (Nat.le_of_ble_eq_true rfl) rfl ?_
      refine am_goto rfl ?_
      have H := Option.some.inj H
      subst H
      exact am_drop (L' := [some (.ref 15), some (.ref t1), some (.int a2), some (.int x10), some (.int (x2 + (1 : Int32))), none]) (And.intro rfl (And.intro rfl (And.intro rfl (And.intro rfl (And.intro rfl trivial))))) K
    have H := H1
    clear H1
    refine am_icmp_ge rfl (fun c13 => ?_) (fun c13 => ?_)
    · have H := it_pos c13 H
      have H := Option.some.inj H
      subst H
      exact am_drop (L' := [some (.ref 15), some (.ref t1), some (.int a2), some (.int x1), some (.int x2), none]) (And.intro rfl (And.intro rfl (And.intro rfl (And.intro rfl (And.intro rfl trivial))))) K
    · have H := it_neg c13 H
      refine am_aload_n rfl rfl ?_
      refine am_aload_n rfl rfl ?_
      refine am_iload rfl rfl ?_
      refine am_iload_n rfl rfl ?_
      obtain ⟨r14, g15, H1, H⟩ := bd2_some H
      refine cv3i v_6_128 rfl rfl (Nat.le_of_ble_eq_true rfl) rfl (Nat.le_of_ble_eq_true rfl) (fun _ _ => Nat.le_of_ble_eq_true rfl) (y_X6_parting t1 (g3 (t1 + 1) j9) a2 ht1 g3 _ H1 ?_)
      refine am_if_ne rfl (fun c16 => ?_) (fun c16 => ?_)
      · have H := it_neg c16 H
        have H := Option.some.inj H
        subst H
        exact am_drop (L' := [some (.ref 15), some (.ref t1), some (.int a2), some (.int x1), some (.int x2), none]) (And.intro rfl (And.intro rfl (And.intro rfl (And.intro rfl (And.intro rfl trivial))))) K
      · have H := it_pos c16 H
        refine x_iinc (v := (x1 + (1 : Int32))) rfl rfl (Nat.le_of_ble_eq_true rfl) rfl ?_
        have H := Option.some.inj H
        subst H
        exact am_drop (L' := [some (.ref 15), some (.ref t1), some (.int a2), some (.int (x1 + (1 : Int32))), some (.int x2), none]) (And.intro rfl (And.intro rfl (And.intro rfl (And.intro rfl (And.intro rfl trivial))))) K
def f_X6_whoIs (t1 : Nat) (a2 : Int32) (g : G) : Option (Int32 × G) := bd (lp (fun (s3 : Int32 × G) => (if (s3.2 t1 1) ≤ s3.1 then some (.inr (.inl (s3.2))) else ck s3.1 10 fun j7 => bd2 (f_X6_aheadOf t1 (s3.2 (t1 + 1) j7) s3.2) fun r8 g9 => bd2 (f_X6_lesserAlike t1 (s3.2 (t1 + 1) j7) g9) fun r10 g11 => if (r8 + r10) = a2 then some (.inr (.inr (((s3.2 (t1 + 1) j7), g11)))) else some (.inl ((s3.1 + (1 : Int32)), g11)) : Option ((Int32 × G) ⊕ ((G) ⊕ (Int32 × G))))) 2000 ((0 : Int32), g)) fun s13m => (match s13m with | .inl s5 => (some (((-1 : Int32), s5))) | .inr y => some y)
set_option maxHeartbeats 4000000 in
set_option maxRecDepth 100000 in
theorem y_X6_whoIs (t1 : Nat) (a2 : Int32) (ht1 : isT t1) (g : G) (q : Int32 × G) {post : Int32 → G → Prop} (H : f_X6_whoIs t1 a2 g = some q) (K : post q.1 q.2) : Y m_X6_whoIs 3 [.ref 15, .ref t1, .int a2] g post := by
  refine Y_of ok_X6_whoIs pn_6 rfl (by decide) (Or.inr (Or.inl rfl)) (List.forall_mem_cons.mpr ⟨rfl, (List.forall_mem_cons.mpr ⟨rfl, (List.forall_mem_cons.mpr ⟨rfl, (fun _ h => absurd h List.not_mem_nil)⟩)⟩)⟩) (Nat.le_of_ble_eq_true rfl) ?_
  show u_V m_X6_whoIs 3 post 0 [some (.ref 15), some (.ref t1), some (.int a2), none, none] [] g
  unfold f_X6_whoIs at H
  refine x_iconst (v := (0 : Int32)) rfl (by decide) ?_
  refine am_istore_n rfl (Nat.le_of_ble_eq_true rfl) ?_
  obtain ⟨s13, H1, H⟩ := bd_some H
  have K2 : (Sum.elim (fun (s5 : G) => u_V m_X6_whoIs 3 post 46 [none, none, none, none, none] [] s5) (fun (q : Int32 × G) => post q.1 q.2)) s13 := by
    clear H1
    cases s13 with
    | inl s5 =>
      obtain ⟨g4, e_g4⟩ : ∃ z, z = s5 := ⟨_, rfl⟩
      subst e_g4
      (try dsimp only at H); (try dsimp only)
      refine x_iconst (v := (-1 : Int32)) rfl (by decide) ?_
      have H := Option.some.inj H
      subst H
      exact u_iret rfl rfl K
    | inr y =>
      have H := Option.some.inj H
      subst H
      exact K
  refine am_drop (L' := [some (.ref 15), some (.ref t1), some (.int a2), some (.int (0 : Int32)), none]) (And.intro rfl (And.intro rfl (And.intro rfl (And.intro rfl trivial)))) ?_
  refine lp_ind (P := (fun (s3 : Int32 × G) => u_V m_X6_whoIs 3 post 2 [some (.ref 15), some (.ref t1), some (.int a2), some (.int s3.1), none] [] s3.2)) (Q := (Sum.elim (fun (s5 : G) => u_V m_X6_whoIs 3 post 46 [none, none, none, none, none] [] s5) (fun (q : Int32 × G) => post q.1 q.2))) ?_ 2000 ((0 : Int32), g) s13 H1 K2
  clear H1 H K
  intro s3 s13b H K
  obtain ⟨x1, g2⟩ := s3
  (try dsimp only at H); (try dsimp only)
  refine am_iload_n rfl rfl ?_
  refine am_aload_n rfl rfl ?_
  refine u_getI f_6_122 rfl (isT_lt0 ht1) (sk_T ht1) rfl ?_
  refine am_icmp_ge rfl (fun c6 => ?_) (fun c6 => ?_)
  · have H := it_pos c6 H
    have H := Option.some.inj H
    subst H
    exact am_drop (L' := [none, none, none, none, none]) trivial K
  · have H := it_neg c6 H
    refine am_aload_n rfl rfl ?_
    refine u_getR f_6_125 rfl (isT_lt0 ht1) (sk_T ht1) rfl ?_
    refine am_iload_n rfl rfl ?_
    obtain ⟨j7, ej7, hj7, H⟩ := ck_some H
    refine x_iald rfl (isT_lt ht1 (Nat.le_of_ble_eq_true rfl)) (sk_A ht1 (Nat.le_of_ble_eq_true rfl) (Nat.le_of_ble_eq_true rfl)) hj7 ej7 ?_
    refine am_istore rfl (Nat.le_of_ble_eq_true rfl) ?_
    refine am_aload_n rfl rfl ?_
    refine am_aload_n rfl rfl ?_
    refine am_iload rfl rfl ?_
    obtain ⟨r8, g9, H1, H⟩ := bd2_some H
    refine cv2i v_6_132 rfl rfl (Nat.le_of_ble_eq_true rfl) rfl (Nat.le_of_ble_eq_true rfl) (fun _ _ => Nat.le_of_ble_eq_true rfl) (y_X6_aheadOf t1 (g2 (t1 + 1) j7) ht1 g2 _ H1 ?_)
    refine am_aload_n rfl rfl ?_
    refine am_aload_n rfl rfl ?_
    refine am_iload rfl rfl ?_
    obtain ⟨r10, g11, H1, H⟩ := bd2_some H
    refine cv2i v_6_136 rfl rfl (Nat.le_of_ble_eq_true rfl) rfl (Nat.le_of_ble_eq_true rfl) (fun _ _ => Nat.le_of_ble_eq_true rfl) (y_X6_lesserAlike t1 (g2 (t1 + 1) j7) ht1 g9 _ H1 ?_)
    refine am_iadd rfl ?_
    refine am_iload_n rfl rfl ?_
    refine am_icmp_ne rfl (fun c12 => ?_) (fun c12 => ?_)
    · have H := it_neg c12 H
      refine x_iinc (v := (x1 + (1 : Int32))) rfl rfl (Nat.le_of_ble_eq_true rfl) rfl ?_
      refine am_goto rfl ?_
      have H := Option.some.inj H
      subst H
      exact am_drop (L' := [some (.ref 15), some (.ref t1), some (.int a2), some (.int (x1 + (1 : Int32))), none]) (And.intro rfl (And.intro rfl (And.intro rfl (And.intro rfl trivial)))) K
    · have H := it_pos c12 H
      refine am_iload rfl rfl ?_
      have H := Option.some.inj H
      subst H
      exact u_iret rfl rfl K
def f_X6_listOpen (t1 : Nat) (g : G) : Option (Int32 × G) := bd (lp (fun (s4 : Int32 × Int32 × G) => (if (s4.2.2 t1 2) ≤ s4.2.1 then some (.inr (s4.1, s4.2.2)) else bd (lp (fun (s12 : Int32 × Int32 × G) => (ck s4.2.1 6 fun j16 => if (s12.2.2 (t1 + 5) j16) ≤ s12.2.1 then some (.inr (s12.1, s12.2.2)) else ck ((s4.2.1 * (5 : Int32)) + s12.2.1) 30 fun j18 => bd ((if (s12.2.2 16 j18) = (-1 : Int32) then some (.inl (s12.1, s12.2.1, s12.2.2)) else ck ((s4.2.1 * (5 : Int32)) + s12.2.1) 30 fun j37 => if (s12.2.2 17 j37) = (5 : Int32) then some (.inl (s12.1, s12.2.1, s12.2.2)) else ck ((s4.2.1 * (5 : Int32)) + s12.2.1) 30 fun j39 => bd ((if (s12.2.2 (t1 + 8) j39) = (99 : Int32) then some ((s12.1, s12.2.2)) else if (0 : Int32) = 0 then some ((s12.1, s12.2.2)) else bd ((if (4 : Int32) ≤ s12.1 then some (s12.2.2) else ck s12.1 4 fun j48 => wr (up2 s12.2.2 18 j48 ((s4.2.1 * (5 : Int32)) + s12.2.1)) fun g49 => some (g49) : Option (G))) fun (s46 : G) => some (((s12.1 + (1 : Int32)), s46)) : Option (Int32 × G))) fun (s42 : Int32 × G) => some (.inr (.inl (s42.1, (s12.2.1 + (1 : Int32)), s42.2))) : Option ((Int32 × Int32 × G) ⊕ ((Int32 × Int32 × G) ⊕ (Int32 × G))))) fun s52m => (match s52m with | .inl s22 => (ck ((s4.2.1 * (5 : Int32)) + s12.2.1) 30 fun j23 => bd ((if (s22.2.2 (t1 + 8) j23) = (99 : Int32) then some ((s22.1, s22.2.2)) else if (1 : Int32) = 0 then some ((s22.1, s22.2.2)) else bd ((if (4 : Int32) ≤ s22.1 then some (s22.2.2) else ck s22.1 4 fun j32 => wr (up2 s22.2.2 18 j32 ((s4.2.1 * (5 : Int32)) + s12.2.1)) fun g33 => some (g33) : Option (G))) fun (s30 : G) => some (((s22.1 + (1 : Int32)), s30)) : Option (Int32 × G))) fun (s26 : Int32 × G) => some (.inl (s26.1, (s22.2.1 + (1 : Int32)), s26.2))) | .inr y => some y) : Option ((Int32 × Int32 × G) ⊕ (Int32 × G)))) 2000 (s4.1, (0 : Int32), s4.2.2)) fun (s15 : Int32 × G) => some (.inl (s15.1, (s4.2.1 + (1 : Int32)), s15.2)) : Option ((Int32 × Int32 × G) ⊕ (Int32 × G)))) 2000 ((0 : Int32), (0 : Int32), g)) fun (s7 : Int32 × G) => some ((s7.1, s7.2))
set_option maxHeartbeats 4000000 in
set_option maxRecDepth 100000 in
theorem y_X6_listOpen (t1 : Nat) (ht1 : isT t1) (g : G) (q : Int32 × G) {post : Int32 → G → Prop} (H : f_X6_listOpen t1 g = some q) (K : post q.1 q.2) : Y m_X6_listOpen 0 [.ref 15, .ref t1] g post := by
  refine Y_of ok_X6_listOpen pn_6 rfl (by decide) (Or.inr (Or.inl rfl)) (List.forall_mem_cons.mpr ⟨rfl, (List.forall_mem_cons.mpr ⟨rfl, (fun _ h => absurd h List.not_mem_nil)⟩)⟩) (Nat.le_of_ble_eq_true rfl) ?_
  show u_V m_X6_listOpen 0 post 0 [some (.ref 15), some (.ref t1), none, none, none, none, none] [] g
  unfold f_X6_listOpen at H
  refine x_iconst (v := (0 : Int32)) rfl (by decide) ?_
  refine am_istore_n rfl (Nat.le_of_ble_eq_true rfl) ?_
  refine x_iconst (v := (0 : Int32)) rfl (by decide) ?_
  refine am_istore_n rfl (Nat.le_of_ble_eq_true rfl) ?_
  obtain ⟨s54, H1, H⟩ := bd_some H
  have K2 : (fun (s7 : Int32 × G) => u_V m_X6_listOpen 0 post 108 [none, none, some (.int s7.1), none, none, none, none] [] s7.2) s54 := by
    clear H1
    obtain ⟨x5, g6⟩ := s54
    (try dsimp only at H); (try dsimp only)
    refine am_iload_n rfl rfl ?_
    have H := Option.some.inj H
    subst H
    exact u_iret rfl rfl K
  refine am_drop (L' := [some (.ref 15), some (.ref t1), some (.int (0 : Int32)), some (.int (0 : Int32)), none, none, none]) (And.intro rfl (And.intro rfl (And.intro rfl (And.intro rfl trivial)))) ?_
  refine lp_ind (P := (fun (s4 : Int32 × Int32 × G) => u_V m_X6_listOpen 0 post 4 [some (.ref 15), some (.ref t1), some (.int s4.1), some (.int s4.2.1), none, none, none] [] s4.2.2)) (Q := (fun (s7 : Int32 × G) => u_V m_X6_listOpen 0 post 108 [none, none, some (.int s7.1), none, none, none, none] [] s7.2)) ?_ 2000 ((0 : Int32), (0 : Int32), g) s54 H1 K2
  clear H1 H K
  intro s4 s54b H K
  obtain ⟨x1, x2, g3⟩ := s4
  (try dsimp only at H); (try dsimp only)
  refine am_iload_n rfl rfl ?_
  refine am_aload_n rfl rfl ?_
  refine u_getI f_6_73 rfl (isT_lt0 ht1) (sk_T ht1) rfl ?_
  refine am_icmp_ge rfl (fun c8 => ?_) (fun c8 => ?_)
  · have H := it_pos c8 H
    have H := Option.some.inj H
    subst H
    exact am_drop (L' := [none, none, some (.int x1), none, none, none, none]) (And.intro rfl trivial) K
  · have H := it_neg c8 H
    refine x_iconst (v := (0 : Int32)) rfl (by decide) ?_
    refine am_istore rfl (Nat.le_of_ble_eq_true rfl) ?_
    obtain ⟨s53, H1, H⟩ := bd_some H
    have K2 : (fun (s15 : Int32 × G) => u_V m_X6_listOpen 0 post 102 [some (.ref 15), some (.ref t1), some (.int s15.1), some (.int x2), none, none, none] [] s15.2) s53 := by
      clear H1
      obtain ⟨x13, g14⟩ := s53
      (try dsimp only at H); (try dsimp only)
      refine x_iinc (v := (x2 + (1 : Int32))) rfl rfl (Nat.le_of_ble_eq_true rfl) rfl ?_
      refine am_goto rfl ?_
      have H := Option.some.inj H
      subst H
      exact am_drop (L' := [some (.ref 15), some (.ref t1), some (.int x13), some (.int (x2 + (1 : Int32))), none, none, none]) (And.intro rfl (And.intro rfl (And.intro rfl (And.intro rfl trivial)))) K
    refine am_drop (L' := [some (.ref 15), some (.ref t1), some (.int x1), some (.int x2), some (.int (0 : Int32)), none, none]) (And.intro rfl (And.intro rfl (And.intro rfl (And.intro rfl (And.intro rfl trivial))))) ?_
    refine lp_ind (P := (fun (s12 : Int32 × Int32 × G) => u_V m_X6_listOpen 0 post 15 [some (.ref 15), some (.ref t1), some (.int s12.1), some (.int x2), some (.int s12.2.1), none, none] [] s12.2.2)) (Q := (fun (s15 : Int32 × G) => u_V m_X6_listOpen 0 post 102 [some (.ref 15), some (.ref t1), some (.int s15.1), some (.int x2), none, none, none] [] s15.2)) ?_ 2000 (x1, (0 : Int32), g3) s53 H1 K2
    clear H1 H K
    intro s12 s53b H K
    obtain ⟨x9, x10, g11⟩ := s12
    (try dsimp only at H); (try dsimp only)
    refine am_iload rfl rfl ?_
    refine am_aload_n rfl rfl ?_
    refine u_getR f_6_76 rfl (isT_lt0 ht1) (sk_T ht1) rfl ?_
    refine am_iload_n rfl rfl ?_
    obtain ⟨j16, ej16, hj16, H⟩ := ck_some H
    refine x_iald rfl (isT_lt ht1 (Nat.le_of_ble_eq_true rfl)) (sk_A ht1 (Nat.le_of_ble_eq_true rfl) (Nat.le_of_ble_eq_true rfl)) hj16 ej16 ?_
    refine am_icmp_ge rfl (fun c17 => ?_) (fun c17 => ?_)
    · have H := it_pos c17 H
      have H := Option.some.inj H
      subst H
      exact am_drop (L' := [some (.ref 15), some (.ref t1), some (.int x9), some (.int x2), none, none, none]) (And.intro rfl (And.intro rfl (And.intro rfl (And.intro rfl trivial)))) K
    · have H := it_neg c17 H
      refine am_iload_n rfl rfl ?_
      refine x_iconst (v := (5 : Int32)) rfl (by decide) ?_
      refine am_imul rfl ?_
      refine am_iload rfl rfl ?_
      refine am_iadd rfl ?_
      refine am_istore rfl (Nat.le_of_ble_eq_true rfl) ?_
      refine am_aload_n rfl rfl ?_
      refine u_getR f_6_9 rfl (Nat.le_of_ble_eq_true rfl) rfl rfl ?_
      refine am_iload rfl rfl ?_
      obtain ⟨j18, ej18, hj18, H⟩ := ck_some H
      refine x_iald rfl (Nat.le_of_ble_eq_true rfl) rfl hj18 ej18 ?_
      refine x_iconst (v := (-1 : Int32)) rfl (by decide) ?_
      obtain ⟨s52, H1, H⟩ := bd_some H
      have K : (Sum.elim (fun (s22 : Int32 × Int32 × G) => u_V m_X6_listOpen 0 post 56 [some (.ref 15), some (.ref t1), some (.int s22.1), some (.int x2), some (.int s22.2.1), some (.int ((x2 * (5 : Int32)) + x10)), none] [] s22.2.2) (Sum.elim (fun (s12 : Int32 × Int32 × G) => u_V m_X6_listOpen 0 post 15 [some (.ref 15), some (.ref t1), some (.int s12.1), some (.int x2), some (.int s12.2.1), none, none] [] s12.2.2) (fun (s15 : Int32 × G) => u_V m_X6_listOpen 0 post 102 [some (.ref 15), some (.ref t1), some (.int s15.1), some (.int x2), none, none, none] [] s15.2))) s52 := by
        clear H1
        cases s52 with
        | inl s22 =>
          obtain ⟨x19, x20, g21⟩ := s22
          (try dsimp only at H); (try dsimp only)
          refine x_iconst (v := (1 : Int32)) rfl (by decide) ?_
          refine am_goto rfl ?_
          refine am_istore rfl (Nat.le_of_ble_eq_true rfl) ?_
          refine am_aload_n rfl rfl ?_
          refine u_getR f_6_79 rfl (isT_lt0 ht1) (sk_T ht1) rfl ?_
          refine am_iload rfl rfl ?_
          obtain ⟨j23, ej23, hj23, H⟩ := ck_some H
          refine x_iald rfl (isT_lt ht1 (Nat.le_of_ble_eq_true rfl)) (sk_A ht1 (Nat.le_of_ble_eq_true rfl) (Nat.le_of_ble_eq_true rfl)) hj23 ej23 ?_
          refine x_bipush (v := (99 : Int32)) rfl (by decide) ?_
          obtain ⟨s35, H1, H⟩ := bd_some H
          have K : (fun (s26 : Int32 × G) => u_V m_X6_listOpen 0 post 96 [some (.ref 15), some (.ref t1), some (.int s26.1), some (.int x2), some (.int x20), none, none] [] s26.2) s35 := by
            clear H1
            obtain ⟨x24, g25⟩ := s35
            (try dsimp only at H); (try dsimp only)
            refine x_iinc (v := (x20 + (1 : Int32))) rfl rfl (Nat.le_of_ble_eq_true rfl) rfl ?_
            refine am_goto rfl ?_
            have H := Option.some.inj H
            subst H
            exact am_drop (L' := [some (.ref 15), some (.ref t1), some (.int x24), some (.int x2), some (.int (x20 + (1 : Int32))), none, none]) (And.intro rfl (And.intro rfl (And.intro rfl (And.intro rfl (And.intro rfl trivial))))) K
          have H := H1
          clear H1
          refine am_icmp_eq rfl (fun c27 => ?_) (fun c27 => ?_)
          · have H := it_pos c27 H
            have H := Option.some.inj H
            subst H
            exact am_drop (L' := [some (.ref 15), some (.ref t1), some (.int x19), some (.int x2), some (.int x20), none, none]) (And.intro rfl (And.intro rfl (And.intro rfl (And.intro rfl (And.intro rfl trivial))))) K
          · have H := it_neg c27 H
            refine am_iload rfl rfl ?_
            refine am_if_eq rfl (fun c28 => ?_) (fun c28 => ?_)
            · have H := it_pos c28 H
              have H := Option.some.inj H
              subst H
              exact am_drop (L' := [some (.ref 15), some (.ref t1), some (.int x19), some (.int x2), some (.int x20), none, none]) (And.intro rfl (And.intro rfl (And.intro rfl (And.intro rfl (And.intro rfl trivial))))) K
            · have H := it_neg c28 H
              refine am_iload_n rfl rfl ?_
              refine x_iconst (v := (4 : Int32)) rfl (by decide) ?_
              obtain ⟨s34, H1, H⟩ := bd_some H
              have K : (fun (s30 : G) => u_V m_X6_listOpen 0 post 93 [some (.ref 15), some (.ref t1), some (.int x19), some (.int x2), some (.int x20), none, none] [] s30) s34 := by
                clear H1
                obtain ⟨g29, e_g29⟩ : ∃ z, z = s34 := ⟨_, rfl⟩
                subst e_g29
                (try dsimp only at H); (try dsimp only)
                refine x_iinc (v := (x19 + (1 : Int32))) rfl rfl (Nat.le_of_ble_eq_true rfl) rfl ?_
                have H := Option.some.inj H
                subst H
                exact am_drop (L' := [some (.ref 15), some (.ref t1), some (.int (x19 + (1 : Int32))), some (.int x2), some (.int x20), none, none]) (And.intro rfl (And.intro rfl (And.intro rfl (And.intro rfl (And.intro rfl trivial))))) K
              have H := H1
              clear H1
              refine am_icmp_ge rfl (fun c31 => ?_) (fun c31 => ?_)
              · have H := it_pos c31 H
                have H := Option.some.inj H
                subst H
                exact am_drop (L' := [some (.ref 15), some (.ref t1), some (.int x19), some (.int x2), some (.int x20), none, none]) (And.intro rfl (And.intro rfl (And.intro rfl (And.intro rfl (And.intro rfl trivial))))) K
              · have H := it_neg c31 H
                refine am_aload_n rfl rfl ?_
                refine u_getR f_6_18 rfl (Nat.le_of_ble_eq_true rfl) rfl rfl ?_
                refine am_iload_n rfl rfl ?_
                refine am_iload rfl rfl ?_
                obtain ⟨j32, ej32, hj32, H⟩ := ck_some H
                obtain ⟨g33, eg33, H⟩ := wr_some H
                refine x_iast rfl (Nat.le_of_ble_eq_true rfl) rfl hj32 ej32 eg33 ?_
                have H := Option.some.inj H
                subst H
                exact am_drop (L' := [some (.ref 15), some (.ref t1), some (.int x19), some (.int x2), some (.int x20), none, none]) (And.intro rfl (And.intro rfl (And.intro rfl (And.intro rfl (And.intro rfl trivial))))) K
        | inr y =>
          have H := Option.some.inj H
          subst H
          exact K
      have H := H1
      clear H1
      refine am_icmp_eq rfl (fun c36 => ?_) (fun c36 => ?_)
      · have H := it_pos c36 H
        have H := Option.some.inj H
        subst H
        exact am_drop (L' := [some (.ref 15), some (.ref t1), some (.int x9), some (.int x2), some (.int x10), some (.int ((x2 * (5 : Int32)) + x10)), none]) (And.intro rfl (And.intro rfl (And.intro rfl (And.intro rfl (And.intro rfl (And.intro rfl trivial)))))) K
      · have H := it_neg c36 H
        refine am_aload_n rfl rfl ?_
        refine u_getR f_6_15 rfl (Nat.le_of_ble_eq_true rfl) rfl rfl ?_
        refine am_iload rfl rfl ?_
        obtain ⟨j37, ej37, hj37, H⟩ := ck_some H
        refine x_iald rfl (Nat.le_of_ble_eq_true rfl) rfl hj37 ej37 ?_
        refine x_iconst (v := (5 : Int32)) rfl (by decide) ?_
        refine am_icmp_ne rfl (fun c38 => ?_) (fun c38 => ?_)
        · have H := it_neg c38 H
          refine x_iconst (v := (0 : Int32)) rfl (by decide) ?_
          refine am_istore rfl (Nat.le_of_ble_eq_true rfl) ?_
          refine am_aload_n rfl rfl ?_
          refine u_getR f_6_79 rfl (isT_lt0 ht1) (sk_T ht1) rfl ?_
          refine am_iload rfl rfl ?_
          obtain ⟨j39, ej39, hj39, H⟩ := ck_some H
          refine x_iald rfl (isT_lt ht1 (Nat.le_of_ble_eq_true rfl)) (sk_A ht1 (Nat.le_of_ble_eq_true rfl) (Nat.le_of_ble_eq_true rfl)) hj39 ej39 ?_
          refine x_bipush (v := (99 : Int32)) rfl (by decide) ?_
          obtain ⟨s51, H1, H⟩ := bd_some H
          have K : (fun (s42 : Int32 × G) => u_V m_X6_listOpen 0 post 96 [some (.ref 15), some (.ref t1), some (.int s42.1), some (.int x2), some (.int x10), none, none] [] s42.2) s51 := by
            clear H1
            obtain ⟨x40, g41⟩ := s51
            (try dsimp only at H); (try dsimp only)
            refine x_iinc (v := (x10 + (1 : Int32))) rfl rfl (Nat.le_of_ble_eq_true rfl) rfl ?_
            refine am_goto rfl ?_
            have H := Option.some.inj H
            subst H
            exact am_drop (L' := [some (.ref 15), some (.ref t1), some (.int x40), some (.int x2), some (.int (x10 + (1 : Int32))), none, none]) (And.intro rfl (And.intro rfl (And.intro rfl (And.intro rfl (And.intro rfl trivial))))) K
          have H := H1
          clear H1
          refine am_icmp_eq rfl (fun c43 => ?_) (fun c43 => ?_)
          · have H := it_pos c43 H
            have H := Option.some.inj H
            subst H
            exact am_drop (L' := [some (.ref 15), some (.ref t1), some (.int x9), some (.int x2), some (.int x10), none, none]) (And.intro rfl (And.intro rfl (And.intro rfl (And.intro rfl (And.intro rfl trivial))))) K
          · have H := it_neg c43 H
            refine am_iload rfl rfl ?_
            refine am_if_eq rfl (fun c44 => ?_) (fun c44 => ?_)
            · have H := it_pos c44 H
              have H := Option.some.inj H
              subst H
              exact am_drop (L' := [some (.ref 15), some (.ref t1), some (.int x9), some (.int x2), some (.int x10), none, none]) (And.intro rfl (And.intro rfl (And.intro rfl (And.intro rfl (And.intro rfl trivial))))) K
            · have H := it_neg c44 H
              refine am_iload_n rfl rfl ?_
              refine x_iconst (v := (4 : Int32)) rfl (by decide) ?_
              obtain ⟨s50, H1, H⟩ := bd_some H
              have K : (fun (s46 : G) => u_V m_X6_listOpen 0 post 93 [some (.ref 15), some (.ref t1), some (.int x9), some (.int x2), some (.int x10), none, none] [] s46) s50 := by
                clear H1
                obtain ⟨g45, e_g45⟩ : ∃ z, z = s50 := ⟨_, rfl⟩
                subst e_g45
                (try dsimp only at H); (try dsimp only)
                refine x_iinc (v := (x9 + (1 : Int32))) rfl rfl (Nat.le_of_ble_eq_true rfl) rfl ?_
                have H := Option.some.inj H
                subst H
                exact am_drop (L' := [some (.ref 15), some (.ref t1), some (.int (x9 + (1 : Int32))), some (.int x2), some (.int x10), none, none]) (And.intro rfl (And.intro rfl (And.intro rfl (And.intro rfl (And.intro rfl trivial))))) K
              have H := H1
              clear H1
              refine am_icmp_ge rfl (fun c47 => ?_) (fun c47 => ?_)
              · have H := it_pos c47 H
                have H := Option.some.inj H
                subst H
                exact am_drop (L' := [some (.ref 15), some (.ref t1), some (.int x9), some (.int x2), some (.int x10), none, none]) (And.intro rfl (And.intro rfl (And.intro rfl (And.intro rfl (And.intro rfl trivial))))) K
              · have H := it_neg c47 H
                refine am_aload_n rfl rfl ?_
                refine u_getR f_6_18 rfl (Nat.le_of_ble_eq_true rfl) rfl rfl ?_
                refine am_iload_n rfl rfl ?_
                refine am_iload rfl rfl ?_
                obtain ⟨j48, ej48, hj48, H⟩ := ck_some H
                obtain ⟨g49, eg49, H⟩ := wr_some H
                refine x_iast rfl (Nat.le_of_ble_eq_true rfl) rfl hj48 ej48 eg49 ?_
                have H := Option.some.inj H
                subst H
                exact am_drop (L' := [some (.ref 15), some (.ref t1), some (.int x9), some (.int x2), some (.int x10), none, none]) (And.intro rfl (And.intro rfl (And.intro rfl (And.intro rfl (And.intro rfl trivial))))) K
        · have H := it_pos c38 H
          have H := Option.some.inj H
          subst H
          exact am_drop (L' := [some (.ref 15), some (.ref t1), some (.int x9), some (.int x2), some (.int x10), some (.int ((x2 * (5 : Int32)) + x10)), none]) (And.intro rfl (And.intro rfl (And.intro rfl (And.intro rfl (And.intro rfl (And.intro rfl trivial)))))) K
def f_X6_suppose (a1 : Int32) (a2 : Int32) (g : G) : Option (Int32 × G) := bd (lp (fun (s4 : Int32 × Int32 × G) => (if s4.2.1 < 0 then some (.inr (s4.2.2)) else ck s4.2.1 4 fun j8 => ck (s4.2.2 18 j8) 30 fun j9 => wr (up2 s4.2.2 17 j9 (s4.1 - s4.1 / (3 : Int32) * (3 : Int32))) fun g10 => some (.inl ((s4.1 / (3 : Int32)), (s4.2.1 + (-1 : Int32)), g10)) : Option ((Int32 × Int32 × G) ⊕ (G)))) 2000 (a1, (a2 - (1 : Int32)), g)) fun (s6 : G) => some (((0 : Int32), s6))
set_option maxHeartbeats 4000000 in
set_option maxRecDepth 100000 in
theorem y_X6_suppose (a1 : Int32) (a2 : Int32)  (g : G) (q : Int32 × G) {post : Int32 → G → Prop} (H : f_X6_suppose a1 a2 g = some q) (K : post q.1 q.2) : Y m_X6_suppose 0 [.ref 15, .int a1, .int a2] g post := by
  refine Y_of ok_X6_suppose pn_6 rfl (by decide) (Or.inl rfl) (List.forall_mem_cons.mpr ⟨rfl, (List.forall_mem_cons.mpr ⟨rfl, (List.forall_mem_cons.mpr ⟨rfl, (fun _ h => absurd h List.not_mem_nil)⟩)⟩)⟩) (Nat.le_of_ble_eq_true rfl) ?_
  show u_V m_X6_suppose 0 post 0 [some (.ref 15), some (.int a1), some (.int a2), none, none] [] g
  unfold f_X6_suppose at H
  refine am_iload_n rfl rfl ?_
  refine am_istore_n rfl (Nat.le_of_ble_eq_true rfl) ?_
  refine am_iload_n rfl rfl ?_
  refine x_iconst (v := (1 : Int32)) rfl (by decide) ?_
  refine am_isub rfl ?_
  refine am_istore rfl (Nat.le_of_ble_eq_true rfl) ?_
  obtain ⟨s11, H1, H⟩ := bd_some H
  have K2 : (fun (s6 : G) => u_V m_X6_suppose 0 post 37 [none, none, none, none, none] [] s6) s11 := by
    clear H1
    obtain ⟨g5, e_g5⟩ : ∃ z, z = s11 := ⟨_, rfl⟩
    subst e_g5
    (try dsimp only at H); (try dsimp only)
    have H := Option.some.inj H
    subst H
    exact u_vret rfl rfl K
  refine am_drop (L' := [some (.ref 15), none, none, some (.int a1), some (.int (a2 - (1 : Int32)))]) (And.intro rfl (And.intro rfl (And.intro rfl trivial))) ?_
  refine lp_ind (P := (fun (s4 : Int32 × Int32 × G) => u_V m_X6_suppose 0 post 7 [some (.ref 15), none, none, some (.int s4.1), some (.int s4.2.1)] [] s4.2.2)) (Q := (fun (s6 : G) => u_V m_X6_suppose 0 post 37 [none, none, none, none, none] [] s6)) ?_ 2000 (a1, (a2 - (1 : Int32)), g) s11 H1 K2
  clear H1 H K
  intro s4 s11b H K
  obtain ⟨x1, x2, g3⟩ := s4
  (try dsimp only at H); (try dsimp only)
  refine am_iload rfl rfl ?_
  refine am_if_lt rfl (fun c7 => ?_) (fun c7 => ?_)
  · have H := it_pos c7 H
    have H := Option.some.inj H
    subst H
    exact am_drop (L' := [none, none, none, none, none]) trivial K
  · have H := it_neg c7 H
    refine am_aload_n rfl rfl ?_
    refine u_getR f_6_15 rfl (Nat.le_of_ble_eq_true rfl) rfl rfl ?_
    refine am_aload_n rfl rfl ?_
    refine u_getR f_6_18 rfl (Nat.le_of_ble_eq_true rfl) rfl rfl ?_
    refine am_iload rfl rfl ?_
    obtain ⟨j8, ej8, hj8, H⟩ := ck_some H
    refine x_iald rfl (Nat.le_of_ble_eq_true rfl) rfl hj8 ej8 ?_
    refine am_iload_n rfl rfl ?_
    refine x_iconst (v := (3 : Int32)) rfl (by decide) ?_
    refine am_irem rfl (by decide) ?_
    obtain ⟨j9, ej9, hj9, H⟩ := ck_some H
    obtain ⟨g10, eg10, H⟩ := wr_some H
    refine x_iast rfl (Nat.le_of_ble_eq_true rfl) rfl hj9 ej9 eg10 ?_
    refine am_iload_n rfl rfl ?_
    refine x_iconst (v := (3 : Int32)) rfl (by decide) ?_
    refine am_idiv rfl (by decide) ?_
    refine am_istore_n rfl (Nat.le_of_ble_eq_true rfl) ?_
    refine x_iinc (v := (x2 + (-1 : Int32))) rfl rfl (Nat.le_of_ble_eq_true rfl) rfl ?_
    refine am_goto rfl ?_
    have H := Option.some.inj H
    subst H
    exact am_drop (L' := [some (.ref 15), none, none, some (.int (x1 / (3 : Int32))), some (.int (x2 + (-1 : Int32)))]) (And.intro rfl (And.intro rfl (And.intro rfl trivial))) K
def f_X6_isOutscored (t1 : Nat) (a2 : Int32) (g : G) : Option (Int32 × G) := bd (lp (fun (s2 : Int32) => (if (g t1 1) ≤ s2 then some (.inr (.inl ())) else ck s2 10 fun j5 => ck (g (t1 + 1) j5) 24 fun j6 => ck a2 24 fun j7 => if (g 19 j6) ≤ (g 19 j7) then some (.inl ((s2 + (1 : Int32)))) else some (.inr (.inr (((1 : Int32), g)))) : Option ((Int32) ⊕ ((Unit) ⊕ (Int32 × G))))) 2000 (0 : Int32)) fun s9m => (match s9m with | .inl _ => (some (((0 : Int32), g))) | .inr y => some y)
set_option maxHeartbeats 4000000 in
set_option maxRecDepth 100000 in
theorem y_X6_isOutscored (t1 : Nat) (a2 : Int32) (ht1 : isT t1) (g : G) (q : Int32 × G) {post : Int32 → G → Prop} (H : f_X6_isOutscored t1 a2 g = some q) (K : post q.1 q.2) : Y m_X6_isOutscored 0 [.ref 15, .ref t1, .int a2] g post := by
  refine Y_of ok_X6_isOutscored pn_6 rfl (by decide) (Or.inr (Or.inr rfl)) (List.forall_mem_cons.mpr ⟨rfl, (List.forall_mem_cons.mpr ⟨rfl, (List.forall_mem_cons.mpr ⟨rfl, (fun _ h => absurd h List.not_mem_nil)⟩)⟩)⟩) (Nat.le_of_ble_eq_true rfl) ?_
  show u_V m_X6_isOutscored 0 post 0 [some (.ref 15), some (.ref t1), some (.int a2), none] [] g
  unfold f_X6_isOutscored at H
  refine x_iconst (v := (0 : Int32)) rfl (by decide) ?_
  refine am_istore_n rfl (Nat.le_of_ble_eq_true rfl) ?_
  obtain ⟨s9, H1, H⟩ := bd_some H
  have K2 : (Sum.elim (fun (_ : Unit) => u_V m_X6_isOutscored 0 post 38 [none, none, none, none] [] g) (fun (q : Int32 × G) => post q.1 q.2)) s9 := by
    clear H1
    cases s9 with
    | inl s3 =>
      (try dsimp only at H); (try dsimp only)
      refine x_iconst (v := (0 : Int32)) rfl (by decide) ?_
      have H := Option.some.inj H
      subst H
      exact u_zret rfl rfl (Or.inl rfl) K
    | inr y =>
      have H := Option.some.inj H
      subst H
      exact K
  refine am_drop (L' := [some (.ref 15), some (.ref t1), some (.int a2), some (.int (0 : Int32))]) (And.intro rfl (And.intro rfl (And.intro rfl (And.intro rfl trivial)))) ?_
  refine lp_ind (P := (fun (s2 : Int32) => u_V m_X6_isOutscored 0 post 2 [some (.ref 15), some (.ref t1), some (.int a2), some (.int s2)] [] g)) (Q := (Sum.elim (fun (_ : Unit) => u_V m_X6_isOutscored 0 post 38 [none, none, none, none] [] g) (fun (q : Int32 × G) => post q.1 q.2))) ?_ 2000 (0 : Int32) s9 H1 K2
  clear H1 H K
  intro s2 s9b H K
  obtain ⟨x1, e_x1⟩ : ∃ z, z = s2 := ⟨_, rfl⟩
  subst e_x1
  (try dsimp only at H); (try dsimp only)
  refine am_iload_n rfl rfl ?_
  refine am_aload_n rfl rfl ?_
  refine u_getI f_6_122 rfl (isT_lt0 ht1) (sk_T ht1) rfl ?_
  refine am_icmp_ge rfl (fun c4 => ?_) (fun c4 => ?_)
  · have H := it_pos c4 H
    have H := Option.some.inj H
    subst H
    exact am_drop (L' := [none, none, none, none]) trivial K
  · have H := it_neg c4 H
    refine am_aload_n rfl rfl ?_
    refine u_getR f_6_21 rfl (Nat.le_of_ble_eq_true rfl) rfl rfl ?_
    refine am_aload_n rfl rfl ?_
    refine u_getR f_6_125 rfl (isT_lt0 ht1) (sk_T ht1) rfl ?_
    refine am_iload_n rfl rfl ?_
    obtain ⟨j5, ej5, hj5, H⟩ := ck_some H
    refine x_iald rfl (isT_lt ht1 (Nat.le_of_ble_eq_true rfl)) (sk_A ht1 (Nat.le_of_ble_eq_true rfl) (Nat.le_of_ble_eq_true rfl)) hj5 ej5 ?_
    obtain ⟨j6, ej6, hj6, H⟩ := ck_some H
    refine x_iald rfl (Nat.le_of_ble_eq_true rfl) rfl hj6 ej6 ?_
    refine am_aload_n rfl rfl ?_
    refine u_getR f_6_21 rfl (Nat.le_of_ble_eq_true rfl) rfl rfl ?_
    refine am_iload_n rfl rfl ?_
    obtain ⟨j7, ej7, hj7, H⟩ := ck_some H
    refine x_iald rfl (Nat.le_of_ble_eq_true rfl) rfl hj7 ej7 ?_
    refine am_icmp_le rfl (fun c8 => ?_) (fun c8 => ?_)
    · have H := it_pos c8 H
      refine x_iinc (v := (x1 + (1 : Int32))) rfl rfl (Nat.le_of_ble_eq_true rfl) rfl ?_
      refine am_goto rfl ?_
      have H := Option.some.inj H
      subst H
      exact am_drop (L' := [some (.ref 15), some (.ref t1), some (.int a2), some (.int (x1 + (1 : Int32)))]) (And.intro rfl (And.intro rfl (And.intro rfl (And.intro rfl trivial)))) K
    · have H := it_neg c8 H
      refine x_iconst (v := (1 : Int32)) rfl (by decide) ?_
      have H := Option.some.inj H
      subst H
      exact u_zret rfl rfl (Or.inr rfl) K
def f_X6_isFirst (t1 : Nat) (a2 : Int32) (a3 : Int32) (g : G) : Option (Int32 × G) := bd2 (f_X6_score t1 (2147483647 : Int32) g) fun r1 g2 => bd2 (f_X6_isOutscored t1 a2 g2) fun r3 g4 => if r3 = 0 then bd2 (f_X6_tally t1 g4) fun r6 g7 => bd (lp (fun (s10 : Int32 × G) => (if (s10.2 t1 1) ≤ s10.1 then some (.inr (.inl (s10.2))) else ck s10.1 10 fun j14 => bd2 (f_X6_parting t1 (s10.2 (t1 + 1) j14) a2 s10.2) fun r15 g16 => bd ((if (s10.2 (t1 + 1) j14) = a2 then some (.inl ()) else if (r15 - r15 / (10 : Int32) * (10 : Int32)) = (1 : Int32) then some (.inr (.inr (.inr (((0 : Int32), g16))))) else if a3 = 0 then some (.inl ()) else if r15 = 0 then some (.inr (.inr (.inr (((0 : Int32), g16))))) else some (.inl ()) : Option ((Unit) ⊕ ((Int32 × G) ⊕ ((G) ⊕ (Int32 × G)))))) fun s22m => (match s22m with | .inl _ => (some (.inl ((s10.1 + (1 : Int32)), g16))) | .inr y => some y) : Option ((Int32 × G) ⊕ ((G) ⊕ (Int32 × G))))) 2000 ((0 : Int32), g7)) fun s23m => (match s23m with | .inl s12 => (some (((1 : Int32), s12))) | .inr y => some y) else some (((0 : Int32), g4))
set_option maxHeartbeats 4000000 in
set_option maxRecDepth 100000 in
theorem y_X6_isFirst (t1 : Nat) (a2 : Int32) (a3 : Int32) (ht1 : isT t1) (g : G) (q : Int32 × G) {post : Int32 → G → Prop} (H : f_X6_isFirst t1 a2 a3 g = some q) (K : post q.1 q.2) : Y m_X6_isFirst 4 [.ref 15, .ref t1, .int a2, .int a3] g post := by
  refine Y_of ok_X6_isFirst pn_6 rfl (by decide) (Or.inr (Or.inr rfl)) (List.forall_mem_cons.mpr ⟨rfl, (List.forall_mem_cons.mpr ⟨rfl, (List.forall_mem_cons.mpr ⟨rfl, (List.forall_mem_cons.mpr ⟨rfl, (fun _ h => absurd h List.not_mem_nil)⟩)⟩)⟩)⟩) (Nat.le_of_ble_eq_true rfl) ?_
  show u_V m_X6_isFirst 4 post 0 [some (.ref 15), some (.ref t1), some (.int a2), some (.int a3), none, none, none] [] g
  unfold f_X6_isFirst at H
  refine am_aload_n rfl rfl ?_
  refine am_aload_n rfl rfl ?_
  refine am_ldc (v := (2147483647 : Int32)) c_6_139 rfl ?_
  obtain ⟨r1, g2, H1, H⟩ := bd2_some H
  refine cv2v v_6_140 rfl rfl (Nat.le_of_ble_eq_true rfl) rfl (Nat.le_of_ble_eq_true rfl) (fun _ _ => Nat.le_of_ble_eq_true rfl) (y_X6_score t1 (2147483647 : Int32) ht1 g _ H1 ?_)
  refine am_aload_n rfl rfl ?_
  refine am_aload_n rfl rfl ?_
  refine am_iload_n rfl rfl ?_
  obtain ⟨r3, g4, H1, H⟩ := bd2_some H
  refine cv2i v_6_144 rfl rfl (Nat.le_of_ble_eq_true rfl) rfl (Nat.le_of_ble_eq_true rfl) (fun _ _ => Nat.le_of_ble_eq_true rfl) (y_X6_isOutscored t1 a2 ht1 g2 _ H1 ?_)
  refine am_if_eq rfl (fun c5 => ?_) (fun c5 => ?_)
  · have H := it_pos c5 H
    refine am_aload_n rfl rfl ?_
    refine am_aload_n rfl rfl ?_
    obtain ⟨r6, g7, H1, H⟩ := bd2_some H
    refine cv1v v_6_148 rfl rfl (Nat.le_of_ble_eq_true rfl) rfl (Nat.le_of_ble_eq_true rfl) (fun _ _ => Nat.le_of_ble_eq_true rfl) (y_X6_tally t1 ht1 g4 _ H1 ?_)
    refine x_iconst (v := (0 : Int32)) rfl (by decide) ?_
    refine am_istore rfl (Nat.le_of_ble_eq_true rfl) ?_
    obtain ⟨s23, H1, H⟩ := bd_some H
    have K2 : (Sum.elim (fun (s12 : G) => u_V m_X6_isFirst 4 post 86 [none, none, none, none, none, none, none] [] s12) (fun (q : Int32 × G) => post q.1 q.2)) s23 := by
      clear H1
      cases s23 with
      | inl s12 =>
        obtain ⟨g11, e_g11⟩ : ∃ z, z = s12 := ⟨_, rfl⟩
        subst e_g11
        (try dsimp only at H); (try dsimp only)
        refine x_iconst (v := (1 : Int32)) rfl (by decide) ?_
        have H := Option.some.inj H
        subst H
        exact u_zret rfl rfl (Or.inr rfl) K
      | inr y =>
        have H := Option.some.inj H
        subst H
        exact K
    refine am_drop (L' := [some (.ref 15), some (.ref t1), some (.int a2), some (.int a3), some (.int (0 : Int32)), none, none]) (And.intro rfl (And.intro rfl (And.intro rfl (And.intro rfl (And.intro rfl trivial))))) ?_
    refine lp_ind (P := (fun (s10 : Int32 × G) => u_V m_X6_isFirst 4 post 26 [some (.ref 15), some (.ref t1), some (.int a2), some (.int a3), some (.int s10.1), none, none] [] s10.2)) (Q := (Sum.elim (fun (s12 : G) => u_V m_X6_isFirst 4 post 86 [none, none, none, none, none, none, none] [] s12) (fun (q : Int32 × G) => post q.1 q.2))) ?_ 2000 ((0 : Int32), g7) s23 H1 K2
    clear H1 H K
    intro s10 s23b H K
    obtain ⟨x8, g9⟩ := s10
    (try dsimp only at H); (try dsimp only)
    refine am_iload rfl rfl ?_
    refine am_aload_n rfl rfl ?_
    refine u_getI f_6_122 rfl (isT_lt0 ht1) (sk_T ht1) rfl ?_
    refine am_icmp_ge rfl (fun c13 => ?_) (fun c13 => ?_)
    · have H := it_pos c13 H
      have H := Option.some.inj H
      subst H
      exact am_drop (L' := [none, none, none, none, none, none, none]) trivial K
    · have H := it_neg c13 H
      refine am_aload_n rfl rfl ?_
      refine u_getR f_6_125 rfl (isT_lt0 ht1) (sk_T ht1) rfl ?_
      refine am_iload rfl rfl ?_
      obtain ⟨j14, ej14, hj14, H⟩ := ck_some H
      refine x_iald rfl (isT_lt ht1 (Nat.le_of_ble_eq_true rfl)) (sk_A ht1 (Nat.le_of_ble_eq_true rfl) (Nat.le_of_ble_eq_true rfl)) hj14 ej14 ?_
      refine am_istore rfl (Nat.le_of_ble_eq_true rfl) ?_
      refine am_aload_n rfl rfl ?_
      refine am_aload_n rfl rfl ?_
      refine am_iload rfl rfl ?_
      refine am_iload_n rfl rfl ?_
      obtain ⟨r15, g16, H1, H⟩ := bd2_some H
      refine cv3i v_6_128 rfl rfl (Nat.le_of_ble_eq_true rfl) rfl (Nat.le_of_ble_eq_true rfl) (fun _ _ => Nat.le_of_ble_eq_true rfl) (y_X6_parting t1 (g9 (t1 + 1) j14) a2 ht1 g9 _ H1 ?_)
      refine am_istore rfl (Nat.le_of_ble_eq_true rfl) ?_
      refine am_iload rfl rfl ?_
      refine am_iload_n rfl rfl ?_
      obtain ⟨s22, H1, H⟩ := bd_some H
      have K : (Sum.elim (fun (_ : Unit) => u_V m_X6_isFirst 4 post 80 [some (.ref 15), some (.ref t1), some (.int a2), some (.int a3), some (.int x8), none, none] [] g16) (Sum.elim (fun (s10 : Int32 × G) => u_V m_X6_isFirst 4 post 26 [some (.ref 15), some (.ref t1), some (.int a2), some (.int a3), some (.int s10.1), none, none] [] s10.2) (Sum.elim (fun (s12 : G) => u_V m_X6_isFirst 4 post 86 [none, none, none, none, none, none, none] [] s12) (fun (q : Int32 × G) => post q.1 q.2)))) s22 := by
        clear H1
        cases s22 with
        | inl s17 =>
          (try dsimp only at H); (try dsimp only)
          refine x_iinc (v := (x8 + (1 : Int32))) rfl rfl (Nat.le_of_ble_eq_true rfl) rfl ?_
          refine am_goto rfl ?_
          have H := Option.some.inj H
          subst H
          exact am_drop (L' := [some (.ref 15), some (.ref t1), some (.int a2), some (.int a3), some (.int (x8 + (1 : Int32))), none, none]) (And.intro rfl (And.intro rfl (And.intro rfl (And.intro rfl (And.intro rfl trivial))))) K
        | inr y =>
          have H := Option.some.inj H
          subst H
          exact K
      have H := H1
      clear H1
      refine am_icmp_eq rfl (fun c18 => ?_) (fun c18 => ?_)
      · have H := it_pos c18 H
        have H := Option.some.inj H
        subst H
        exact am_drop (L' := [some (.ref 15), some (.ref t1), some (.int a2), some (.int a3), some (.int x8), none, none]) (And.intro rfl (And.intro rfl (And.intro rfl (And.intro rfl (And.intro rfl trivial))))) K
      · have H := it_neg c18 H
        refine am_iload rfl rfl ?_
        refine x_bipush (v := (10 : Int32)) rfl (by decide) ?_
        refine am_irem rfl (by decide) ?_
        refine x_iconst (v := (1 : Int32)) rfl (by decide) ?_
        refine am_icmp_eq rfl (fun c19 => ?_) (fun c19 => ?_)
        · have H := it_pos c19 H
          refine x_iconst (v := (0 : Int32)) rfl (by decide) ?_
          have H := Option.some.inj H
          subst H
          exact u_zret rfl rfl (Or.inl rfl) K
        · have H := it_neg c19 H
          refine am_iload_n rfl rfl ?_
          refine am_if_eq rfl (fun c20 => ?_) (fun c20 => ?_)
          · have H := it_pos c20 H
            have H := Option.some.inj H
            subst H
            exact am_drop (L' := [some (.ref 15), some (.ref t1), some (.int a2), some (.int a3), some (.int x8), none, none]) (And.intro rfl (And.intro rfl (And.intro rfl (And.intro rfl (And.intro rfl trivial))))) K
          · have H := it_neg c20 H
            refine am_iload rfl rfl ?_
            refine am_if_ne rfl (fun c21 => ?_) (fun c21 => ?_)
            · have H := it_neg c21 H
              have H := Option.some.inj H
              subst H
              exact am_drop (L' := [some (.ref 15), some (.ref t1), some (.int a2), some (.int a3), some (.int x8), none, none]) (And.intro rfl (And.intro rfl (And.intro rfl (And.intro rfl (And.intro rfl trivial))))) K
            · have H := it_pos c21 H
              refine x_iconst (v := (0 : Int32)) rfl (by decide) ?_
              have H := Option.some.inj H
              subst H
              exact u_zret rfl rfl (Or.inl rfl) K
  · have H := it_neg c5 H
    refine x_iconst (v := (0 : Int32)) rfl (by decide) ?_
    have H := Option.some.inj H
    subst H
    exact u_zret rfl rfl (Or.inl rfl) K
