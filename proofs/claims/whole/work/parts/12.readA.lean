/-! Methods read off their code. Written by gen/emit.py. -/
def f_X1_clear  (g : G) : Option (Int32 × G) := wr (up2 g 1 1 (0 : Int32)) fun g1 => some (((0 : Int32), g1))
set_option maxHeartbeats 4000000 in
set_option maxRecDepth 100000 in
theorem y_X1_clear   (g : G) (q : Int32 × G) {post : Int32 → G → Prop} (H : f_X1_clear  g = some q) (K : post q.1 q.2) : Y m_X1_clear 0 [.ref 1] g post := by
  refine Y_of ok_X1_clear pn_1 rfl (by decide) (Or.inl rfl) (List.forall_mem_cons.mpr ⟨rfl, (fun _ h => absurd h List.not_mem_nil)⟩) (Nat.le_of_ble_eq_true rfl) ?_
  show u_V m_X1_clear 0 post 0 [some (.ref 1)] [] g
  unfold f_X1_clear at H
  refine am_aload_n rfl rfl ?_
  refine x_iconst (v := (0 : Int32)) rfl (by decide) ?_
  obtain ⟨g1, eg1, H⟩ := wr_some H
  refine x_putI f_1_15 rfl rfl (Nat.le_of_ble_eq_true rfl) rfl rfl (fun _ _ => ⟨rfl, rfl⟩) eg1 ?_
  have H := Option.some.inj H
  subst H
  exact u_vret rfl rfl K
def f_X1_write (a1 : Int32) (g : G) : Option (Int32 × G) := if (200 : Int32) ≤ (g 1 1) then some (((0 : Int32), g)) else ck (g 1 1) 200 fun j2 => wr (up2 g 2 j2 a1) fun g3 => wr (up2 g3 1 1 ((g3 1 1) + (1 : Int32))) fun g4 => some (((0 : Int32), g4))
set_option maxHeartbeats 4000000 in
set_option maxRecDepth 100000 in
theorem y_X1_write (a1 : Int32)  (g : G) (q : Int32 × G) {post : Int32 → G → Prop} (H : f_X1_write a1 g = some q) (K : post q.1 q.2) : Y m_X1_write 0 [.ref 1, .int a1] g post := by
  refine Y_of ok_X1_write pn_1 rfl (by decide) (Or.inl rfl) (List.forall_mem_cons.mpr ⟨rfl, (List.forall_mem_cons.mpr ⟨rfl, (fun _ h => absurd h List.not_mem_nil)⟩)⟩) (Nat.le_of_ble_eq_true rfl) ?_
  show u_V m_X1_write 0 post 0 [some (.ref 1), some (.int a1)] [] g
  unfold f_X1_write at H
  refine am_aload_n rfl rfl ?_
  refine u_getI f_1_15 rfl (Nat.le_of_ble_eq_true rfl) rfl rfl ?_
  refine x_sipush (v := (200 : Int32)) rfl (by decide) ?_
  refine am_icmp_ge rfl (fun c1 => ?_) (fun c1 => ?_)
  · have H := it_pos c1 H
    have H := Option.some.inj H
    subst H
    exact u_vret rfl rfl K
  · have H := it_neg c1 H
    refine am_aload_n rfl rfl ?_
    refine u_getR f_1_9 rfl (Nat.le_of_ble_eq_true rfl) rfl rfl ?_
    refine am_aload_n rfl rfl ?_
    refine u_getI f_1_15 rfl (Nat.le_of_ble_eq_true rfl) rfl rfl ?_
    refine am_iload_n rfl rfl ?_
    obtain ⟨j2, ej2, hj2, H⟩ := ck_some H
    obtain ⟨g3, eg3, H⟩ := wr_some H
    refine x_iast rfl (Nat.le_of_ble_eq_true rfl) rfl hj2 ej2 eg3 ?_
    refine am_aload_n rfl rfl ?_
    refine am_dup rfl rfl ?_
    refine u_getI f_1_15 rfl (Nat.le_of_ble_eq_true rfl) rfl rfl ?_
    refine x_iconst (v := (1 : Int32)) rfl (by decide) ?_
    refine am_iadd rfl ?_
    obtain ⟨g4, eg4, H⟩ := wr_some H
    refine x_putI f_1_15 rfl rfl (Nat.le_of_ble_eq_true rfl) rfl rfl (fun _ _ => ⟨rfl, rfl⟩) eg4 ?_
    have H := Option.some.inj H
    subst H
    exact u_vret rfl rfl K
def f_X1_met (a1 : Int32) (g : G) : Option (Int32 × G) := wr (up2 g 1 2 a1) fun g1 => some (((-5 : Int32), g1))
set_option maxHeartbeats 4000000 in
set_option maxRecDepth 100000 in
theorem y_X1_met (a1 : Int32)  (g : G) (q : Int32 × G) {post : Int32 → G → Prop} (H : f_X1_met a1 g = some q) (K : post q.1 q.2) : Y m_X1_met 0 [.ref 1, .int a1] g post := by
  refine Y_of ok_X1_met pn_1 rfl (by decide) (Or.inr (Or.inl rfl)) (List.forall_mem_cons.mpr ⟨rfl, (List.forall_mem_cons.mpr ⟨rfl, (fun _ h => absurd h List.not_mem_nil)⟩)⟩) (Nat.le_of_ble_eq_true rfl) ?_
  show u_V m_X1_met 0 post 0 [some (.ref 1), some (.int a1)] [] g
  unfold f_X1_met at H
  refine am_aload_n rfl rfl ?_
  refine am_iload_n rfl rfl ?_
  obtain ⟨g1, eg1, H⟩ := wr_some H
  refine x_putI f_1_19 rfl rfl (Nat.le_of_ble_eq_true rfl) rfl rfl (fun _ _ => ⟨rfl, rfl⟩) eg1 ?_
  refine x_bipush (v := (-5 : Int32)) rfl (by decide) ?_
  have H := Option.some.inj H
  subst H
  exact u_iret rfl rfl K
def f_X2_rowOf (a1 : Int32) (a2 : Int32) (g : G) : Option (Int32 × G) := some (((((a1 * (10 : Int32)) + a2) * (5 : Int32)), g))
set_option maxHeartbeats 4000000 in
set_option maxRecDepth 100000 in
theorem y_X2_rowOf (a1 : Int32) (a2 : Int32)  (g : G) (q : Int32 × G) {post : Int32 → G → Prop} (H : f_X2_rowOf a1 a2 g = some q) (K : post q.1 q.2) : Y m_X2_rowOf 0 [.ref 41, .int a1, .int a2] g post := by
  refine Y_of ok_X2_rowOf pn_2 rfl (by decide) (Or.inr (Or.inl rfl)) (List.forall_mem_cons.mpr ⟨rfl, (List.forall_mem_cons.mpr ⟨rfl, (List.forall_mem_cons.mpr ⟨rfl, (fun _ h => absurd h List.not_mem_nil)⟩)⟩)⟩) (Nat.le_of_ble_eq_true rfl) ?_
  show u_V m_X2_rowOf 0 post 0 [some (.ref 41), some (.int a1), some (.int a2)] [] g
  unfold f_X2_rowOf at H
  refine am_iload_n rfl rfl ?_
  refine x_bipush (v := (10 : Int32)) rfl (by decide) ?_
  refine am_imul rfl ?_
  refine am_iload_n rfl rfl ?_
  refine am_iadd rfl ?_
  refine x_iconst (v := (5 : Int32)) rfl (by decide) ?_
  refine am_imul rfl ?_
  have H := Option.some.inj H
  subst H
  exact u_iret rfl rfl K
def f_X2_openRow (a1 : Int32) (g : G) : Option (Int32 × G) := ck a1 4 fun j1 => if (g 42 j1) < (10 : Int32) then ck a1 4 fun j3 => wr (up2 g 42 j3 ((g 42 j1) + (1 : Int32))) fun g4 => bd2 (f_X2_rowOf a1 (g 42 j1) g4) fun r5 g6 => some ((r5, g6)) else some (((-1 : Int32), g))
set_option maxHeartbeats 4000000 in
set_option maxRecDepth 100000 in
theorem y_X2_openRow (a1 : Int32)  (g : G) (q : Int32 × G) {post : Int32 → G → Prop} (H : f_X2_openRow a1 g = some q) (K : post q.1 q.2) : Y m_X2_openRow 1 [.ref 41, .int a1] g post := by
  refine Y_of ok_X2_openRow pn_2 rfl (by decide) (Or.inr (Or.inl rfl)) (List.forall_mem_cons.mpr ⟨rfl, (List.forall_mem_cons.mpr ⟨rfl, (fun _ h => absurd h List.not_mem_nil)⟩)⟩) (Nat.le_of_ble_eq_true rfl) ?_
  show u_V m_X2_openRow 1 post 0 [some (.ref 41), some (.int a1), none] [] g
  unfold f_X2_openRow at H
  refine am_aload_n rfl rfl ?_
  refine u_getR f_2_9 rfl (Nat.le_of_ble_eq_true rfl) rfl rfl ?_
  refine am_iload_n rfl rfl ?_
  obtain ⟨j1, ej1, hj1, H⟩ := ck_some H
  refine x_iald rfl (Nat.le_of_ble_eq_true rfl) rfl hj1 ej1 ?_
  refine am_istore_n rfl (Nat.le_of_ble_eq_true rfl) ?_
  refine am_iload_n rfl rfl ?_
  refine x_bipush (v := (10 : Int32)) rfl (by decide) ?_
  refine am_icmp_lt rfl (fun c2 => ?_) (fun c2 => ?_)
  · have H := it_pos c2 H
    refine am_aload_n rfl rfl ?_
    refine u_getR f_2_9 rfl (Nat.le_of_ble_eq_true rfl) rfl rfl ?_
    refine am_iload_n rfl rfl ?_
    refine am_iload_n rfl rfl ?_
    refine x_iconst (v := (1 : Int32)) rfl (by decide) ?_
    refine am_iadd rfl ?_
    obtain ⟨j3, ej3, hj3, H⟩ := ck_some H
    obtain ⟨g4, eg4, H⟩ := wr_some H
    refine x_iast rfl (Nat.le_of_ble_eq_true rfl) rfl hj3 ej3 eg4 ?_
    refine am_aload_n rfl rfl ?_
    refine am_iload_n rfl rfl ?_
    refine am_iload_n rfl rfl ?_
    obtain ⟨r5, g6, H1, H⟩ := bd2_some H
    refine cv2i v_2_21 rfl rfl (Nat.le_of_ble_eq_true rfl) rfl (Nat.le_of_ble_eq_true rfl) (fun _ _ => Nat.le_of_ble_eq_true rfl) (y_X2_rowOf a1 (g 42 j1) g4 _ H1 ?_)
    have H := Option.some.inj H
    subst H
    exact u_iret rfl rfl K
  · have H := it_neg c2 H
    refine x_iconst (v := (-1 : Int32)) rfl (by decide) ?_
    have H := Option.some.inj H
    subst H
    exact u_iret rfl rfl K
def f_X4_begin  (g : G) : Option (Int32 × G) := wr (up2 g 45 0 (0 : Int32)) fun g1 => wr (up2 g1 45 1 (-1 : Int32)) fun g2 => wr (up2 g2 45 2 (-1 : Int32)) fun g3 => wr (up2 g3 45 3 (0 : Int32)) fun g4 => some (((0 : Int32), g4))
set_option maxHeartbeats 4000000 in
set_option maxRecDepth 100000 in
theorem y_X4_begin   (g : G) (q : Int32 × G) {post : Int32 → G → Prop} (H : f_X4_begin  g = some q) (K : post q.1 q.2) : Y m_X4_begin 0 [.ref 45] g post := by
  refine Y_of ok_X4_begin pn_4 rfl (by decide) (Or.inl rfl) (List.forall_mem_cons.mpr ⟨rfl, (fun _ h => absurd h List.not_mem_nil)⟩) (Nat.le_of_ble_eq_true rfl) ?_
  show u_V m_X4_begin 0 post 0 [some (.ref 45)] [] g
  unfold f_X4_begin at H
  refine am_aload_n rfl rfl ?_
  refine x_iconst (v := (0 : Int32)) rfl (by decide) ?_
  obtain ⟨g1, eg1, H⟩ := wr_some H
  refine x_putI f_4_9 rfl rfl (Nat.le_of_ble_eq_true rfl) rfl rfl (fun _ _ => ⟨rfl, rfl⟩) eg1 ?_
  refine am_aload_n rfl rfl ?_
  refine x_iconst (v := (-1 : Int32)) rfl (by decide) ?_
  obtain ⟨g2, eg2, H⟩ := wr_some H
  refine x_putI f_4_15 rfl rfl (Nat.le_of_ble_eq_true rfl) rfl rfl (fun _ _ => ⟨rfl, rfl⟩) eg2 ?_
  refine am_aload_n rfl rfl ?_
  refine x_iconst (v := (-1 : Int32)) rfl (by decide) ?_
  obtain ⟨g3, eg3, H⟩ := wr_some H
  refine x_putI f_4_18 rfl rfl (Nat.le_of_ble_eq_true rfl) rfl rfl (fun _ _ => ⟨rfl, rfl⟩) eg3 ?_
  refine am_aload_n rfl rfl ?_
  refine x_iconst (v := (0 : Int32)) rfl (by decide) ?_
  obtain ⟨g4, eg4, H⟩ := wr_some H
  refine x_putI f_4_21 rfl rfl (Nat.le_of_ble_eq_true rfl) rfl rfl (fun _ _ => ⟨rfl, rfl⟩) eg4 ?_
  have H := Option.some.inj H
  subst H
  exact u_vret rfl rfl K
def f_X4_tellFailure (a1 : Int32) (a2 : Int32) (a3 : Int32) (g : G) : Option (Int32 × G) := wr (up2 g 45 0 a1) fun g1 => wr (up2 g1 45 1 a2) fun g2 => wr (up2 g2 45 2 a3) fun g3 => some (((0 : Int32), g3))
set_option maxHeartbeats 4000000 in
set_option maxRecDepth 100000 in
theorem y_X4_tellFailure (a1 : Int32) (a2 : Int32) (a3 : Int32)  (g : G) (q : Int32 × G) {post : Int32 → G → Prop} (H : f_X4_tellFailure a1 a2 a3 g = some q) (K : post q.1 q.2) : Y m_X4_tellFailure 0 [.ref 45, .int a1, .int a2, .int a3] g post := by
  refine Y_of ok_X4_tellFailure pn_4 rfl (by decide) (Or.inl rfl) (List.forall_mem_cons.mpr ⟨rfl, (List.forall_mem_cons.mpr ⟨rfl, (List.forall_mem_cons.mpr ⟨rfl, (List.forall_mem_cons.mpr ⟨rfl, (fun _ h => absurd h List.not_mem_nil)⟩)⟩)⟩)⟩) (Nat.le_of_ble_eq_true rfl) ?_
  show u_V m_X4_tellFailure 0 post 0 [some (.ref 45), some (.int a1), some (.int a2), some (.int a3)] [] g
  unfold f_X4_tellFailure at H
  refine am_aload_n rfl rfl ?_
  refine am_iload_n rfl rfl ?_
  obtain ⟨g1, eg1, H⟩ := wr_some H
  refine x_putI f_4_9 rfl rfl (Nat.le_of_ble_eq_true rfl) rfl rfl (fun _ _ => ⟨rfl, rfl⟩) eg1 ?_
  refine am_aload_n rfl rfl ?_
  refine am_iload_n rfl rfl ?_
  obtain ⟨g2, eg2, H⟩ := wr_some H
  refine x_putI f_4_15 rfl rfl (Nat.le_of_ble_eq_true rfl) rfl rfl (fun _ _ => ⟨rfl, rfl⟩) eg2 ?_
  refine am_aload_n rfl rfl ?_
  refine am_iload_n rfl rfl ?_
  obtain ⟨g3, eg3, H⟩ := wr_some H
  refine x_putI f_4_18 rfl rfl (Nat.le_of_ble_eq_true rfl) rfl rfl (fun _ _ => ⟨rfl, rfl⟩) eg3 ?_
  have H := Option.some.inj H
  subst H
  exact u_vret rfl rfl K
def f_X5_has (a1 : Int32) (g : G) : Option (Int32 × G) := if a1 < 0 then some (((0 : Int32), g)) else if (g 3 4) ≤ a1 then some (((0 : Int32), g)) else some (((1 : Int32), g))
set_option maxHeartbeats 4000000 in
set_option maxRecDepth 100000 in
theorem y_X5_has (a1 : Int32)  (g : G) (q : Int32 × G) {post : Int32 → G → Prop} (H : f_X5_has a1 g = some q) (K : post q.1 q.2) : Y m_X5_has 0 [.ref 3, .int a1] g post := by
  refine Y_of ok_X5_has pn_5 rfl (by decide) (Or.inr (Or.inr rfl)) (List.forall_mem_cons.mpr ⟨rfl, (List.forall_mem_cons.mpr ⟨rfl, (fun _ h => absurd h List.not_mem_nil)⟩)⟩) (Nat.le_of_ble_eq_true rfl) ?_
  show u_V m_X5_has 0 post 0 [some (.ref 3), some (.int a1)] [] g
  unfold f_X5_has at H
  refine am_iload_n rfl rfl ?_
  refine am_if_lt rfl (fun c1 => ?_) (fun c1 => ?_)
  · have H := it_pos c1 H
    refine x_iconst (v := (0 : Int32)) rfl (by decide) ?_
    have H := Option.some.inj H
    subst H
    exact u_zret rfl rfl (Or.inl rfl) K
  · have H := it_neg c1 H
    refine am_iload_n rfl rfl ?_
    refine am_aload_n rfl rfl ?_
    refine u_getI f_5_24 rfl (Nat.le_of_ble_eq_true rfl) rfl rfl ?_
    refine am_icmp_ge rfl (fun c2 => ?_) (fun c2 => ?_)
    · have H := it_pos c2 H
      refine x_iconst (v := (0 : Int32)) rfl (by decide) ?_
      have H := Option.some.inj H
      subst H
      exact u_zret rfl rfl (Or.inl rfl) K
    · have H := it_neg c2 H
      refine x_iconst (v := (1 : Int32)) rfl (by decide) ?_
      refine am_goto rfl ?_
      have H := Option.some.inj H
      subst H
      exact u_zret rfl rfl (Or.inr rfl) K
def f_X5_isTeam (a1 : Int32) (g : G) : Option (Int32 × G) := ck a1 24 fun j1 => if (g 4 j1) = (3 : Int32) then some (((1 : Int32), g)) else some (((0 : Int32), g))
set_option maxHeartbeats 4000000 in
set_option maxRecDepth 100000 in
theorem y_X5_isTeam (a1 : Int32)  (g : G) (q : Int32 × G) {post : Int32 → G → Prop} (H : f_X5_isTeam a1 g = some q) (K : post q.1 q.2) : Y m_X5_isTeam 0 [.ref 3, .int a1] g post := by
  refine Y_of ok_X5_isTeam pn_5 rfl (by decide) (Or.inr (Or.inr rfl)) (List.forall_mem_cons.mpr ⟨rfl, (List.forall_mem_cons.mpr ⟨rfl, (fun _ h => absurd h List.not_mem_nil)⟩)⟩) (Nat.le_of_ble_eq_true rfl) ?_
  show u_V m_X5_isTeam 0 post 0 [some (.ref 3), some (.int a1)] [] g
  unfold f_X5_isTeam at H
  refine am_aload_n rfl rfl ?_
  refine u_getR f_5_9 rfl (Nat.le_of_ble_eq_true rfl) rfl rfl ?_
  refine am_iload_n rfl rfl ?_
  obtain ⟨j1, ej1, hj1, H⟩ := ck_some H
  refine x_iald rfl (Nat.le_of_ble_eq_true rfl) rfl hj1 ej1 ?_
  refine x_iconst (v := (3 : Int32)) rfl (by decide) ?_
  refine am_icmp_ne rfl (fun c2 => ?_) (fun c2 => ?_)
  · have H := it_neg c2 H
    refine x_iconst (v := (0 : Int32)) rfl (by decide) ?_
    have H := Option.some.inj H
    subst H
    exact u_zret rfl rfl (Or.inl rfl) K
  · have H := it_pos c2 H
    refine x_iconst (v := (1 : Int32)) rfl (by decide) ?_
    refine am_goto rfl ?_
    have H := Option.some.inj H
    subst H
    exact u_zret rfl rfl (Or.inr rfl) K
def f_X5_isRated (a1 : Int32) (g : G) : Option (Int32 × G) := ck a1 24 fun j1 => if (g 4 j1) = (4 : Int32) then some (((0 : Int32), g)) else some (((1 : Int32), g))
set_option maxHeartbeats 4000000 in
set_option maxRecDepth 100000 in
theorem y_X5_isRated (a1 : Int32)  (g : G) (q : Int32 × G) {post : Int32 → G → Prop} (H : f_X5_isRated a1 g = some q) (K : post q.1 q.2) : Y m_X5_isRated 0 [.ref 3, .int a1] g post := by
  refine Y_of ok_X5_isRated pn_5 rfl (by decide) (Or.inr (Or.inr rfl)) (List.forall_mem_cons.mpr ⟨rfl, (List.forall_mem_cons.mpr ⟨rfl, (fun _ h => absurd h List.not_mem_nil)⟩)⟩) (Nat.le_of_ble_eq_true rfl) ?_
  show u_V m_X5_isRated 0 post 0 [some (.ref 3), some (.int a1)] [] g
  unfold f_X5_isRated at H
  refine am_aload_n rfl rfl ?_
  refine u_getR f_5_9 rfl (Nat.le_of_ble_eq_true rfl) rfl rfl ?_
  refine am_iload_n rfl rfl ?_
  obtain ⟨j1, ej1, hj1, H⟩ := ck_some H
  refine x_iald rfl (Nat.le_of_ble_eq_true rfl) rfl hj1 ej1 ?_
  refine x_iconst (v := (4 : Int32)) rfl (by decide) ?_
  refine am_icmp_eq rfl (fun c2 => ?_) (fun c2 => ?_)
  · have H := it_pos c2 H
    refine x_iconst (v := (0 : Int32)) rfl (by decide) ?_
    have H := Option.some.inj H
    subst H
    exact u_zret rfl rfl (Or.inl rfl) K
  · have H := it_neg c2 H
    refine x_iconst (v := (1 : Int32)) rfl (by decide) ?_
    refine am_goto rfl ?_
    have H := Option.some.inj H
    subst H
    exact u_zret rfl rfl (Or.inr rfl) K
def f_X5_add (a1 : Int32) (a2 : Int32) (g : G) : Option (Int32 × G) := if (g 3 4) < (24 : Int32) then ck (g 3 4) 24 fun j2 => wr (up2 g 4 j2 a1) fun g3 => ck (g3 3 4) 24 fun j4 => wr (up2 g3 5 j4 a2) fun g5 => ck (g5 3 4) 24 fun j6 => wr (up2 g5 6 j6 (-1 : Int32)) fun g7 => wr (up2 g7 3 4 ((g7 3 4) + (1 : Int32))) fun g8 => some ((((g8 3 4) - (1 : Int32)), g8)) else some (((-4 : Int32), g))
set_option maxHeartbeats 4000000 in
set_option maxRecDepth 100000 in
theorem y_X5_add (a1 : Int32) (a2 : Int32)  (g : G) (q : Int32 × G) {post : Int32 → G → Prop} (H : f_X5_add a1 a2 g = some q) (K : post q.1 q.2) : Y m_X5_add 0 [.ref 3, .int a1, .int a2] g post := by
  refine Y_of ok_X5_add pn_5 rfl (by decide) (Or.inr (Or.inl rfl)) (List.forall_mem_cons.mpr ⟨rfl, (List.forall_mem_cons.mpr ⟨rfl, (List.forall_mem_cons.mpr ⟨rfl, (fun _ h => absurd h List.not_mem_nil)⟩)⟩)⟩) (Nat.le_of_ble_eq_true rfl) ?_
  show u_V m_X5_add 0 post 0 [some (.ref 3), some (.int a1), some (.int a2)] [] g
  unfold f_X5_add at H
  refine am_aload_n rfl rfl ?_
  refine u_getI f_5_24 rfl (Nat.le_of_ble_eq_true rfl) rfl rfl ?_
  refine x_bipush (v := (24 : Int32)) rfl (by decide) ?_
  refine am_icmp_lt rfl (fun c1 => ?_) (fun c1 => ?_)
  · have H := it_pos c1 H
    refine am_aload_n rfl rfl ?_
    refine u_getR f_5_9 rfl (Nat.le_of_ble_eq_true rfl) rfl rfl ?_
    refine am_aload_n rfl rfl ?_
    refine u_getI f_5_24 rfl (Nat.le_of_ble_eq_true rfl) rfl rfl ?_
    refine am_iload_n rfl rfl ?_
    obtain ⟨j2, ej2, hj2, H⟩ := ck_some H
    obtain ⟨g3, eg3, H⟩ := wr_some H
    refine x_iast rfl (Nat.le_of_ble_eq_true rfl) rfl hj2 ej2 eg3 ?_
    refine am_aload_n rfl rfl ?_
    refine u_getR f_5_15 rfl (Nat.le_of_ble_eq_true rfl) rfl rfl ?_
    refine am_aload_n rfl rfl ?_
    refine u_getI f_5_24 rfl (Nat.le_of_ble_eq_true rfl) rfl rfl ?_
    refine am_iload_n rfl rfl ?_
    obtain ⟨j4, ej4, hj4, H⟩ := ck_some H
    obtain ⟨g5, eg5, H⟩ := wr_some H
    refine x_iast rfl (Nat.le_of_ble_eq_true rfl) rfl hj4 ej4 eg5 ?_
    refine am_aload_n rfl rfl ?_
    refine u_getR f_5_18 rfl (Nat.le_of_ble_eq_true rfl) rfl rfl ?_
    refine am_aload_n rfl rfl ?_
    refine u_getI f_5_24 rfl (Nat.le_of_ble_eq_true rfl) rfl rfl ?_
    refine x_iconst (v := (-1 : Int32)) rfl (by decide) ?_
    obtain ⟨j6, ej6, hj6, H⟩ := ck_some H
    obtain ⟨g7, eg7, H⟩ := wr_some H
    refine x_iast rfl (Nat.le_of_ble_eq_true rfl) rfl hj6 ej6 eg7 ?_
    refine am_aload_n rfl rfl ?_
    refine am_dup rfl rfl ?_
    refine u_getI f_5_24 rfl (Nat.le_of_ble_eq_true rfl) rfl rfl ?_
    refine x_iconst (v := (1 : Int32)) rfl (by decide) ?_
    refine am_iadd rfl ?_
    obtain ⟨g8, eg8, H⟩ := wr_some H
    refine x_putI f_5_24 rfl rfl (Nat.le_of_ble_eq_true rfl) rfl rfl (fun _ _ => ⟨rfl, rfl⟩) eg8 ?_
    refine am_aload_n rfl rfl ?_
    refine u_getI f_5_24 rfl (Nat.le_of_ble_eq_true rfl) rfl rfl ?_
    refine x_iconst (v := (1 : Int32)) rfl (by decide) ?_
    refine am_isub rfl ?_
    have H := Option.some.inj H
    subst H
    exact u_iret rfl rfl K
  · have H := it_neg c1 H
    refine x_bipush (v := (-4 : Int32)) rfl (by decide) ?_
    have H := Option.some.inj H
    subst H
    exact u_iret rfl rfl K
def f_X5_setPlaces (a1 : Int32) (a2 : Int32) (g : G) : Option (Int32 × G) := ck a1 24 fun j1 => wr (up2 g 6 j1 a2) fun g2 => bd (lp (fun (s5 : Int32 × G) => (if a2 ≤ s5.1 then some (.inr (s5.2)) else ck ((a1 * (4 : Int32)) + s5.1) 96 fun j9 => wr (up2 s5.2 7 j9 (-1 : Int32)) fun g10 => some (.inl ((s5.1 + (1 : Int32)), g10)) : Option ((Int32 × G) ⊕ (G)))) 2000 ((0 : Int32), g2)) fun (s7 : G) => some (((0 : Int32), s7))
set_option maxHeartbeats 4000000 in
set_option maxRecDepth 100000 in
theorem y_X5_setPlaces (a1 : Int32) (a2 : Int32)  (g : G) (q : Int32 × G) {post : Int32 → G → Prop} (H : f_X5_setPlaces a1 a2 g = some q) (K : post q.1 q.2) : Y m_X5_setPlaces 0 [.ref 3, .int a1, .int a2] g post := by
  refine Y_of ok_X5_setPlaces pn_5 rfl (by decide) (Or.inl rfl) (List.forall_mem_cons.mpr ⟨rfl, (List.forall_mem_cons.mpr ⟨rfl, (List.forall_mem_cons.mpr ⟨rfl, (fun _ h => absurd h List.not_mem_nil)⟩)⟩)⟩) (Nat.le_of_ble_eq_true rfl) ?_
  show u_V m_X5_setPlaces 0 post 0 [some (.ref 3), some (.int a1), some (.int a2), none] [] g
  unfold f_X5_setPlaces at H
  refine am_aload_n rfl rfl ?_
  refine u_getR f_5_18 rfl (Nat.le_of_ble_eq_true rfl) rfl rfl ?_
  refine am_iload_n rfl rfl ?_
  refine am_iload_n rfl rfl ?_
  obtain ⟨j1, ej1, hj1, H⟩ := ck_some H
  obtain ⟨g2, eg2, H⟩ := wr_some H
  refine x_iast rfl (Nat.le_of_ble_eq_true rfl) rfl hj1 ej1 eg2 ?_
  refine x_iconst (v := (0 : Int32)) rfl (by decide) ?_
  refine am_istore_n rfl (Nat.le_of_ble_eq_true rfl) ?_
  obtain ⟨s11, H1, H⟩ := bd_some H
  have K2 : (fun (s7 : G) => u_V m_X5_setPlaces 0 post 31 [none, none, none, none] [] s7) s11 := by
    clear H1
    obtain ⟨g6, e_g6⟩ : ∃ z, z = s11 := ⟨_, rfl⟩
    subst e_g6
    (try dsimp only at H); (try dsimp only)
    have H := Option.some.inj H
    subst H
    exact u_vret rfl rfl K
  refine am_drop (L' := [some (.ref 3), some (.int a1), some (.int a2), some (.int (0 : Int32))]) (And.intro rfl (And.intro rfl (And.intro rfl (And.intro rfl trivial)))) ?_
  refine lp_ind (P := (fun (s5 : Int32 × G) => u_V m_X5_setPlaces 0 post 9 [some (.ref 3), some (.int a1), some (.int a2), some (.int s5.1)] [] s5.2)) (Q := (fun (s7 : G) => u_V m_X5_setPlaces 0 post 31 [none, none, none, none] [] s7)) ?_ 2000 ((0 : Int32), g2) s11 H1 K2
  clear H1 H K
  intro s5 s11b H K
  obtain ⟨x3, g4⟩ := s5
  (try dsimp only at H); (try dsimp only)
  refine am_iload_n rfl rfl ?_
  refine am_iload_n rfl rfl ?_
  refine am_icmp_ge rfl (fun c8 => ?_) (fun c8 => ?_)
  · have H := it_pos c8 H
    have H := Option.some.inj H
    subst H
    exact am_drop (L' := [none, none, none, none]) trivial K
  · have H := it_neg c8 H
    refine am_aload_n rfl rfl ?_
    refine u_getR f_5_21 rfl (Nat.le_of_ble_eq_true rfl) rfl rfl ?_
    refine am_iload_n rfl rfl ?_
    refine x_iconst (v := (4 : Int32)) rfl (by decide) ?_
    refine am_imul rfl ?_
    refine am_iload_n rfl rfl ?_
    refine am_iadd rfl ?_
    refine x_iconst (v := (-1 : Int32)) rfl (by decide) ?_
    obtain ⟨j9, ej9, hj9, H⟩ := ck_some H
    obtain ⟨g10, eg10, H⟩ := wr_some H
    refine x_iast rfl (Nat.le_of_ble_eq_true rfl) rfl hj9 ej9 eg10 ?_
    refine x_iinc (v := (x3 + (1 : Int32))) rfl rfl (Nat.le_of_ble_eq_true rfl) rfl ?_
    refine am_goto rfl ?_
    have H := Option.some.inj H
    subst H
    exact am_drop (L' := [some (.ref 3), some (.int a1), some (.int a2), some (.int (x3 + (1 : Int32)))]) (And.intro rfl (And.intro rfl (And.intro rfl (And.intro rfl trivial)))) K
def f_X5_chairOf (a1 : Int32) (a2 : Int32) (g : G) : Option (Int32 × G) := ck a1 24 fun j1 => if (g 6 j1) = (-1 : Int32) then bd2 (f_X1_met (1 : Int32) g) fun r10 g11 => some ((r10, g11)) else bd ((if a2 < 0 then some (.inl ()) else ck a1 24 fun j7 => if a2 < (g 6 j7) then some (.inr ((((a1 * (4 : Int32)) + a2), g))) else some (.inl ()) : Option ((Unit) ⊕ (Int32 × G)))) fun s9m => (match s9m with | .inl _ => (bd2 (f_X1_met (2 : Int32) g) fun r4 g5 => some ((r4, g5))) | .inr y => some y)
set_option maxHeartbeats 4000000 in
set_option maxRecDepth 100000 in
theorem y_X5_chairOf (a1 : Int32) (a2 : Int32)  (g : G) (q : Int32 × G) {post : Int32 → G → Prop} (H : f_X5_chairOf a1 a2 g = some q) (K : post q.1 q.2) : Y m_X5_chairOf 1 [.ref 3, .int a1, .int a2, .ref 1] g post := by
  refine Y_of ok_X5_chairOf pn_5 rfl (by decide) (Or.inr (Or.inl rfl)) (List.forall_mem_cons.mpr ⟨rfl, (List.forall_mem_cons.mpr ⟨rfl, (List.forall_mem_cons.mpr ⟨rfl, (List.forall_mem_cons.mpr ⟨rfl, (fun _ h => absurd h List.not_mem_nil)⟩)⟩)⟩)⟩) (Nat.le_of_ble_eq_true rfl) ?_
  show u_V m_X5_chairOf 1 post 0 [some (.ref 3), some (.int a1), some (.int a2), some (.ref 1)] [] g
  unfold f_X5_chairOf at H
  refine am_aload_n rfl rfl ?_
  refine u_getR f_5_18 rfl (Nat.le_of_ble_eq_true rfl) rfl rfl ?_
  refine am_iload_n rfl rfl ?_
  obtain ⟨j1, ej1, hj1, H⟩ := ck_some H
  refine x_iald rfl (Nat.le_of_ble_eq_true rfl) rfl hj1 ej1 ?_
  refine x_iconst (v := (-1 : Int32)) rfl (by decide) ?_
  refine am_icmp_ne rfl (fun c2 => ?_) (fun c2 => ?_)
  · have H := it_neg c2 H
    refine am_iload_n rfl rfl ?_
    obtain ⟨s9, H1, H⟩ := bd_some H
    have K : (Sum.elim (fun (_ : Unit) => u_V m_X5_chairOf 1 post 30 [none, none, none, some (.ref 1)] [] g) (fun (q : Int32 × G) => post q.1 q.2)) s9 := by
      clear H1
      cases s9 with
      | inl s3 =>
        (try dsimp only at H); (try dsimp only)
        refine am_aload_n rfl rfl ?_
        refine x_iconst (v := (2 : Int32)) rfl (by decide) ?_
        obtain ⟨r4, g5, H1, H⟩ := bd2_some H
        refine cv1i v_5_28 rfl rfl (Nat.le_of_ble_eq_true rfl) rfl (Nat.le_of_ble_eq_true rfl) (fun _ _ => Nat.le_of_ble_eq_true rfl) (y_X1_met (2 : Int32) g _ H1 ?_)
        have H := Option.some.inj H
        subst H
        exact u_iret rfl rfl K
      | inr y =>
        have H := Option.some.inj H
        subst H
        exact K
    have H := H1
    clear H1
    refine am_if_lt rfl (fun c6 => ?_) (fun c6 => ?_)
    · have H := it_pos c6 H
      have H := Option.some.inj H
      subst H
      exact am_drop (L' := [none, none, none, some (.ref 1)]) (And.intro rfl trivial) K
    · have H := it_neg c6 H
      refine am_iload_n rfl rfl ?_
      refine am_aload_n rfl rfl ?_
      refine u_getR f_5_18 rfl (Nat.le_of_ble_eq_true rfl) rfl rfl ?_
      refine am_iload_n rfl rfl ?_
      obtain ⟨j7, ej7, hj7, H⟩ := ck_some H
      refine x_iald rfl (Nat.le_of_ble_eq_true rfl) rfl hj7 ej7 ?_
      refine am_icmp_lt rfl (fun c8 => ?_) (fun c8 => ?_)
      · have H := it_pos c8 H
        refine am_iload_n rfl rfl ?_
        refine x_iconst (v := (4 : Int32)) rfl (by decide) ?_
        refine am_imul rfl ?_
        refine am_iload_n rfl rfl ?_
        refine am_iadd rfl ?_
        have H := Option.some.inj H
        subst H
        exact u_iret rfl rfl K
      · have H := it_neg c8 H
        have H := Option.some.inj H
        subst H
        exact am_drop (L' := [none, none, none, some (.ref 1)]) (And.intro rfl trivial) K
  · have H := it_pos c2 H
    refine am_aload_n rfl rfl ?_
    refine x_iconst (v := (1 : Int32)) rfl (by decide) ?_
    obtain ⟨r10, g11, H1, H⟩ := bd2_some H
    refine cv1i v_5_28 rfl rfl (Nat.le_of_ble_eq_true rfl) rfl (Nat.le_of_ble_eq_true rfl) (fun _ _ => Nat.le_of_ble_eq_true rfl) (y_X1_met (1 : Int32) g _ H1 ?_)
    have H := Option.some.inj H
    subst H
    exact u_iret rfl rfl K
def f_J9_min_7cf53 (a0 : Int32) (a1 : Int32) (g : G) : Option (Int32 × G) := if a1 < a0 then some ((a1, g)) else some ((a0, g))
set_option maxHeartbeats 4000000 in
set_option maxRecDepth 100000 in
theorem y_J9_min_7cf53 (a0 : Int32) (a1 : Int32)  (g : G) (q : Int32 × G) {post : Int32 → G → Prop} (H : f_J9_min_7cf53 a0 a1 g = some q) (K : post q.1 q.2) : Y m_J9_min_7cf53 0 [.int a0, .int a1] g post := by
  refine Y_ofF ok_J9_min_7cf53 (by decide +kernel) rfl (by decide) (Or.inr (Or.inl rfl)) (List.forall_mem_cons.mpr ⟨rfl, (List.forall_mem_cons.mpr ⟨rfl, (fun _ h => absurd h List.not_mem_nil)⟩)⟩) (Nat.le_of_ble_eq_true rfl) ?_
  show u_V m_J9_min_7cf53 0 post 0 [some (.int a0), some (.int a1)] [] g
  unfold f_J9_min_7cf53 at H
  refine am_iload_n rfl rfl ?_
  refine am_iload_n rfl rfl ?_
  refine am_icmp_gt rfl (fun c1 => ?_) (fun c1 => ?_)
  · have H := it_pos c1 H
    refine am_iload_n rfl rfl ?_
    have H := Option.some.inj H
    subst H
    exact u_iret rfl rfl K
  · have H := it_neg c1 H
    refine am_iload_n rfl rfl ?_
    refine am_goto rfl ?_
    have H := Option.some.inj H
    subst H
    exact u_iret rfl rfl K
def f_X5_soloWorth (a1 : Int32) (g : G) : Option (Int32 × G) := ck a1 24 fun j1 => if (g 4 j1) = (0 : Int32) then bd2 (f_X1_write (10 : Int32) g) fun r3 g4 => ck a1 24 fun j5 => some (((g4 5 j5), g4)) else if (g 4 j1) = (1 : Int32) then bd2 (f_X1_write (11 : Int32) g) fun r7 g8 => ck a1 24 fun j9 => bd2 (f_J9_min_7cf53 (g8 5 j9) (1500 : Int32) g8) fun r10 g11 => some ((r10, g11)) else if (g 4 j1) = (2 : Int32) then bd2 (f_X1_write (12 : Int32) g) fun r13 g14 => bd2 (f_X1_write (10 : Int32) g14) fun r15 g16 => ck a1 24 fun j17 => some ((((g16 5 j17) + (25 : Int32)), g16)) else bd2 (f_X1_met (3 : Int32) g) fun r18 g19 => some ((r18, g19))
set_option maxHeartbeats 4000000 in
set_option maxRecDepth 100000 in
theorem y_X5_soloWorth (a1 : Int32)  (g : G) (q : Int32 × G) {post : Int32 → G → Prop} (H : f_X5_soloWorth a1 g = some q) (K : post q.1 q.2) : Y m_X5_soloWorth 1 [.ref 3, .int a1, .ref 1] g post := by
  refine Y_of ok_X5_soloWorth pn_5 rfl (by decide) (Or.inr (Or.inl rfl)) (List.forall_mem_cons.mpr ⟨rfl, (List.forall_mem_cons.mpr ⟨rfl, (List.forall_mem_cons.mpr ⟨rfl, (fun _ h => absurd h List.not_mem_nil)⟩)⟩)⟩) (Nat.le_of_ble_eq_true rfl) ?_
  show u_V m_X5_soloWorth 1 post 0 [some (.ref 3), some (.int a1), some (.ref 1)] [] g
  unfold f_X5_soloWorth at H
  refine am_aload_n rfl rfl ?_
  refine u_getR f_5_9 rfl (Nat.le_of_ble_eq_true rfl) rfl rfl ?_
  refine am_iload_n rfl rfl ?_
  obtain ⟨j1, ej1, hj1, H⟩ := ck_some H
  refine x_iald rfl (Nat.le_of_ble_eq_true rfl) rfl hj1 ej1 ?_
  by_cases c2 : (g 4 j1) = (0 : Int32)
  · have H := it_pos c2 H
    refine am_tsw1 (j := 0) rfl c2 (by decide +kernel) rfl rfl ?_
    refine am_aload_n rfl rfl ?_
    refine x_bipush (v := (10 : Int32)) rfl (by decide) ?_
    obtain ⟨r3, g4, H1, H⟩ := bd2_some H
    refine cv1v v_5_42 rfl rfl (Nat.le_of_ble_eq_true rfl) rfl (Nat.le_of_ble_eq_true rfl) (fun _ _ => Nat.le_of_ble_eq_true rfl) (y_X1_write (10 : Int32) g _ H1 ?_)
    refine am_aload_n rfl rfl ?_
    refine u_getR f_5_15 rfl (Nat.le_of_ble_eq_true rfl) rfl rfl ?_
    refine am_iload_n rfl rfl ?_
    obtain ⟨j5, ej5, hj5, H⟩ := ck_some H
    refine x_iald rfl (Nat.le_of_ble_eq_true rfl) rfl hj5 ej5 ?_
    have H := Option.some.inj H
    subst H
    exact u_iret rfl rfl K
  have H := it_neg c2 H
  by_cases c6 : (g 4 j1) = (1 : Int32)
  · have H := it_pos c6 H
    refine am_tsw1 (j := 1) rfl c6 (by decide +kernel) rfl rfl ?_
    refine am_aload_n rfl rfl ?_
    refine x_bipush (v := (11 : Int32)) rfl (by decide) ?_
    obtain ⟨r7, g8, H1, H⟩ := bd2_some H
    refine cv1v v_5_42 rfl rfl (Nat.le_of_ble_eq_true rfl) rfl (Nat.le_of_ble_eq_true rfl) (fun _ _ => Nat.le_of_ble_eq_true rfl) (y_X1_write (11 : Int32) g _ H1 ?_)
    refine am_aload_n rfl rfl ?_
    refine u_getR f_5_15 rfl (Nat.le_of_ble_eq_true rfl) rfl rfl ?_
    refine am_iload_n rfl rfl ?_
    obtain ⟨j9, ej9, hj9, H⟩ := ck_some H
    refine x_iald rfl (Nat.le_of_ble_eq_true rfl) rfl hj9 ej9 ?_
    refine x_sipush (v := (1500 : Int32)) rfl (by decide) ?_
    obtain ⟨r10, g11, H1, H⟩ := bd2_some H
    refine cs2i s_5_46 rfl rfl (Nat.le_of_ble_eq_true rfl) (fun _ _ => Nat.le_of_ble_eq_true rfl) (y_J9_min_7cf53 (g8 5 j9) (1500 : Int32) g8 _ H1 ?_)
    have H := Option.some.inj H
    subst H
    exact u_iret rfl rfl K
  have H := it_neg c6 H
  by_cases c12 : (g 4 j1) = (2 : Int32)
  · have H := it_pos c12 H
    refine am_tsw1 (j := 2) rfl c12 (by decide +kernel) rfl rfl ?_
    refine am_aload_n rfl rfl ?_
    refine x_bipush (v := (12 : Int32)) rfl (by decide) ?_
    obtain ⟨r13, g14, H1, H⟩ := bd2_some H
    refine cv1v v_5_42 rfl rfl (Nat.le_of_ble_eq_true rfl) rfl (Nat.le_of_ble_eq_true rfl) (fun _ _ => Nat.le_of_ble_eq_true rfl) (y_X1_write (12 : Int32) g _ H1 ?_)
    refine am_aload_n rfl rfl ?_
    refine x_bipush (v := (10 : Int32)) rfl (by decide) ?_
    obtain ⟨r15, g16, H1, H⟩ := bd2_some H
    refine cv1v v_5_42 rfl rfl (Nat.le_of_ble_eq_true rfl) rfl (Nat.le_of_ble_eq_true rfl) (fun _ _ => Nat.le_of_ble_eq_true rfl) (y_X1_write (10 : Int32) g14 _ H1 ?_)
    refine am_aload_n rfl rfl ?_
    refine u_getR f_5_15 rfl (Nat.le_of_ble_eq_true rfl) rfl rfl ?_
    refine am_iload_n rfl rfl ?_
    obtain ⟨j17, ej17, hj17, H⟩ := ck_some H
    refine x_iald rfl (Nat.le_of_ble_eq_true rfl) rfl hj17 ej17 ?_
    refine x_bipush (v := (25 : Int32)) rfl (by decide) ?_
    refine am_iadd rfl ?_
    have H := Option.some.inj H
    subst H
    exact u_iret rfl rfl K
  have H := it_neg c12 H
  refine am_tswD rfl rfl (am_out (lo := 0) 3 (And.intro c12 (And.intro c6 (And.intro c2 trivial)))) ?_
  refine am_aload_n rfl rfl ?_
  refine x_iconst (v := (3 : Int32)) rfl (by decide) ?_
  obtain ⟨r18, g19, H1, H⟩ := bd2_some H
  refine cv1i v_5_28 rfl rfl (Nat.le_of_ble_eq_true rfl) rfl (Nat.le_of_ble_eq_true rfl) (fun _ _ => Nat.le_of_ble_eq_true rfl) (y_X1_met (3 : Int32) g _ H1 ?_)
  have H := Option.some.inj H
  subst H
  exact u_iret rfl rfl K
def f_X5_worthFor (a1 : Int32) (g : G) : Option (Int32 × G) := bd2 (f_X5_isTeam a1 g) fun r1 g2 => if r1 = 0 then bd2 (f_X5_soloWorth a1 g2) fun r34 g35 => some ((r34, g35)) else bd2 (f_X1_write (13 : Int32) g2) fun r4 g5 => ck a1 24 fun j6 => if (g5 6 j6) = (-1 : Int32) then bd2 (f_X1_met (1 : Int32) g5) fun r32 g33 => some ((r32, g33)) else bd (lp (fun (s11 : Int32 × Int32 × G) => (if (g5 6 j6) ≤ s11.2.1 then some (.inr (.inl (s11.1, s11.2.2))) else ck ((a1 * (4 : Int32)) + s11.2.1) 96 fun j16 => bd ((if (s11.2.2 7 j16) = (-1 : Int32) then bd2 (f_X1_met (1 : Int32) s11.2.2) fun r24 g25 => some ((r24, g25)) else bd2 (f_X5_soloWorth (s11.2.2 7 j16) s11.2.2) fun r22 g23 => some ((r22, g23)) : Option (Int32 × G))) fun (s19 : Int32 × G) => if 0 ≤ s19.1 then some (.inl ((s11.1 + s19.1), (s11.2.1 + (1 : Int32)), s19.2)) else some (.inr (.inr ((s19.1, s19.2)))) : Option ((Int32 × Int32 × G) ⊕ ((Int32 × G) ⊕ (Int32 × G))))) 2000 ((0 : Int32), (0 : Int32), g5)) fun s27m => (match s27m with | .inl s14 => (if (g5 6 j6) = 0 then bd2 (f_X1_met (4 : Int32) s14.2) fun r30 g31 => some ((r30, g31)) else dz (g5 6 j6) (some (((s14.1 / (g5 6 j6)), s14.2)))) | .inr y => some y)
set_option maxHeartbeats 4000000 in
set_option maxRecDepth 100000 in
theorem y_X5_worthFor (a1 : Int32)  (g : G) (q : Int32 × G) {post : Int32 → G → Prop} (H : f_X5_worthFor a1 g = some q) (K : post q.1 q.2) : Y m_X5_worthFor 2 [.ref 3, .int a1, .ref 1] g post := by
  refine Y_of ok_X5_worthFor pn_5 rfl (by decide) (Or.inr (Or.inl rfl)) (List.forall_mem_cons.mpr ⟨rfl, (List.forall_mem_cons.mpr ⟨rfl, (List.forall_mem_cons.mpr ⟨rfl, (fun _ h => absurd h List.not_mem_nil)⟩)⟩)⟩) (Nat.le_of_ble_eq_true rfl) ?_
  show u_V m_X5_worthFor 2 post 0 [some (.ref 3), some (.int a1), some (.ref 1), none, none, none, none, none] [] g
  unfold f_X5_worthFor at H
  refine am_aload_n rfl rfl ?_
  refine am_iload_n rfl rfl ?_
  obtain ⟨r1, g2, H1, H⟩ := bd2_some H
  refine cv1i v_5_34 rfl rfl (Nat.le_of_ble_eq_true rfl) rfl (Nat.le_of_ble_eq_true rfl) (fun _ _ => Nat.le_of_ble_eq_true rfl) (y_X5_isTeam a1 g _ H1 ?_)
  refine am_if_ne rfl (fun c3 => ?_) (fun c3 => ?_)
  · have H := it_neg c3 H
    refine am_aload_n rfl rfl ?_
    refine x_bipush (v := (13 : Int32)) rfl (by decide) ?_
    obtain ⟨r4, g5, H1, H⟩ := bd2_some H
    refine cv1v v_5_42 rfl rfl (Nat.le_of_ble_eq_true rfl) rfl (Nat.le_of_ble_eq_true rfl) (fun _ _ => Nat.le_of_ble_eq_true rfl) (y_X1_write (13 : Int32) g2 _ H1 ?_)
    refine am_aload_n rfl rfl ?_
    refine u_getR f_5_18 rfl (Nat.le_of_ble_eq_true rfl) rfl rfl ?_
    refine am_iload_n rfl rfl ?_
    obtain ⟨j6, ej6, hj6, H⟩ := ck_some H
    refine x_iald rfl (Nat.le_of_ble_eq_true rfl) rfl hj6 ej6 ?_
    refine am_istore_n rfl (Nat.le_of_ble_eq_true rfl) ?_
    refine am_iload_n rfl rfl ?_
    refine x_iconst (v := (-1 : Int32)) rfl (by decide) ?_
    refine am_icmp_ne rfl (fun c7 => ?_) (fun c7 => ?_)
    · have H := it_neg c7 H
      refine x_iconst (v := (0 : Int32)) rfl (by decide) ?_
      refine am_istore rfl (Nat.le_of_ble_eq_true rfl) ?_
      refine x_iconst (v := (0 : Int32)) rfl (by decide) ?_
      refine am_istore rfl (Nat.le_of_ble_eq_true rfl) ?_
      obtain ⟨s27, H1, H⟩ := bd_some H
      have K2 : (Sum.elim (fun (s14 : Int32 × G) => u_V m_X5_worthFor 2 post 108 [none, none, some (.ref 1), some (.int (g5 6 j6)), some (.int s14.1), none, none, none] [] s14.2) (fun (q : Int32 × G) => post q.1 q.2)) s27 := by
        clear H1
        cases s27 with
        | inl s14 =>
          obtain ⟨x12, g13⟩ := s14
          (try dsimp only at H); (try dsimp only)
          refine am_iload_n rfl rfl ?_
          refine am_if_ne rfl (fun c28 => ?_) (fun c28 => ?_)
          · have H := it_neg c28 H
            refine am_iload rfl rfl ?_
            refine am_iload_n rfl rfl ?_
            obtain ⟨hz29, H⟩ := dz_some H
            refine am_idiv rfl hz29 ?_
            have H := Option.some.inj H
            subst H
            exact u_iret rfl rfl K
          · have H := it_pos c28 H
            refine am_aload_n rfl rfl ?_
            refine x_iconst (v := (4 : Int32)) rfl (by decide) ?_
            obtain ⟨r30, g31, H1, H⟩ := bd2_some H
            refine cv1i v_5_28 rfl rfl (Nat.le_of_ble_eq_true rfl) rfl (Nat.le_of_ble_eq_true rfl) (fun _ _ => Nat.le_of_ble_eq_true rfl) (y_X1_met (4 : Int32) g13 _ H1 ?_)
            refine am_goto rfl ?_
            have H := Option.some.inj H
            subst H
            exact u_iret rfl rfl K
        | inr y =>
          have H := Option.some.inj H
          subst H
          exact K
      refine am_drop (L' := [some (.ref 3), some (.int a1), some (.ref 1), some (.int (g5 6 j6)), some (.int (0 : Int32)), some (.int (0 : Int32)), none, none]) (And.intro rfl (And.intro rfl (And.intro rfl (And.intro rfl (And.intro rfl (And.intro rfl trivial)))))) ?_
      refine lp_ind (P := (fun (s11 : Int32 × Int32 × G) => u_V m_X5_worthFor 2 post 45 [some (.ref 3), some (.int a1), some (.ref 1), some (.int (g5 6 j6)), some (.int s11.1), some (.int s11.2.1), none, none] [] s11.2.2)) (Q := (Sum.elim (fun (s14 : Int32 × G) => u_V m_X5_worthFor 2 post 108 [none, none, some (.ref 1), some (.int (g5 6 j6)), some (.int s14.1), none, none, none] [] s14.2) (fun (q : Int32 × G) => post q.1 q.2))) ?_ 2000 ((0 : Int32), (0 : Int32), g5) s27 H1 K2
      clear H1 H K
      intro s11 s27b H K
      obtain ⟨x8, x9, g10⟩ := s11
      (try dsimp only at H); (try dsimp only)
      refine am_iload rfl rfl ?_
      refine am_iload_n rfl rfl ?_
      refine am_icmp_ge rfl (fun c15 => ?_) (fun c15 => ?_)
      · have H := it_pos c15 H
        have H := Option.some.inj H
        subst H
        exact am_drop (L' := [none, none, some (.ref 1), some (.int (g5 6 j6)), some (.int x8), none, none, none]) (And.intro rfl (And.intro rfl (And.intro rfl trivial))) K
      · have H := it_neg c15 H
        refine am_aload_n rfl rfl ?_
        refine u_getR f_5_21 rfl (Nat.le_of_ble_eq_true rfl) rfl rfl ?_
        refine am_iload_n rfl rfl ?_
        refine x_iconst (v := (4 : Int32)) rfl (by decide) ?_
        refine am_imul rfl ?_
        refine am_iload rfl rfl ?_
        refine am_iadd rfl ?_
        obtain ⟨j16, ej16, hj16, H⟩ := ck_some H
        refine x_iald rfl (Nat.le_of_ble_eq_true rfl) rfl hj16 ej16 ?_
        refine am_istore rfl (Nat.le_of_ble_eq_true rfl) ?_
        refine am_iload rfl rfl ?_
        refine x_iconst (v := (-1 : Int32)) rfl (by decide) ?_
        obtain ⟨s26, H1, H⟩ := bd_some H
        have K : (fun (s19 : Int32 × G) => u_V m_X5_worthFor 2 post 85 [some (.ref 3), some (.int a1), some (.ref 1), some (.int (g5 6 j6)), some (.int x8), some (.int x9), none, none] [.int s19.1] s19.2) s26 := by
          clear H1
          obtain ⟨x17, g18⟩ := s26
          (try dsimp only at H); (try dsimp only)
          refine am_istore rfl (Nat.le_of_ble_eq_true rfl) ?_
          refine am_iload rfl rfl ?_
          refine am_if_ge rfl (fun c20 => ?_) (fun c20 => ?_)
          · have H := it_pos c20 H
            refine am_iload rfl rfl ?_
            refine am_iload rfl rfl ?_
            refine am_iadd rfl ?_
            refine am_istore rfl (Nat.le_of_ble_eq_true rfl) ?_
            refine x_iinc (v := (x9 + (1 : Int32))) rfl rfl (Nat.le_of_ble_eq_true rfl) rfl ?_
            refine am_goto rfl ?_
            have H := Option.some.inj H
            subst H
            exact am_drop (L' := [some (.ref 3), some (.int a1), some (.ref 1), some (.int (g5 6 j6)), some (.int (x8 + x17)), some (.int (x9 + (1 : Int32))), none, none]) (And.intro rfl (And.intro rfl (And.intro rfl (And.intro rfl (And.intro rfl (And.intro rfl trivial)))))) K
          · have H := it_neg c20 H
            refine am_iload rfl rfl ?_
            have H := Option.some.inj H
            subst H
            exact u_iret rfl rfl K
        have H := H1
        clear H1
        refine am_icmp_ne rfl (fun c21 => ?_) (fun c21 => ?_)
        · have H := it_neg c21 H
          refine am_aload_n rfl rfl ?_
          refine am_iload rfl rfl ?_
          refine am_aload_n rfl rfl ?_
          obtain ⟨r22, g23, H1, H⟩ := bd2_some H
          refine cv2i v_5_38 rfl rfl (Nat.le_of_ble_eq_true rfl) rfl (Nat.le_of_ble_eq_true rfl) (fun _ _ => Nat.le_of_ble_eq_true rfl) (y_X5_soloWorth (g10 7 j16) g10 _ H1 ?_)
          have H := Option.some.inj H
          subst H
          exact am_drop (L' := [some (.ref 3), some (.int a1), some (.ref 1), some (.int (g5 6 j6)), some (.int x8), some (.int x9), none, none]) (And.intro rfl (And.intro rfl (And.intro rfl (And.intro rfl (And.intro rfl (And.intro rfl trivial)))))) K
        · have H := it_pos c21 H
          refine am_aload_n rfl rfl ?_
          refine x_iconst (v := (1 : Int32)) rfl (by decide) ?_
          obtain ⟨r24, g25, H1, H⟩ := bd2_some H
          refine cv1i v_5_28 rfl rfl (Nat.le_of_ble_eq_true rfl) rfl (Nat.le_of_ble_eq_true rfl) (fun _ _ => Nat.le_of_ble_eq_true rfl) (y_X1_met (1 : Int32) g10 _ H1 ?_)
          refine am_goto rfl ?_
          have H := Option.some.inj H
          subst H
          exact am_drop (L' := [some (.ref 3), some (.int a1), some (.ref 1), some (.int (g5 6 j6)), some (.int x8), some (.int x9), none, none]) (And.intro rfl (And.intro rfl (And.intro rfl (And.intro rfl (And.intro rfl (And.intro rfl trivial)))))) K
    · have H := it_pos c7 H
      refine am_aload_n rfl rfl ?_
      refine x_iconst (v := (1 : Int32)) rfl (by decide) ?_
      obtain ⟨r32, g33, H1, H⟩ := bd2_some H
      refine cv1i v_5_28 rfl rfl (Nat.le_of_ble_eq_true rfl) rfl (Nat.le_of_ble_eq_true rfl) (fun _ _ => Nat.le_of_ble_eq_true rfl) (y_X1_met (1 : Int32) g5 _ H1 ?_)
      have H := Option.some.inj H
      subst H
      exact u_iret rfl rfl K
  · have H := it_pos c3 H
    refine am_aload_n rfl rfl ?_
    refine am_iload_n rfl rfl ?_
    refine am_aload_n rfl rfl ?_
    obtain ⟨r34, g35, H1, H⟩ := bd2_some H
    refine cv2i v_5_38 rfl rfl (Nat.le_of_ble_eq_true rfl) rfl (Nat.le_of_ble_eq_true rfl) (fun _ _ => Nat.le_of_ble_eq_true rfl) (y_X5_soloWorth a1 g2 _ H1 ?_)
    have H := Option.some.inj H
    subst H
    exact u_iret rfl rfl K
def f_X5_stepFor (a1 : Int32) (g : G) : Option (Int32 × G) := ck a1 24 fun j1 => if (g 4 j1) = (0 : Int32) then bd2 (f_X1_write (20 : Int32) g) fun r3 g4 => some (((20 : Int32), g4)) else if (g 4 j1) = (1 : Int32) then bd2 (f_X1_write (20 : Int32) g) fun r6 g7 => some (((20 : Int32), g7)) else if (g 4 j1) = (2 : Int32) then bd2 (f_X1_write (22 : Int32) g) fun r9 g10 => bd2 (f_X1_write (20 : Int32) g10) fun r11 g12 => some (((40 : Int32), g12)) else if (g 4 j1) = (3 : Int32) then bd2 (f_X1_write (23 : Int32) g) fun r14 g15 => some (((10 : Int32), g15)) else bd2 (f_X1_met (3 : Int32) g) fun r16 g17 => some ((r16, g17))
set_option maxHeartbeats 4000000 in
set_option maxRecDepth 100000 in
theorem y_X5_stepFor (a1 : Int32)  (g : G) (q : Int32 × G) {post : Int32 → G → Prop} (H : f_X5_stepFor a1 g = some q) (K : post q.1 q.2) : Y m_X5_stepFor 1 [.ref 3, .int a1, .ref 1] g post := by
  refine Y_of ok_X5_stepFor pn_5 rfl (by decide) (Or.inr (Or.inl rfl)) (List.forall_mem_cons.mpr ⟨rfl, (List.forall_mem_cons.mpr ⟨rfl, (List.forall_mem_cons.mpr ⟨rfl, (fun _ h => absurd h List.not_mem_nil)⟩)⟩)⟩) (Nat.le_of_ble_eq_true rfl) ?_
  show u_V m_X5_stepFor 1 post 0 [some (.ref 3), some (.int a1), some (.ref 1)] [] g
  unfold f_X5_stepFor at H
  refine am_aload_n rfl rfl ?_
  refine u_getR f_5_9 rfl (Nat.le_of_ble_eq_true rfl) rfl rfl ?_
  refine am_iload_n rfl rfl ?_
  obtain ⟨j1, ej1, hj1, H⟩ := ck_some H
  refine x_iald rfl (Nat.le_of_ble_eq_true rfl) rfl hj1 ej1 ?_
  by_cases c2 : (g 4 j1) = (0 : Int32)
  · have H := it_pos c2 H
    refine am_tsw1 (j := 0) rfl c2 (by decide +kernel) rfl rfl ?_
    refine am_aload_n rfl rfl ?_
    refine x_bipush (v := (20 : Int32)) rfl (by decide) ?_
    obtain ⟨r3, g4, H1, H⟩ := bd2_some H
    refine cv1v v_5_42 rfl rfl (Nat.le_of_ble_eq_true rfl) rfl (Nat.le_of_ble_eq_true rfl) (fun _ _ => Nat.le_of_ble_eq_true rfl) (y_X1_write (20 : Int32) g _ H1 ?_)
    refine x_bipush (v := (20 : Int32)) rfl (by decide) ?_
    have H := Option.some.inj H
    subst H
    exact u_iret rfl rfl K
  have H := it_neg c2 H
  by_cases c5 : (g 4 j1) = (1 : Int32)
  · have H := it_pos c5 H
    refine am_tsw1 (j := 1) rfl c5 (by decide +kernel) rfl rfl ?_
    refine am_aload_n rfl rfl ?_
    refine x_bipush (v := (20 : Int32)) rfl (by decide) ?_
    obtain ⟨r6, g7, H1, H⟩ := bd2_some H
    refine cv1v v_5_42 rfl rfl (Nat.le_of_ble_eq_true rfl) rfl (Nat.le_of_ble_eq_true rfl) (fun _ _ => Nat.le_of_ble_eq_true rfl) (y_X1_write (20 : Int32) g _ H1 ?_)
    refine x_bipush (v := (20 : Int32)) rfl (by decide) ?_
    have H := Option.some.inj H
    subst H
    exact u_iret rfl rfl K
  have H := it_neg c5 H
  by_cases c8 : (g 4 j1) = (2 : Int32)
  · have H := it_pos c8 H
    refine am_tsw1 (j := 2) rfl c8 (by decide +kernel) rfl rfl ?_
    refine am_aload_n rfl rfl ?_
    refine x_bipush (v := (22 : Int32)) rfl (by decide) ?_
    obtain ⟨r9, g10, H1, H⟩ := bd2_some H
    refine cv1v v_5_42 rfl rfl (Nat.le_of_ble_eq_true rfl) rfl (Nat.le_of_ble_eq_true rfl) (fun _ _ => Nat.le_of_ble_eq_true rfl) (y_X1_write (22 : Int32) g _ H1 ?_)
    refine am_aload_n rfl rfl ?_
    refine x_bipush (v := (20 : Int32)) rfl (by decide) ?_
    obtain ⟨r11, g12, H1, H⟩ := bd2_some H
    refine cv1v v_5_42 rfl rfl (Nat.le_of_ble_eq_true rfl) rfl (Nat.le_of_ble_eq_true rfl) (fun _ _ => Nat.le_of_ble_eq_true rfl) (y_X1_write (20 : Int32) g10 _ H1 ?_)
    refine x_bipush (v := (40 : Int32)) rfl (by decide) ?_
    have H := Option.some.inj H
    subst H
    exact u_iret rfl rfl K
  have H := it_neg c8 H
  by_cases c13 : (g 4 j1) = (3 : Int32)
  · have H := it_pos c13 H
    refine am_tsw1 (j := 3) rfl c13 (by decide +kernel) rfl rfl ?_
    refine am_aload_n rfl rfl ?_
    refine x_bipush (v := (23 : Int32)) rfl (by decide) ?_
    obtain ⟨r14, g15, H1, H⟩ := bd2_some H
    refine cv1v v_5_42 rfl rfl (Nat.le_of_ble_eq_true rfl) rfl (Nat.le_of_ble_eq_true rfl) (fun _ _ => Nat.le_of_ble_eq_true rfl) (y_X1_write (23 : Int32) g _ H1 ?_)
    refine x_bipush (v := (10 : Int32)) rfl (by decide) ?_
    have H := Option.some.inj H
    subst H
    exact u_iret rfl rfl K
  have H := it_neg c13 H
  refine am_tswD rfl rfl (am_out (lo := 0) 4 (And.intro c13 (And.intro c8 (And.intro c5 (And.intro c2 trivial))))) ?_
  refine am_aload_n rfl rfl ?_
  refine x_iconst (v := (3 : Int32)) rfl (by decide) ?_
  obtain ⟨r16, g17, H1, H⟩ := bd2_some H
  refine cv1i v_5_28 rfl rfl (Nat.le_of_ble_eq_true rfl) rfl (Nat.le_of_ble_eq_true rfl) (fun _ _ => Nat.le_of_ble_eq_true rfl) (y_X1_met (3 : Int32) g _ H1 ?_)
  have H := Option.some.inj H
  subst H
  exact u_iret rfl rfl K
def f_X5_takeOver_3_8  (g : G) : Option (Int32 × G) := wr (up2 g 3 4 (g 8 4)) fun g1 => cz (0 : Int32) (0 : Int32) (g1 3 4) 24 24 (wr (up1 g1 4 (va_cpy (g1 9) (g1 4) (0 : Int32).toNatClampNeg (0 : Int32).toNatClampNeg (g1 3 4).toNatClampNeg)) fun g2 => cz (0 : Int32) (0 : Int32) (g2 3 4) 24 24 (wr (up1 g2 5 (va_cpy (g2 10) (g2 5) (0 : Int32).toNatClampNeg (0 : Int32).toNatClampNeg (g2 3 4).toNatClampNeg)) fun g8 => cz (0 : Int32) (0 : Int32) (g8 3 4) 24 24 (wr (up1 g8 6 (va_cpy (g8 11) (g8 6) (0 : Int32).toNatClampNeg (0 : Int32).toNatClampNeg (g8 3 4).toNatClampNeg)) fun g14 => cz (0 : Int32) (0 : Int32) ((g14 3 4) * (4 : Int32)) 96 96 (wr (up1 g14 7 (va_cpy (g14 12) (g14 7) (0 : Int32).toNatClampNeg (0 : Int32).toNatClampNeg ((g14 3 4) * (4 : Int32)).toNatClampNeg)) fun g20 => some (((0 : Int32), g20))))))
set_option maxHeartbeats 4000000 in
set_option maxRecDepth 100000 in
theorem y_X5_takeOver_3_8   (g : G) (q : Int32 × G) {post : Int32 → G → Prop} (H : f_X5_takeOver_3_8  g = some q) (K : post q.1 q.2) : Y m_X5_takeOver 1 [.ref 3, .ref 8] g post := by
  refine Y_of ok_X5_takeOver pn_5 rfl (by decide) (Or.inl rfl) (List.forall_mem_cons.mpr ⟨rfl, (List.forall_mem_cons.mpr ⟨rfl, (fun _ h => absurd h List.not_mem_nil)⟩)⟩) (Nat.le_of_ble_eq_true rfl) ?_
  show u_V m_X5_takeOver 1 post 0 [some (.ref 3), some (.ref 8)] [] g
  unfold f_X5_takeOver_3_8 at H
  refine am_aload_n rfl rfl ?_
  refine am_aload_n rfl rfl ?_
  refine u_getI f_5_24 rfl (Nat.le_of_ble_eq_true rfl) rfl rfl ?_
  obtain ⟨g1, eg1, H⟩ := wr_some H
  refine x_putI f_5_24 rfl rfl (Nat.le_of_ble_eq_true rfl) rfl rfl (fun _ _ => ⟨rfl, rfl⟩) eg1 ?_
  refine am_aload_n rfl rfl ?_
  refine u_getR f_5_9 rfl (Nat.le_of_ble_eq_true rfl) rfl rfl ?_
  refine x_iconst (v := (0 : Int32)) rfl (by decide) ?_
  refine am_aload_n rfl rfl ?_
  refine u_getR f_5_9 rfl (Nat.le_of_ble_eq_true rfl) rfl rfl ?_
  refine x_iconst (v := (0 : Int32)) rfl (by decide) ?_
  refine am_aload_n rfl rfl ?_
  refine u_getI f_5_24 rfl (Nat.le_of_ble_eq_true rfl) rfl rfl ?_
  obtain ⟨hc3, hc4, hc5, hc6, hc7, H⟩ := cz_some H
  obtain ⟨g2, eg2, H⟩ := wr_some H
  refine x_copy a_5_52 rfl (Nat.le_of_ble_eq_true rfl) rfl (Nat.le_of_ble_eq_true rfl) rfl hc3 hc4 hc5 hc6 hc7 (Nat.le_of_ble_eq_true rfl) (fun _ _ => Nat.le_of_ble_eq_true rfl) eg2 ?_
  refine am_aload_n rfl rfl ?_
  refine u_getR f_5_15 rfl (Nat.le_of_ble_eq_true rfl) rfl rfl ?_
  refine x_iconst (v := (0 : Int32)) rfl (by decide) ?_
  refine am_aload_n rfl rfl ?_
  refine u_getR f_5_15 rfl (Nat.le_of_ble_eq_true rfl) rfl rfl ?_
  refine x_iconst (v := (0 : Int32)) rfl (by decide) ?_
  refine am_aload_n rfl rfl ?_
  refine u_getI f_5_24 rfl (Nat.le_of_ble_eq_true rfl) rfl rfl ?_
  obtain ⟨hc9, hc10, hc11, hc12, hc13, H⟩ := cz_some H
  obtain ⟨g8, eg8, H⟩ := wr_some H
  refine x_copy a_5_52 rfl (Nat.le_of_ble_eq_true rfl) rfl (Nat.le_of_ble_eq_true rfl) rfl hc9 hc10 hc11 hc12 hc13 (Nat.le_of_ble_eq_true rfl) (fun _ _ => Nat.le_of_ble_eq_true rfl) eg8 ?_
  refine am_aload_n rfl rfl ?_
  refine u_getR f_5_18 rfl (Nat.le_of_ble_eq_true rfl) rfl rfl ?_
  refine x_iconst (v := (0 : Int32)) rfl (by decide) ?_
  refine am_aload_n rfl rfl ?_
  refine u_getR f_5_18 rfl (Nat.le_of_ble_eq_true rfl) rfl rfl ?_
  refine x_iconst (v := (0 : Int32)) rfl (by decide) ?_
  refine am_aload_n rfl rfl ?_
  refine u_getI f_5_24 rfl (Nat.le_of_ble_eq_true rfl) rfl rfl ?_
  obtain ⟨hc15, hc16, hc17, hc18, hc19, H⟩ := cz_some H
  obtain ⟨g14, eg14, H⟩ := wr_some H
  refine x_copy a_5_52 rfl (Nat.le_of_ble_eq_true rfl) rfl (Nat.le_of_ble_eq_true rfl) rfl hc15 hc16 hc17 hc18 hc19 (Nat.le_of_ble_eq_true rfl) (fun _ _ => Nat.le_of_ble_eq_true rfl) eg14 ?_
  refine am_aload_n rfl rfl ?_
  refine u_getR f_5_21 rfl (Nat.le_of_ble_eq_true rfl) rfl rfl ?_
  refine x_iconst (v := (0 : Int32)) rfl (by decide) ?_
  refine am_aload_n rfl rfl ?_
  refine u_getR f_5_21 rfl (Nat.le_of_ble_eq_true rfl) rfl rfl ?_
  refine x_iconst (v := (0 : Int32)) rfl (by decide) ?_
  refine am_aload_n rfl rfl ?_
  refine u_getI f_5_24 rfl (Nat.le_of_ble_eq_true rfl) rfl rfl ?_
  refine x_iconst (v := (4 : Int32)) rfl (by decide) ?_
  refine am_imul rfl ?_
  obtain ⟨hc21, hc22, hc23, hc24, hc25, H⟩ := cz_some H
  obtain ⟨g20, eg20, H⟩ := wr_some H
  refine x_copy a_5_52 rfl (Nat.le_of_ble_eq_true rfl) rfl (Nat.le_of_ble_eq_true rfl) rfl hc21 hc22 hc23 hc24 hc25 (Nat.le_of_ble_eq_true rfl) (fun _ _ => Nat.le_of_ble_eq_true rfl) eg20 ?_
  have H := Option.some.inj H
  subst H
  exact u_vret rfl rfl K
def f_X5_takeOver_8_3  (g : G) : Option (Int32 × G) := wr (up2 g 8 4 (g 3 4)) fun g1 => cz (0 : Int32) (0 : Int32) (g1 8 4) 24 24 (wr (up1 g1 9 (va_cpy (g1 4) (g1 9) (0 : Int32).toNatClampNeg (0 : Int32).toNatClampNeg (g1 8 4).toNatClampNeg)) fun g2 => cz (0 : Int32) (0 : Int32) (g2 8 4) 24 24 (wr (up1 g2 10 (va_cpy (g2 5) (g2 10) (0 : Int32).toNatClampNeg (0 : Int32).toNatClampNeg (g2 8 4).toNatClampNeg)) fun g8 => cz (0 : Int32) (0 : Int32) (g8 8 4) 24 24 (wr (up1 g8 11 (va_cpy (g8 6) (g8 11) (0 : Int32).toNatClampNeg (0 : Int32).toNatClampNeg (g8 8 4).toNatClampNeg)) fun g14 => cz (0 : Int32) (0 : Int32) ((g14 8 4) * (4 : Int32)) 96 96 (wr (up1 g14 12 (va_cpy (g14 7) (g14 12) (0 : Int32).toNatClampNeg (0 : Int32).toNatClampNeg ((g14 8 4) * (4 : Int32)).toNatClampNeg)) fun g20 => some (((0 : Int32), g20))))))
set_option maxHeartbeats 4000000 in
set_option maxRecDepth 100000 in
theorem y_X5_takeOver_8_3   (g : G) (q : Int32 × G) {post : Int32 → G → Prop} (H : f_X5_takeOver_8_3  g = some q) (K : post q.1 q.2) : Y m_X5_takeOver 1 [.ref 8, .ref 3] g post := by
  refine Y_of ok_X5_takeOver pn_5 rfl (by decide) (Or.inl rfl) (List.forall_mem_cons.mpr ⟨rfl, (List.forall_mem_cons.mpr ⟨rfl, (fun _ h => absurd h List.not_mem_nil)⟩)⟩) (Nat.le_of_ble_eq_true rfl) ?_
  show u_V m_X5_takeOver 1 post 0 [some (.ref 8), some (.ref 3)] [] g
  unfold f_X5_takeOver_8_3 at H
  refine am_aload_n rfl rfl ?_
  refine am_aload_n rfl rfl ?_
  refine u_getI f_5_24 rfl (Nat.le_of_ble_eq_true rfl) rfl rfl ?_
  obtain ⟨g1, eg1, H⟩ := wr_some H
  refine x_putI f_5_24 rfl rfl (Nat.le_of_ble_eq_true rfl) rfl rfl (fun _ _ => ⟨rfl, rfl⟩) eg1 ?_
  refine am_aload_n rfl rfl ?_
  refine u_getR f_5_9 rfl (Nat.le_of_ble_eq_true rfl) rfl rfl ?_
  refine x_iconst (v := (0 : Int32)) rfl (by decide) ?_
  refine am_aload_n rfl rfl ?_
  refine u_getR f_5_9 rfl (Nat.le_of_ble_eq_true rfl) rfl rfl ?_
  refine x_iconst (v := (0 : Int32)) rfl (by decide) ?_
  refine am_aload_n rfl rfl ?_
  refine u_getI f_5_24 rfl (Nat.le_of_ble_eq_true rfl) rfl rfl ?_
  obtain ⟨hc3, hc4, hc5, hc6, hc7, H⟩ := cz_some H
  obtain ⟨g2, eg2, H⟩ := wr_some H
  refine x_copy a_5_52 rfl (Nat.le_of_ble_eq_true rfl) rfl (Nat.le_of_ble_eq_true rfl) rfl hc3 hc4 hc5 hc6 hc7 (Nat.le_of_ble_eq_true rfl) (fun _ _ => Nat.le_of_ble_eq_true rfl) eg2 ?_
  refine am_aload_n rfl rfl ?_
  refine u_getR f_5_15 rfl (Nat.le_of_ble_eq_true rfl) rfl rfl ?_
  refine x_iconst (v := (0 : Int32)) rfl (by decide) ?_
  refine am_aload_n rfl rfl ?_
  refine u_getR f_5_15 rfl (Nat.le_of_ble_eq_true rfl) rfl rfl ?_
  refine x_iconst (v := (0 : Int32)) rfl (by decide) ?_
  refine am_aload_n rfl rfl ?_
  refine u_getI f_5_24 rfl (Nat.le_of_ble_eq_true rfl) rfl rfl ?_
  obtain ⟨hc9, hc10, hc11, hc12, hc13, H⟩ := cz_some H
  obtain ⟨g8, eg8, H⟩ := wr_some H
  refine x_copy a_5_52 rfl (Nat.le_of_ble_eq_true rfl) rfl (Nat.le_of_ble_eq_true rfl) rfl hc9 hc10 hc11 hc12 hc13 (Nat.le_of_ble_eq_true rfl) (fun _ _ => Nat.le_of_ble_eq_true rfl) eg8 ?_
  refine am_aload_n rfl rfl ?_
  refine u_getR f_5_18 rfl (Nat.le_of_ble_eq_true rfl) rfl rfl ?_
  refine x_iconst (v := (0 : Int32)) rfl (by decide) ?_
  refine am_aload_n rfl rfl ?_
  refine u_getR f_5_18 rfl (Nat.le_of_ble_eq_true rfl) rfl rfl ?_
  refine x_iconst (v := (0 : Int32)) rfl (by decide) ?_
  refine am_aload_n rfl rfl ?_
  refine u_getI f_5_24 rfl (Nat.le_of_ble_eq_true rfl) rfl rfl ?_
  obtain ⟨hc15, hc16, hc17, hc18, hc19, H⟩ := cz_some H
  obtain ⟨g14, eg14, H⟩ := wr_some H
  refine x_copy a_5_52 rfl (Nat.le_of_ble_eq_true rfl) rfl (Nat.le_of_ble_eq_true rfl) rfl hc15 hc16 hc17 hc18 hc19 (Nat.le_of_ble_eq_true rfl) (fun _ _ => Nat.le_of_ble_eq_true rfl) eg14 ?_
  refine am_aload_n rfl rfl ?_
  refine u_getR f_5_21 rfl (Nat.le_of_ble_eq_true rfl) rfl rfl ?_
  refine x_iconst (v := (0 : Int32)) rfl (by decide) ?_
  refine am_aload_n rfl rfl ?_
  refine u_getR f_5_21 rfl (Nat.le_of_ble_eq_true rfl) rfl rfl ?_
  refine x_iconst (v := (0 : Int32)) rfl (by decide) ?_
  refine am_aload_n rfl rfl ?_
  refine u_getI f_5_24 rfl (Nat.le_of_ble_eq_true rfl) rfl rfl ?_
  refine x_iconst (v := (4 : Int32)) rfl (by decide) ?_
  refine am_imul rfl ?_
  obtain ⟨hc21, hc22, hc23, hc24, hc25, H⟩ := cz_some H
  obtain ⟨g20, eg20, H⟩ := wr_some H
  refine x_copy a_5_52 rfl (Nat.le_of_ble_eq_true rfl) rfl (Nat.le_of_ble_eq_true rfl) rfl hc21 hc22 hc23 hc24 hc25 (Nat.le_of_ble_eq_true rfl) (fun _ _ => Nat.le_of_ble_eq_true rfl) eg20 ?_
  have H := Option.some.inj H
  subst H
  exact u_vret rfl rfl K
def f_J7_fill_53178 (b0 n0 : Nat) (a1 : Int32) (g : G) : Option (Int32 × G) := bd (lp (fun (s3 : Int32 × G) => (if (nI n0) ≤ s3.1 then some (.inr (s3.2)) else ck s3.1 n0 fun j7 => wr (up2 s3.2 b0 j7 a1) fun g8 => some (.inl ((s3.1 + (1 : Int32)), g8)) : Option ((Int32 × G) ⊕ (G)))) 2000 ((0 : Int32), g)) fun (s5 : G) => some (((0 : Int32), s5))
set_option maxHeartbeats 4000000 in
set_option maxRecDepth 100000 in
theorem y_J7_fill_53178 (b0 n0 : Nat) (a1 : Int32) (hb0 : b0 < 185) (hs0 : sk b0 = .inl (0, n0)) (g : G) (q : Int32 × G) {post : Int32 → G → Prop} (H : f_J7_fill_53178 b0 n0 a1 g = some q) (K : post q.1 q.2) : Y m_J7_fill_53178 0 [.ref b0, .int a1] g post := by
  refine Y_of ok_J7_fill_53178 pn_12 rfl (by decide) (Or.inl rfl) (List.forall_mem_cons.mpr ⟨rfl, (List.forall_mem_cons.mpr ⟨rfl, (fun _ h => absurd h List.not_mem_nil)⟩)⟩) (Nat.le_of_ble_eq_true rfl) ?_
  show u_V m_J7_fill_53178 0 post 0 [some (.ref b0), some (.int a1), none, none] [] g
  unfold f_J7_fill_53178 at H
  refine x_iconst (v := (0 : Int32)) rfl (by decide) ?_
  refine am_istore_n rfl (Nat.le_of_ble_eq_true rfl) ?_
  refine am_aload_n rfl rfl ?_
  refine u_alen rfl hb0 hs0 ?_
  refine am_istore_n rfl (Nat.le_of_ble_eq_true rfl) ?_
  obtain ⟨s9, H1, H⟩ := bd_some H
  have K2 : (fun (s5 : G) => u_V m_J7_fill_53178 0 post 20 [none, none, none, none] [] s5) s9 := by
    clear H1
    obtain ⟨g4, e_g4⟩ : ∃ z, z = s9 := ⟨_, rfl⟩
    subst e_g4
    (try dsimp only at H); (try dsimp only)
    have H := Option.some.inj H
    subst H
    exact u_vret rfl rfl K
  refine am_drop (L' := [some (.ref b0), some (.int a1), some (.int (0 : Int32)), some (.int (nI n0))]) (And.intro rfl (And.intro rfl (And.intro rfl (And.intro rfl trivial)))) ?_
  refine lp_ind (P := (fun (s3 : Int32 × G) => u_V m_J7_fill_53178 0 post 5 [some (.ref b0), some (.int a1), some (.int s3.1), some (.int (nI n0))] [] s3.2)) (Q := (fun (s5 : G) => u_V m_J7_fill_53178 0 post 20 [none, none, none, none] [] s5)) ?_ 2000 ((0 : Int32), g) s9 H1 K2
  clear H1 H K
  intro s3 s9b H K
  obtain ⟨x1, g2⟩ := s3
  (try dsimp only at H); (try dsimp only)
  refine am_iload_n rfl rfl ?_
  refine am_iload_n rfl rfl ?_
  refine am_icmp_ge rfl (fun c6 => ?_) (fun c6 => ?_)
  · have H := it_pos c6 H
    have H := Option.some.inj H
    subst H
    exact am_drop (L' := [none, none, none, none]) trivial K
  · have H := it_neg c6 H
    refine am_aload_n rfl rfl ?_
    refine am_iload_n rfl rfl ?_
    refine am_iload_n rfl rfl ?_
    obtain ⟨j7, ej7, hj7, H⟩ := ck_some H
    obtain ⟨g8, eg8, H⟩ := wr_some H
    refine x_iast rfl hb0 hs0 hj7 ej7 eg8 ?_
    refine x_iinc (v := (x1 + (1 : Int32))) rfl rfl (Nat.le_of_ble_eq_true rfl) rfl ?_
    refine am_goto rfl ?_
    have H := Option.some.inj H
    subst H
    exact am_drop (L' := [some (.ref b0), some (.int a1), some (.int (x1 + (1 : Int32))), some (.int (nI n0))]) (And.intro rfl (And.intro rfl (And.intro rfl (And.intro rfl trivial)))) K
def f_X7_clear (t0 : Nat) (g : G) : Option (Int32 × G) := wr (up2 g t0 1 (0 : Int32)) fun g1 => wr (up2 g1 t0 2 (0 : Int32)) fun g2 => wr (up2 g2 t0 3 (0 : Int32)) fun g3 => bd2 (f_J7_fill_53178 (t0 + 2) 24 (0 : Int32) g3) fun r4 g5 => bd2 (f_J7_fill_53178 (t0 + 3) 5 (0 : Int32) g5) fun r6 g7 => some (((0 : Int32), g7))
set_option maxHeartbeats 4000000 in
set_option maxRecDepth 100000 in
theorem y_X7_clear (t0 : Nat) (ht0 : isT t0) (g : G) (q : Int32 × G) {post : Int32 → G → Prop} (H : f_X7_clear t0 g = some q) (K : post q.1 q.2) : Y m_X7_clear 1 [.ref t0] g post := by
  refine Y_of ok_X7_clear pn_7 rfl (by decide) (Or.inl rfl) (List.forall_mem_cons.mpr ⟨rfl, (fun _ h => absurd h List.not_mem_nil)⟩) (Nat.le_of_ble_eq_true rfl) ?_
  show u_V m_X7_clear 1 post 0 [some (.ref t0)] [] g
  unfold f_X7_clear at H
  refine am_aload_n rfl rfl ?_
  refine x_iconst (v := (0 : Int32)) rfl (by decide) ?_
  obtain ⟨g1, eg1, H⟩ := wr_some H
  refine x_putI f_7_15 rfl rfl (isT_lt0 ht0) (sk_T ht0) rfl (fun _ _ => ⟨rfl, rfl⟩) eg1 ?_
  refine am_aload_n rfl rfl ?_
  refine x_iconst (v := (0 : Int32)) rfl (by decide) ?_
  obtain ⟨g2, eg2, H⟩ := wr_some H
  refine x_putI f_7_18 rfl rfl (isT_lt0 ht0) (sk_T ht0) rfl (fun _ _ => ⟨rfl, rfl⟩) eg2 ?_
  refine am_aload_n rfl rfl ?_
  refine x_iconst (v := (0 : Int32)) rfl (by decide) ?_
  obtain ⟨g3, eg3, H⟩ := wr_some H
  refine x_putI f_7_21 rfl rfl (isT_lt0 ht0) (sk_T ht0) rfl (fun _ _ => ⟨rfl, rfl⟩) eg3 ?_
  refine am_aload_n rfl rfl ?_
  refine u_getR f_7_28 rfl (isT_lt0 ht0) (sk_T ht0) rfl ?_
  refine x_iconst (v := (0 : Int32)) rfl (by decide) ?_
  obtain ⟨r4, g5, H1, H⟩ := bd2_some H
  refine cs2v s_7_64 rfl rfl (Nat.le_of_ble_eq_true rfl) (fun _ _ => Nat.le_of_ble_eq_true rfl) (y_J7_fill_53178 (t0 + 2) 24 (0 : Int32) (isT_lt ht0 (Nat.le_of_ble_eq_true rfl)) (sk_A ht0 (Nat.le_of_ble_eq_true rfl) (Nat.le_of_ble_eq_true rfl)) g3 _ H1 ?_)
  refine am_aload_n rfl rfl ?_
  refine u_getR f_7_31 rfl (isT_lt0 ht0) (sk_T ht0) rfl ?_
  refine x_iconst (v := (0 : Int32)) rfl (by decide) ?_
  obtain ⟨r6, g7, H1, H⟩ := bd2_some H
  refine cs2v s_7_64 rfl rfl (Nat.le_of_ble_eq_true rfl) (fun _ _ => Nat.le_of_ble_eq_true rfl) (y_J7_fill_53178 (t0 + 3) 5 (0 : Int32) (isT_lt ht0 (Nat.le_of_ble_eq_true rfl)) (sk_A ht0 (Nat.le_of_ble_eq_true rfl) (Nat.le_of_ble_eq_true rfl)) g5 _ H1 ?_)
  have H := Option.some.inj H
  subst H
  exact u_vret rfl rfl K
def f_X7_hasIn (t0 : Nat) (a1 : Int32) (g : G) : Option (Int32 × G) := ck a1 24 fun j1 => if (g (t0 + 2) j1) = 0 then some (((0 : Int32), g)) else some (((1 : Int32), g))
set_option maxHeartbeats 4000000 in
set_option maxRecDepth 100000 in
theorem y_X7_hasIn (t0 : Nat) (a1 : Int32) (ht0 : isT t0) (g : G) (q : Int32 × G) {post : Int32 → G → Prop} (H : f_X7_hasIn t0 a1 g = some q) (K : post q.1 q.2) : Y m_X7_hasIn 0 [.ref t0, .int a1] g post := by
  refine Y_of ok_X7_hasIn pn_7 rfl (by decide) (Or.inr (Or.inr rfl)) (List.forall_mem_cons.mpr ⟨rfl, (List.forall_mem_cons.mpr ⟨rfl, (fun _ h => absurd h List.not_mem_nil)⟩)⟩) (Nat.le_of_ble_eq_true rfl) ?_
  show u_V m_X7_hasIn 0 post 0 [some (.ref t0), some (.int a1)] [] g
  unfold f_X7_hasIn at H
  refine am_aload_n rfl rfl ?_
  refine u_getR f_7_28 rfl (isT_lt0 ht0) (sk_T ht0) rfl ?_
  refine am_iload_n rfl rfl ?_
  obtain ⟨j1, ej1, hj1, H⟩ := ck_some H
  refine x_iald rfl (isT_lt ht0 (Nat.le_of_ble_eq_true rfl)) (sk_A ht0 (Nat.le_of_ble_eq_true rfl) (Nat.le_of_ble_eq_true rfl)) hj1 ej1 ?_
  refine am_if_eq rfl (fun c2 => ?_) (fun c2 => ?_)
  · have H := it_pos c2 H
    refine x_iconst (v := (0 : Int32)) rfl (by decide) ?_
    have H := Option.some.inj H
    subst H
    exact u_zret rfl rfl (Or.inl rfl) K
  · have H := it_neg c2 H
    refine x_iconst (v := (1 : Int32)) rfl (by decide) ?_
    refine am_goto rfl ?_
    have H := Option.some.inj H
    subst H
    exact u_zret rfl rfl (Or.inr rfl) K
def f_X7_letIn (t0 : Nat) (a1 : Int32) (g : G) : Option (Int32 × G) := ck a1 24 fun j1 => wr (up2 g (t0 + 2) j1 (1 : Int32)) fun g2 => ck (g2 t0 1) 10 fun j3 => wr (up2 g2 (t0 + 1) j3 a1) fun g4 => wr (up2 g4 t0 1 ((g4 t0 1) + (1 : Int32))) fun g5 => some (((g5 t0 1), g5))
set_option maxHeartbeats 4000000 in
set_option maxRecDepth 100000 in
theorem y_X7_letIn (t0 : Nat) (a1 : Int32) (ht0 : isT t0) (g : G) (q : Int32 × G) {post : Int32 → G → Prop} (H : f_X7_letIn t0 a1 g = some q) (K : post q.1 q.2) : Y m_X7_letIn 0 [.ref t0, .int a1] g post := by
  refine Y_of ok_X7_letIn pn_7 rfl (by decide) (Or.inr (Or.inl rfl)) (List.forall_mem_cons.mpr ⟨rfl, (List.forall_mem_cons.mpr ⟨rfl, (fun _ h => absurd h List.not_mem_nil)⟩)⟩) (Nat.le_of_ble_eq_true rfl) ?_
  show u_V m_X7_letIn 0 post 0 [some (.ref t0), some (.int a1)] [] g
  unfold f_X7_letIn at H
  refine am_aload_n rfl rfl ?_
  refine u_getR f_7_28 rfl (isT_lt0 ht0) (sk_T ht0) rfl ?_
  refine am_iload_n rfl rfl ?_
  refine x_iconst (v := (1 : Int32)) rfl (by decide) ?_
  obtain ⟨j1, ej1, hj1, H⟩ := ck_some H
  obtain ⟨g2, eg2, H⟩ := wr_some H
  refine x_iast rfl (isT_lt ht0 (Nat.le_of_ble_eq_true rfl)) (sk_A ht0 (Nat.le_of_ble_eq_true rfl) (Nat.le_of_ble_eq_true rfl)) hj1 ej1 eg2 ?_
  refine am_aload_n rfl rfl ?_
  refine u_getR f_7_24 rfl (isT_lt0 ht0) (sk_T ht0) rfl ?_
  refine am_aload_n rfl rfl ?_
  refine u_getI f_7_15 rfl (isT_lt0 ht0) (sk_T ht0) rfl ?_
  refine am_iload_n rfl rfl ?_
  obtain ⟨j3, ej3, hj3, H⟩ := ck_some H
  obtain ⟨g4, eg4, H⟩ := wr_some H
  refine x_iast rfl (isT_lt ht0 (Nat.le_of_ble_eq_true rfl)) (sk_A ht0 (Nat.le_of_ble_eq_true rfl) (Nat.le_of_ble_eq_true rfl)) hj3 ej3 eg4 ?_
  refine am_aload_n rfl rfl ?_
  refine am_dup rfl rfl ?_
  refine u_getI f_7_15 rfl (isT_lt0 ht0) (sk_T ht0) rfl ?_
  refine x_iconst (v := (1 : Int32)) rfl (by decide) ?_
  refine am_iadd rfl ?_
  obtain ⟨g5, eg5, H⟩ := wr_some H
  refine x_putI f_7_15 rfl rfl (isT_lt0 ht0) (sk_T ht0) rfl (fun _ _ => ⟨rfl, rfl⟩) eg5 ?_
  refine am_aload_n rfl rfl ?_
  refine u_getI f_7_15 rfl (isT_lt0 ht0) (sk_T ht0) rfl ?_
  have H := Option.some.inj H
  subst H
  exact u_iret rfl rfl K
def f_X7_latestDay (t0 : Nat) (g : G) : Option (Int32 × G) := if (g t0 2) = 0 then some (((0 : Int32), g)) else ck ((g t0 2) - (1 : Int32)) 6 fun j2 => some (((g (t0 + 4) j2), g))
set_option maxHeartbeats 4000000 in
set_option maxRecDepth 100000 in
theorem y_X7_latestDay (t0 : Nat) (ht0 : isT t0) (g : G) (q : Int32 × G) {post : Int32 → G → Prop} (H : f_X7_latestDay t0 g = some q) (K : post q.1 q.2) : Y m_X7_latestDay 0 [.ref t0] g post := by
  refine Y_of ok_X7_latestDay pn_7 rfl (by decide) (Or.inr (Or.inl rfl)) (List.forall_mem_cons.mpr ⟨rfl, (fun _ h => absurd h List.not_mem_nil)⟩) (Nat.le_of_ble_eq_true rfl) ?_
  show u_V m_X7_latestDay 0 post 0 [some (.ref t0)] [] g
  unfold f_X7_latestDay at H
  refine am_aload_n rfl rfl ?_
  refine u_getI f_7_18 rfl (isT_lt0 ht0) (sk_T ht0) rfl ?_
  refine am_if_ne rfl (fun c1 => ?_) (fun c1 => ?_)
  · have H := it_neg c1 H
    refine am_aload_n rfl rfl ?_
    refine u_getR f_7_34 rfl (isT_lt0 ht0) (sk_T ht0) rfl ?_
    refine am_aload_n rfl rfl ?_
    refine u_getI f_7_18 rfl (isT_lt0 ht0) (sk_T ht0) rfl ?_
    refine x_iconst (v := (1 : Int32)) rfl (by decide) ?_
    refine am_isub rfl ?_
    obtain ⟨j2, ej2, hj2, H⟩ := ck_some H
    refine x_iald rfl (isT_lt ht0 (Nat.le_of_ble_eq_true rfl)) (sk_A ht0 (Nat.le_of_ble_eq_true rfl) (Nat.le_of_ble_eq_true rfl)) hj2 ej2 ?_
    have H := Option.some.inj H
    subst H
    exact u_iret rfl rfl K
  · have H := it_pos c1 H
    refine x_iconst (v := (0 : Int32)) rfl (by decide) ?_
    refine am_goto rfl ?_
    have H := Option.some.inj H
    subst H
    exact u_iret rfl rfl K
def f_X7_roundOf (t0 : Nat) (a1 : Int32) (g : G) : Option (Int32 × G) := bd ((if a1 < 0 then some (.inl (g)) else if a1 < (6 : Int32) then if a1 < (g t0 2) then some (.inr ((a1, g))) else bd2 (f_X1_met (1 : Int32) g) fun r8 g9 => some (.inr ((r8, g9))) else some (.inl (g)) : Option ((G) ⊕ (Int32 × G)))) fun s10m => (match s10m with | .inl s2 => (bd2 (f_X1_met (2 : Int32) s2) fun r3 g4 => some ((r3, g4))) | .inr y => some y)
set_option maxHeartbeats 4000000 in
set_option maxRecDepth 100000 in
theorem y_X7_roundOf (t0 : Nat) (a1 : Int32) (ht0 : isT t0) (g : G) (q : Int32 × G) {post : Int32 → G → Prop} (H : f_X7_roundOf t0 a1 g = some q) (K : post q.1 q.2) : Y m_X7_roundOf 1 [.ref t0, .int a1, .ref 1] g post := by
  refine Y_of ok_X7_roundOf pn_7 rfl (by decide) (Or.inr (Or.inl rfl)) (List.forall_mem_cons.mpr ⟨rfl, (List.forall_mem_cons.mpr ⟨rfl, (List.forall_mem_cons.mpr ⟨rfl, (fun _ h => absurd h List.not_mem_nil)⟩)⟩)⟩) (Nat.le_of_ble_eq_true rfl) ?_
  show u_V m_X7_roundOf 1 post 0 [some (.ref t0), some (.int a1), some (.ref 1)] [] g
  unfold f_X7_roundOf at H
  refine am_iload_n rfl rfl ?_
  obtain ⟨s10, H1, H⟩ := bd_some H
  have K : (Sum.elim (fun (s2 : G) => u_V m_X7_roundOf 1 post 10 [none, none, some (.ref 1)] [] s2) (fun (q : Int32 × G) => post q.1 q.2)) s10 := by
    clear H1
    cases s10 with
    | inl s2 =>
      obtain ⟨g1, e_g1⟩ : ∃ z, z = s2 := ⟨_, rfl⟩
      subst e_g1
      (try dsimp only at H); (try dsimp only)
      refine am_aload_n rfl rfl ?_
      refine x_iconst (v := (2 : Int32)) rfl (by decide) ?_
      obtain ⟨r3, g4, H1, H⟩ := bd2_some H
      refine cv1i v_7_70 rfl rfl (Nat.le_of_ble_eq_true rfl) rfl (Nat.le_of_ble_eq_true rfl) (fun _ _ => Nat.le_of_ble_eq_true rfl) (y_X1_met (2 : Int32) g1 _ H1 ?_)
      have H := Option.some.inj H
      subst H
      exact u_iret rfl rfl K
    | inr y =>
      have H := Option.some.inj H
      subst H
      exact K
  have H := H1
  clear H1
  refine am_if_lt rfl (fun c5 => ?_) (fun c5 => ?_)
  · have H := it_pos c5 H
    have H := Option.some.inj H
    subst H
    exact am_drop (L' := [none, none, some (.ref 1)]) (And.intro rfl trivial) K
  · have H := it_neg c5 H
    refine am_iload_n rfl rfl ?_
    refine x_bipush (v := (6 : Int32)) rfl (by decide) ?_
    refine am_icmp_lt rfl (fun c6 => ?_) (fun c6 => ?_)
    · have H := it_pos c6 H
      refine am_iload_n rfl rfl ?_
      refine am_aload_n rfl rfl ?_
      refine u_getI f_7_18 rfl (isT_lt0 ht0) (sk_T ht0) rfl ?_
      refine am_icmp_lt rfl (fun c7 => ?_) (fun c7 => ?_)
      · have H := it_pos c7 H
        refine am_iload_n rfl rfl ?_
        have H := Option.some.inj H
        subst H
        exact u_iret rfl rfl K
      · have H := it_neg c7 H
        refine am_aload_n rfl rfl ?_
        refine x_iconst (v := (1 : Int32)) rfl (by decide) ?_
        obtain ⟨r8, g9, H1, H⟩ := bd2_some H
        refine cv1i v_7_70 rfl rfl (Nat.le_of_ble_eq_true rfl) rfl (Nat.le_of_ble_eq_true rfl) (fun _ _ => Nat.le_of_ble_eq_true rfl) (y_X1_met (1 : Int32) g _ H1 ?_)
        refine am_goto rfl ?_
        have H := Option.some.inj H
        subst H
        exact u_iret rfl rfl K
    · have H := it_neg c6 H
      have H := Option.some.inj H
      subst H
      exact am_drop (L' := [none, none, some (.ref 1)]) (And.intro rfl trivial) K
def f_X7_cellOf (t0 : Nat) (a1 : Int32) (a2 : Int32) (g : G) : Option (Int32 × G) := bd2 (f_X7_roundOf t0 a1 g) fun r1 g2 => if 0 ≤ r1 then bd ((if a2 < 0 then some (.inl ()) else ck r1 6 fun j8 => if a2 < (g2 (t0 + 5) j8) then some (.inr ((((r1 * (5 : Int32)) + a2), g2))) else some (.inl ()) : Option ((Unit) ⊕ (Int32 × G)))) fun s10m => (match s10m with | .inl _ => (bd2 (f_X1_met (2 : Int32) g2) fun r5 g6 => some ((r5, g6))) | .inr y => some y) else some ((r1, g2))
set_option maxHeartbeats 4000000 in
set_option maxRecDepth 100000 in
theorem y_X7_cellOf (t0 : Nat) (a1 : Int32) (a2 : Int32) (ht0 : isT t0) (g : G) (q : Int32 × G) {post : Int32 → G → Prop} (H : f_X7_cellOf t0 a1 a2 g = some q) (K : post q.1 q.2) : Y m_X7_cellOf 2 [.ref t0, .int a1, .int a2, .ref 1] g post := by
  refine Y_of ok_X7_cellOf pn_7 rfl (by decide) (Or.inr (Or.inl rfl)) (List.forall_mem_cons.mpr ⟨rfl, (List.forall_mem_cons.mpr ⟨rfl, (List.forall_mem_cons.mpr ⟨rfl, (List.forall_mem_cons.mpr ⟨rfl, (fun _ h => absurd h List.not_mem_nil)⟩)⟩)⟩)⟩) (Nat.le_of_ble_eq_true rfl) ?_
  show u_V m_X7_cellOf 2 post 0 [some (.ref t0), some (.int a1), some (.int a2), some (.ref 1), none] [] g
  unfold f_X7_cellOf at H
  refine am_aload_n rfl rfl ?_
  refine am_iload_n rfl rfl ?_
  refine am_aload_n rfl rfl ?_
  obtain ⟨r1, g2, H1, H⟩ := bd2_some H
  refine cv2i v_7_76 rfl rfl (isT_lt0 ht0) (sk_T ht0) (Nat.le_of_ble_eq_true rfl) (fun _ _ => Nat.le_of_ble_eq_true rfl) (y_X7_roundOf t0 a1 ht0 g _ H1 ?_)
  refine am_istore rfl (Nat.le_of_ble_eq_true rfl) ?_
  refine am_iload rfl rfl ?_
  refine am_if_ge rfl (fun c3 => ?_) (fun c3 => ?_)
  · have H := it_pos c3 H
    refine am_iload_n rfl rfl ?_
    obtain ⟨s10, H1, H⟩ := bd_some H
    have K : (Sum.elim (fun (_ : Unit) => u_V m_X7_cellOf 2 post 31 [none, none, none, some (.ref 1), none] [] g2) (fun (q : Int32 × G) => post q.1 q.2)) s10 := by
      clear H1
      cases s10 with
      | inl s4 =>
        (try dsimp only at H); (try dsimp only)
        refine am_aload_n rfl rfl ?_
        refine x_iconst (v := (2 : Int32)) rfl (by decide) ?_
        obtain ⟨r5, g6, H1, H⟩ := bd2_some H
        refine cv1i v_7_70 rfl rfl (Nat.le_of_ble_eq_true rfl) rfl (Nat.le_of_ble_eq_true rfl) (fun _ _ => Nat.le_of_ble_eq_true rfl) (y_X1_met (2 : Int32) g2 _ H1 ?_)
        have H := Option.some.inj H
        subst H
        exact u_iret rfl rfl K
      | inr y =>
        have H := Option.some.inj H
        subst H
        exact K
    have H := H1
    clear H1
    refine am_if_lt rfl (fun c7 => ?_) (fun c7 => ?_)
    · have H := it_pos c7 H
      have H := Option.some.inj H
      subst H
      exact am_drop (L' := [none, none, none, some (.ref 1), none]) (And.intro rfl trivial) K
    · have H := it_neg c7 H
      refine am_iload_n rfl rfl ?_
      refine am_aload_n rfl rfl ?_
      refine u_getR f_7_37 rfl (isT_lt0 ht0) (sk_T ht0) rfl ?_
      refine am_iload rfl rfl ?_
      obtain ⟨j8, ej8, hj8, H⟩ := ck_some H
      refine x_iald rfl (isT_lt ht0 (Nat.le_of_ble_eq_true rfl)) (sk_A ht0 (Nat.le_of_ble_eq_true rfl) (Nat.le_of_ble_eq_true rfl)) hj8 ej8 ?_
      refine am_icmp_lt rfl (fun c9 => ?_) (fun c9 => ?_)
      · have H := it_pos c9 H
        refine am_iload rfl rfl ?_
        refine x_iconst (v := (5 : Int32)) rfl (by decide) ?_
        refine am_imul rfl ?_
        refine am_iload_n rfl rfl ?_
        refine am_iadd rfl ?_
        have H := Option.some.inj H
        subst H
        exact u_iret rfl rfl K
      · have H := it_neg c9 H
        have H := Option.some.inj H
        subst H
        exact am_drop (L' := [none, none, none, some (.ref 1), none]) (And.intro rfl trivial) K
  · have H := it_neg c3 H
    refine am_iload rfl rfl ?_
    have H := Option.some.inj H
    subst H
    exact u_iret rfl rfl K
def f_X7_addEntry (t0 : Nat) (a1 : Int32) (a2 : Int32) (a3 : Int32) (a4 : Int32) (g : G) : Option (Int32 × G) := if (g t0 3) < (60 : Int32) then ck (g t0 3) 60 fun j2 => wr (up2 g (t0 + 9) j2 a1) fun g3 => ck (g3 t0 3) 60 fun j4 => wr (up2 g3 (t0 + 10) j4 a2) fun g5 => ck (g5 t0 3) 60 fun j6 => wr (up2 g5 (t0 + 11) j6 a3) fun g7 => ck (g7 t0 3) 60 fun j8 => wr (up2 g7 (t0 + 12) j8 a4) fun g9 => ck (g9 t0 3) 60 fun j10 => wr (up2 g9 (t0 + 13) j10 (-1 : Int32)) fun g11 => wr (up2 g11 t0 3 ((g11 t0 3) + (1 : Int32))) fun g12 => some ((((g12 t0 3) - (1 : Int32)), g12)) else some (((-4 : Int32), g))
set_option maxHeartbeats 4000000 in
set_option maxRecDepth 100000 in
theorem y_X7_addEntry (t0 : Nat) (a1 : Int32) (a2 : Int32) (a3 : Int32) (a4 : Int32) (ht0 : isT t0) (g : G) (q : Int32 × G) {post : Int32 → G → Prop} (H : f_X7_addEntry t0 a1 a2 a3 a4 g = some q) (K : post q.1 q.2) : Y m_X7_addEntry 0 [.ref t0, .int a1, .int a2, .int a3, .int a4] g post := by
  refine Y_of ok_X7_addEntry pn_7 rfl (by decide) (Or.inr (Or.inl rfl)) (List.forall_mem_cons.mpr ⟨rfl, (List.forall_mem_cons.mpr ⟨rfl, (List.forall_mem_cons.mpr ⟨rfl, (List.forall_mem_cons.mpr ⟨rfl, (List.forall_mem_cons.mpr ⟨rfl, (fun _ h => absurd h List.not_mem_nil)⟩)⟩)⟩)⟩)⟩) (Nat.le_of_ble_eq_true rfl) ?_
  show u_V m_X7_addEntry 0 post 0 [some (.ref t0), some (.int a1), some (.int a2), some (.int a3), some (.int a4)] [] g
  unfold f_X7_addEntry at H
  refine am_aload_n rfl rfl ?_
  refine u_getI f_7_21 rfl (isT_lt0 ht0) (sk_T ht0) rfl ?_
  refine x_bipush (v := (60 : Int32)) rfl (by decide) ?_
  refine am_icmp_lt rfl (fun c1 => ?_) (fun c1 => ?_)
  · have H := it_pos c1 H
    refine am_aload_n rfl rfl ?_
    refine u_getR f_7_49 rfl (isT_lt0 ht0) (sk_T ht0) rfl ?_
    refine am_aload_n rfl rfl ?_
    refine u_getI f_7_21 rfl (isT_lt0 ht0) (sk_T ht0) rfl ?_
    refine am_iload_n rfl rfl ?_
    obtain ⟨j2, ej2, hj2, H⟩ := ck_some H
    obtain ⟨g3, eg3, H⟩ := wr_some H
    refine x_iast rfl (isT_lt ht0 (Nat.le_of_ble_eq_true rfl)) (sk_A ht0 (Nat.le_of_ble_eq_true rfl) (Nat.le_of_ble_eq_true rfl)) hj2 ej2 eg3 ?_
    refine am_aload_n rfl rfl ?_
    refine u_getR f_7_52 rfl (isT_lt0 ht0) (sk_T ht0) rfl ?_
    refine am_aload_n rfl rfl ?_
    refine u_getI f_7_21 rfl (isT_lt0 ht0) (sk_T ht0) rfl ?_
    refine am_iload_n rfl rfl ?_
    obtain ⟨j4, ej4, hj4, H⟩ := ck_some H
    obtain ⟨g5, eg5, H⟩ := wr_some H
    refine x_iast rfl (isT_lt ht0 (Nat.le_of_ble_eq_true rfl)) (sk_A ht0 (Nat.le_of_ble_eq_true rfl) (Nat.le_of_ble_eq_true rfl)) hj4 ej4 eg5 ?_
    refine am_aload_n rfl rfl ?_
    refine u_getR f_7_55 rfl (isT_lt0 ht0) (sk_T ht0) rfl ?_
    refine am_aload_n rfl rfl ?_
    refine u_getI f_7_21 rfl (isT_lt0 ht0) (sk_T ht0) rfl ?_
    refine am_iload_n rfl rfl ?_
    obtain ⟨j6, ej6, hj6, H⟩ := ck_some H
    obtain ⟨g7, eg7, H⟩ := wr_some H
    refine x_iast rfl (isT_lt ht0 (Nat.le_of_ble_eq_true rfl)) (sk_A ht0 (Nat.le_of_ble_eq_true rfl) (Nat.le_of_ble_eq_true rfl)) hj6 ej6 eg7 ?_
    refine am_aload_n rfl rfl ?_
    refine u_getR f_7_58 rfl (isT_lt0 ht0) (sk_T ht0) rfl ?_
    refine am_aload_n rfl rfl ?_
    refine u_getI f_7_21 rfl (isT_lt0 ht0) (sk_T ht0) rfl ?_
    refine am_iload rfl rfl ?_
    obtain ⟨j8, ej8, hj8, H⟩ := ck_some H
    obtain ⟨g9, eg9, H⟩ := wr_some H
    refine x_iast rfl (isT_lt ht0 (Nat.le_of_ble_eq_true rfl)) (sk_A ht0 (Nat.le_of_ble_eq_true rfl) (Nat.le_of_ble_eq_true rfl)) hj8 ej8 eg9 ?_
    refine am_aload_n rfl rfl ?_
    refine u_getR f_7_61 rfl (isT_lt0 ht0) (sk_T ht0) rfl ?_
    refine am_aload_n rfl rfl ?_
    refine u_getI f_7_21 rfl (isT_lt0 ht0) (sk_T ht0) rfl ?_
    refine x_iconst (v := (-1 : Int32)) rfl (by decide) ?_
    obtain ⟨j10, ej10, hj10, H⟩ := ck_some H
    obtain ⟨g11, eg11, H⟩ := wr_some H
    refine x_iast rfl (isT_lt ht0 (Nat.le_of_ble_eq_true rfl)) (sk_A ht0 (Nat.le_of_ble_eq_true rfl) (Nat.le_of_ble_eq_true rfl)) hj10 ej10 eg11 ?_
    refine am_aload_n rfl rfl ?_
    refine am_dup rfl rfl ?_
    refine u_getI f_7_21 rfl (isT_lt0 ht0) (sk_T ht0) rfl ?_
    refine x_iconst (v := (1 : Int32)) rfl (by decide) ?_
    refine am_iadd rfl ?_
    obtain ⟨g12, eg12, H⟩ := wr_some H
    refine x_putI f_7_21 rfl rfl (isT_lt0 ht0) (sk_T ht0) rfl (fun _ _ => ⟨rfl, rfl⟩) eg12 ?_
    refine am_aload_n rfl rfl ?_
    refine u_getI f_7_21 rfl (isT_lt0 ht0) (sk_T ht0) rfl ?_
    refine x_iconst (v := (1 : Int32)) rfl (by decide) ?_
    refine am_isub rfl ?_
    have H := Option.some.inj H
    subst H
    exact u_iret rfl rfl K
  · have H := it_neg c1 H
    refine x_bipush (v := (-4 : Int32)) rfl (by decide) ?_
    have H := Option.some.inj H
    subst H
    exact u_iret rfl rfl K
def f_X7_isKnown (t0 : Nat) (a1 : Int32) (a2 : Int32) (g : G) : Option (Int32 × G) := ck a1 60 fun j1 => bd ((if (g (t0 + 13) j1) = (-1 : Int32) then some (.inl ()) else ck a1 60 fun j7 => if a2 < (g (t0 + 13) j7) then some (.inl ()) else ck a1 60 fun j9 => if a2 < (g (t0 + 12) j9) then some (.inr (((0 : Int32), g))) else if (1 : Int32) = 0 then some (.inr (((1 : Int32), g))) else some (.inr (((0 : Int32), g))) : Option ((Unit) ⊕ (Int32 × G)))) fun s12m => (match s12m with | .inl _ => (ck a1 60 fun j3 => if a2 < (g (t0 + 12) j3) then some (((0 : Int32), g)) else if (0 : Int32) = 0 then some (((1 : Int32), g)) else some (((0 : Int32), g))) | .inr y => some y)
set_option maxHeartbeats 4000000 in
set_option maxRecDepth 100000 in
theorem y_X7_isKnown (t0 : Nat) (a1 : Int32) (a2 : Int32) (ht0 : isT t0) (g : G) (q : Int32 × G) {post : Int32 → G → Prop} (H : f_X7_isKnown t0 a1 a2 g = some q) (K : post q.1 q.2) : Y m_X7_isKnown 0 [.ref t0, .int a1, .int a2] g post := by
  refine Y_of ok_X7_isKnown pn_7 rfl (by decide) (Or.inr (Or.inr rfl)) (List.forall_mem_cons.mpr ⟨rfl, (List.forall_mem_cons.mpr ⟨rfl, (List.forall_mem_cons.mpr ⟨rfl, (fun _ h => absurd h List.not_mem_nil)⟩)⟩)⟩) (Nat.le_of_ble_eq_true rfl) ?_
  show u_V m_X7_isKnown 0 post 0 [some (.ref t0), some (.int a1), some (.int a2), none] [] g
  unfold f_X7_isKnown at H
  refine am_aload_n rfl rfl ?_
  refine u_getR f_7_61 rfl (isT_lt0 ht0) (sk_T ht0) rfl ?_
  refine am_iload_n rfl rfl ?_
  obtain ⟨j1, ej1, hj1, H⟩ := ck_some H
  refine x_iald rfl (isT_lt ht0 (Nat.le_of_ble_eq_true rfl)) (sk_A ht0 (Nat.le_of_ble_eq_true rfl) (Nat.le_of_ble_eq_true rfl)) hj1 ej1 ?_
  refine x_iconst (v := (-1 : Int32)) rfl (by decide) ?_
  obtain ⟨s12, H1, H⟩ := bd_some H
  have K : (Sum.elim (fun (_ : Unit) => u_V m_X7_isKnown 0 post 24 [some (.ref t0), some (.int a1), some (.int a2), none] [] g) (fun (q : Int32 × G) => post q.1 q.2)) s12 := by
    clear H1
    cases s12 with
    | inl s2 =>
      (try dsimp only at H); (try dsimp only)
      refine x_iconst (v := (0 : Int32)) rfl (by decide) ?_
      refine am_istore_n rfl (Nat.le_of_ble_eq_true rfl) ?_
      refine am_aload_n rfl rfl ?_
      refine u_getR f_7_58 rfl (isT_lt0 ht0) (sk_T ht0) rfl ?_
      refine am_iload_n rfl rfl ?_
      obtain ⟨j3, ej3, hj3, H⟩ := ck_some H
      refine x_iald rfl (isT_lt ht0 (Nat.le_of_ble_eq_true rfl)) (sk_A ht0 (Nat.le_of_ble_eq_true rfl) (Nat.le_of_ble_eq_true rfl)) hj3 ej3 ?_
      refine am_iload_n rfl rfl ?_
      refine am_icmp_gt rfl (fun c4 => ?_) (fun c4 => ?_)
      · have H := it_pos c4 H
        refine x_iconst (v := (0 : Int32)) rfl (by decide) ?_
        have H := Option.some.inj H
        subst H
        exact u_zret rfl rfl (Or.inl rfl) K
      · have H := it_neg c4 H
        refine am_iload_n rfl rfl ?_
        refine am_if_ne rfl (fun c5 => ?_) (fun c5 => ?_)
        · have H := it_neg c5 H
          refine x_iconst (v := (0 : Int32)) rfl (by decide) ?_
          have H := Option.some.inj H
          subst H
          exact u_zret rfl rfl (Or.inl rfl) K
        · have H := it_pos c5 H
          refine x_iconst (v := (1 : Int32)) rfl (by decide) ?_
          refine am_goto rfl ?_
          have H := Option.some.inj H
          subst H
          exact u_zret rfl rfl (Or.inr rfl) K
    | inr y =>
      have H := Option.some.inj H
      subst H
      exact K
  have H := H1
  clear H1
  refine am_icmp_eq rfl (fun c6 => ?_) (fun c6 => ?_)
  · have H := it_pos c6 H
    have H := Option.some.inj H
    subst H
    exact am_drop (L' := [some (.ref t0), some (.int a1), some (.int a2), none]) (And.intro rfl (And.intro rfl (And.intro rfl trivial))) K
  · have H := it_neg c6 H
    refine am_aload_n rfl rfl ?_
    refine u_getR f_7_61 rfl (isT_lt0 ht0) (sk_T ht0) rfl ?_
    refine am_iload_n rfl rfl ?_
    obtain ⟨j7, ej7, hj7, H⟩ := ck_some H
    refine x_iald rfl (isT_lt ht0 (Nat.le_of_ble_eq_true rfl)) (sk_A ht0 (Nat.le_of_ble_eq_true rfl) (Nat.le_of_ble_eq_true rfl)) hj7 ej7 ?_
    refine am_iload_n rfl rfl ?_
    refine am_icmp_gt rfl (fun c8 => ?_) (fun c8 => ?_)
    · have H := it_pos c8 H
      have H := Option.some.inj H
      subst H
      exact am_drop (L' := [some (.ref t0), some (.int a1), some (.int a2), none]) (And.intro rfl (And.intro rfl (And.intro rfl trivial))) K
    · have H := it_neg c8 H
      refine x_iconst (v := (1 : Int32)) rfl (by decide) ?_
      refine am_goto rfl ?_
      refine am_istore_n rfl (Nat.le_of_ble_eq_true rfl) ?_
      refine am_aload_n rfl rfl ?_
      refine u_getR f_7_58 rfl (isT_lt0 ht0) (sk_T ht0) rfl ?_
      refine am_iload_n rfl rfl ?_
      obtain ⟨j9, ej9, hj9, H⟩ := ck_some H
      refine x_iald rfl (isT_lt ht0 (Nat.le_of_ble_eq_true rfl)) (sk_A ht0 (Nat.le_of_ble_eq_true rfl) (Nat.le_of_ble_eq_true rfl)) hj9 ej9 ?_
      refine am_iload_n rfl rfl ?_
      refine am_icmp_gt rfl (fun c10 => ?_) (fun c10 => ?_)
      · have H := it_pos c10 H
        refine x_iconst (v := (0 : Int32)) rfl (by decide) ?_
        have H := Option.some.inj H
        subst H
        exact u_zret rfl rfl (Or.inl rfl) K
      · have H := it_neg c10 H
        refine am_iload_n rfl rfl ?_
        refine am_if_ne rfl (fun c11 => ?_) (fun c11 => ?_)
        · have H := it_neg c11 H
          refine x_iconst (v := (0 : Int32)) rfl (by decide) ?_
          have H := Option.some.inj H
          subst H
          exact u_zret rfl rfl (Or.inl rfl) K
        · have H := it_pos c11 H
          refine x_iconst (v := (1 : Int32)) rfl (by decide) ?_
          refine am_goto rfl ?_
          have H := Option.some.inj H
          subst H
          exact u_zret rfl rfl (Or.inr rfl) K
def f_X7_takeOver (t0 : Nat) (t1 : Nat) (g : G) : Option (Int32 × G) := wr (up2 g t0 1 (g t1 1)) fun g1 => wr (up2 g1 t0 2 (g1 t1 2)) fun g2 => wr (up2 g2 t0 3 (g2 t1 3)) fun g3 => cz (0 : Int32) (0 : Int32) (g3 t0 1) 10 10 (wr (up1 g3 (t0 + 1) (va_cpy (g3 (t1 + 1)) (g3 (t0 + 1)) (0 : Int32).toNatClampNeg (0 : Int32).toNatClampNeg (g3 t0 1).toNatClampNeg)) fun g4 => cz (0 : Int32) (0 : Int32) (24 : Int32) 24 24 (wr (up1 g4 (t0 + 2) (va_cpy (g4 (t1 + 2)) (g4 (t0 + 2)) (0 : Int32).toNatClampNeg (0 : Int32).toNatClampNeg (24 : Int32).toNatClampNeg)) fun g10 => cz (0 : Int32) (0 : Int32) (5 : Int32) 5 5 (wr (up1 g10 (t0 + 3) (va_cpy (g10 (t1 + 3)) (g10 (t0 + 3)) (0 : Int32).toNatClampNeg (0 : Int32).toNatClampNeg (5 : Int32).toNatClampNeg)) fun g16 => cz (0 : Int32) (0 : Int32) (g16 t0 2) 6 6 (wr (up1 g16 (t0 + 4) (va_cpy (g16 (t1 + 4)) (g16 (t0 + 4)) (0 : Int32).toNatClampNeg (0 : Int32).toNatClampNeg (g16 t0 2).toNatClampNeg)) fun g22 => cz (0 : Int32) (0 : Int32) (g22 t0 2) 6 6 (wr (up1 g22 (t0 + 5) (va_cpy (g22 (t1 + 5)) (g22 (t0 + 5)) (0 : Int32).toNatClampNeg (0 : Int32).toNatClampNeg (g22 t0 2).toNatClampNeg)) fun g28 => cz (0 : Int32) (0 : Int32) (g28 t0 2) 6 6 (wr (up1 g28 (t0 + 6) (va_cpy (g28 (t1 + 6)) (g28 (t0 + 6)) (0 : Int32).toNatClampNeg (0 : Int32).toNatClampNeg (g28 t0 2).toNatClampNeg)) fun g34 => cz (0 : Int32) (0 : Int32) ((g3 t0 2) * (5 : Int32)) 30 30 (wr (up1 g34 (t0 + 7) (va_cpy (g34 (t1 + 7)) (g34 (t0 + 7)) (0 : Int32).toNatClampNeg (0 : Int32).toNatClampNeg ((g3 t0 2) * (5 : Int32)).toNatClampNeg)) fun g40 => cz (0 : Int32) (0 : Int32) ((g3 t0 2) * (5 : Int32)) 30 30 (wr (up1 g40 (t0 + 8) (va_cpy (g40 (t1 + 8)) (g40 (t0 + 8)) (0 : Int32).toNatClampNeg (0 : Int32).toNatClampNeg ((g3 t0 2) * (5 : Int32)).toNatClampNeg)) fun g46 => cz (0 : Int32) (0 : Int32) (g46 t0 3) 60 60 (wr (up1 g46 (t0 + 9) (va_cpy (g46 (t1 + 9)) (g46 (t0 + 9)) (0 : Int32).toNatClampNeg (0 : Int32).toNatClampNeg (g46 t0 3).toNatClampNeg)) fun g52 => cz (0 : Int32) (0 : Int32) (g52 t0 3) 60 60 (wr (up1 g52 (t0 + 10) (va_cpy (g52 (t1 + 10)) (g52 (t0 + 10)) (0 : Int32).toNatClampNeg (0 : Int32).toNatClampNeg (g52 t0 3).toNatClampNeg)) fun g58 => cz (0 : Int32) (0 : Int32) (g58 t0 3) 60 60 (wr (up1 g58 (t0 + 11) (va_cpy (g58 (t1 + 11)) (g58 (t0 + 11)) (0 : Int32).toNatClampNeg (0 : Int32).toNatClampNeg (g58 t0 3).toNatClampNeg)) fun g64 => cz (0 : Int32) (0 : Int32) (g64 t0 3) 60 60 (wr (up1 g64 (t0 + 12) (va_cpy (g64 (t1 + 12)) (g64 (t0 + 12)) (0 : Int32).toNatClampNeg (0 : Int32).toNatClampNeg (g64 t0 3).toNatClampNeg)) fun g70 => cz (0 : Int32) (0 : Int32) (g70 t0 3) 60 60 (wr (up1 g70 (t0 + 13) (va_cpy (g70 (t1 + 13)) (g70 (t0 + 13)) (0 : Int32).toNatClampNeg (0 : Int32).toNatClampNeg (g70 t0 3).toNatClampNeg)) fun g76 => some (((0 : Int32), g76)))))))))))))))
set_option maxHeartbeats 4000000 in
set_option maxRecDepth 100000 in
theorem y_X7_takeOver (t0 : Nat) (t1 : Nat) (ht0 : isT t0) (ht1 : isT t1) (g : G) (q : Int32 × G) {post : Int32 → G → Prop} (H : f_X7_takeOver t0 t1 g = some q) (K : post q.1 q.2) : Y m_X7_takeOver 1 [.ref t0, .ref t1] g post := by
  refine Y_of ok_X7_takeOver pn_7 rfl (by decide) (Or.inl rfl) (List.forall_mem_cons.mpr ⟨rfl, (List.forall_mem_cons.mpr ⟨rfl, (fun _ h => absurd h List.not_mem_nil)⟩)⟩) (Nat.le_of_ble_eq_true rfl) ?_
  show u_V m_X7_takeOver 1 post 0 [some (.ref t0), some (.ref t1), none] [] g
  unfold f_X7_takeOver at H
  refine am_aload_n rfl rfl ?_
  refine am_aload_n rfl rfl ?_
  refine u_getI f_7_15 rfl (isT_lt0 ht1) (sk_T ht1) rfl ?_
  obtain ⟨g1, eg1, H⟩ := wr_some H
  refine x_putI f_7_15 rfl rfl (isT_lt0 ht0) (sk_T ht0) rfl (fun _ _ => ⟨rfl, rfl⟩) eg1 ?_
  refine am_aload_n rfl rfl ?_
  refine am_aload_n rfl rfl ?_
  refine u_getI f_7_18 rfl (isT_lt0 ht1) (sk_T ht1) rfl ?_
  obtain ⟨g2, eg2, H⟩ := wr_some H
  refine x_putI f_7_18 rfl rfl (isT_lt0 ht0) (sk_T ht0) rfl (fun _ _ => ⟨rfl, rfl⟩) eg2 ?_
  refine am_aload_n rfl rfl ?_
  refine am_aload_n rfl rfl ?_
  refine u_getI f_7_21 rfl (isT_lt0 ht1) (sk_T ht1) rfl ?_
  obtain ⟨g3, eg3, H⟩ := wr_some H
  refine x_putI f_7_21 rfl rfl (isT_lt0 ht0) (sk_T ht0) rfl (fun _ _ => ⟨rfl, rfl⟩) eg3 ?_
  refine am_aload_n rfl rfl ?_
  refine u_getI f_7_18 rfl (isT_lt0 ht0) (sk_T ht0) rfl ?_
  refine x_iconst (v := (5 : Int32)) rfl (by decide) ?_
  refine am_imul rfl ?_
  refine am_istore_n rfl (Nat.le_of_ble_eq_true rfl) ?_
  refine am_aload_n rfl rfl ?_
  refine u_getR f_7_24 rfl (isT_lt0 ht1) (sk_T ht1) rfl ?_
  refine x_iconst (v := (0 : Int32)) rfl (by decide) ?_
  refine am_aload_n rfl rfl ?_
  refine u_getR f_7_24 rfl (isT_lt0 ht0) (sk_T ht0) rfl ?_
  refine x_iconst (v := (0 : Int32)) rfl (by decide) ?_
  refine am_aload_n rfl rfl ?_
  refine u_getI f_7_15 rfl (isT_lt0 ht0) (sk_T ht0) rfl ?_
  obtain ⟨hc5, hc6, hc7, hc8, hc9, H⟩ := cz_some H
  obtain ⟨g4, eg4, H⟩ := wr_some H
  refine x_copy a_7_80 rfl (isT_lt ht1 (Nat.le_of_ble_eq_true rfl)) (sk_A ht1 (Nat.le_of_ble_eq_true rfl) (Nat.le_of_ble_eq_true rfl)) (isT_lt ht0 (Nat.le_of_ble_eq_true rfl)) (sk_A ht0 (Nat.le_of_ble_eq_true rfl) (Nat.le_of_ble_eq_true rfl)) hc5 hc6 hc7 hc8 hc9 (Nat.le_of_ble_eq_true rfl) (fun _ _ => Nat.le_of_ble_eq_true rfl) eg4 ?_
  refine am_aload_n rfl rfl ?_
  refine u_getR f_7_28 rfl (isT_lt0 ht1) (sk_T ht1) rfl ?_
  refine x_iconst (v := (0 : Int32)) rfl (by decide) ?_
  refine am_aload_n rfl rfl ?_
  refine u_getR f_7_28 rfl (isT_lt0 ht0) (sk_T ht0) rfl ?_
  refine x_iconst (v := (0 : Int32)) rfl (by decide) ?_
  refine x_bipush (v := (24 : Int32)) rfl (by decide) ?_
  obtain ⟨hc11, hc12, hc13, hc14, hc15, H⟩ := cz_some H
  obtain ⟨g10, eg10, H⟩ := wr_some H
  refine x_copy a_7_80 rfl (isT_lt ht1 (Nat.le_of_ble_eq_true rfl)) (sk_A ht1 (Nat.le_of_ble_eq_true rfl) (Nat.le_of_ble_eq_true rfl)) (isT_lt ht0 (Nat.le_of_ble_eq_true rfl)) (sk_A ht0 (Nat.le_of_ble_eq_true rfl) (Nat.le_of_ble_eq_true rfl)) hc11 hc12 hc13 hc14 hc15 (Nat.le_of_ble_eq_true rfl) (fun _ _ => Nat.le_of_ble_eq_true rfl) eg10 ?_
  refine am_aload_n rfl rfl ?_
  refine u_getR f_7_31 rfl (isT_lt0 ht1) (sk_T ht1) rfl ?_
  refine x_iconst (v := (0 : Int32)) rfl (by decide) ?_
  refine am_aload_n rfl rfl ?_
  refine u_getR f_7_31 rfl (isT_lt0 ht0) (sk_T ht0) rfl ?_
  refine x_iconst (v := (0 : Int32)) rfl (by decide) ?_
  refine x_iconst (v := (5 : Int32)) rfl (by decide) ?_
  obtain ⟨hc17, hc18, hc19, hc20, hc21, H⟩ := cz_some H
  obtain ⟨g16, eg16, H⟩ := wr_some H
  refine x_copy a_7_80 rfl (isT_lt ht1 (Nat.le_of_ble_eq_true rfl)) (sk_A ht1 (Nat.le_of_ble_eq_true rfl) (Nat.le_of_ble_eq_true rfl)) (isT_lt ht0 (Nat.le_of_ble_eq_true rfl)) (sk_A ht0 (Nat.le_of_ble_eq_true rfl) (Nat.le_of_ble_eq_true rfl)) hc17 hc18 hc19 hc20 hc21 (Nat.le_of_ble_eq_true rfl) (fun _ _ => Nat.le_of_ble_eq_true rfl) eg16 ?_
  refine am_aload_n rfl rfl ?_
  refine u_getR f_7_34 rfl (isT_lt0 ht1) (sk_T ht1) rfl ?_
  refine x_iconst (v := (0 : Int32)) rfl (by decide) ?_
  refine am_aload_n rfl rfl ?_
  refine u_getR f_7_34 rfl (isT_lt0 ht0) (sk_T ht0) rfl ?_
  refine x_iconst (v := (0 : Int32)) rfl (by decide) ?_
  refine am_aload_n rfl rfl ?_
  refine u_getI f_7_18 rfl (isT_lt0 ht0) (sk_T ht0) rfl ?_
  obtain ⟨hc23, hc24, hc25, hc26, hc27, H⟩ := cz_some H
  obtain ⟨g22, eg22, H⟩ := wr_some H
  refine x_copy a_7_80 rfl (isT_lt ht1 (Nat.le_of_ble_eq_true rfl)) (sk_A ht1 (Nat.le_of_ble_eq_true rfl) (Nat.le_of_ble_eq_true rfl)) (isT_lt ht0 (Nat.le_of_ble_eq_true rfl)) (sk_A ht0 (Nat.le_of_ble_eq_true rfl) (Nat.le_of_ble_eq_true rfl)) hc23 hc24 hc25 hc26 hc27 (Nat.le_of_ble_eq_true rfl) (fun _ _ => Nat.le_of_ble_eq_true rfl) eg22 ?_
  refine am_aload_n rfl rfl ?_
  refine u_getR f_7_37 rfl (isT_lt0 ht1) (sk_T ht1) rfl ?_
  refine x_iconst (v := (0 : Int32)) rfl (by decide) ?_
  refine am_aload_n rfl rfl ?_
  refine u_getR f_7_37 rfl (isT_lt0 ht0) (sk_T ht0) rfl ?_
  refine x_iconst (v := (0 : Int32)) rfl (by decide) ?_
  refine am_aload_n rfl rfl ?_
  refine u_getI f_7_18 rfl (isT_lt0 ht0) (sk_T ht0) rfl ?_
  obtain ⟨hc29, hc30, hc31, hc32, hc33, H⟩ := cz_some H
  obtain ⟨g28, eg28, H⟩ := wr_some H
  refine x_copy a_7_80 rfl (isT_lt ht1 (Nat.le_of_ble_eq_true rfl)) (sk_A ht1 (Nat.le_of_ble_eq_true rfl) (Nat.le_of_ble_eq_true rfl)) (isT_lt ht0 (Nat.le_of_ble_eq_true rfl)) (sk_A ht0 (Nat.le_of_ble_eq_true rfl) (Nat.le_of_ble_eq_true rfl)) hc29 hc30 hc31 hc32 hc33 (Nat.le_of_ble_eq_true rfl) (fun _ _ => Nat.le_of_ble_eq_true rfl) eg28 ?_
  refine am_aload_n rfl rfl ?_
  refine u_getR f_7_40 rfl (isT_lt0 ht1) (sk_T ht1) rfl ?_
  refine x_iconst (v := (0 : Int32)) rfl (by decide) ?_
  refine am_aload_n rfl rfl ?_
  refine u_getR f_7_40 rfl (isT_lt0 ht0) (sk_T ht0) rfl ?_
  refine x_iconst (v := (0 : Int32)) rfl (by decide) ?_
  refine am_aload_n rfl rfl ?_
  refine u_getI f_7_18 rfl (isT_lt0 ht0) (sk_T ht0) rfl ?_
  obtain ⟨hc35, hc36, hc37, hc38, hc39, H⟩ := cz_some H
  obtain ⟨g34, eg34, H⟩ := wr_some H
  refine x_copy a_7_80 rfl (isT_lt ht1 (Nat.le_of_ble_eq_true rfl)) (sk_A ht1 (Nat.le_of_ble_eq_true rfl) (Nat.le_of_ble_eq_true rfl)) (isT_lt ht0 (Nat.le_of_ble_eq_true rfl)) (sk_A ht0 (Nat.le_of_ble_eq_true rfl) (Nat.le_of_ble_eq_true rfl)) hc35 hc36 hc37 hc38 hc39 (Nat.le_of_ble_eq_true rfl) (fun _ _ => Nat.le_of_ble_eq_true rfl) eg34 ?_
  refine am_aload_n rfl rfl ?_
  refine u_getR f_7_43 rfl (isT_lt0 ht1) (sk_T ht1) rfl ?_
  refine x_iconst (v := (0 : Int32)) rfl (by decide) ?_
  refine am_aload_n rfl rfl ?_
  refine u_getR f_7_43 rfl (isT_lt0 ht0) (sk_T ht0) rfl ?_
  refine x_iconst (v := (0 : Int32)) rfl (by decide) ?_
  refine am_iload_n rfl rfl ?_
  obtain ⟨hc41, hc42, hc43, hc44, hc45, H⟩ := cz_some H
  obtain ⟨g40, eg40, H⟩ := wr_some H
  refine x_copy a_7_80 rfl (isT_lt ht1 (Nat.le_of_ble_eq_true rfl)) (sk_A ht1 (Nat.le_of_ble_eq_true rfl) (Nat.le_of_ble_eq_true rfl)) (isT_lt ht0 (Nat.le_of_ble_eq_true rfl)) (sk_A ht0 (Nat.le_of_ble_eq_true rfl) (Nat.le_of_ble_eq_true rfl)) hc41 hc42 hc43 hc44 hc45 (Nat.le_of_ble_eq_true rfl) (fun _ _ => Nat.le_of_ble_eq_true rfl) eg40 ?_
  refine am_aload_n rfl rfl ?_
  refine u_getR f_7_46 rfl (isT_lt0 ht1) (sk_T ht1) rfl ?_
  refine x_iconst (v := (0 : Int32)) rfl (by decide) ?_
  refine am_aload_n rfl rfl ?_
  refine u_getR f_7_46 rfl (isT_lt0 ht0) (sk_T ht0) rfl ?_
  refine x_iconst (v := (0 : Int32)) rfl (by decide) ?_
  refine am_iload_n rfl rfl ?_
  obtain ⟨hc47, hc48, hc49, hc50, hc51, H⟩ := cz_some H
  obtain ⟨g46, eg46, H⟩ := wr_some H
  refine x_copy a_7_80 rfl (isT_lt ht1 (Nat.le_of_ble_eq_true rfl)) (sk_A ht1 (Nat.le_of_ble_eq_true rfl) (Nat.le_of_ble_eq_true rfl)) (isT_lt ht0 (Nat.le_of_ble_eq_true rfl)) (sk_A ht0 (Nat.le_of_ble_eq_true rfl) (Nat.le_of_ble_eq_true rfl)) hc47 hc48 hc49 hc50 hc51 (Nat.le_of_ble_eq_true rfl) (fun _ _ => Nat.le_of_ble_eq_true rfl) eg46 ?_
  refine am_aload_n rfl rfl ?_
  refine u_getR f_7_49 rfl (isT_lt0 ht1) (sk_T ht1) rfl ?_
  refine x_iconst (v := (0 : Int32)) rfl (by decide) ?_
  refine am_aload_n rfl rfl ?_
  refine u_getR f_7_49 rfl (isT_lt0 ht0) (sk_T ht0) rfl ?_
  refine x_iconst (v := (0 : Int32)) rfl (by decide) ?_
  refine am_aload_n rfl rfl ?_
  refine u_getI f_7_21 rfl (isT_lt0 ht0) (sk_T ht0) rfl ?_
  obtain ⟨hc53, hc54, hc55, hc56, hc57, H⟩ := cz_some H
  obtain ⟨g52, eg52, H⟩ := wr_some H
  refine x_copy a_7_80 rfl (isT_lt ht1 (Nat.le_of_ble_eq_true rfl)) (sk_A ht1 (Nat.le_of_ble_eq_true rfl) (Nat.le_of_ble_eq_true rfl)) (isT_lt ht0 (Nat.le_of_ble_eq_true rfl)) (sk_A ht0 (Nat.le_of_ble_eq_true rfl) (Nat.le_of_ble_eq_true rfl)) hc53 hc54 hc55 hc56 hc57 (Nat.le_of_ble_eq_true rfl) (fun _ _ => Nat.le_of_ble_eq_true rfl) eg52 ?_
  refine am_aload_n rfl rfl ?_
  refine u_getR f_7_52 rfl (isT_lt0 ht1) (sk_T ht1) rfl ?_
  refine x_iconst (v := (0 : Int32)) rfl (by decide) ?_
  refine am_aload_n rfl rfl ?_
  refine u_getR f_7_52 rfl (isT_lt0 ht0) (sk_T ht0) rfl ?_
  refine x_iconst (v := (0 : Int32)) rfl (by decide) ?_
  refine am_aload_n rfl rfl ?_
  refine u_getI f_7_21 rfl (isT_lt0 ht0) (sk_T ht0) rfl ?_
  obtain ⟨hc59, hc60, hc61, hc62, hc63, H⟩ := cz_some H
  obtain ⟨g58, eg58, H⟩ := wr_some H
  refine x_copy a_7_80 rfl (isT_lt ht1 (Nat.le_of_ble_eq_true rfl)) (sk_A ht1 (Nat.le_of_ble_eq_true rfl) (Nat.le_of_ble_eq_true rfl)) (isT_lt ht0 (Nat.le_of_ble_eq_true rfl)) (sk_A ht0 (Nat.le_of_ble_eq_true rfl) (Nat.le_of_ble_eq_true rfl)) hc59 hc60 hc61 hc62 hc63 (Nat.le_of_ble_eq_true rfl) (fun _ _ => Nat.le_of_ble_eq_true rfl) eg58 ?_
  refine am_aload_n rfl rfl ?_
  refine u_getR f_7_55 rfl (isT_lt0 ht1) (sk_T ht1) rfl ?_
  refine x_iconst (v := (0 : Int32)) rfl (by decide) ?_
  refine am_aload_n rfl rfl ?_
  refine u_getR f_7_55 rfl (isT_lt0 ht0) (sk_T ht0) rfl ?_
  refine x_iconst (v := (0 : Int32)) rfl (by decide) ?_
  refine am_aload_n rfl rfl ?_
  refine u_getI f_7_21 rfl (isT_lt0 ht0) (sk_T ht0) rfl ?_
  obtain ⟨hc65, hc66, hc67, hc68, hc69, H⟩ := cz_some H
  obtain ⟨g64, eg64, H⟩ := wr_some H
  refine x_copy a_7_80 rfl (isT_lt ht1 (Nat.le_of_ble_eq_true rfl)) (sk_A ht1 (Nat.le_of_ble_eq_true rfl) (Nat.le_of_ble_eq_true rfl)) (isT_lt ht0 (Nat.le_of_ble_eq_true rfl)) (sk_A ht0 (Nat.le_of_ble_eq_true rfl) (Nat.le_of_ble_eq_true rfl)) hc65 hc66 hc67 hc68 hc69 (Nat.le_of_ble_eq_true rfl) (fun _ _ => Nat.le_of_ble_eq_true rfl) eg64 ?_
  refine am_aload_n rfl rfl ?_
  refine u_getR f_7_58 rfl (isT_lt0 ht1) (sk_T ht1) rfl ?_
  refine x_iconst (v := (0 : Int32)) rfl (by decide) ?_
  refine am_aload_n rfl rfl ?_
  refine u_getR f_7_58 rfl (isT_lt0 ht0) (sk_T ht0) rfl ?_
  refine x_iconst (v := (0 : Int32)) rfl (by decide) ?_
  refine am_aload_n rfl rfl ?_
  refine u_getI f_7_21 rfl (isT_lt0 ht0) (sk_T ht0) rfl ?_
  obtain ⟨hc71, hc72, hc73, hc74, hc75, H⟩ := cz_some H
  obtain ⟨g70, eg70, H⟩ := wr_some H
  refine x_copy a_7_80 rfl (isT_lt ht1 (Nat.le_of_ble_eq_true rfl)) (sk_A ht1 (Nat.le_of_ble_eq_true rfl) (Nat.le_of_ble_eq_true rfl)) (isT_lt ht0 (Nat.le_of_ble_eq_true rfl)) (sk_A ht0 (Nat.le_of_ble_eq_true rfl) (Nat.le_of_ble_eq_true rfl)) hc71 hc72 hc73 hc74 hc75 (Nat.le_of_ble_eq_true rfl) (fun _ _ => Nat.le_of_ble_eq_true rfl) eg70 ?_
  refine am_aload_n rfl rfl ?_
  refine u_getR f_7_61 rfl (isT_lt0 ht1) (sk_T ht1) rfl ?_
  refine x_iconst (v := (0 : Int32)) rfl (by decide) ?_
  refine am_aload_n rfl rfl ?_
  refine u_getR f_7_61 rfl (isT_lt0 ht0) (sk_T ht0) rfl ?_
  refine x_iconst (v := (0 : Int32)) rfl (by decide) ?_
  refine am_aload_n rfl rfl ?_
  refine u_getI f_7_21 rfl (isT_lt0 ht0) (sk_T ht0) rfl ?_
  obtain ⟨hc77, hc78, hc79, hc80, hc81, H⟩ := cz_some H
  obtain ⟨g76, eg76, H⟩ := wr_some H
  refine x_copy a_7_80 rfl (isT_lt ht1 (Nat.le_of_ble_eq_true rfl)) (sk_A ht1 (Nat.le_of_ble_eq_true rfl) (Nat.le_of_ble_eq_true rfl)) (isT_lt ht0 (Nat.le_of_ble_eq_true rfl)) (sk_A ht0 (Nat.le_of_ble_eq_true rfl) (Nat.le_of_ble_eq_true rfl)) hc77 hc78 hc79 hc80 hc81 (Nat.le_of_ble_eq_true rfl) (fun _ _ => Nat.le_of_ble_eq_true rfl) eg76 ?_
  have H := Option.some.inj H
  subst H
  exact u_vret rfl rfl K
def f_X7_isSame (b0 n0 : Nat) (b1 n1 : Nat) (a2 : Int32) (a3 : Int32) (g : G) : Option (Int32 × G) := bd (lp (fun (s2 : Int32) => (if a3 ≤ s2 then some (.inr (.inl ())) else ck s2 n0 fun j5 => ck s2 n1 fun j6 => if (g b0 j5) = (g b1 j6) then some (.inl ((s2 + (1 : Int32)))) else some (.inr (.inr (((0 : Int32), g)))) : Option ((Int32) ⊕ ((Unit) ⊕ (Int32 × G))))) 2000 a2) fun s8m => (match s8m with | .inl _ => (some (((1 : Int32), g))) | .inr y => some y)
set_option maxHeartbeats 4000000 in
set_option maxRecDepth 100000 in
theorem y_X7_isSame (b0 n0 : Nat) (b1 n1 : Nat) (a2 : Int32) (a3 : Int32) (hb0 : b0 < 185) (hs0 : sk b0 = .inl (0, n0)) (hb1 : b1 < 185) (hs1 : sk b1 = .inl (0, n1)) (g : G) (q : Int32 × G) {post : Int32 → G → Prop} (H : f_X7_isSame b0 n0 b1 n1 a2 a3 g = some q) (K : post q.1 q.2) : Y m_X7_isSame 0 [.ref b0, .ref b1, .int a2, .int a3] g post := by
  refine Y_of ok_X7_isSame pn_7 rfl (by decide) (Or.inr (Or.inr rfl)) (List.forall_mem_cons.mpr ⟨rfl, (List.forall_mem_cons.mpr ⟨rfl, (List.forall_mem_cons.mpr ⟨rfl, (List.forall_mem_cons.mpr ⟨rfl, (fun _ h => absurd h List.not_mem_nil)⟩)⟩)⟩)⟩) (Nat.le_of_ble_eq_true rfl) ?_
  show u_V m_X7_isSame 0 post 0 [some (.ref b0), some (.ref b1), some (.int a2), some (.int a3), none] [] g
  unfold f_X7_isSame at H
  refine am_iload_n rfl rfl ?_
  refine am_istore rfl (Nat.le_of_ble_eq_true rfl) ?_
  obtain ⟨s8, H1, H⟩ := bd_some H
  have K2 : (Sum.elim (fun (_ : Unit) => u_V m_X7_isSame 0 post 28 [none, none, none, none, none] [] g) (fun (q : Int32 × G) => post q.1 q.2)) s8 := by
    clear H1
    cases s8 with
    | inl s3 =>
      (try dsimp only at H); (try dsimp only)
      refine x_iconst (v := (1 : Int32)) rfl (by decide) ?_
      have H := Option.some.inj H
      subst H
      exact u_zret rfl rfl (Or.inr rfl) K
    | inr y =>
      have H := Option.some.inj H
      subst H
      exact K
  refine am_drop (L' := [some (.ref b0), some (.ref b1), none, some (.int a3), some (.int a2)]) (And.intro rfl (And.intro rfl (And.intro rfl (And.intro rfl trivial)))) ?_
  refine lp_ind (P := (fun (s2 : Int32) => u_V m_X7_isSame 0 post 3 [some (.ref b0), some (.ref b1), none, some (.int a3), some (.int s2)] [] g)) (Q := (Sum.elim (fun (_ : Unit) => u_V m_X7_isSame 0 post 28 [none, none, none, none, none] [] g) (fun (q : Int32 × G) => post q.1 q.2))) ?_ 2000 a2 s8 H1 K2
  clear H1 H K
  intro s2 s8b H K
  obtain ⟨x1, e_x1⟩ : ∃ z, z = s2 := ⟨_, rfl⟩
  subst e_x1
  (try dsimp only at H); (try dsimp only)
  refine am_iload rfl rfl ?_
  refine am_iload_n rfl rfl ?_
  refine am_icmp_ge rfl (fun c4 => ?_) (fun c4 => ?_)
  · have H := it_pos c4 H
    have H := Option.some.inj H
    subst H
    exact am_drop (L' := [none, none, none, none, none]) trivial K
  · have H := it_neg c4 H
    refine am_aload_n rfl rfl ?_
    refine am_iload rfl rfl ?_
    obtain ⟨j5, ej5, hj5, H⟩ := ck_some H
    refine x_iald rfl hb0 hs0 hj5 ej5 ?_
    refine am_aload_n rfl rfl ?_
    refine am_iload rfl rfl ?_
    obtain ⟨j6, ej6, hj6, H⟩ := ck_some H
    refine x_iald rfl hb1 hs1 hj6 ej6 ?_
    refine am_icmp_eq rfl (fun c7 => ?_) (fun c7 => ?_)
    · have H := it_pos c7 H
      refine x_iinc (v := (x1 + (1 : Int32))) rfl rfl (Nat.le_of_ble_eq_true rfl) rfl ?_
      refine am_goto rfl ?_
      have H := Option.some.inj H
      subst H
      exact am_drop (L' := [some (.ref b0), some (.ref b1), none, some (.int a3), some (.int (x1 + (1 : Int32)))]) (And.intro rfl (And.intro rfl (And.intro rfl (And.intro rfl trivial)))) K
    · have H := it_neg c7 H
      refine x_iconst (v := (0 : Int32)) rfl (by decide) ?_
      have H := Option.some.inj H
      subst H
      exact u_zret rfl rfl (Or.inl rfl) K
def f_X7_hasLikeRounds (t0 : Nat) (t1 : Nat) (g : G) : Option (Int32 × G) := bd2 (f_X7_isSame (t0 + 4) 6 (t1 + 4) 6 (0 : Int32) (g t0 2) g) fun r1 g2 => if r1 = 0 then some (((0 : Int32), g2)) else bd2 (f_X7_isSame (t0 + 5) 6 (t1 + 5) 6 (0 : Int32) (g2 t0 2) g2) fun r4 g5 => if r4 = 0 then some (((0 : Int32), g5)) else bd2 (f_X7_isSame (t0 + 6) 6 (t1 + 6) 6 (0 : Int32) (g5 t0 2) g5) fun r7 g8 => if r7 = 0 then some (((0 : Int32), g8)) else bd (lp (fun (s12 : Int32 × G) => (if (s12.2 t0 2) ≤ s12.1 then some (.inr (.inl (s12.2))) else ck s12.1 6 fun j16 => bd2 (f_X7_isSame (t0 + 7) 30 (t1 + 7) 30 (s12.1 * (5 : Int32)) ((s12.1 * (5 : Int32)) + (s12.2 (t0 + 5) j16)) s12.2) fun r17 g18 => if r17 = 0 then some (.inr (.inr (((0 : Int32), g18)))) else bd2 (f_X7_isSame (t0 + 8) 30 (t1 + 8) 30 (s12.1 * (5 : Int32)) ((s12.1 * (5 : Int32)) + (s12.2 (t0 + 5) j16)) g18) fun r20 g21 => if r20 = 0 then some (.inr (.inr (((0 : Int32), g21)))) else some (.inl ((s12.1 + (1 : Int32)), g21)) : Option ((Int32 × G) ⊕ ((G) ⊕ (Int32 × G))))) 2000 ((0 : Int32), g8)) fun s23m => (match s23m with | .inl s14 => (some (((1 : Int32), s14))) | .inr y => some y)
set_option maxHeartbeats 4000000 in
set_option maxRecDepth 100000 in
theorem y_X7_hasLikeRounds (t0 : Nat) (t1 : Nat) (ht0 : isT t0) (ht1 : isT t1) (g : G) (q : Int32 × G) {post : Int32 → G → Prop} (H : f_X7_hasLikeRounds t0 t1 g = some q) (K : post q.1 q.2) : Y m_X7_hasLikeRounds 1 [.ref t0, .ref t1] g post := by
  refine Y_of ok_X7_hasLikeRounds pn_7 rfl (by decide) (Or.inr (Or.inr rfl)) (List.forall_mem_cons.mpr ⟨rfl, (List.forall_mem_cons.mpr ⟨rfl, (fun _ h => absurd h List.not_mem_nil)⟩)⟩) (Nat.le_of_ble_eq_true rfl) ?_
  show u_V m_X7_hasLikeRounds 1 post 0 [some (.ref t0), some (.ref t1), none, none, none] [] g
  unfold f_X7_hasLikeRounds at H
  refine am_aload_n rfl rfl ?_
  refine u_getR f_7_34 rfl (isT_lt0 ht0) (sk_T ht0) rfl ?_
  refine am_aload_n rfl rfl ?_
  refine u_getR f_7_34 rfl (isT_lt0 ht1) (sk_T ht1) rfl ?_
  refine x_iconst (v := (0 : Int32)) rfl (by decide) ?_
  refine am_aload_n rfl rfl ?_
  refine u_getI f_7_18 rfl (isT_lt0 ht0) (sk_T ht0) rfl ?_
  obtain ⟨r1, g2, H1, H⟩ := bd2_some H
  refine cs4i s_7_86 rfl rfl (Nat.le_of_ble_eq_true rfl) (fun _ _ => Nat.le_of_ble_eq_true rfl) (y_X7_isSame (t0 + 4) 6 (t1 + 4) 6 (0 : Int32) (g t0 2) (isT_lt ht0 (Nat.le_of_ble_eq_true rfl)) (sk_A ht0 (Nat.le_of_ble_eq_true rfl) (Nat.le_of_ble_eq_true rfl)) (isT_lt ht1 (Nat.le_of_ble_eq_true rfl)) (sk_A ht1 (Nat.le_of_ble_eq_true rfl) (Nat.le_of_ble_eq_true rfl)) g _ H1 ?_)
  refine am_if_eq rfl (fun c3 => ?_) (fun c3 => ?_)
  · have H := it_pos c3 H
    refine x_iconst (v := (0 : Int32)) rfl (by decide) ?_
    have H := Option.some.inj H
    subst H
    exact u_zret rfl rfl (Or.inl rfl) K
  · have H := it_neg c3 H
    refine am_aload_n rfl rfl ?_
    refine u_getR f_7_37 rfl (isT_lt0 ht0) (sk_T ht0) rfl ?_
    refine am_aload_n rfl rfl ?_
    refine u_getR f_7_37 rfl (isT_lt0 ht1) (sk_T ht1) rfl ?_
    refine x_iconst (v := (0 : Int32)) rfl (by decide) ?_
    refine am_aload_n rfl rfl ?_
    refine u_getI f_7_18 rfl (isT_lt0 ht0) (sk_T ht0) rfl ?_
    obtain ⟨r4, g5, H1, H⟩ := bd2_some H
    refine cs4i s_7_86 rfl rfl (Nat.le_of_ble_eq_true rfl) (fun _ _ => Nat.le_of_ble_eq_true rfl) (y_X7_isSame (t0 + 5) 6 (t1 + 5) 6 (0 : Int32) (g2 t0 2) (isT_lt ht0 (Nat.le_of_ble_eq_true rfl)) (sk_A ht0 (Nat.le_of_ble_eq_true rfl) (Nat.le_of_ble_eq_true rfl)) (isT_lt ht1 (Nat.le_of_ble_eq_true rfl)) (sk_A ht1 (Nat.le_of_ble_eq_true rfl) (Nat.le_of_ble_eq_true rfl)) g2 _ H1 ?_)
    refine am_if_eq rfl (fun c6 => ?_) (fun c6 => ?_)
    · have H := it_pos c6 H
      refine x_iconst (v := (0 : Int32)) rfl (by decide) ?_
      have H := Option.some.inj H
      subst H
      exact u_zret rfl rfl (Or.inl rfl) K
    · have H := it_neg c6 H
      refine am_aload_n rfl rfl ?_
      refine u_getR f_7_40 rfl (isT_lt0 ht0) (sk_T ht0) rfl ?_
      refine am_aload_n rfl rfl ?_
      refine u_getR f_7_40 rfl (isT_lt0 ht1) (sk_T ht1) rfl ?_
      refine x_iconst (v := (0 : Int32)) rfl (by decide) ?_
      refine am_aload_n rfl rfl ?_
      refine u_getI f_7_18 rfl (isT_lt0 ht0) (sk_T ht0) rfl ?_
      obtain ⟨r7, g8, H1, H⟩ := bd2_some H
      refine cs4i s_7_86 rfl rfl (Nat.le_of_ble_eq_true rfl) (fun _ _ => Nat.le_of_ble_eq_true rfl) (y_X7_isSame (t0 + 6) 6 (t1 + 6) 6 (0 : Int32) (g5 t0 2) (isT_lt ht0 (Nat.le_of_ble_eq_true rfl)) (sk_A ht0 (Nat.le_of_ble_eq_true rfl) (Nat.le_of_ble_eq_true rfl)) (isT_lt ht1 (Nat.le_of_ble_eq_true rfl)) (sk_A ht1 (Nat.le_of_ble_eq_true rfl) (Nat.le_of_ble_eq_true rfl)) g5 _ H1 ?_)
      refine am_if_ne rfl (fun c9 => ?_) (fun c9 => ?_)
      · have H := it_neg c9 H
        refine x_iconst (v := (0 : Int32)) rfl (by decide) ?_
        refine am_istore_n rfl (Nat.le_of_ble_eq_true rfl) ?_
        obtain ⟨s23, H1, H⟩ := bd_some H
        have K2 : (Sum.elim (fun (s14 : G) => u_V m_X7_hasLikeRounds 1 post 125 [none, none, none, none, none] [] s14) (fun (q : Int32 × G) => post q.1 q.2)) s23 := by
          clear H1
          cases s23 with
          | inl s14 =>
            obtain ⟨g13, e_g13⟩ : ∃ z, z = s14 := ⟨_, rfl⟩
            subst e_g13
            (try dsimp only at H); (try dsimp only)
            refine x_iconst (v := (1 : Int32)) rfl (by decide) ?_
            have H := Option.some.inj H
            subst H
            exact u_zret rfl rfl (Or.inr rfl) K
          | inr y =>
            have H := Option.some.inj H
            subst H
            exact K
        refine am_drop (L' := [some (.ref t0), some (.ref t1), some (.int (0 : Int32)), none, none]) (And.intro rfl (And.intro rfl (And.intro rfl trivial))) ?_
        refine lp_ind (P := (fun (s12 : Int32 × G) => u_V m_X7_hasLikeRounds 1 post 61 [some (.ref t0), some (.ref t1), some (.int s12.1), none, none] [] s12.2)) (Q := (Sum.elim (fun (s14 : G) => u_V m_X7_hasLikeRounds 1 post 125 [none, none, none, none, none] [] s14) (fun (q : Int32 × G) => post q.1 q.2))) ?_ 2000 ((0 : Int32), g8) s23 H1 K2
        clear H1 H K
        intro s12 s23b H K
        obtain ⟨x10, g11⟩ := s12
        (try dsimp only at H); (try dsimp only)
        refine am_iload_n rfl rfl ?_
        refine am_aload_n rfl rfl ?_
        refine u_getI f_7_18 rfl (isT_lt0 ht0) (sk_T ht0) rfl ?_
        refine am_icmp_ge rfl (fun c15 => ?_) (fun c15 => ?_)
        · have H := it_pos c15 H
          have H := Option.some.inj H
          subst H
          exact am_drop (L' := [none, none, none, none, none]) trivial K
        · have H := it_neg c15 H
          refine am_iload_n rfl rfl ?_
          refine x_iconst (v := (5 : Int32)) rfl (by decide) ?_
          refine am_imul rfl ?_
          refine am_istore_n rfl (Nat.le_of_ble_eq_true rfl) ?_
          refine am_iload_n rfl rfl ?_
          refine am_aload_n rfl rfl ?_
          refine u_getR f_7_37 rfl (isT_lt0 ht0) (sk_T ht0) rfl ?_
          refine am_iload_n rfl rfl ?_
          obtain ⟨j16, ej16, hj16, H⟩ := ck_some H
          refine x_iald rfl (isT_lt ht0 (Nat.le_of_ble_eq_true rfl)) (sk_A ht0 (Nat.le_of_ble_eq_true rfl) (Nat.le_of_ble_eq_true rfl)) hj16 ej16 ?_
          refine am_iadd rfl ?_
          refine am_istore rfl (Nat.le_of_ble_eq_true rfl) ?_
          refine am_aload_n rfl rfl ?_
          refine u_getR f_7_43 rfl (isT_lt0 ht0) (sk_T ht0) rfl ?_
          refine am_aload_n rfl rfl ?_
          refine u_getR f_7_43 rfl (isT_lt0 ht1) (sk_T ht1) rfl ?_
          refine am_iload_n rfl rfl ?_
          refine am_iload rfl rfl ?_
          obtain ⟨r17, g18, H1, H⟩ := bd2_some H
          refine cs4i s_7_86 rfl rfl (Nat.le_of_ble_eq_true rfl) (fun _ _ => Nat.le_of_ble_eq_true rfl) (y_X7_isSame (t0 + 7) 30 (t1 + 7) 30 (x10 * (5 : Int32)) ((x10 * (5 : Int32)) + (g11 (t0 + 5) j16)) (isT_lt ht0 (Nat.le_of_ble_eq_true rfl)) (sk_A ht0 (Nat.le_of_ble_eq_true rfl) (Nat.le_of_ble_eq_true rfl)) (isT_lt ht1 (Nat.le_of_ble_eq_true rfl)) (sk_A ht1 (Nat.le_of_ble_eq_true rfl) (Nat.le_of_ble_eq_true rfl)) g11 _ H1 ?_)
          refine am_if_eq rfl (fun c19 => ?_) (fun c19 => ?_)
          · have H := it_pos c19 H
            refine x_iconst (v := (0 : Int32)) rfl (by decide) ?_
            have H := Option.some.inj H
            subst H
            exact u_zret rfl rfl (Or.inl rfl) K
          · have H := it_neg c19 H
            refine am_aload_n rfl rfl ?_
            refine u_getR f_7_46 rfl (isT_lt0 ht0) (sk_T ht0) rfl ?_
            refine am_aload_n rfl rfl ?_
            refine u_getR f_7_46 rfl (isT_lt0 ht1) (sk_T ht1) rfl ?_
            refine am_iload_n rfl rfl ?_
            refine am_iload rfl rfl ?_
            obtain ⟨r20, g21, H1, H⟩ := bd2_some H
            refine cs4i s_7_86 rfl rfl (Nat.le_of_ble_eq_true rfl) (fun _ _ => Nat.le_of_ble_eq_true rfl) (y_X7_isSame (t0 + 8) 30 (t1 + 8) 30 (x10 * (5 : Int32)) ((x10 * (5 : Int32)) + (g11 (t0 + 5) j16)) (isT_lt ht0 (Nat.le_of_ble_eq_true rfl)) (sk_A ht0 (Nat.le_of_ble_eq_true rfl) (Nat.le_of_ble_eq_true rfl)) (isT_lt ht1 (Nat.le_of_ble_eq_true rfl)) (sk_A ht1 (Nat.le_of_ble_eq_true rfl) (Nat.le_of_ble_eq_true rfl)) g18 _ H1 ?_)
            refine am_if_ne rfl (fun c22 => ?_) (fun c22 => ?_)
            · have H := it_neg c22 H
              refine x_iinc (v := (x10 + (1 : Int32))) rfl rfl (Nat.le_of_ble_eq_true rfl) rfl ?_
              refine am_goto rfl ?_
              have H := Option.some.inj H
              subst H
              exact am_drop (L' := [some (.ref t0), some (.ref t1), some (.int (x10 + (1 : Int32))), none, none]) (And.intro rfl (And.intro rfl (And.intro rfl trivial))) K
            · have H := it_pos c22 H
              refine x_iconst (v := (0 : Int32)) rfl (by decide) ?_
              have H := Option.some.inj H
              subst H
              exact u_zret rfl rfl (Or.inl rfl) K
      · have H := it_pos c9 H
        refine x_iconst (v := (0 : Int32)) rfl (by decide) ?_
        have H := Option.some.inj H
        subst H
        exact u_zret rfl rfl (Or.inl rfl) K
def f_X7_hasLikeEntries (t0 : Nat) (t1 : Nat) (g : G) : Option (Int32 × G) := bd2 (f_X7_isSame (t0 + 9) 60 (t1 + 9) 60 (0 : Int32) (g t0 3) g) fun r1 g2 => if r1 = 0 then some (((0 : Int32), g2)) else bd2 (f_X7_isSame (t0 + 10) 60 (t1 + 10) 60 (0 : Int32) (g2 t0 3) g2) fun r4 g5 => if r4 = 0 then some (((0 : Int32), g5)) else bd2 (f_X7_isSame (t0 + 11) 60 (t1 + 11) 60 (0 : Int32) (g5 t0 3) g5) fun r7 g8 => if r7 = 0 then some (((0 : Int32), g8)) else bd2 (f_X7_isSame (t0 + 12) 60 (t1 + 12) 60 (0 : Int32) (g8 t0 3) g8) fun r10 g11 => if r10 = 0 then some (((0 : Int32), g11)) else bd2 (f_X7_isSame (t0 + 13) 60 (t1 + 13) 60 (0 : Int32) (g11 t0 3) g11) fun r13 g14 => if r13 = 0 then some (((0 : Int32), g14)) else some (((1 : Int32), g14))
set_option maxHeartbeats 4000000 in
set_option maxRecDepth 100000 in
theorem y_X7_hasLikeEntries (t0 : Nat) (t1 : Nat) (ht0 : isT t0) (ht1 : isT t1) (g : G) (q : Int32 × G) {post : Int32 → G → Prop} (H : f_X7_hasLikeEntries t0 t1 g = some q) (K : post q.1 q.2) : Y m_X7_hasLikeEntries 1 [.ref t0, .ref t1] g post := by
  refine Y_of ok_X7_hasLikeEntries pn_7 rfl (by decide) (Or.inr (Or.inr rfl)) (List.forall_mem_cons.mpr ⟨rfl, (List.forall_mem_cons.mpr ⟨rfl, (fun _ h => absurd h List.not_mem_nil)⟩)⟩) (Nat.le_of_ble_eq_true rfl) ?_
  show u_V m_X7_hasLikeEntries 1 post 0 [some (.ref t0), some (.ref t1)] [] g
  unfold f_X7_hasLikeEntries at H
  refine am_aload_n rfl rfl ?_
  refine u_getR f_7_49 rfl (isT_lt0 ht0) (sk_T ht0) rfl ?_
  refine am_aload_n rfl rfl ?_
  refine u_getR f_7_49 rfl (isT_lt0 ht1) (sk_T ht1) rfl ?_
  refine x_iconst (v := (0 : Int32)) rfl (by decide) ?_
  refine am_aload_n rfl rfl ?_
  refine u_getI f_7_21 rfl (isT_lt0 ht0) (sk_T ht0) rfl ?_
  obtain ⟨r1, g2, H1, H⟩ := bd2_some H
  refine cs4i s_7_86 rfl rfl (Nat.le_of_ble_eq_true rfl) (fun _ _ => Nat.le_of_ble_eq_true rfl) (y_X7_isSame (t0 + 9) 60 (t1 + 9) 60 (0 : Int32) (g t0 3) (isT_lt ht0 (Nat.le_of_ble_eq_true rfl)) (sk_A ht0 (Nat.le_of_ble_eq_true rfl) (Nat.le_of_ble_eq_true rfl)) (isT_lt ht1 (Nat.le_of_ble_eq_true rfl)) (sk_A ht1 (Nat.le_of_ble_eq_true rfl) (Nat.le_of_ble_eq_true rfl)) g _ H1 ?_)
  refine am_if_eq rfl (fun c3 => ?_) (fun c3 => ?_)
  · have H := it_pos c3 H
    refine x_iconst (v := (0 : Int32)) rfl (by decide) ?_
    have H := Option.some.inj H
    subst H
    exact u_zret rfl rfl (Or.inl rfl) K
  · have H := it_neg c3 H
    refine am_aload_n rfl rfl ?_
    refine u_getR f_7_52 rfl (isT_lt0 ht0) (sk_T ht0) rfl ?_
    refine am_aload_n rfl rfl ?_
    refine u_getR f_7_52 rfl (isT_lt0 ht1) (sk_T ht1) rfl ?_
    refine x_iconst (v := (0 : Int32)) rfl (by decide) ?_
    refine am_aload_n rfl rfl ?_
    refine u_getI f_7_21 rfl (isT_lt0 ht0) (sk_T ht0) rfl ?_
    obtain ⟨r4, g5, H1, H⟩ := bd2_some H
    refine cs4i s_7_86 rfl rfl (Nat.le_of_ble_eq_true rfl) (fun _ _ => Nat.le_of_ble_eq_true rfl) (y_X7_isSame (t0 + 10) 60 (t1 + 10) 60 (0 : Int32) (g2 t0 3) (isT_lt ht0 (Nat.le_of_ble_eq_true rfl)) (sk_A ht0 (Nat.le_of_ble_eq_true rfl) (Nat.le_of_ble_eq_true rfl)) (isT_lt ht1 (Nat.le_of_ble_eq_true rfl)) (sk_A ht1 (Nat.le_of_ble_eq_true rfl) (Nat.le_of_ble_eq_true rfl)) g2 _ H1 ?_)
    refine am_if_eq rfl (fun c6 => ?_) (fun c6 => ?_)
    · have H := it_pos c6 H
      refine x_iconst (v := (0 : Int32)) rfl (by decide) ?_
      have H := Option.some.inj H
      subst H
      exact u_zret rfl rfl (Or.inl rfl) K
    · have H := it_neg c6 H
      refine am_aload_n rfl rfl ?_
      refine u_getR f_7_55 rfl (isT_lt0 ht0) (sk_T ht0) rfl ?_
      refine am_aload_n rfl rfl ?_
      refine u_getR f_7_55 rfl (isT_lt0 ht1) (sk_T ht1) rfl ?_
      refine x_iconst (v := (0 : Int32)) rfl (by decide) ?_
      refine am_aload_n rfl rfl ?_
      refine u_getI f_7_21 rfl (isT_lt0 ht0) (sk_T ht0) rfl ?_
      obtain ⟨r7, g8, H1, H⟩ := bd2_some H
      refine cs4i s_7_86 rfl rfl (Nat.le_of_ble_eq_true rfl) (fun _ _ => Nat.le_of_ble_eq_true rfl) (y_X7_isSame (t0 + 11) 60 (t1 + 11) 60 (0 : Int32) (g5 t0 3) (isT_lt ht0 (Nat.le_of_ble_eq_true rfl)) (sk_A ht0 (Nat.le_of_ble_eq_true rfl) (Nat.le_of_ble_eq_true rfl)) (isT_lt ht1 (Nat.le_of_ble_eq_true rfl)) (sk_A ht1 (Nat.le_of_ble_eq_true rfl) (Nat.le_of_ble_eq_true rfl)) g5 _ H1 ?_)
      refine am_if_eq rfl (fun c9 => ?_) (fun c9 => ?_)
      · have H := it_pos c9 H
        refine x_iconst (v := (0 : Int32)) rfl (by decide) ?_
        have H := Option.some.inj H
        subst H
        exact u_zret rfl rfl (Or.inl rfl) K
      · have H := it_neg c9 H
        refine am_aload_n rfl rfl ?_
        refine u_getR f_7_58 rfl (isT_lt0 ht0) (sk_T ht0) rfl ?_
        refine am_aload_n rfl rfl ?_
        refine u_getR f_7_58 rfl (isT_lt0 ht1) (sk_T ht1) rfl ?_
        refine x_iconst (v := (0 : Int32)) rfl (by decide) ?_
        refine am_aload_n rfl rfl ?_
        refine u_getI f_7_21 rfl (isT_lt0 ht0) (sk_T ht0) rfl ?_
        obtain ⟨r10, g11, H1, H⟩ := bd2_some H
        refine cs4i s_7_86 rfl rfl (Nat.le_of_ble_eq_true rfl) (fun _ _ => Nat.le_of_ble_eq_true rfl) (y_X7_isSame (t0 + 12) 60 (t1 + 12) 60 (0 : Int32) (g8 t0 3) (isT_lt ht0 (Nat.le_of_ble_eq_true rfl)) (sk_A ht0 (Nat.le_of_ble_eq_true rfl) (Nat.le_of_ble_eq_true rfl)) (isT_lt ht1 (Nat.le_of_ble_eq_true rfl)) (sk_A ht1 (Nat.le_of_ble_eq_true rfl) (Nat.le_of_ble_eq_true rfl)) g8 _ H1 ?_)
        refine am_if_eq rfl (fun c12 => ?_) (fun c12 => ?_)
        · have H := it_pos c12 H
          refine x_iconst (v := (0 : Int32)) rfl (by decide) ?_
          have H := Option.some.inj H
          subst H
          exact u_zret rfl rfl (Or.inl rfl) K
        · have H := it_neg c12 H
          refine am_aload_n rfl rfl ?_
          refine u_getR f_7_61 rfl (isT_lt0 ht0) (sk_T ht0) rfl ?_
          refine am_aload_n rfl rfl ?_
          refine u_getR f_7_61 rfl (isT_lt0 ht1) (sk_T ht1) rfl ?_
          refine x_iconst (v := (0 : Int32)) rfl (by decide) ?_
          refine am_aload_n rfl rfl ?_
          refine u_getI f_7_21 rfl (isT_lt0 ht0) (sk_T ht0) rfl ?_
          obtain ⟨r13, g14, H1, H⟩ := bd2_some H
          refine cs4i s_7_86 rfl rfl (Nat.le_of_ble_eq_true rfl) (fun _ _ => Nat.le_of_ble_eq_true rfl) (y_X7_isSame (t0 + 13) 60 (t1 + 13) 60 (0 : Int32) (g11 t0 3) (isT_lt ht0 (Nat.le_of_ble_eq_true rfl)) (sk_A ht0 (Nat.le_of_ble_eq_true rfl) (Nat.le_of_ble_eq_true rfl)) (isT_lt ht1 (Nat.le_of_ble_eq_true rfl)) (sk_A ht1 (Nat.le_of_ble_eq_true rfl) (Nat.le_of_ble_eq_true rfl)) g11 _ H1 ?_)
          refine am_if_eq rfl (fun c15 => ?_) (fun c15 => ?_)
          · have H := it_pos c15 H
            refine x_iconst (v := (0 : Int32)) rfl (by decide) ?_
            have H := Option.some.inj H
            subst H
            exact u_zret rfl rfl (Or.inl rfl) K
          · have H := it_neg c15 H
            refine x_iconst (v := (1 : Int32)) rfl (by decide) ?_
            refine am_goto rfl ?_
            have H := Option.some.inj H
            subst H
            exact u_zret rfl rfl (Or.inr rfl) K
def f_X7_isLike (t0 : Nat) (t1 : Nat) (g : G) : Option (Int32 × G) := if (g t0 1) = (g t1 1) then if (g t0 2) = (g t1 2) then if (g t0 3) = (g t1 3) then bd2 (f_X7_isSame (t0 + 1) 10 (t1 + 1) 10 (0 : Int32) (g t0 1) g) fun r4 g5 => if r4 = 0 then some (((0 : Int32), g5)) else bd2 (f_X7_isSame (t0 + 2) 24 (t1 + 2) 24 (0 : Int32) (24 : Int32) g5) fun r7 g8 => if r7 = 0 then some (((0 : Int32), g8)) else bd2 (f_X7_isSame (t0 + 3) 5 (t1 + 3) 5 (0 : Int32) (5 : Int32) g8) fun r10 g11 => if r10 = 0 then some (((0 : Int32), g11)) else bd2 (f_X7_hasLikeRounds t0 t1 g11) fun r13 g14 => if r13 = 0 then some (((0 : Int32), g14)) else bd2 (f_X7_hasLikeEntries t0 t1 g14) fun r16 g17 => if r16 = 0 then some (((0 : Int32), g17)) else some (((1 : Int32), g17)) else some (((0 : Int32), g)) else some (((0 : Int32), g)) else some (((0 : Int32), g))
set_option maxHeartbeats 4000000 in
set_option maxRecDepth 100000 in
theorem y_X7_isLike (t0 : Nat) (t1 : Nat) (ht0 : isT t0) (ht1 : isT t1) (g : G) (q : Int32 × G) {post : Int32 → G → Prop} (H : f_X7_isLike t0 t1 g = some q) (K : post q.1 q.2) : Y m_X7_isLike 2 [.ref t0, .ref t1] g post := by
  refine Y_of ok_X7_isLike pn_7 rfl (by decide) (Or.inr (Or.inr rfl)) (List.forall_mem_cons.mpr ⟨rfl, (List.forall_mem_cons.mpr ⟨rfl, (fun _ h => absurd h List.not_mem_nil)⟩)⟩) (Nat.le_of_ble_eq_true rfl) ?_
  show u_V m_X7_isLike 2 post 0 [some (.ref t0), some (.ref t1)] [] g
  unfold f_X7_isLike at H
  refine am_aload_n rfl rfl ?_
  refine u_getI f_7_15 rfl (isT_lt0 ht0) (sk_T ht0) rfl ?_
  refine am_aload_n rfl rfl ?_
  refine u_getI f_7_15 rfl (isT_lt0 ht1) (sk_T ht1) rfl ?_
  refine am_icmp_ne rfl (fun c1 => ?_) (fun c1 => ?_)
  · have H := it_neg c1 H
    refine x_iconst (v := (0 : Int32)) rfl (by decide) ?_
    have H := Option.some.inj H
    subst H
    exact u_zret rfl rfl (Or.inl rfl) K
  · have H := it_pos c1 H
    refine am_aload_n rfl rfl ?_
    refine u_getI f_7_18 rfl (isT_lt0 ht0) (sk_T ht0) rfl ?_
    refine am_aload_n rfl rfl ?_
    refine u_getI f_7_18 rfl (isT_lt0 ht1) (sk_T ht1) rfl ?_
    refine am_icmp_ne rfl (fun c2 => ?_) (fun c2 => ?_)
    · have H := it_neg c2 H
      refine x_iconst (v := (0 : Int32)) rfl (by decide) ?_
      have H := Option.some.inj H
      subst H
      exact u_zret rfl rfl (Or.inl rfl) K
    · have H := it_pos c2 H
      refine am_aload_n rfl rfl ?_
      refine u_getI f_7_21 rfl (isT_lt0 ht0) (sk_T ht0) rfl ?_
      refine am_aload_n rfl rfl ?_
      refine u_getI f_7_21 rfl (isT_lt0 ht1) (sk_T ht1) rfl ?_
      refine am_icmp_ne rfl (fun c3 => ?_) (fun c3 => ?_)
      · have H := it_neg c3 H
        refine x_iconst (v := (0 : Int32)) rfl (by decide) ?_
        have H := Option.some.inj H
        subst H
        exact u_zret rfl rfl (Or.inl rfl) K
      · have H := it_pos c3 H
        refine am_aload_n rfl rfl ?_
        refine u_getR f_7_24 rfl (isT_lt0 ht0) (sk_T ht0) rfl ?_
        refine am_aload_n rfl rfl ?_
        refine u_getR f_7_24 rfl (isT_lt0 ht1) (sk_T ht1) rfl ?_
        refine x_iconst (v := (0 : Int32)) rfl (by decide) ?_
        refine am_aload_n rfl rfl ?_
        refine u_getI f_7_15 rfl (isT_lt0 ht0) (sk_T ht0) rfl ?_
        obtain ⟨r4, g5, H1, H⟩ := bd2_some H
        refine cs4i s_7_86 rfl rfl (Nat.le_of_ble_eq_true rfl) (fun _ _ => Nat.le_of_ble_eq_true rfl) (y_X7_isSame (t0 + 1) 10 (t1 + 1) 10 (0 : Int32) (g t0 1) (isT_lt ht0 (Nat.le_of_ble_eq_true rfl)) (sk_A ht0 (Nat.le_of_ble_eq_true rfl) (Nat.le_of_ble_eq_true rfl)) (isT_lt ht1 (Nat.le_of_ble_eq_true rfl)) (sk_A ht1 (Nat.le_of_ble_eq_true rfl) (Nat.le_of_ble_eq_true rfl)) g _ H1 ?_)
        refine am_if_eq rfl (fun c6 => ?_) (fun c6 => ?_)
        · have H := it_pos c6 H
          refine x_iconst (v := (0 : Int32)) rfl (by decide) ?_
          have H := Option.some.inj H
          subst H
          exact u_zret rfl rfl (Or.inl rfl) K
        · have H := it_neg c6 H
          refine am_aload_n rfl rfl ?_
          refine u_getR f_7_28 rfl (isT_lt0 ht0) (sk_T ht0) rfl ?_
          refine am_aload_n rfl rfl ?_
          refine u_getR f_7_28 rfl (isT_lt0 ht1) (sk_T ht1) rfl ?_
          refine x_iconst (v := (0 : Int32)) rfl (by decide) ?_
          refine x_bipush (v := (24 : Int32)) rfl (by decide) ?_
          obtain ⟨r7, g8, H1, H⟩ := bd2_some H
          refine cs4i s_7_86 rfl rfl (Nat.le_of_ble_eq_true rfl) (fun _ _ => Nat.le_of_ble_eq_true rfl) (y_X7_isSame (t0 + 2) 24 (t1 + 2) 24 (0 : Int32) (24 : Int32) (isT_lt ht0 (Nat.le_of_ble_eq_true rfl)) (sk_A ht0 (Nat.le_of_ble_eq_true rfl) (Nat.le_of_ble_eq_true rfl)) (isT_lt ht1 (Nat.le_of_ble_eq_true rfl)) (sk_A ht1 (Nat.le_of_ble_eq_true rfl) (Nat.le_of_ble_eq_true rfl)) g5 _ H1 ?_)
          refine am_if_eq rfl (fun c9 => ?_) (fun c9 => ?_)
          · have H := it_pos c9 H
            refine x_iconst (v := (0 : Int32)) rfl (by decide) ?_
            have H := Option.some.inj H
            subst H
            exact u_zret rfl rfl (Or.inl rfl) K
          · have H := it_neg c9 H
            refine am_aload_n rfl rfl ?_
            refine u_getR f_7_31 rfl (isT_lt0 ht0) (sk_T ht0) rfl ?_
            refine am_aload_n rfl rfl ?_
            refine u_getR f_7_31 rfl (isT_lt0 ht1) (sk_T ht1) rfl ?_
            refine x_iconst (v := (0 : Int32)) rfl (by decide) ?_
            refine x_iconst (v := (5 : Int32)) rfl (by decide) ?_
            obtain ⟨r10, g11, H1, H⟩ := bd2_some H
            refine cs4i s_7_86 rfl rfl (Nat.le_of_ble_eq_true rfl) (fun _ _ => Nat.le_of_ble_eq_true rfl) (y_X7_isSame (t0 + 3) 5 (t1 + 3) 5 (0 : Int32) (5 : Int32) (isT_lt ht0 (Nat.le_of_ble_eq_true rfl)) (sk_A ht0 (Nat.le_of_ble_eq_true rfl) (Nat.le_of_ble_eq_true rfl)) (isT_lt ht1 (Nat.le_of_ble_eq_true rfl)) (sk_A ht1 (Nat.le_of_ble_eq_true rfl) (Nat.le_of_ble_eq_true rfl)) g8 _ H1 ?_)
            refine am_if_eq rfl (fun c12 => ?_) (fun c12 => ?_)
            · have H := it_pos c12 H
              refine x_iconst (v := (0 : Int32)) rfl (by decide) ?_
              have H := Option.some.inj H
              subst H
              exact u_zret rfl rfl (Or.inl rfl) K
            · have H := it_neg c12 H
              refine am_aload_n rfl rfl ?_
              refine am_aload_n rfl rfl ?_
              obtain ⟨r13, g14, H1, H⟩ := bd2_some H
              refine cv1i v_7_90 rfl rfl (isT_lt0 ht0) (sk_T ht0) (Nat.le_of_ble_eq_true rfl) (fun _ _ => Nat.le_of_ble_eq_true rfl) (y_X7_hasLikeRounds t0 t1 ht0 ht1 g11 _ H1 ?_)
              refine am_if_eq rfl (fun c15 => ?_) (fun c15 => ?_)
              · have H := it_pos c15 H
                refine x_iconst (v := (0 : Int32)) rfl (by decide) ?_
                have H := Option.some.inj H
                subst H
                exact u_zret rfl rfl (Or.inl rfl) K
              · have H := it_neg c15 H
                refine am_aload_n rfl rfl ?_
                refine am_aload_n rfl rfl ?_
                obtain ⟨r16, g17, H1, H⟩ := bd2_some H
                refine cv1i v_7_94 rfl rfl (isT_lt0 ht0) (sk_T ht0) (Nat.le_of_ble_eq_true rfl) (fun _ _ => Nat.le_of_ble_eq_true rfl) (y_X7_hasLikeEntries t0 t1 ht0 ht1 g14 _ H1 ?_)
                refine am_if_eq rfl (fun c18 => ?_) (fun c18 => ?_)
                · have H := it_pos c18 H
                  refine x_iconst (v := (0 : Int32)) rfl (by decide) ?_
                  have H := Option.some.inj H
                  subst H
                  exact u_zret rfl rfl (Or.inl rfl) K
                · have H := it_neg c18 H
                  refine x_iconst (v := (1 : Int32)) rfl (by decide) ?_
                  refine am_goto rfl ?_
                  have H := Option.some.inj H
                  subst H
                  exact u_zret rfl rfl (Or.inr rfl) K
def f_J9_abs_0f7a4 (a0 : Int32) (g : G) : Option (Int32 × G) := if 0 ≤ a0 then some ((a0, g)) else some (((-a0), g))
set_option maxHeartbeats 4000000 in
set_option maxRecDepth 100000 in
theorem y_J9_abs_0f7a4 (a0 : Int32)  (g : G) (q : Int32 × G) {post : Int32 → G → Prop} (H : f_J9_abs_0f7a4 a0 g = some q) (K : post q.1 q.2) : Y m_J9_abs_0f7a4 0 [.int a0] g post := by
  refine Y_ofF ok_J9_abs_0f7a4 (by decide +kernel) rfl (by decide) (Or.inr (Or.inl rfl)) (List.forall_mem_cons.mpr ⟨rfl, (fun _ h => absurd h List.not_mem_nil)⟩) (Nat.le_of_ble_eq_true rfl) ?_
  show u_V m_J9_abs_0f7a4 0 post 0 [some (.int a0)] [] g
  unfold f_J9_abs_0f7a4 at H
  refine am_iload_n rfl rfl ?_
  refine am_if_ge rfl (fun c1 => ?_) (fun c1 => ?_)
  · have H := it_pos c1 H
    refine am_iload_n rfl rfl ?_
    have H := Option.some.inj H
    subst H
    exact u_iret rfl rfl K
  · have H := it_neg c1 H
    refine am_iload_n rfl rfl ?_
    refine am_ineg rfl ?_
    refine am_goto rfl ?_
    have H := Option.some.inj H
    subst H
    exact u_iret rfl rfl K
def f_J9_floorDiv_7cf53 (a0 : Int32) (a1 : Int32) (g : G) : Option (Int32 × G) := dz a1 (if 0 ≤ (a0 ^^^ a1) then some (((a0 / a1), g)) else if ((a0 / a1) * a1) = a0 then some (((a0 / a1), g)) else some ((((a0 / a1) - (1 : Int32)), g)))
set_option maxHeartbeats 4000000 in
set_option maxRecDepth 100000 in
theorem y_J9_floorDiv_7cf53 (a0 : Int32) (a1 : Int32)  (g : G) (q : Int32 × G) {post : Int32 → G → Prop} (H : f_J9_floorDiv_7cf53 a0 a1 g = some q) (K : post q.1 q.2) : Y m_J9_floorDiv_7cf53 0 [.int a0, .int a1] g post := by
  refine Y_ofF ok_J9_floorDiv_7cf53 (by decide +kernel) rfl (by decide) (Or.inr (Or.inl rfl)) (List.forall_mem_cons.mpr ⟨rfl, (List.forall_mem_cons.mpr ⟨rfl, (fun _ h => absurd h List.not_mem_nil)⟩)⟩) (Nat.le_of_ble_eq_true rfl) ?_
  show u_V m_J9_floorDiv_7cf53 0 post 0 [some (.int a0), some (.int a1), none] [] g
  unfold f_J9_floorDiv_7cf53 at H
  refine am_iload_n rfl rfl ?_
  refine am_iload_n rfl rfl ?_
  obtain ⟨hz1, H⟩ := dz_some H
  refine am_idiv rfl hz1 ?_
  refine am_istore_n rfl (Nat.le_of_ble_eq_true rfl) ?_
  refine am_iload_n rfl rfl ?_
  refine am_iload_n rfl rfl ?_
  refine am_ixor rfl ?_
  refine am_if_ge rfl (fun c2 => ?_) (fun c2 => ?_)
  · have H := it_pos c2 H
    refine am_iload_n rfl rfl ?_
    have H := Option.some.inj H
    subst H
    exact u_iret rfl rfl K
  · have H := it_neg c2 H
    refine am_iload_n rfl rfl ?_
    refine am_iload_n rfl rfl ?_
    refine am_imul rfl ?_
    refine am_iload_n rfl rfl ?_
    refine am_icmp_eq rfl (fun c3 => ?_) (fun c3 => ?_)
    · have H := it_pos c3 H
      refine am_iload_n rfl rfl ?_
      have H := Option.some.inj H
      subst H
      exact u_iret rfl rfl K
    · have H := it_neg c3 H
      refine am_iload_n rfl rfl ?_
      refine x_iconst (v := (1 : Int32)) rfl (by decide) ?_
      refine am_isub rfl ?_
      have H := Option.some.inj H
      subst H
      exact u_iret rfl rfl K
def f_J9_floorMod_7cf53 (a0 : Int32) (a1 : Int32) (g : G) : Option (Int32 × G) := dz a1 (if 0 ≤ (a0 ^^^ a1) then some (((a0 - a0 / a1 * a1), g)) else if (a0 - a0 / a1 * a1) = 0 then some (((a0 - a0 / a1 * a1), g)) else some ((((a0 - a0 / a1 * a1) + a1), g)))
set_option maxHeartbeats 4000000 in
set_option maxRecDepth 100000 in
theorem y_J9_floorMod_7cf53 (a0 : Int32) (a1 : Int32)  (g : G) (q : Int32 × G) {post : Int32 → G → Prop} (H : f_J9_floorMod_7cf53 a0 a1 g = some q) (K : post q.1 q.2) : Y m_J9_floorMod_7cf53 0 [.int a0, .int a1] g post := by
  refine Y_ofF ok_J9_floorMod_7cf53 (by decide +kernel) rfl (by decide) (Or.inr (Or.inl rfl)) (List.forall_mem_cons.mpr ⟨rfl, (List.forall_mem_cons.mpr ⟨rfl, (fun _ h => absurd h List.not_mem_nil)⟩)⟩) (Nat.le_of_ble_eq_true rfl) ?_
  show u_V m_J9_floorMod_7cf53 0 post 0 [some (.int a0), some (.int a1), none] [] g
  unfold f_J9_floorMod_7cf53 at H
  refine am_iload_n rfl rfl ?_
  refine am_iload_n rfl rfl ?_
  obtain ⟨hz1, H⟩ := dz_some H
  refine am_irem rfl hz1 ?_
  refine am_istore_n rfl (Nat.le_of_ble_eq_true rfl) ?_
  refine am_iload_n rfl rfl ?_
  refine am_iload_n rfl rfl ?_
  refine am_ixor rfl ?_
  refine am_if_ge rfl (fun c2 => ?_) (fun c2 => ?_)
  · have H := it_pos c2 H
    refine am_iload_n rfl rfl ?_
    have H := Option.some.inj H
    subst H
    exact u_iret rfl rfl K
  · have H := it_neg c2 H
    refine am_iload_n rfl rfl ?_
    refine am_if_eq rfl (fun c3 => ?_) (fun c3 => ?_)
    · have H := it_pos c3 H
      refine am_iload_n rfl rfl ?_
      have H := Option.some.inj H
      subst H
      exact u_iret rfl rfl K
    · have H := it_neg c3 H
      refine am_iload_n rfl rfl ?_
      refine am_iload_n rfl rfl ?_
      refine am_iadd rfl ?_
      have H := Option.some.inj H
      subst H
      exact u_iret rfl rfl K
def f_J9_max_7cf53 (a0 : Int32) (a1 : Int32) (g : G) : Option (Int32 × G) := if a0 < a1 then some ((a1, g)) else some ((a0, g))
set_option maxHeartbeats 4000000 in
set_option maxRecDepth 100000 in
theorem y_J9_max_7cf53 (a0 : Int32) (a1 : Int32)  (g : G) (q : Int32 × G) {post : Int32 → G → Prop} (H : f_J9_max_7cf53 a0 a1 g = some q) (K : post q.1 q.2) : Y m_J9_max_7cf53 0 [.int a0, .int a1] g post := by
  refine Y_ofF ok_J9_max_7cf53 (by decide +kernel) rfl (by decide) (Or.inr (Or.inl rfl)) (List.forall_mem_cons.mpr ⟨rfl, (List.forall_mem_cons.mpr ⟨rfl, (fun _ h => absurd h List.not_mem_nil)⟩)⟩) (Nat.le_of_ble_eq_true rfl) ?_
  show u_V m_J9_max_7cf53 0 post 0 [some (.int a0), some (.int a1)] [] g
  unfold f_J9_max_7cf53 at H
  refine am_iload_n rfl rfl ?_
  refine am_iload_n rfl rfl ?_
  refine am_icmp_lt rfl (fun c1 => ?_) (fun c1 => ?_)
  · have H := it_pos c1 H
    refine am_iload_n rfl rfl ?_
    have H := Option.some.inj H
    subst H
    exact u_iret rfl rfl K
  · have H := it_neg c1 H
    refine am_iload_n rfl rfl ?_
    refine am_goto rfl ?_
    have H := Option.some.inj H
    subst H
    exact u_iret rfl rfl K
