/-! Methods read off their code. Written by gen/emit.py. -/
def f_X9_in (a0 : Int32) (a1 : Int32) (a2 : Int32) (g : G) : Option (Int32 × G) := if a0 < a1 then some (((0 : Int32), g)) else if a2 < a0 then some (((0 : Int32), g)) else some (((1 : Int32), g))
set_option maxHeartbeats 4000000 in
set_option maxRecDepth 100000 in
theorem y_X9_in (a0 : Int32) (a1 : Int32) (a2 : Int32)  (g : G) (q : Int32 × G) {post : Int32 → G → Prop} (H : f_X9_in a0 a1 a2 g = some q) (K : post q.1 q.2) : Y m_X9_in 0 [.int a0, .int a1, .int a2] g post := by
  refine Y_of ok_X9_in pn_9 rfl (by decide) (Or.inr (Or.inr rfl)) (List.forall_mem_cons.mpr ⟨rfl, (List.forall_mem_cons.mpr ⟨rfl, (List.forall_mem_cons.mpr ⟨rfl, (fun _ h => absurd h List.not_mem_nil)⟩)⟩)⟩) (Nat.le_of_ble_eq_true rfl) ?_
  show u_V m_X9_in 0 post 0 [some (.int a0), some (.int a1), some (.int a2)] [] g
  unfold f_X9_in at H
  refine am_iload_n rfl rfl ?_
  refine am_iload_n rfl rfl ?_
  refine am_icmp_lt rfl (fun c1 => ?_) (fun c1 => ?_)
  · have H := it_pos c1 H
    refine x_iconst (v := (0 : Int32)) rfl (by decide) ?_
    have H := Option.some.inj H
    subst H
    exact u_zret rfl rfl (Or.inl rfl) K
  · have H := it_neg c1 H
    refine am_iload_n rfl rfl ?_
    refine am_iload_n rfl rfl ?_
    refine am_icmp_gt rfl (fun c2 => ?_) (fun c2 => ?_)
    · have H := it_pos c2 H
      refine x_iconst (v := (0 : Int32)) rfl (by decide) ?_
      have H := Option.some.inj H
      subst H
      exact u_zret rfl rfl (Or.inl rfl) K
    · have H := it_neg c2 H
      refine x_iconst (v := (1 : Int32)) rfl (by decide) ?_
      refine am_goto rfl ?_
      have H := Option.some.inj H
      subst H
      exact u_zret rfl rfl (Or.inr rfl) K
def f_X9_meets (a1 : Int32) (g : G) : Option (Int32 × G) := wr (up2 g 159 0 a1) fun g1 => some (((-5 : Int32), g1))
set_option maxHeartbeats 4000000 in
set_option maxRecDepth 100000 in
theorem y_X9_meets (a1 : Int32)  (g : G) (q : Int32 × G) {post : Int32 → G → Prop} (H : f_X9_meets a1 g = some q) (K : post q.1 q.2) : Y m_X9_meets 0 [.ref 159, .int a1] g post := by
  refine Y_of ok_X9_meets pn_9 rfl (by decide) (Or.inr (Or.inl rfl)) (List.forall_mem_cons.mpr ⟨rfl, (List.forall_mem_cons.mpr ⟨rfl, (fun _ h => absurd h List.not_mem_nil)⟩)⟩) (Nat.le_of_ble_eq_true rfl) ?_
  show u_V m_X9_meets 0 post 0 [some (.ref 159), some (.int a1)] [] g
  unfold f_X9_meets at H
  refine am_aload_n rfl rfl ?_
  refine am_iload_n rfl rfl ?_
  obtain ⟨g1, eg1, H⟩ := wr_some H
  refine x_putI f_9_92 rfl rfl (Nat.le_of_ble_eq_true rfl) rfl rfl (fun _ _ => ⟨rfl, rfl⟩) eg1 ?_
  refine x_bipush (v := (-5 : Int32)) rfl (by decide) ?_
  have H := Option.some.inj H
  subst H
  exact u_iret rfl rfl K
def f_X9_began (a1 : Int32) (g : G) : Option (Int32 × G) := if (200 : Int32) ≤ (g 159 2) then some (((0 : Int32), g)) else ck (g 159 2) 200 fun j2 => wr (up2 g 160 j2 a1) fun g3 => wr (up2 g3 159 2 ((g3 159 2) + (1 : Int32))) fun g4 => some (((0 : Int32), g4))
set_option maxHeartbeats 4000000 in
set_option maxRecDepth 100000 in
theorem y_X9_began (a1 : Int32)  (g : G) (q : Int32 × G) {post : Int32 → G → Prop} (H : f_X9_began a1 g = some q) (K : post q.1 q.2) : Y m_X9_began 0 [.ref 159, .int a1] g post := by
  refine Y_of ok_X9_began pn_9 rfl (by decide) (Or.inl rfl) (List.forall_mem_cons.mpr ⟨rfl, (List.forall_mem_cons.mpr ⟨rfl, (fun _ h => absurd h List.not_mem_nil)⟩)⟩) (Nat.le_of_ble_eq_true rfl) ?_
  show u_V m_X9_began 0 post 0 [some (.ref 159), some (.int a1)] [] g
  unfold f_X9_began at H
  refine am_aload_n rfl rfl ?_
  refine u_getI f_9_95 rfl (Nat.le_of_ble_eq_true rfl) rfl rfl ?_
  refine x_sipush (v := (200 : Int32)) rfl (by decide) ?_
  refine am_icmp_ge rfl (fun c1 => ?_) (fun c1 => ?_)
  · have H := it_pos c1 H
    have H := Option.some.inj H
    subst H
    exact u_vret rfl rfl K
  · have H := it_neg c1 H
    refine am_aload_n rfl rfl ?_
    refine u_getR f_9_7 rfl (Nat.le_of_ble_eq_true rfl) rfl rfl ?_
    refine am_aload_n rfl rfl ?_
    refine u_getI f_9_95 rfl (Nat.le_of_ble_eq_true rfl) rfl rfl ?_
    refine am_iload_n rfl rfl ?_
    obtain ⟨j2, ej2, hj2, H⟩ := ck_some H
    obtain ⟨g3, eg3, H⟩ := wr_some H
    refine x_iast rfl (Nat.le_of_ble_eq_true rfl) rfl hj2 ej2 eg3 ?_
    refine am_aload_n rfl rfl ?_
    refine am_dup rfl rfl ?_
    refine u_getI f_9_95 rfl (Nat.le_of_ble_eq_true rfl) rfl rfl ?_
    refine x_iconst (v := (1 : Int32)) rfl (by decide) ?_
    refine am_iadd rfl ?_
    obtain ⟨g4, eg4, H⟩ := wr_some H
    refine x_putI f_9_95 rfl rfl (Nat.le_of_ble_eq_true rfl) rfl rfl (fun _ _ => ⟨rfl, rfl⟩) eg4 ?_
    have H := Option.some.inj H
    subst H
    exact u_vret rfl rfl K
def f_X9_isPlayer (a1 : Int32) (g : G) : Option (Int32 × G) := bd2 (f_X9_in a1 (0 : Int32) ((g 159 3) - (1 : Int32)) g) fun r1 g2 => bz r1 (some ((r1, g2)))
set_option maxHeartbeats 4000000 in
set_option maxRecDepth 100000 in
theorem y_X9_isPlayer (a1 : Int32)  (g : G) (q : Int32 × G) {post : Int32 → G → Prop} (H : f_X9_isPlayer a1 g = some q) (K : post q.1 q.2) : Y m_X9_isPlayer 1 [.ref 159, .int a1] g post := by
  refine Y_of ok_X9_isPlayer pn_9 rfl (by decide) (Or.inr (Or.inr rfl)) (List.forall_mem_cons.mpr ⟨rfl, (List.forall_mem_cons.mpr ⟨rfl, (fun _ h => absurd h List.not_mem_nil)⟩)⟩) (Nat.le_of_ble_eq_true rfl) ?_
  show u_V m_X9_isPlayer 1 post 0 [some (.ref 159), some (.int a1)] [] g
  unfold f_X9_isPlayer at H
  refine am_iload_n rfl rfl ?_
  refine x_iconst (v := (0 : Int32)) rfl (by decide) ?_
  refine am_aload_n rfl rfl ?_
  refine u_getI f_9_98 rfl (Nat.le_of_ble_eq_true rfl) rfl rfl ?_
  refine x_iconst (v := (1 : Int32)) rfl (by decide) ?_
  refine am_isub rfl ?_
  obtain ⟨r1, g2, H1, H⟩ := bd2_some H
  refine cs3i s_9_101 rfl rfl (Nat.le_of_ble_eq_true rfl) (fun _ _ => Nat.le_of_ble_eq_true rfl) (y_X9_in a1 (0 : Int32) ((g 159 3) - (1 : Int32)) g _ H1 ?_)
  obtain ⟨hb3, H⟩ := bz_some H
  have H := Option.some.inj H
  subst H
  exact u_zret rfl rfl hb3 K
def f_X9_isTournament (a1 : Int32) (g : G) : Option (Int32 × G) := bd2 (f_X9_in a1 (0 : Int32) ((g 159 8) - (1 : Int32)) g) fun r1 g2 => bz r1 (some ((r1, g2)))
set_option maxHeartbeats 4000000 in
set_option maxRecDepth 100000 in
theorem y_X9_isTournament (a1 : Int32)  (g : G) (q : Int32 × G) {post : Int32 → G → Prop} (H : f_X9_isTournament a1 g = some q) (K : post q.1 q.2) : Y m_X9_isTournament 1 [.ref 159, .int a1] g post := by
  refine Y_of ok_X9_isTournament pn_9 rfl (by decide) (Or.inr (Or.inr rfl)) (List.forall_mem_cons.mpr ⟨rfl, (List.forall_mem_cons.mpr ⟨rfl, (fun _ h => absurd h List.not_mem_nil)⟩)⟩) (Nat.le_of_ble_eq_true rfl) ?_
  show u_V m_X9_isTournament 1 post 0 [some (.ref 159), some (.int a1)] [] g
  unfold f_X9_isTournament at H
  refine am_iload_n rfl rfl ?_
  refine x_iconst (v := (0 : Int32)) rfl (by decide) ?_
  refine am_aload_n rfl rfl ?_
  refine u_getI f_9_105 rfl (Nat.le_of_ble_eq_true rfl) rfl rfl ?_
  refine x_iconst (v := (1 : Int32)) rfl (by decide) ?_
  refine am_isub rfl ?_
  obtain ⟨r1, g2, H1, H⟩ := bd2_some H
  refine cs3i s_9_101 rfl rfl (Nat.le_of_ble_eq_true rfl) (fun _ _ => Nat.le_of_ble_eq_true rfl) (y_X9_in a1 (0 : Int32) ((g 159 8) - (1 : Int32)) g _ H1 ?_)
  obtain ⟨hb3, H⟩ := bz_some H
  have H := Option.some.inj H
  subst H
  exact u_zret rfl rfl hb3 K
def f_X9_cell (a1 : Int32) (a2 : Int32) (g : G) : Option (Int32 × G) := ck (((412 : Int32) * a1) + a2) 1648 fun j1 => some (((g 165 j1), g))
set_option maxHeartbeats 4000000 in
set_option maxRecDepth 100000 in
theorem y_X9_cell (a1 : Int32) (a2 : Int32)  (g : G) (q : Int32 × G) {post : Int32 → G → Prop} (H : f_X9_cell a1 a2 g = some q) (K : post q.1 q.2) : Y m_X9_cell 0 [.ref 159, .int a1, .int a2] g post := by
  refine Y_of ok_X9_cell pn_9 rfl (by decide) (Or.inr (Or.inl rfl)) (List.forall_mem_cons.mpr ⟨rfl, (List.forall_mem_cons.mpr ⟨rfl, (List.forall_mem_cons.mpr ⟨rfl, (fun _ h => absurd h List.not_mem_nil)⟩)⟩)⟩) (Nat.le_of_ble_eq_true rfl) ?_
  show u_V m_X9_cell 0 post 0 [some (.ref 159), some (.int a1), some (.int a2)] [] g
  unfold f_X9_cell at H
  refine am_aload_n rfl rfl ?_
  refine u_getR f_9_25 rfl (Nat.le_of_ble_eq_true rfl) rfl rfl ?_
  refine x_sipush (v := (412 : Int32)) rfl (by decide) ?_
  refine am_iload_n rfl rfl ?_
  refine am_imul rfl ?_
  refine am_iload_n rfl rfl ?_
  refine am_iadd rfl ?_
  obtain ⟨j1, ej1, hj1, H⟩ := ck_some H
  refine x_iald rfl (Nat.le_of_ble_eq_true rfl) rfl hj1 ej1 ?_
  have H := Option.some.inj H
  subst H
  exact u_iret rfl rfl K
def f_X9_lay (a1 : Int32) (a2 : Int32) (a3 : Int32) (g : G) : Option (Int32 × G) := ck (((412 : Int32) * a1) + a2) 1648 fun j1 => wr (up2 g 165 j1 a3) fun g2 => some (((0 : Int32), g2))
set_option maxHeartbeats 4000000 in
set_option maxRecDepth 100000 in
theorem y_X9_lay (a1 : Int32) (a2 : Int32) (a3 : Int32)  (g : G) (q : Int32 × G) {post : Int32 → G → Prop} (H : f_X9_lay a1 a2 a3 g = some q) (K : post q.1 q.2) : Y m_X9_lay 0 [.ref 159, .int a1, .int a2, .int a3] g post := by
  refine Y_of ok_X9_lay pn_9 rfl (by decide) (Or.inl rfl) (List.forall_mem_cons.mpr ⟨rfl, (List.forall_mem_cons.mpr ⟨rfl, (List.forall_mem_cons.mpr ⟨rfl, (List.forall_mem_cons.mpr ⟨rfl, (fun _ h => absurd h List.not_mem_nil)⟩)⟩)⟩)⟩) (Nat.le_of_ble_eq_true rfl) ?_
  show u_V m_X9_lay 0 post 0 [some (.ref 159), some (.int a1), some (.int a2), some (.int a3)] [] g
  unfold f_X9_lay at H
  refine am_aload_n rfl rfl ?_
  refine u_getR f_9_25 rfl (Nat.le_of_ble_eq_true rfl) rfl rfl ?_
  refine x_sipush (v := (412 : Int32)) rfl (by decide) ?_
  refine am_iload_n rfl rfl ?_
  refine am_imul rfl ?_
  refine am_iload_n rfl rfl ?_
  refine am_iadd rfl ?_
  refine am_iload_n rfl rfl ?_
  obtain ⟨j1, ej1, hj1, H⟩ := ck_some H
  obtain ⟨g2, eg2, H⟩ := wr_some H
  refine x_iast rfl (Nat.le_of_ble_eq_true rfl) rfl hj1 ej1 eg2 ?_
  have H := Option.some.inj H
  subst H
  exact u_vret rfl rfl K
def f_X9_player (a1 : Int32) (a2 : Int32) (g : G) : Option (Int32 × G) := bd2 (f_X9_in a1 (0 : Int32) (4 : Int32) g) fun r1 g2 => if r1 = 0 then some (((-2 : Int32), g2)) else bd2 (f_X9_in a2 (0 : Int32) (3000 : Int32) g2) fun r4 g5 => if r4 = 0 then some (((-2 : Int32), g5)) else if (g5 159 3) = (24 : Int32) then some (((-4 : Int32), g5)) else ck (g5 159 3) 24 fun j8 => wr (up2 g5 161 j8 a1) fun g9 => ck (g9 159 3) 24 fun j10 => wr (up2 g9 162 j10 a2) fun g11 => ck (g11 159 3) 24 fun j12 => wr (up2 g11 163 j12 (-1 : Int32)) fun g13 => wr (up2 g13 159 3 ((g13 159 3) + (1 : Int32))) fun g14 => some ((((g14 159 3) - (1 : Int32)), g14))
set_option maxHeartbeats 4000000 in
set_option maxRecDepth 100000 in
theorem y_X9_player (a1 : Int32) (a2 : Int32)  (g : G) (q : Int32 × G) {post : Int32 → G → Prop} (H : f_X9_player a1 a2 g = some q) (K : post q.1 q.2) : Y m_X9_player 1 [.ref 159, .int a1, .int a2] g post := by
  refine Y_of ok_X9_player pn_9 rfl (by decide) (Or.inr (Or.inl rfl)) (List.forall_mem_cons.mpr ⟨rfl, (List.forall_mem_cons.mpr ⟨rfl, (List.forall_mem_cons.mpr ⟨rfl, (fun _ h => absurd h List.not_mem_nil)⟩)⟩)⟩) (Nat.le_of_ble_eq_true rfl) ?_
  show u_V m_X9_player 1 post 0 [some (.ref 159), some (.int a1), some (.int a2)] [] g
  unfold f_X9_player at H
  refine am_iload_n rfl rfl ?_
  refine x_iconst (v := (0 : Int32)) rfl (by decide) ?_
  refine x_iconst (v := (4 : Int32)) rfl (by decide) ?_
  obtain ⟨r1, g2, H1, H⟩ := bd2_some H
  refine cs3i s_9_101 rfl rfl (Nat.le_of_ble_eq_true rfl) (fun _ _ => Nat.le_of_ble_eq_true rfl) (y_X9_in a1 (0 : Int32) (4 : Int32) g _ H1 ?_)
  refine am_if_eq rfl (fun c3 => ?_) (fun c3 => ?_)
  · have H := it_pos c3 H
    refine x_bipush (v := (-2 : Int32)) rfl (by decide) ?_
    have H := Option.some.inj H
    subst H
    exact u_iret rfl rfl K
  · have H := it_neg c3 H
    refine am_iload_n rfl rfl ?_
    refine x_iconst (v := (0 : Int32)) rfl (by decide) ?_
    refine x_sipush (v := (3000 : Int32)) rfl (by decide) ?_
    obtain ⟨r4, g5, H1, H⟩ := bd2_some H
    refine cs3i s_9_101 rfl rfl (Nat.le_of_ble_eq_true rfl) (fun _ _ => Nat.le_of_ble_eq_true rfl) (y_X9_in a2 (0 : Int32) (3000 : Int32) g2 _ H1 ?_)
    refine am_if_ne rfl (fun c6 => ?_) (fun c6 => ?_)
    · have H := it_neg c6 H
      refine am_aload_n rfl rfl ?_
      refine u_getI f_9_98 rfl (Nat.le_of_ble_eq_true rfl) rfl rfl ?_
      refine x_bipush (v := (24 : Int32)) rfl (by decide) ?_
      refine am_icmp_ne rfl (fun c7 => ?_) (fun c7 => ?_)
      · have H := it_neg c7 H
        refine am_aload_n rfl rfl ?_
        refine u_getR f_9_13 rfl (Nat.le_of_ble_eq_true rfl) rfl rfl ?_
        refine am_aload_n rfl rfl ?_
        refine u_getI f_9_98 rfl (Nat.le_of_ble_eq_true rfl) rfl rfl ?_
        refine am_iload_n rfl rfl ?_
        obtain ⟨j8, ej8, hj8, H⟩ := ck_some H
        obtain ⟨g9, eg9, H⟩ := wr_some H
        refine x_iast rfl (Nat.le_of_ble_eq_true rfl) rfl hj8 ej8 eg9 ?_
        refine am_aload_n rfl rfl ?_
        refine u_getR f_9_16 rfl (Nat.le_of_ble_eq_true rfl) rfl rfl ?_
        refine am_aload_n rfl rfl ?_
        refine u_getI f_9_98 rfl (Nat.le_of_ble_eq_true rfl) rfl rfl ?_
        refine am_iload_n rfl rfl ?_
        obtain ⟨j10, ej10, hj10, H⟩ := ck_some H
        obtain ⟨g11, eg11, H⟩ := wr_some H
        refine x_iast rfl (Nat.le_of_ble_eq_true rfl) rfl hj10 ej10 eg11 ?_
        refine am_aload_n rfl rfl ?_
        refine u_getR f_9_19 rfl (Nat.le_of_ble_eq_true rfl) rfl rfl ?_
        refine am_aload_n rfl rfl ?_
        refine u_getI f_9_98 rfl (Nat.le_of_ble_eq_true rfl) rfl rfl ?_
        refine x_iconst (v := (-1 : Int32)) rfl (by decide) ?_
        obtain ⟨j12, ej12, hj12, H⟩ := ck_some H
        obtain ⟨g13, eg13, H⟩ := wr_some H
        refine x_iast rfl (Nat.le_of_ble_eq_true rfl) rfl hj12 ej12 eg13 ?_
        refine am_aload_n rfl rfl ?_
        refine am_dup rfl rfl ?_
        refine u_getI f_9_98 rfl (Nat.le_of_ble_eq_true rfl) rfl rfl ?_
        refine x_iconst (v := (1 : Int32)) rfl (by decide) ?_
        refine am_iadd rfl ?_
        obtain ⟨g14, eg14, H⟩ := wr_some H
        refine x_putI f_9_98 rfl rfl (Nat.le_of_ble_eq_true rfl) rfl rfl (fun _ _ => ⟨rfl, rfl⟩) eg14 ?_
        refine am_aload_n rfl rfl ?_
        refine u_getI f_9_98 rfl (Nat.le_of_ble_eq_true rfl) rfl rfl ?_
        refine x_iconst (v := (1 : Int32)) rfl (by decide) ?_
        refine am_isub rfl ?_
        have H := Option.some.inj H
        subst H
        exact u_iret rfl rfl K
      · have H := it_pos c7 H
        refine x_bipush (v := (-4 : Int32)) rfl (by decide) ?_
        have H := Option.some.inj H
        subst H
        exact u_iret rfl rfl K
    · have H := it_pos c6 H
      refine x_bipush (v := (-2 : Int32)) rfl (by decide) ?_
      have H := Option.some.inj H
      subst H
      exact u_iret rfl rfl K
def f_X9_places (a1 : Int32) (a2 : Int32) (g : G) : Option (Int32 × G) := bd2 (f_X9_isPlayer a1 g) fun r1 g2 => if r1 = 0 then some (((-2 : Int32), g2)) else if a2 ≤ (4 : Int32) then ck a1 24 fun j5 => if (g2 161 j5) = (3 : Int32) then if 0 ≤ a2 then ck a1 24 fun j8 => wr (up2 g2 163 j8 a2) fun g9 => bd (lp (fun (s12 : Int32 × G) => (if (4 : Int32) ≤ s12.1 then some (.inr (s12.2)) else ck (((4 : Int32) * a1) + s12.1) 96 fun j16 => wr (up2 s12.2 164 j16 (-1 : Int32)) fun g17 => some (.inl ((s12.1 + (1 : Int32)), g17)) : Option ((Int32 × G) ⊕ (G)))) 2000 ((0 : Int32), g9)) fun (s14 : G) => some ((a2, s14)) else bd2 (f_X9_meets (5 : Int32) g2) fun r19 g20 => some ((r19, g20)) else bd2 (f_X9_meets (3 : Int32) g2) fun r21 g22 => some ((r21, g22)) else some (((-2 : Int32), g2))
set_option maxHeartbeats 4000000 in
set_option maxRecDepth 100000 in
theorem y_X9_places (a1 : Int32) (a2 : Int32)  (g : G) (q : Int32 × G) {post : Int32 → G → Prop} (H : f_X9_places a1 a2 g = some q) (K : post q.1 q.2) : Y m_X9_places 2 [.ref 159, .int a1, .int a2] g post := by
  refine Y_of ok_X9_places pn_9 rfl (by decide) (Or.inr (Or.inl rfl)) (List.forall_mem_cons.mpr ⟨rfl, (List.forall_mem_cons.mpr ⟨rfl, (List.forall_mem_cons.mpr ⟨rfl, (fun _ h => absurd h List.not_mem_nil)⟩)⟩)⟩) (Nat.le_of_ble_eq_true rfl) ?_
  show u_V m_X9_places 2 post 0 [some (.ref 159), some (.int a1), some (.int a2), none] [] g
  unfold f_X9_places at H
  refine am_aload_n rfl rfl ?_
  refine am_iload_n rfl rfl ?_
  obtain ⟨r1, g2, H1, H⟩ := bd2_some H
  refine cv1i v_9_108 rfl rfl (Nat.le_of_ble_eq_true rfl) rfl (Nat.le_of_ble_eq_true rfl) (fun _ _ => Nat.le_of_ble_eq_true rfl) (y_X9_isPlayer a1 g _ H1 ?_)
  refine am_if_eq rfl (fun c3 => ?_) (fun c3 => ?_)
  · have H := it_pos c3 H
    refine x_bipush (v := (-2 : Int32)) rfl (by decide) ?_
    have H := Option.some.inj H
    subst H
    exact u_iret rfl rfl K
  · have H := it_neg c3 H
    refine am_iload_n rfl rfl ?_
    refine x_iconst (v := (4 : Int32)) rfl (by decide) ?_
    refine am_icmp_le rfl (fun c4 => ?_) (fun c4 => ?_)
    · have H := it_pos c4 H
      refine am_aload_n rfl rfl ?_
      refine u_getR f_9_13 rfl (Nat.le_of_ble_eq_true rfl) rfl rfl ?_
      refine am_iload_n rfl rfl ?_
      obtain ⟨j5, ej5, hj5, H⟩ := ck_some H
      refine x_iald rfl (Nat.le_of_ble_eq_true rfl) rfl hj5 ej5 ?_
      refine x_iconst (v := (3 : Int32)) rfl (by decide) ?_
      refine am_icmp_eq rfl (fun c6 => ?_) (fun c6 => ?_)
      · have H := it_pos c6 H
        refine am_iload_n rfl rfl ?_
        refine am_if_ge rfl (fun c7 => ?_) (fun c7 => ?_)
        · have H := it_pos c7 H
          refine am_aload_n rfl rfl ?_
          refine u_getR f_9_19 rfl (Nat.le_of_ble_eq_true rfl) rfl rfl ?_
          refine am_iload_n rfl rfl ?_
          refine am_iload_n rfl rfl ?_
          obtain ⟨j8, ej8, hj8, H⟩ := ck_some H
          obtain ⟨g9, eg9, H⟩ := wr_some H
          refine x_iast rfl (Nat.le_of_ble_eq_true rfl) rfl hj8 ej8 eg9 ?_
          refine x_iconst (v := (0 : Int32)) rfl (by decide) ?_
          refine am_istore_n rfl (Nat.le_of_ble_eq_true rfl) ?_
          obtain ⟨s18, H1, H⟩ := bd_some H
          have K2 : (fun (s14 : G) => u_V m_X9_places 2 post 73 [none, none, some (.int a2), none] [] s14) s18 := by
            clear H1
            obtain ⟨g13, e_g13⟩ : ∃ z, z = s18 := ⟨_, rfl⟩
            subst e_g13
            (try dsimp only at H); (try dsimp only)
            refine am_iload_n rfl rfl ?_
            have H := Option.some.inj H
            subst H
            exact u_iret rfl rfl K
          refine am_drop (L' := [some (.ref 159), some (.int a1), some (.int a2), some (.int (0 : Int32))]) (And.intro rfl (And.intro rfl (And.intro rfl (And.intro rfl trivial)))) ?_
          refine lp_ind (P := (fun (s12 : Int32 × G) => u_V m_X9_places 2 post 51 [some (.ref 159), some (.int a1), some (.int a2), some (.int s12.1)] [] s12.2)) (Q := (fun (s14 : G) => u_V m_X9_places 2 post 73 [none, none, some (.int a2), none] [] s14)) ?_ 2000 ((0 : Int32), g9) s18 H1 K2
          clear H1 H K
          intro s12 s18b H K
          obtain ⟨x10, g11⟩ := s12
          (try dsimp only at H); (try dsimp only)
          refine am_iload_n rfl rfl ?_
          refine x_iconst (v := (4 : Int32)) rfl (by decide) ?_
          refine am_icmp_ge rfl (fun c15 => ?_) (fun c15 => ?_)
          · have H := it_pos c15 H
            have H := Option.some.inj H
            subst H
            exact am_drop (L' := [none, none, some (.int a2), none]) (And.intro rfl trivial) K
          · have H := it_neg c15 H
            refine am_aload_n rfl rfl ?_
            refine u_getR f_9_22 rfl (Nat.le_of_ble_eq_true rfl) rfl rfl ?_
            refine x_iconst (v := (4 : Int32)) rfl (by decide) ?_
            refine am_iload_n rfl rfl ?_
            refine am_imul rfl ?_
            refine am_iload_n rfl rfl ?_
            refine am_iadd rfl ?_
            refine x_iconst (v := (-1 : Int32)) rfl (by decide) ?_
            obtain ⟨j16, ej16, hj16, H⟩ := ck_some H
            obtain ⟨g17, eg17, H⟩ := wr_some H
            refine x_iast rfl (Nat.le_of_ble_eq_true rfl) rfl hj16 ej16 eg17 ?_
            refine x_iinc (v := (x10 + (1 : Int32))) rfl rfl (Nat.le_of_ble_eq_true rfl) rfl ?_
            refine am_goto rfl ?_
            have H := Option.some.inj H
            subst H
            exact am_drop (L' := [some (.ref 159), some (.int a1), some (.int a2), some (.int (x10 + (1 : Int32)))]) (And.intro rfl (And.intro rfl (And.intro rfl (And.intro rfl trivial)))) K
        · have H := it_neg c7 H
          refine am_aload_n rfl rfl ?_
          refine x_iconst (v := (5 : Int32)) rfl (by decide) ?_
          obtain ⟨r19, g20, H1, H⟩ := bd2_some H
          refine cv1i v_9_112 rfl rfl (Nat.le_of_ble_eq_true rfl) rfl (Nat.le_of_ble_eq_true rfl) (fun _ _ => Nat.le_of_ble_eq_true rfl) (y_X9_meets (5 : Int32) g2 _ H1 ?_)
          have H := Option.some.inj H
          subst H
          exact u_iret rfl rfl K
      · have H := it_neg c6 H
        refine am_aload_n rfl rfl ?_
        refine x_iconst (v := (3 : Int32)) rfl (by decide) ?_
        obtain ⟨r21, g22, H1, H⟩ := bd2_some H
        refine cv1i v_9_112 rfl rfl (Nat.le_of_ble_eq_true rfl) rfl (Nat.le_of_ble_eq_true rfl) (fun _ _ => Nat.le_of_ble_eq_true rfl) (y_X9_meets (3 : Int32) g2 _ H1 ?_)
        have H := Option.some.inj H
        subst H
        exact u_iret rfl rfl K
    · have H := it_neg c4 H
      refine x_bipush (v := (-2 : Int32)) rfl (by decide) ?_
      have H := Option.some.inj H
      subst H
      exact u_iret rfl rfl K
def f_X9_seat (a1 : Int32) (a2 : Int32) (a3 : Int32) (g : G) : Option (Int32 × G) := bd2 (f_X9_isPlayer a1 g) fun r1 g2 => if r1 = 0 then some (((-2 : Int32), g2)) else bd ((if a3 = (-1 : Int32) then some (.inl (g2)) else bd2 (f_X9_isPlayer a3 g2) fun r31 g32 => if r31 = 0 then some (.inr (((-2 : Int32), g32))) else some (.inl (g32)) : Option ((G) ⊕ (Int32 × G)))) fun s34m => (match s34m with | .inl s5 => (ck a1 24 fun j6 => bd ((if (s5 161 j6) = (3 : Int32) then bd ((if a3 = (-1 : Int32) then some (.inl ()) else ck a3 24 fun j26 => if (s5 161 j26) = (3 : Int32) then some (.inr (.inl (s5))) else some (.inl ()) : Option ((Unit) ⊕ ((G) ⊕ (Int32 × G))))) fun s28m => (match s28m with | .inl _ => (ck a1 24 fun j13 => if (s5 163 j13) = (-1 : Int32) then bd2 (f_X9_meets (1 : Int32) s5) fun r23 g24 => some (.inr ((r23, g24))) else ck a1 24 fun j15 => bd2 (f_X9_in a2 (0 : Int32) ((s5 163 j15) - (1 : Int32)) s5) fun r16 g17 => if r16 = 0 then bd2 (f_X9_meets (2 : Int32) g17) fun r21 g22 => some (.inr ((r21, g22))) else ck (((4 : Int32) * a1) + a2) 96 fun j19 => wr (up2 g17 164 j19 a3) fun g20 => some (.inr (((1 : Int32), g20)))) | .inr y => some y) else some (.inl (s5)) : Option ((G) ⊕ (Int32 × G)))) fun s29m => (match s29m with | .inl s8 => (bd2 (f_X9_meets (3 : Int32) s8) fun r9 g10 => some ((r9, g10))) | .inr y => some y)) | .inr y => some y)
set_option maxHeartbeats 4000000 in
set_option maxRecDepth 100000 in
theorem y_X9_seat (a1 : Int32) (a2 : Int32) (a3 : Int32)  (g : G) (q : Int32 × G) {post : Int32 → G → Prop} (H : f_X9_seat a1 a2 a3 g = some q) (K : post q.1 q.2) : Y m_X9_seat 2 [.ref 159, .int a1, .int a2, .int a3] g post := by
  refine Y_of ok_X9_seat pn_9 rfl (by decide) (Or.inr (Or.inl rfl)) (List.forall_mem_cons.mpr ⟨rfl, (List.forall_mem_cons.mpr ⟨rfl, (List.forall_mem_cons.mpr ⟨rfl, (List.forall_mem_cons.mpr ⟨rfl, (fun _ h => absurd h List.not_mem_nil)⟩)⟩)⟩)⟩) (Nat.le_of_ble_eq_true rfl) ?_
  show u_V m_X9_seat 2 post 0 [some (.ref 159), some (.int a1), some (.int a2), some (.int a3)] [] g
  unfold f_X9_seat at H
  refine am_aload_n rfl rfl ?_
  refine am_iload_n rfl rfl ?_
  obtain ⟨r1, g2, H1, H⟩ := bd2_some H
  refine cv1i v_9_108 rfl rfl (Nat.le_of_ble_eq_true rfl) rfl (Nat.le_of_ble_eq_true rfl) (fun _ _ => Nat.le_of_ble_eq_true rfl) (y_X9_isPlayer a1 g _ H1 ?_)
  refine am_if_eq rfl (fun c3 => ?_) (fun c3 => ?_)
  · have H := it_pos c3 H
    refine x_bipush (v := (-2 : Int32)) rfl (by decide) ?_
    have H := Option.some.inj H
    subst H
    exact u_iret rfl rfl K
  · have H := it_neg c3 H
    refine am_iload_n rfl rfl ?_
    refine x_iconst (v := (-1 : Int32)) rfl (by decide) ?_
    obtain ⟨s34, H1, H⟩ := bd_some H
    have K : (Sum.elim (fun (s5 : G) => u_V m_X9_seat 2 post 24 [some (.ref 159), some (.int a1), some (.int a2), some (.int a3)] [] s5) (fun (q : Int32 × G) => post q.1 q.2)) s34 := by
      clear H1
      cases s34 with
      | inl s5 =>
        obtain ⟨g4, e_g4⟩ : ∃ z, z = s5 := ⟨_, rfl⟩
        subst e_g4
        (try dsimp only at H); (try dsimp only)
        refine am_aload_n rfl rfl ?_
        refine u_getR f_9_13 rfl (Nat.le_of_ble_eq_true rfl) rfl rfl ?_
        refine am_iload_n rfl rfl ?_
        obtain ⟨j6, ej6, hj6, H⟩ := ck_some H
        refine x_iald rfl (Nat.le_of_ble_eq_true rfl) rfl hj6 ej6 ?_
        refine x_iconst (v := (3 : Int32)) rfl (by decide) ?_
        obtain ⟨s29, H1, H⟩ := bd_some H
        have K : (Sum.elim (fun (s8 : G) => u_V m_X9_seat 2 post 49 [some (.ref 159), none, none, none] [] s8) (fun (q : Int32 × G) => post q.1 q.2)) s29 := by
          clear H1
          cases s29 with
          | inl s8 =>
            obtain ⟨g7, e_g7⟩ : ∃ z, z = s8 := ⟨_, rfl⟩
            subst e_g7
            (try dsimp only at H); (try dsimp only)
            refine am_aload_n rfl rfl ?_
            refine x_iconst (v := (3 : Int32)) rfl (by decide) ?_
            obtain ⟨r9, g10, H1, H⟩ := bd2_some H
            refine cv1i v_9_112 rfl rfl (Nat.le_of_ble_eq_true rfl) rfl (Nat.le_of_ble_eq_true rfl) (fun _ _ => Nat.le_of_ble_eq_true rfl) (y_X9_meets (3 : Int32) g7 _ H1 ?_)
            have H := Option.some.inj H
            subst H
            exact u_iret rfl rfl K
          | inr y =>
            have H := Option.some.inj H
            subst H
            exact K
        have H := H1
        clear H1
        refine am_icmp_ne rfl (fun c11 => ?_) (fun c11 => ?_)
        · have H := it_neg c11 H
          have H := Option.some.inj H
          subst H
          exact am_drop (L' := [some (.ref 159), none, none, none]) (And.intro rfl trivial) K
        · have H := it_pos c11 H
          refine am_iload_n rfl rfl ?_
          refine x_iconst (v := (-1 : Int32)) rfl (by decide) ?_
          obtain ⟨s28, H1, H⟩ := bd_some H
          have K : (Sum.elim (fun (_ : Unit) => u_V m_X9_seat 2 post 55 [some (.ref 159), some (.int a1), some (.int a2), some (.int a3)] [] g4) (Sum.elim (fun (s8 : G) => u_V m_X9_seat 2 post 49 [some (.ref 159), none, none, none] [] s8) (fun (q : Int32 × G) => post q.1 q.2))) s28 := by
            clear H1
            cases s28 with
            | inl s12 =>
              (try dsimp only at H); (try dsimp only)
              refine am_aload_n rfl rfl ?_
              refine u_getR f_9_19 rfl (Nat.le_of_ble_eq_true rfl) rfl rfl ?_
              refine am_iload_n rfl rfl ?_
              obtain ⟨j13, ej13, hj13, H⟩ := ck_some H
              refine x_iald rfl (Nat.le_of_ble_eq_true rfl) rfl hj13 ej13 ?_
              refine x_iconst (v := (-1 : Int32)) rfl (by decide) ?_
              refine am_icmp_ne rfl (fun c14 => ?_) (fun c14 => ?_)
              · have H := it_neg c14 H
                refine am_iload_n rfl rfl ?_
                refine x_iconst (v := (0 : Int32)) rfl (by decide) ?_
                refine am_aload_n rfl rfl ?_
                refine u_getR f_9_19 rfl (Nat.le_of_ble_eq_true rfl) rfl rfl ?_
                refine am_iload_n rfl rfl ?_
                obtain ⟨j15, ej15, hj15, H⟩ := ck_some H
                refine x_iald rfl (Nat.le_of_ble_eq_true rfl) rfl hj15 ej15 ?_
                refine x_iconst (v := (1 : Int32)) rfl (by decide) ?_
                refine am_isub rfl ?_
                obtain ⟨r16, g17, H1, H⟩ := bd2_some H
                refine cs3i s_9_101 rfl rfl (Nat.le_of_ble_eq_true rfl) (fun _ _ => Nat.le_of_ble_eq_true rfl) (y_X9_in a2 (0 : Int32) ((g4 163 j15) - (1 : Int32)) g4 _ H1 ?_)
                refine am_if_ne rfl (fun c18 => ?_) (fun c18 => ?_)
                · have H := it_neg c18 H
                  refine am_aload_n rfl rfl ?_
                  refine u_getR f_9_22 rfl (Nat.le_of_ble_eq_true rfl) rfl rfl ?_
                  refine x_iconst (v := (4 : Int32)) rfl (by decide) ?_
                  refine am_iload_n rfl rfl ?_
                  refine am_imul rfl ?_
                  refine am_iload_n rfl rfl ?_
                  refine am_iadd rfl ?_
                  refine am_iload_n rfl rfl ?_
                  obtain ⟨j19, ej19, hj19, H⟩ := ck_some H
                  obtain ⟨g20, eg20, H⟩ := wr_some H
                  refine x_iast rfl (Nat.le_of_ble_eq_true rfl) rfl hj19 ej19 eg20 ?_
                  refine x_iconst (v := (1 : Int32)) rfl (by decide) ?_
                  have H := Option.some.inj H
                  subst H
                  exact u_iret rfl rfl K
                · have H := it_pos c18 H
                  refine am_aload_n rfl rfl ?_
                  refine x_iconst (v := (2 : Int32)) rfl (by decide) ?_
                  obtain ⟨r21, g22, H1, H⟩ := bd2_some H
                  refine cv1i v_9_112 rfl rfl (Nat.le_of_ble_eq_true rfl) rfl (Nat.le_of_ble_eq_true rfl) (fun _ _ => Nat.le_of_ble_eq_true rfl) (y_X9_meets (2 : Int32) g17 _ H1 ?_)
                  have H := Option.some.inj H
                  subst H
                  exact u_iret rfl rfl K
              · have H := it_pos c14 H
                refine am_aload_n rfl rfl ?_
                refine x_iconst (v := (1 : Int32)) rfl (by decide) ?_
                obtain ⟨r23, g24, H1, H⟩ := bd2_some H
                refine cv1i v_9_112 rfl rfl (Nat.le_of_ble_eq_true rfl) rfl (Nat.le_of_ble_eq_true rfl) (fun _ _ => Nat.le_of_ble_eq_true rfl) (y_X9_meets (1 : Int32) g4 _ H1 ?_)
                have H := Option.some.inj H
                subst H
                exact u_iret rfl rfl K
            | inr y =>
              have H := Option.some.inj H
              subst H
              exact K
          have H := H1
          clear H1
          refine am_icmp_eq rfl (fun c25 => ?_) (fun c25 => ?_)
          · have H := it_pos c25 H
            have H := Option.some.inj H
            subst H
            exact am_drop (L' := [some (.ref 159), some (.int a1), some (.int a2), some (.int a3)]) (And.intro rfl (And.intro rfl (And.intro rfl (And.intro rfl trivial)))) K
          · have H := it_neg c25 H
            refine am_aload_n rfl rfl ?_
            refine u_getR f_9_13 rfl (Nat.le_of_ble_eq_true rfl) rfl rfl ?_
            refine am_iload_n rfl rfl ?_
            obtain ⟨j26, ej26, hj26, H⟩ := ck_some H
            refine x_iald rfl (Nat.le_of_ble_eq_true rfl) rfl hj26 ej26 ?_
            refine x_iconst (v := (3 : Int32)) rfl (by decide) ?_
            refine am_icmp_ne rfl (fun c27 => ?_) (fun c27 => ?_)
            · have H := it_neg c27 H
              have H := Option.some.inj H
              subst H
              exact am_drop (L' := [some (.ref 159), some (.int a1), some (.int a2), some (.int a3)]) (And.intro rfl (And.intro rfl (And.intro rfl (And.intro rfl trivial)))) K
            · have H := it_pos c27 H
              have H := Option.some.inj H
              subst H
              exact am_drop (L' := [some (.ref 159), none, none, none]) (And.intro rfl trivial) K
      | inr y =>
        have H := Option.some.inj H
        subst H
        exact K
    have H := H1
    clear H1
    refine am_icmp_eq rfl (fun c30 => ?_) (fun c30 => ?_)
    · have H := it_pos c30 H
      have H := Option.some.inj H
      subst H
      exact am_drop (L' := [some (.ref 159), some (.int a1), some (.int a2), some (.int a3)]) (And.intro rfl (And.intro rfl (And.intro rfl (And.intro rfl trivial)))) K
    · have H := it_neg c30 H
      refine am_aload_n rfl rfl ?_
      refine am_iload_n rfl rfl ?_
      obtain ⟨r31, g32, H1, H⟩ := bd2_some H
      refine cv1i v_9_108 rfl rfl (Nat.le_of_ble_eq_true rfl) rfl (Nat.le_of_ble_eq_true rfl) (fun _ _ => Nat.le_of_ble_eq_true rfl) (y_X9_isPlayer a3 g2 _ H1 ?_)
      refine am_if_ne rfl (fun c33 => ?_) (fun c33 => ?_)
      · have H := it_neg c33 H
        have H := Option.some.inj H
        subst H
        exact am_drop (L' := [some (.ref 159), some (.int a1), some (.int a2), some (.int a3)]) (And.intro rfl (And.intro rfl (And.intro rfl (And.intro rfl trivial)))) K
      · have H := it_pos c33 H
        refine x_bipush (v := (-2 : Int32)) rfl (by decide) ?_
        have H := Option.some.inj H
        subst H
        exact u_iret rfl rfl K
def f_X9_held (a1 : Int32) (a2 : Int32) (g : G) : Option (Int32 × G) := bd2 (f_X9_isPlayer a1 g) fun r1 g2 => if r1 = 0 then some (((-2 : Int32), g2)) else ck a1 24 fun j4 => if (g2 161 j4) = (3 : Int32) then ck a1 24 fun j6 => if (g2 163 j6) = (-1 : Int32) then bd2 (f_X9_meets (1 : Int32) g2) fun r15 g16 => some ((r15, g16)) else ck a1 24 fun j8 => bd2 (f_X9_in a2 (0 : Int32) ((g2 163 j8) - (1 : Int32)) g2) fun r9 g10 => if r9 = 0 then bd2 (f_X9_meets (2 : Int32) g10) fun r12 g13 => some ((r12, g13)) else ck (((4 : Int32) * a1) + a2) 96 fun j14 => some (((g10 164 j14), g10)) else bd2 (f_X9_meets (3 : Int32) g2) fun r17 g18 => some ((r17, g18))
set_option maxHeartbeats 4000000 in
set_option maxRecDepth 100000 in
theorem y_X9_held (a1 : Int32) (a2 : Int32)  (g : G) (q : Int32 × G) {post : Int32 → G → Prop} (H : f_X9_held a1 a2 g = some q) (K : post q.1 q.2) : Y m_X9_held 2 [.ref 159, .int a1, .int a2] g post := by
  refine Y_of ok_X9_held pn_9 rfl (by decide) (Or.inr (Or.inl rfl)) (List.forall_mem_cons.mpr ⟨rfl, (List.forall_mem_cons.mpr ⟨rfl, (List.forall_mem_cons.mpr ⟨rfl, (fun _ h => absurd h List.not_mem_nil)⟩)⟩)⟩) (Nat.le_of_ble_eq_true rfl) ?_
  show u_V m_X9_held 2 post 0 [some (.ref 159), some (.int a1), some (.int a2)] [] g
  unfold f_X9_held at H
  refine am_aload_n rfl rfl ?_
  refine am_iload_n rfl rfl ?_
  obtain ⟨r1, g2, H1, H⟩ := bd2_some H
  refine cv1i v_9_108 rfl rfl (Nat.le_of_ble_eq_true rfl) rfl (Nat.le_of_ble_eq_true rfl) (fun _ _ => Nat.le_of_ble_eq_true rfl) (y_X9_isPlayer a1 g _ H1 ?_)
  refine am_if_ne rfl (fun c3 => ?_) (fun c3 => ?_)
  · have H := it_neg c3 H
    refine am_aload_n rfl rfl ?_
    refine u_getR f_9_13 rfl (Nat.le_of_ble_eq_true rfl) rfl rfl ?_
    refine am_iload_n rfl rfl ?_
    obtain ⟨j4, ej4, hj4, H⟩ := ck_some H
    refine x_iald rfl (Nat.le_of_ble_eq_true rfl) rfl hj4 ej4 ?_
    refine x_iconst (v := (3 : Int32)) rfl (by decide) ?_
    refine am_icmp_eq rfl (fun c5 => ?_) (fun c5 => ?_)
    · have H := it_pos c5 H
      refine am_aload_n rfl rfl ?_
      refine u_getR f_9_19 rfl (Nat.le_of_ble_eq_true rfl) rfl rfl ?_
      refine am_iload_n rfl rfl ?_
      obtain ⟨j6, ej6, hj6, H⟩ := ck_some H
      refine x_iald rfl (Nat.le_of_ble_eq_true rfl) rfl hj6 ej6 ?_
      refine x_iconst (v := (-1 : Int32)) rfl (by decide) ?_
      refine am_icmp_ne rfl (fun c7 => ?_) (fun c7 => ?_)
      · have H := it_neg c7 H
        refine am_iload_n rfl rfl ?_
        refine x_iconst (v := (0 : Int32)) rfl (by decide) ?_
        refine am_aload_n rfl rfl ?_
        refine u_getR f_9_19 rfl (Nat.le_of_ble_eq_true rfl) rfl rfl ?_
        refine am_iload_n rfl rfl ?_
        obtain ⟨j8, ej8, hj8, H⟩ := ck_some H
        refine x_iald rfl (Nat.le_of_ble_eq_true rfl) rfl hj8 ej8 ?_
        refine x_iconst (v := (1 : Int32)) rfl (by decide) ?_
        refine am_isub rfl ?_
        obtain ⟨r9, g10, H1, H⟩ := bd2_some H
        refine cs3i s_9_101 rfl rfl (Nat.le_of_ble_eq_true rfl) (fun _ _ => Nat.le_of_ble_eq_true rfl) (y_X9_in a2 (0 : Int32) ((g2 163 j8) - (1 : Int32)) g2 _ H1 ?_)
        refine am_if_eq rfl (fun c11 => ?_) (fun c11 => ?_)
        · have H := it_pos c11 H
          refine am_aload_n rfl rfl ?_
          refine x_iconst (v := (2 : Int32)) rfl (by decide) ?_
          obtain ⟨r12, g13, H1, H⟩ := bd2_some H
          refine cv1i v_9_112 rfl rfl (Nat.le_of_ble_eq_true rfl) rfl (Nat.le_of_ble_eq_true rfl) (fun _ _ => Nat.le_of_ble_eq_true rfl) (y_X9_meets (2 : Int32) g10 _ H1 ?_)
          have H := Option.some.inj H
          subst H
          exact u_iret rfl rfl K
        · have H := it_neg c11 H
          refine am_aload_n rfl rfl ?_
          refine u_getR f_9_22 rfl (Nat.le_of_ble_eq_true rfl) rfl rfl ?_
          refine x_iconst (v := (4 : Int32)) rfl (by decide) ?_
          refine am_iload_n rfl rfl ?_
          refine am_imul rfl ?_
          refine am_iload_n rfl rfl ?_
          refine am_iadd rfl ?_
          obtain ⟨j14, ej14, hj14, H⟩ := ck_some H
          refine x_iald rfl (Nat.le_of_ble_eq_true rfl) rfl hj14 ej14 ?_
          refine am_goto rfl ?_
          have H := Option.some.inj H
          subst H
          exact u_iret rfl rfl K
      · have H := it_pos c7 H
        refine am_aload_n rfl rfl ?_
        refine x_iconst (v := (1 : Int32)) rfl (by decide) ?_
        obtain ⟨r15, g16, H1, H⟩ := bd2_some H
        refine cv1i v_9_112 rfl rfl (Nat.le_of_ble_eq_true rfl) rfl (Nat.le_of_ble_eq_true rfl) (fun _ _ => Nat.le_of_ble_eq_true rfl) (y_X9_meets (1 : Int32) g2 _ H1 ?_)
        have H := Option.some.inj H
        subst H
        exact u_iret rfl rfl K
    · have H := it_neg c5 H
      refine am_aload_n rfl rfl ?_
      refine x_iconst (v := (3 : Int32)) rfl (by decide) ?_
      obtain ⟨r17, g18, H1, H⟩ := bd2_some H
      refine cv1i v_9_112 rfl rfl (Nat.le_of_ble_eq_true rfl) rfl (Nat.le_of_ble_eq_true rfl) (fun _ _ => Nat.le_of_ble_eq_true rfl) (y_X9_meets (3 : Int32) g2 _ H1 ?_)
      have H := Option.some.inj H
      subst H
      exact u_iret rfl rfl K
  · have H := it_pos c3 H
    refine x_bipush (v := (-2 : Int32)) rfl (by decide) ?_
    have H := Option.some.inj H
    subst H
    exact u_iret rfl rfl K
def f_X9_soloWorth (a1 : Int32) (g : G) : Option (Int32 × G) := ck a1 24 fun j1 => if (g 161 j1) = (1 : Int32) then bd2 (f_X9_began (11 : Int32) g) fun r16 g17 => ck a1 24 fun j18 => if (g17 162 j18) ≤ (1500 : Int32) then ck a1 24 fun j20 => some (((g17 162 j20), g17)) else some (((1500 : Int32), g17)) else ck a1 24 fun j3 => bd ((if (g 161 j3) = (2 : Int32) then bd2 (f_X9_began (12 : Int32) g) fun r13 g14 => some (g14) else some (g) : Option (G))) fun (s5 : G) => bd2 (f_X9_began (10 : Int32) s5) fun r6 g7 => ck a1 24 fun j8 => if (g7 161 j8) = (2 : Int32) then ck a1 24 fun j11 => some ((((g7 162 j11) + (25 : Int32)), g7)) else ck a1 24 fun j10 => some (((g7 162 j10), g7))
set_option maxHeartbeats 4000000 in
set_option maxRecDepth 100000 in
theorem y_X9_soloWorth (a1 : Int32)  (g : G) (q : Int32 × G) {post : Int32 → G → Prop} (H : f_X9_soloWorth a1 g = some q) (K : post q.1 q.2) : Y m_X9_soloWorth 1 [.ref 159, .int a1] g post := by
  refine Y_of ok_X9_soloWorth pn_9 rfl (by decide) (Or.inr (Or.inl rfl)) (List.forall_mem_cons.mpr ⟨rfl, (List.forall_mem_cons.mpr ⟨rfl, (fun _ h => absurd h List.not_mem_nil)⟩)⟩) (Nat.le_of_ble_eq_true rfl) ?_
  show u_V m_X9_soloWorth 1 post 0 [some (.ref 159), some (.int a1)] [] g
  unfold f_X9_soloWorth at H
  refine am_aload_n rfl rfl ?_
  refine u_getR f_9_13 rfl (Nat.le_of_ble_eq_true rfl) rfl rfl ?_
  refine am_iload_n rfl rfl ?_
  obtain ⟨j1, ej1, hj1, H⟩ := ck_some H
  refine x_iald rfl (Nat.le_of_ble_eq_true rfl) rfl hj1 ej1 ?_
  refine x_iconst (v := (1 : Int32)) rfl (by decide) ?_
  refine am_icmp_ne rfl (fun c2 => ?_) (fun c2 => ?_)
  · have H := it_neg c2 H
    refine am_aload_n rfl rfl ?_
    refine u_getR f_9_13 rfl (Nat.le_of_ble_eq_true rfl) rfl rfl ?_
    refine am_iload_n rfl rfl ?_
    obtain ⟨j3, ej3, hj3, H⟩ := ck_some H
    refine x_iald rfl (Nat.le_of_ble_eq_true rfl) rfl hj3 ej3 ?_
    refine x_iconst (v := (2 : Int32)) rfl (by decide) ?_
    obtain ⟨s15, H1, H⟩ := bd_some H
    have K : (fun (s5 : G) => u_V m_X9_soloWorth 1 post 57 [some (.ref 159), some (.int a1)] [] s5) s15 := by
      clear H1
      obtain ⟨g4, e_g4⟩ : ∃ z, z = s15 := ⟨_, rfl⟩
      subst e_g4
      (try dsimp only at H); (try dsimp only)
      refine am_aload_n rfl rfl ?_
      refine x_bipush (v := (10 : Int32)) rfl (by decide) ?_
      obtain ⟨r6, g7, H1, H⟩ := bd2_some H
      refine cv1v v_9_116 rfl rfl (Nat.le_of_ble_eq_true rfl) rfl (Nat.le_of_ble_eq_true rfl) (fun _ _ => Nat.le_of_ble_eq_true rfl) (y_X9_began (10 : Int32) g4 _ H1 ?_)
      refine am_aload_n rfl rfl ?_
      refine u_getR f_9_13 rfl (Nat.le_of_ble_eq_true rfl) rfl rfl ?_
      refine am_iload_n rfl rfl ?_
      obtain ⟨j8, ej8, hj8, H⟩ := ck_some H
      refine x_iald rfl (Nat.le_of_ble_eq_true rfl) rfl hj8 ej8 ?_
      refine x_iconst (v := (2 : Int32)) rfl (by decide) ?_
      refine am_icmp_ne rfl (fun c9 => ?_) (fun c9 => ?_)
      · have H := it_neg c9 H
        refine am_aload_n rfl rfl ?_
        refine u_getR f_9_16 rfl (Nat.le_of_ble_eq_true rfl) rfl rfl ?_
        refine am_iload_n rfl rfl ?_
        obtain ⟨j10, ej10, hj10, H⟩ := ck_some H
        refine x_iald rfl (Nat.le_of_ble_eq_true rfl) rfl hj10 ej10 ?_
        have H := Option.some.inj H
        subst H
        exact u_iret rfl rfl K
      · have H := it_pos c9 H
        refine am_aload_n rfl rfl ?_
        refine u_getR f_9_16 rfl (Nat.le_of_ble_eq_true rfl) rfl rfl ?_
        refine am_iload_n rfl rfl ?_
        obtain ⟨j11, ej11, hj11, H⟩ := ck_some H
        refine x_iald rfl (Nat.le_of_ble_eq_true rfl) rfl hj11 ej11 ?_
        refine x_bipush (v := (25 : Int32)) rfl (by decide) ?_
        refine am_iadd rfl ?_
        refine am_goto rfl ?_
        have H := Option.some.inj H
        subst H
        exact u_iret rfl rfl K
    have H := H1
    clear H1
    refine am_icmp_ne rfl (fun c12 => ?_) (fun c12 => ?_)
    · have H := it_neg c12 H
      have H := Option.some.inj H
      subst H
      exact am_drop (L' := [some (.ref 159), some (.int a1)]) (And.intro rfl (And.intro rfl trivial)) K
    · have H := it_pos c12 H
      refine am_aload_n rfl rfl ?_
      refine x_bipush (v := (12 : Int32)) rfl (by decide) ?_
      obtain ⟨r13, g14, H1, H⟩ := bd2_some H
      refine cv1v v_9_116 rfl rfl (Nat.le_of_ble_eq_true rfl) rfl (Nat.le_of_ble_eq_true rfl) (fun _ _ => Nat.le_of_ble_eq_true rfl) (y_X9_began (12 : Int32) g _ H1 ?_)
      have H := Option.some.inj H
      subst H
      exact am_drop (L' := [some (.ref 159), some (.int a1)]) (And.intro rfl (And.intro rfl trivial)) K
  · have H := it_pos c2 H
    refine am_aload_n rfl rfl ?_
    refine x_bipush (v := (11 : Int32)) rfl (by decide) ?_
    obtain ⟨r16, g17, H1, H⟩ := bd2_some H
    refine cv1v v_9_116 rfl rfl (Nat.le_of_ble_eq_true rfl) rfl (Nat.le_of_ble_eq_true rfl) (fun _ _ => Nat.le_of_ble_eq_true rfl) (y_X9_began (11 : Int32) g _ H1 ?_)
    refine am_aload_n rfl rfl ?_
    refine u_getR f_9_16 rfl (Nat.le_of_ble_eq_true rfl) rfl rfl ?_
    refine am_iload_n rfl rfl ?_
    obtain ⟨j18, ej18, hj18, H⟩ := ck_some H
    refine x_iald rfl (Nat.le_of_ble_eq_true rfl) rfl hj18 ej18 ?_
    refine x_sipush (v := (1500 : Int32)) rfl (by decide) ?_
    refine am_icmp_le rfl (fun c19 => ?_) (fun c19 => ?_)
    · have H := it_pos c19 H
      refine am_aload_n rfl rfl ?_
      refine u_getR f_9_16 rfl (Nat.le_of_ble_eq_true rfl) rfl rfl ?_
      refine am_iload_n rfl rfl ?_
      obtain ⟨j20, ej20, hj20, H⟩ := ck_some H
      refine x_iald rfl (Nat.le_of_ble_eq_true rfl) rfl hj20 ej20 ?_
      have H := Option.some.inj H
      subst H
      exact u_iret rfl rfl K
    · have H := it_neg c19 H
      refine x_sipush (v := (1500 : Int32)) rfl (by decide) ?_
      refine am_goto rfl ?_
      have H := Option.some.inj H
      subst H
      exact u_iret rfl rfl K
def f_X9_worthOf (a1 : Int32) (g : G) : Option (Int32 × G) := ck a1 24 fun j1 => if (g 161 j1) = (4 : Int32) then bd2 (f_X9_meets (3 : Int32) g) fun r39 g40 => some ((r39, g40)) else ck a1 24 fun j3 => if (g 161 j3) = (3 : Int32) then bd2 (f_X9_began (13 : Int32) g) fun r5 g6 => ck a1 24 fun j7 => if (g6 163 j7) = (-1 : Int32) then bd2 (f_X9_meets (1 : Int32) g6) fun r35 g36 => some ((r35, g36)) else bd (lp (fun (s12 : Int32 × Int32 × G) => (ck a1 24 fun j16 => if (s12.2.2 163 j16) ≤ s12.2.1 then some (.inr (.inl (s12.1, s12.2.2))) else ck (((4 : Int32) * a1) + s12.2.1) 96 fun j18 => if (s12.2.2 164 j18) = (-1 : Int32) then bd2 (f_X9_meets (1 : Int32) s12.2.2) fun r26 g27 => some (.inr (.inr ((r26, g27)))) else ck (s12.2.2 164 j18) 24 fun j20 => if (s12.2.2 161 j20) = (4 : Int32) then bd2 (f_X9_meets (3 : Int32) s12.2.2) fun r24 g25 => some (.inr (.inr ((r24, g25)))) else bd2 (f_X9_soloWorth (s12.2.2 164 j18) s12.2.2) fun r22 g23 => some (.inl ((s12.1 + r22), (s12.2.1 + (1 : Int32)), g23)) : Option ((Int32 × Int32 × G) ⊕ ((Int32 × G) ⊕ (Int32 × G))))) 2000 ((0 : Int32), (0 : Int32), g6)) fun s28m => (match s28m with | .inl s15 => (ck a1 24 fun j29 => if (s15.2 163 j29) = 0 then bd2 (f_X9_meets (4 : Int32) s15.2) fun r33 g34 => some ((r33, g34)) else ck a1 24 fun j31 => dz (s15.2 163 j31) (some (((s15.1 / (s15.2 163 j31)), s15.2)))) | .inr y => some y) else bd2 (f_X9_soloWorth a1 g) fun r37 g38 => some ((r37, g38))
set_option maxHeartbeats 4000000 in
set_option maxRecDepth 100000 in
theorem y_X9_worthOf (a1 : Int32)  (g : G) (q : Int32 × G) {post : Int32 → G → Prop} (H : f_X9_worthOf a1 g = some q) (K : post q.1 q.2) : Y m_X9_worthOf 2 [.ref 159, .int a1] g post := by
  refine Y_of ok_X9_worthOf pn_9 rfl (by decide) (Or.inr (Or.inl rfl)) (List.forall_mem_cons.mpr ⟨rfl, (List.forall_mem_cons.mpr ⟨rfl, (fun _ h => absurd h List.not_mem_nil)⟩)⟩) (Nat.le_of_ble_eq_true rfl) ?_
  show u_V m_X9_worthOf 2 post 0 [some (.ref 159), some (.int a1), none, none, none] [] g
  unfold f_X9_worthOf at H
  refine am_aload_n rfl rfl ?_
  refine u_getR f_9_13 rfl (Nat.le_of_ble_eq_true rfl) rfl rfl ?_
  refine am_iload_n rfl rfl ?_
  obtain ⟨j1, ej1, hj1, H⟩ := ck_some H
  refine x_iald rfl (Nat.le_of_ble_eq_true rfl) rfl hj1 ej1 ?_
  refine x_iconst (v := (4 : Int32)) rfl (by decide) ?_
  refine am_icmp_ne rfl (fun c2 => ?_) (fun c2 => ?_)
  · have H := it_neg c2 H
    refine am_aload_n rfl rfl ?_
    refine u_getR f_9_13 rfl (Nat.le_of_ble_eq_true rfl) rfl rfl ?_
    refine am_iload_n rfl rfl ?_
    obtain ⟨j3, ej3, hj3, H⟩ := ck_some H
    refine x_iald rfl (Nat.le_of_ble_eq_true rfl) rfl hj3 ej3 ?_
    refine x_iconst (v := (3 : Int32)) rfl (by decide) ?_
    refine am_icmp_eq rfl (fun c4 => ?_) (fun c4 => ?_)
    · have H := it_pos c4 H
      refine am_aload_n rfl rfl ?_
      refine x_bipush (v := (13 : Int32)) rfl (by decide) ?_
      obtain ⟨r5, g6, H1, H⟩ := bd2_some H
      refine cv1v v_9_116 rfl rfl (Nat.le_of_ble_eq_true rfl) rfl (Nat.le_of_ble_eq_true rfl) (fun _ _ => Nat.le_of_ble_eq_true rfl) (y_X9_began (13 : Int32) g _ H1 ?_)
      refine am_aload_n rfl rfl ?_
      refine u_getR f_9_19 rfl (Nat.le_of_ble_eq_true rfl) rfl rfl ?_
      refine am_iload_n rfl rfl ?_
      obtain ⟨j7, ej7, hj7, H⟩ := ck_some H
      refine x_iald rfl (Nat.le_of_ble_eq_true rfl) rfl hj7 ej7 ?_
      refine x_iconst (v := (-1 : Int32)) rfl (by decide) ?_
      refine am_icmp_ne rfl (fun c8 => ?_) (fun c8 => ?_)
      · have H := it_neg c8 H
        refine x_iconst (v := (0 : Int32)) rfl (by decide) ?_
        refine am_istore_n rfl (Nat.le_of_ble_eq_true rfl) ?_
        refine x_iconst (v := (0 : Int32)) rfl (by decide) ?_
        refine am_istore_n rfl (Nat.le_of_ble_eq_true rfl) ?_
        obtain ⟨s28, H1, H⟩ := bd_some H
        have K2 : (Sum.elim (fun (s15 : Int32 × G) => u_V m_X9_worthOf 2 post 124 [some (.ref 159), some (.int a1), some (.int s15.1), none, none] [] s15.2) (fun (q : Int32 × G) => post q.1 q.2)) s28 := by
          clear H1
          cases s28 with
          | inl s15 =>
            obtain ⟨x13, g14⟩ := s15
            (try dsimp only at H); (try dsimp only)
            refine am_aload_n rfl rfl ?_
            refine u_getR f_9_19 rfl (Nat.le_of_ble_eq_true rfl) rfl rfl ?_
            refine am_iload_n rfl rfl ?_
            obtain ⟨j29, ej29, hj29, H⟩ := ck_some H
            refine x_iald rfl (Nat.le_of_ble_eq_true rfl) rfl hj29 ej29 ?_
            refine am_if_ne rfl (fun c30 => ?_) (fun c30 => ?_)
            · have H := it_neg c30 H
              refine am_iload_n rfl rfl ?_
              refine am_aload_n rfl rfl ?_
              refine u_getR f_9_19 rfl (Nat.le_of_ble_eq_true rfl) rfl rfl ?_
              refine am_iload_n rfl rfl ?_
              obtain ⟨j31, ej31, hj31, H⟩ := ck_some H
              refine x_iald rfl (Nat.le_of_ble_eq_true rfl) rfl hj31 ej31 ?_
              obtain ⟨hz32, H⟩ := dz_some H
              refine am_idiv rfl hz32 ?_
              have H := Option.some.inj H
              subst H
              exact u_iret rfl rfl K
            · have H := it_pos c30 H
              refine am_aload_n rfl rfl ?_
              refine x_iconst (v := (4 : Int32)) rfl (by decide) ?_
              obtain ⟨r33, g34, H1, H⟩ := bd2_some H
              refine cv1i v_9_112 rfl rfl (Nat.le_of_ble_eq_true rfl) rfl (Nat.le_of_ble_eq_true rfl) (fun _ _ => Nat.le_of_ble_eq_true rfl) (y_X9_meets (4 : Int32) g14 _ H1 ?_)
              refine am_goto rfl ?_
              have H := Option.some.inj H
              subst H
              exact u_iret rfl rfl K
          | inr y =>
            have H := Option.some.inj H
            subst H
            exact K
        refine am_drop (L' := [some (.ref 159), some (.int a1), some (.int (0 : Int32)), some (.int (0 : Int32)), none]) (And.intro rfl (And.intro rfl (And.intro rfl (And.intro rfl trivial)))) ?_
        refine lp_ind (P := (fun (s12 : Int32 × Int32 × G) => u_V m_X9_worthOf 2 post 58 [some (.ref 159), some (.int a1), some (.int s12.1), some (.int s12.2.1), none] [] s12.2.2)) (Q := (Sum.elim (fun (s15 : Int32 × G) => u_V m_X9_worthOf 2 post 124 [some (.ref 159), some (.int a1), some (.int s15.1), none, none] [] s15.2) (fun (q : Int32 × G) => post q.1 q.2))) ?_ 2000 ((0 : Int32), (0 : Int32), g6) s28 H1 K2
        clear H1 H K
        intro s12 s28b H K
        obtain ⟨x9, x10, g11⟩ := s12
        (try dsimp only at H); (try dsimp only)
        refine am_iload_n rfl rfl ?_
        refine am_aload_n rfl rfl ?_
        refine u_getR f_9_19 rfl (Nat.le_of_ble_eq_true rfl) rfl rfl ?_
        refine am_iload_n rfl rfl ?_
        obtain ⟨j16, ej16, hj16, H⟩ := ck_some H
        refine x_iald rfl (Nat.le_of_ble_eq_true rfl) rfl hj16 ej16 ?_
        refine am_icmp_ge rfl (fun c17 => ?_) (fun c17 => ?_)
        · have H := it_pos c17 H
          have H := Option.some.inj H
          subst H
          exact am_drop (L' := [some (.ref 159), some (.int a1), some (.int x9), none, none]) (And.intro rfl (And.intro rfl (And.intro rfl trivial))) K
        · have H := it_neg c17 H
          refine am_aload_n rfl rfl ?_
          refine u_getR f_9_22 rfl (Nat.le_of_ble_eq_true rfl) rfl rfl ?_
          refine x_iconst (v := (4 : Int32)) rfl (by decide) ?_
          refine am_iload_n rfl rfl ?_
          refine am_imul rfl ?_
          refine am_iload_n rfl rfl ?_
          refine am_iadd rfl ?_
          obtain ⟨j18, ej18, hj18, H⟩ := ck_some H
          refine x_iald rfl (Nat.le_of_ble_eq_true rfl) rfl hj18 ej18 ?_
          refine am_istore rfl (Nat.le_of_ble_eq_true rfl) ?_
          refine am_iload rfl rfl ?_
          refine x_iconst (v := (-1 : Int32)) rfl (by decide) ?_
          refine am_icmp_ne rfl (fun c19 => ?_) (fun c19 => ?_)
          · have H := it_neg c19 H
            refine am_aload_n rfl rfl ?_
            refine u_getR f_9_13 rfl (Nat.le_of_ble_eq_true rfl) rfl rfl ?_
            refine am_iload rfl rfl ?_
            obtain ⟨j20, ej20, hj20, H⟩ := ck_some H
            refine x_iald rfl (Nat.le_of_ble_eq_true rfl) rfl hj20 ej20 ?_
            refine x_iconst (v := (4 : Int32)) rfl (by decide) ?_
            refine am_icmp_ne rfl (fun c21 => ?_) (fun c21 => ?_)
            · have H := it_neg c21 H
              refine am_iload_n rfl rfl ?_
              refine am_aload_n rfl rfl ?_
              refine am_iload rfl rfl ?_
              obtain ⟨r22, g23, H1, H⟩ := bd2_some H
              refine cv1i v_9_120 rfl rfl (Nat.le_of_ble_eq_true rfl) rfl (Nat.le_of_ble_eq_true rfl) (fun _ _ => Nat.le_of_ble_eq_true rfl) (y_X9_soloWorth (g11 164 j18) g11 _ H1 ?_)
              refine am_iadd rfl ?_
              refine am_istore_n rfl (Nat.le_of_ble_eq_true rfl) ?_
              refine x_iinc (v := (x10 + (1 : Int32))) rfl rfl (Nat.le_of_ble_eq_true rfl) rfl ?_
              refine am_goto rfl ?_
              have H := Option.some.inj H
              subst H
              exact am_drop (L' := [some (.ref 159), some (.int a1), some (.int (x9 + r22)), some (.int (x10 + (1 : Int32))), none]) (And.intro rfl (And.intro rfl (And.intro rfl (And.intro rfl trivial)))) K
            · have H := it_pos c21 H
              refine am_aload_n rfl rfl ?_
              refine x_iconst (v := (3 : Int32)) rfl (by decide) ?_
              obtain ⟨r24, g25, H1, H⟩ := bd2_some H
              refine cv1i v_9_112 rfl rfl (Nat.le_of_ble_eq_true rfl) rfl (Nat.le_of_ble_eq_true rfl) (fun _ _ => Nat.le_of_ble_eq_true rfl) (y_X9_meets (3 : Int32) g11 _ H1 ?_)
              have H := Option.some.inj H
              subst H
              exact u_iret rfl rfl K
          · have H := it_pos c19 H
            refine am_aload_n rfl rfl ?_
            refine x_iconst (v := (1 : Int32)) rfl (by decide) ?_
            obtain ⟨r26, g27, H1, H⟩ := bd2_some H
            refine cv1i v_9_112 rfl rfl (Nat.le_of_ble_eq_true rfl) rfl (Nat.le_of_ble_eq_true rfl) (fun _ _ => Nat.le_of_ble_eq_true rfl) (y_X9_meets (1 : Int32) g11 _ H1 ?_)
            have H := Option.some.inj H
            subst H
            exact u_iret rfl rfl K
      · have H := it_pos c8 H
        refine am_aload_n rfl rfl ?_
        refine x_iconst (v := (1 : Int32)) rfl (by decide) ?_
        obtain ⟨r35, g36, H1, H⟩ := bd2_some H
        refine cv1i v_9_112 rfl rfl (Nat.le_of_ble_eq_true rfl) rfl (Nat.le_of_ble_eq_true rfl) (fun _ _ => Nat.le_of_ble_eq_true rfl) (y_X9_meets (1 : Int32) g6 _ H1 ?_)
        have H := Option.some.inj H
        subst H
        exact u_iret rfl rfl K
    · have H := it_neg c4 H
      refine am_aload_n rfl rfl ?_
      refine am_iload_n rfl rfl ?_
      obtain ⟨r37, g38, H1, H⟩ := bd2_some H
      refine cv1i v_9_120 rfl rfl (Nat.le_of_ble_eq_true rfl) rfl (Nat.le_of_ble_eq_true rfl) (fun _ _ => Nat.le_of_ble_eq_true rfl) (y_X9_soloWorth a1 g _ H1 ?_)
      have H := Option.some.inj H
      subst H
      exact u_iret rfl rfl K
  · have H := it_pos c2 H
    refine am_aload_n rfl rfl ?_
    refine x_iconst (v := (3 : Int32)) rfl (by decide) ?_
    obtain ⟨r39, g40, H1, H⟩ := bd2_some H
    refine cv1i v_9_112 rfl rfl (Nat.le_of_ble_eq_true rfl) rfl (Nat.le_of_ble_eq_true rfl) (fun _ _ => Nat.le_of_ble_eq_true rfl) (y_X9_meets (3 : Int32) g _ H1 ?_)
    have H := Option.some.inj H
    subst H
    exact u_iret rfl rfl K
def f_X9_worth (a1 : Int32) (g : G) : Option (Int32 × G) := wr (up2 g 159 2 (0 : Int32)) fun g1 => bd2 (f_X9_isPlayer a1 g1) fun r2 g3 => if r2 = 0 then some (((-2 : Int32), g3)) else bd2 (f_X9_worthOf a1 g3) fun r5 g6 => some ((r5, g6))
set_option maxHeartbeats 4000000 in
set_option maxRecDepth 100000 in
theorem y_X9_worth (a1 : Int32)  (g : G) (q : Int32 × G) {post : Int32 → G → Prop} (H : f_X9_worth a1 g = some q) (K : post q.1 q.2) : Y m_X9_worth 3 [.ref 159, .int a1] g post := by
  refine Y_of ok_X9_worth pn_9 rfl (by decide) (Or.inr (Or.inl rfl)) (List.forall_mem_cons.mpr ⟨rfl, (List.forall_mem_cons.mpr ⟨rfl, (fun _ h => absurd h List.not_mem_nil)⟩)⟩) (Nat.le_of_ble_eq_true rfl) ?_
  show u_V m_X9_worth 3 post 0 [some (.ref 159), some (.int a1)] [] g
  unfold f_X9_worth at H
  refine am_aload_n rfl rfl ?_
  refine x_iconst (v := (0 : Int32)) rfl (by decide) ?_
  obtain ⟨g1, eg1, H⟩ := wr_some H
  refine x_putI f_9_95 rfl rfl (Nat.le_of_ble_eq_true rfl) rfl rfl (fun _ _ => ⟨rfl, rfl⟩) eg1 ?_
  refine am_aload_n rfl rfl ?_
  refine am_iload_n rfl rfl ?_
  obtain ⟨r2, g3, H1, H⟩ := bd2_some H
  refine cv1i v_9_108 rfl rfl (Nat.le_of_ble_eq_true rfl) rfl (Nat.le_of_ble_eq_true rfl) (fun _ _ => Nat.le_of_ble_eq_true rfl) (y_X9_isPlayer a1 g1 _ H1 ?_)
  refine am_if_eq rfl (fun c4 => ?_) (fun c4 => ?_)
  · have H := it_pos c4 H
    refine x_bipush (v := (-2 : Int32)) rfl (by decide) ?_
    have H := Option.some.inj H
    subst H
    exact u_iret rfl rfl K
  · have H := it_neg c4 H
    refine am_aload_n rfl rfl ?_
    refine am_iload_n rfl rfl ?_
    obtain ⟨r5, g6, H1, H⟩ := bd2_some H
    refine cv1i v_9_123 rfl rfl (Nat.le_of_ble_eq_true rfl) rfl (Nat.le_of_ble_eq_true rfl) (fun _ _ => Nat.le_of_ble_eq_true rfl) (y_X9_worthOf a1 g3 _ H1 ?_)
    refine am_goto rfl ?_
    have H := Option.some.inj H
    subst H
    exact u_iret rfl rfl K
def f_X9_stepFor (a1 : Int32) (g : G) : Option (Int32 × G) := ck a1 24 fun j1 => if (g 161 j1) = (3 : Int32) then bd2 (f_X9_began (23 : Int32) g) fun r14 g15 => some (((10 : Int32), g15)) else ck a1 24 fun j3 => bd ((if (g 161 j3) = (2 : Int32) then bd2 (f_X9_began (22 : Int32) g) fun r11 g12 => some (g12) else some (g) : Option (G))) fun (s5 : G) => bd2 (f_X9_began (20 : Int32) s5) fun r6 g7 => ck a1 24 fun j8 => if (g7 161 j8) = (2 : Int32) then some (((40 : Int32), g7)) else some (((20 : Int32), g7))
set_option maxHeartbeats 4000000 in
set_option maxRecDepth 100000 in
theorem y_X9_stepFor (a1 : Int32)  (g : G) (q : Int32 × G) {post : Int32 → G → Prop} (H : f_X9_stepFor a1 g = some q) (K : post q.1 q.2) : Y m_X9_stepFor 1 [.ref 159, .int a1] g post := by
  refine Y_of ok_X9_stepFor pn_9 rfl (by decide) (Or.inr (Or.inl rfl)) (List.forall_mem_cons.mpr ⟨rfl, (List.forall_mem_cons.mpr ⟨rfl, (fun _ h => absurd h List.not_mem_nil)⟩)⟩) (Nat.le_of_ble_eq_true rfl) ?_
  show u_V m_X9_stepFor 1 post 0 [some (.ref 159), some (.int a1)] [] g
  unfold f_X9_stepFor at H
  refine am_aload_n rfl rfl ?_
  refine u_getR f_9_13 rfl (Nat.le_of_ble_eq_true rfl) rfl rfl ?_
  refine am_iload_n rfl rfl ?_
  obtain ⟨j1, ej1, hj1, H⟩ := ck_some H
  refine x_iald rfl (Nat.le_of_ble_eq_true rfl) rfl hj1 ej1 ?_
  refine x_iconst (v := (3 : Int32)) rfl (by decide) ?_
  refine am_icmp_ne rfl (fun c2 => ?_) (fun c2 => ?_)
  · have H := it_neg c2 H
    refine am_aload_n rfl rfl ?_
    refine u_getR f_9_13 rfl (Nat.le_of_ble_eq_true rfl) rfl rfl ?_
    refine am_iload_n rfl rfl ?_
    obtain ⟨j3, ej3, hj3, H⟩ := ck_some H
    refine x_iald rfl (Nat.le_of_ble_eq_true rfl) rfl hj3 ej3 ?_
    refine x_iconst (v := (2 : Int32)) rfl (by decide) ?_
    obtain ⟨s13, H1, H⟩ := bd_some H
    have K : (fun (s5 : G) => u_V m_X9_stepFor 1 post 35 [some (.ref 159), some (.int a1)] [] s5) s13 := by
      clear H1
      obtain ⟨g4, e_g4⟩ : ∃ z, z = s13 := ⟨_, rfl⟩
      subst e_g4
      (try dsimp only at H); (try dsimp only)
      refine am_aload_n rfl rfl ?_
      refine x_bipush (v := (20 : Int32)) rfl (by decide) ?_
      obtain ⟨r6, g7, H1, H⟩ := bd2_some H
      refine cv1v v_9_116 rfl rfl (Nat.le_of_ble_eq_true rfl) rfl (Nat.le_of_ble_eq_true rfl) (fun _ _ => Nat.le_of_ble_eq_true rfl) (y_X9_began (20 : Int32) g4 _ H1 ?_)
      refine am_aload_n rfl rfl ?_
      refine u_getR f_9_13 rfl (Nat.le_of_ble_eq_true rfl) rfl rfl ?_
      refine am_iload_n rfl rfl ?_
      obtain ⟨j8, ej8, hj8, H⟩ := ck_some H
      refine x_iald rfl (Nat.le_of_ble_eq_true rfl) rfl hj8 ej8 ?_
      refine x_iconst (v := (2 : Int32)) rfl (by decide) ?_
      refine am_icmp_ne rfl (fun c9 => ?_) (fun c9 => ?_)
      · have H := it_neg c9 H
        refine x_bipush (v := (20 : Int32)) rfl (by decide) ?_
        have H := Option.some.inj H
        subst H
        exact u_iret rfl rfl K
      · have H := it_pos c9 H
        refine x_bipush (v := (40 : Int32)) rfl (by decide) ?_
        refine am_goto rfl ?_
        have H := Option.some.inj H
        subst H
        exact u_iret rfl rfl K
    have H := H1
    clear H1
    refine am_icmp_ne rfl (fun c10 => ?_) (fun c10 => ?_)
    · have H := it_neg c10 H
      have H := Option.some.inj H
      subst H
      exact am_drop (L' := [some (.ref 159), some (.int a1)]) (And.intro rfl (And.intro rfl trivial)) K
    · have H := it_pos c10 H
      refine am_aload_n rfl rfl ?_
      refine x_bipush (v := (22 : Int32)) rfl (by decide) ?_
      obtain ⟨r11, g12, H1, H⟩ := bd2_some H
      refine cv1v v_9_116 rfl rfl (Nat.le_of_ble_eq_true rfl) rfl (Nat.le_of_ble_eq_true rfl) (fun _ _ => Nat.le_of_ble_eq_true rfl) (y_X9_began (22 : Int32) g _ H1 ?_)
      have H := Option.some.inj H
      subst H
      exact am_drop (L' := [some (.ref 159), some (.int a1)]) (And.intro rfl (And.intro rfl trivial)) K
  · have H := it_pos c2 H
    refine am_aload_n rfl rfl ?_
    refine x_bipush (v := (23 : Int32)) rfl (by decide) ?_
    obtain ⟨r14, g15, H1, H⟩ := bd2_some H
    refine cv1v v_9_116 rfl rfl (Nat.le_of_ble_eq_true rfl) rfl (Nat.le_of_ble_eq_true rfl) (fun _ _ => Nat.le_of_ble_eq_true rfl) (y_X9_began (23 : Int32) g _ H1 ?_)
    refine x_bipush (v := (10 : Int32)) rfl (by decide) ?_
    have H := Option.some.inj H
    subst H
    exact u_iret rfl rfl K
def f_X9_stepOf (a1 : Int32) (g : G) : Option (Int32 × G) := wr (up2 g 159 2 (0 : Int32)) fun g1 => bd2 (f_X9_isPlayer a1 g1) fun r2 g3 => if r2 = 0 then some (((-2 : Int32), g3)) else ck a1 24 fun j5 => if (g3 161 j5) = (4 : Int32) then bd2 (f_X9_meets (3 : Int32) g3) fun r9 g10 => some ((r9, g10)) else bd2 (f_X9_stepFor a1 g3) fun r7 g8 => some ((r7, g8))
set_option maxHeartbeats 4000000 in
set_option maxRecDepth 100000 in
theorem y_X9_stepOf (a1 : Int32)  (g : G) (q : Int32 × G) {post : Int32 → G → Prop} (H : f_X9_stepOf a1 g = some q) (K : post q.1 q.2) : Y m_X9_stepOf 2 [.ref 159, .int a1] g post := by
  refine Y_of ok_X9_stepOf pn_9 rfl (by decide) (Or.inr (Or.inl rfl)) (List.forall_mem_cons.mpr ⟨rfl, (List.forall_mem_cons.mpr ⟨rfl, (fun _ h => absurd h List.not_mem_nil)⟩)⟩) (Nat.le_of_ble_eq_true rfl) ?_
  show u_V m_X9_stepOf 2 post 0 [some (.ref 159), some (.int a1)] [] g
  unfold f_X9_stepOf at H
  refine am_aload_n rfl rfl ?_
  refine x_iconst (v := (0 : Int32)) rfl (by decide) ?_
  obtain ⟨g1, eg1, H⟩ := wr_some H
  refine x_putI f_9_95 rfl rfl (Nat.le_of_ble_eq_true rfl) rfl rfl (fun _ _ => ⟨rfl, rfl⟩) eg1 ?_
  refine am_aload_n rfl rfl ?_
  refine am_iload_n rfl rfl ?_
  obtain ⟨r2, g3, H1, H⟩ := bd2_some H
  refine cv1i v_9_108 rfl rfl (Nat.le_of_ble_eq_true rfl) rfl (Nat.le_of_ble_eq_true rfl) (fun _ _ => Nat.le_of_ble_eq_true rfl) (y_X9_isPlayer a1 g1 _ H1 ?_)
  refine am_if_ne rfl (fun c4 => ?_) (fun c4 => ?_)
  · have H := it_neg c4 H
    refine am_aload_n rfl rfl ?_
    refine u_getR f_9_13 rfl (Nat.le_of_ble_eq_true rfl) rfl rfl ?_
    refine am_iload_n rfl rfl ?_
    obtain ⟨j5, ej5, hj5, H⟩ := ck_some H
    refine x_iald rfl (Nat.le_of_ble_eq_true rfl) rfl hj5 ej5 ?_
    refine x_iconst (v := (4 : Int32)) rfl (by decide) ?_
    refine am_icmp_ne rfl (fun c6 => ?_) (fun c6 => ?_)
    · have H := it_neg c6 H
      refine am_aload_n rfl rfl ?_
      refine am_iload_n rfl rfl ?_
      obtain ⟨r7, g8, H1, H⟩ := bd2_some H
      refine cv1i v_9_126 rfl rfl (Nat.le_of_ble_eq_true rfl) rfl (Nat.le_of_ble_eq_true rfl) (fun _ _ => Nat.le_of_ble_eq_true rfl) (y_X9_stepFor a1 g3 _ H1 ?_)
      have H := Option.some.inj H
      subst H
      exact u_iret rfl rfl K
    · have H := it_pos c6 H
      refine am_aload_n rfl rfl ?_
      refine x_iconst (v := (3 : Int32)) rfl (by decide) ?_
      obtain ⟨r9, g10, H1, H⟩ := bd2_some H
      refine cv1i v_9_112 rfl rfl (Nat.le_of_ble_eq_true rfl) rfl (Nat.le_of_ble_eq_true rfl) (fun _ _ => Nat.le_of_ble_eq_true rfl) (y_X9_meets (3 : Int32) g3 _ H1 ?_)
      refine am_goto rfl ?_
      have H := Option.some.inj H
      subst H
      exact u_iret rfl rfl K
  · have H := it_pos c4 H
    refine x_bipush (v := (-2 : Int32)) rfl (by decide) ?_
    refine am_goto rfl ?_
    have H := Option.some.inj H
    subst H
    exact u_iret rfl rfl K
def f_X9_trace (a1 : Int32) (g : G) : Option (Int32 × G) := bd2 (f_X9_in a1 (0 : Int32) ((g 159 2) - (1 : Int32)) g) fun r1 g2 => if r1 = 0 then some (((-1 : Int32), g2)) else ck a1 200 fun j4 => some (((g2 160 j4), g2))
set_option maxHeartbeats 4000000 in
set_option maxRecDepth 100000 in
theorem y_X9_trace (a1 : Int32)  (g : G) (q : Int32 × G) {post : Int32 → G → Prop} (H : f_X9_trace a1 g = some q) (K : post q.1 q.2) : Y m_X9_trace 1 [.ref 159, .int a1] g post := by
  refine Y_of ok_X9_trace pn_9 rfl (by decide) (Or.inr (Or.inl rfl)) (List.forall_mem_cons.mpr ⟨rfl, (List.forall_mem_cons.mpr ⟨rfl, (fun _ h => absurd h List.not_mem_nil)⟩)⟩) (Nat.le_of_ble_eq_true rfl) ?_
  show u_V m_X9_trace 1 post 0 [some (.ref 159), some (.int a1)] [] g
  unfold f_X9_trace at H
  refine am_iload_n rfl rfl ?_
  refine x_iconst (v := (0 : Int32)) rfl (by decide) ?_
  refine am_aload_n rfl rfl ?_
  refine u_getI f_9_95 rfl (Nat.le_of_ble_eq_true rfl) rfl rfl ?_
  refine x_iconst (v := (1 : Int32)) rfl (by decide) ?_
  refine am_isub rfl ?_
  obtain ⟨r1, g2, H1, H⟩ := bd2_some H
  refine cs3i s_9_101 rfl rfl (Nat.le_of_ble_eq_true rfl) (fun _ _ => Nat.le_of_ble_eq_true rfl) (y_X9_in a1 (0 : Int32) ((g 159 2) - (1 : Int32)) g _ H1 ?_)
  refine am_if_eq rfl (fun c3 => ?_) (fun c3 => ?_)
  · have H := it_pos c3 H
    refine x_iconst (v := (-1 : Int32)) rfl (by decide) ?_
    have H := Option.some.inj H
    subst H
    exact u_iret rfl rfl K
  · have H := it_neg c3 H
    refine am_aload_n rfl rfl ?_
    refine u_getR f_9_7 rfl (Nat.le_of_ble_eq_true rfl) rfl rfl ?_
    refine am_iload_n rfl rfl ?_
    obtain ⟨j4, ej4, hj4, H⟩ := ck_some H
    refine x_iald rfl (Nat.le_of_ble_eq_true rfl) rfl hj4 ej4 ?_
    refine am_goto rfl ?_
    have H := Option.some.inj H
    subst H
    exact u_iret rfl rfl K
def f_X9_another  (g : G) : Option (Int32 × G) := bd (lp (fun (s3 : Int32 × G) => (if (412 : Int32) ≤ s3.1 then some (.inr (s3.2)) else bd2 (f_X9_lay (g 159 8) s3.1 (0 : Int32) s3.2) fun r7 g8 => some (.inl ((s3.1 + (1 : Int32)), g8)) : Option ((Int32 × G) ⊕ (G)))) 2000 ((0 : Int32), g)) fun (s5 : G) => wr (up2 s5 159 10 ((s5 159 10) + (1 : Int32))) fun g10 => bd2 (f_X9_lay (g 159 8) (411 : Int32) (g10 159 10) g10) fun r11 g12 => wr (up2 g12 159 8 ((g12 159 8) + (1 : Int32))) fun g13 => some (((g 159 8), g13))
set_option maxHeartbeats 4000000 in
set_option maxRecDepth 100000 in
theorem y_X9_another   (g : G) (q : Int32 × G) {post : Int32 → G → Prop} (H : f_X9_another  g = some q) (K : post q.1 q.2) : Y m_X9_another 1 [.ref 159] g post := by
  refine Y_of ok_X9_another pn_9 rfl (by decide) (Or.inr (Or.inl rfl)) (List.forall_mem_cons.mpr ⟨rfl, (fun _ h => absurd h List.not_mem_nil)⟩) (Nat.le_of_ble_eq_true rfl) ?_
  show u_V m_X9_another 1 post 0 [some (.ref 159), none, none] [] g
  unfold f_X9_another at H
  refine am_aload_n rfl rfl ?_
  refine u_getI f_9_105 rfl (Nat.le_of_ble_eq_true rfl) rfl rfl ?_
  refine am_istore_n rfl (Nat.le_of_ble_eq_true rfl) ?_
  refine x_iconst (v := (0 : Int32)) rfl (by decide) ?_
  refine am_istore_n rfl (Nat.le_of_ble_eq_true rfl) ?_
  obtain ⟨s9, H1, H⟩ := bd_some H
  have K2 : (fun (s5 : G) => u_V m_X9_another 1 post 27 [some (.ref 159), some (.int (g 159 8)), none] [] s5) s9 := by
    clear H1
    obtain ⟨g4, e_g4⟩ : ∃ z, z = s9 := ⟨_, rfl⟩
    subst e_g4
    (try dsimp only at H); (try dsimp only)
    refine am_aload_n rfl rfl ?_
    refine am_dup rfl rfl ?_
    refine u_getI f_9_133 rfl (Nat.le_of_ble_eq_true rfl) rfl rfl ?_
    refine x_iconst (v := (1 : Int32)) rfl (by decide) ?_
    refine am_iadd rfl ?_
    obtain ⟨g10, eg10, H⟩ := wr_some H
    refine x_putI f_9_133 rfl rfl (Nat.le_of_ble_eq_true rfl) rfl rfl (fun _ _ => ⟨rfl, rfl⟩) eg10 ?_
    refine am_aload_n rfl rfl ?_
    refine am_iload_n rfl rfl ?_
    refine x_sipush (v := (411 : Int32)) rfl (by decide) ?_
    refine am_aload_n rfl rfl ?_
    refine u_getI f_9_133 rfl (Nat.le_of_ble_eq_true rfl) rfl rfl ?_
    obtain ⟨r11, g12, H1, H⟩ := bd2_some H
    refine cv3v v_9_129 rfl rfl (Nat.le_of_ble_eq_true rfl) rfl (Nat.le_of_ble_eq_true rfl) (fun _ _ => Nat.le_of_ble_eq_true rfl) (y_X9_lay (g 159 8) (411 : Int32) (g10 159 10) g10 _ H1 ?_)
    refine am_aload_n rfl rfl ?_
    refine am_dup rfl rfl ?_
    refine u_getI f_9_105 rfl (Nat.le_of_ble_eq_true rfl) rfl rfl ?_
    refine x_iconst (v := (1 : Int32)) rfl (by decide) ?_
    refine am_iadd rfl ?_
    obtain ⟨g13, eg13, H⟩ := wr_some H
    refine x_putI f_9_105 rfl rfl (Nat.le_of_ble_eq_true rfl) rfl rfl (fun _ _ => ⟨rfl, rfl⟩) eg13 ?_
    refine am_iload_n rfl rfl ?_
    have H := Option.some.inj H
    subst H
    exact u_iret rfl rfl K
  refine am_drop (L' := [some (.ref 159), some (.int (g 159 8)), some (.int (0 : Int32))]) (And.intro rfl (And.intro rfl (And.intro rfl trivial))) ?_
  refine lp_ind (P := (fun (s3 : Int32 × G) => u_V m_X9_another 1 post 7 [some (.ref 159), some (.int (g 159 8)), some (.int s3.1)] [] s3.2)) (Q := (fun (s5 : G) => u_V m_X9_another 1 post 27 [some (.ref 159), some (.int (g 159 8)), none] [] s5)) ?_ 2000 ((0 : Int32), g) s9 H1 K2
  clear H1 H K
  intro s3 s9b H K
  obtain ⟨x1, g2⟩ := s3
  (try dsimp only at H); (try dsimp only)
  refine am_iload_n rfl rfl ?_
  refine x_sipush (v := (412 : Int32)) rfl (by decide) ?_
  refine am_icmp_ge rfl (fun c6 => ?_) (fun c6 => ?_)
  · have H := it_pos c6 H
    have H := Option.some.inj H
    subst H
    exact am_drop (L' := [some (.ref 159), some (.int (g 159 8)), none]) (And.intro rfl (And.intro rfl trivial)) K
  · have H := it_neg c6 H
    refine am_aload_n rfl rfl ?_
    refine am_iload_n rfl rfl ?_
    refine am_iload_n rfl rfl ?_
    refine x_iconst (v := (0 : Int32)) rfl (by decide) ?_
    obtain ⟨r7, g8, H1, H⟩ := bd2_some H
    refine cv3v v_9_129 rfl rfl (Nat.le_of_ble_eq_true rfl) rfl (Nat.le_of_ble_eq_true rfl) (fun _ _ => Nat.le_of_ble_eq_true rfl) (y_X9_lay (g 159 8) x1 (0 : Int32) g2 _ H1 ?_)
    refine x_iinc (v := (x1 + (1 : Int32))) rfl rfl (Nat.le_of_ble_eq_true rfl) rfl ?_
    refine am_goto rfl ?_
    have H := Option.some.inj H
    subst H
    exact am_drop (L' := [some (.ref 159), some (.int (g 159 8)), some (.int (x1 + (1 : Int32)))]) (And.intro rfl (And.intro rfl (And.intro rfl trivial))) K
def f_X9_tournament  (g : G) : Option (Int32 × G) := if (g 159 8) = (4 : Int32) then some (((-4 : Int32), g)) else bd2 (f_X9_another  g) fun r2 g3 => some ((r2, g3))
set_option maxHeartbeats 4000000 in
set_option maxRecDepth 100000 in
theorem y_X9_tournament   (g : G) (q : Int32 × G) {post : Int32 → G → Prop} (H : f_X9_tournament  g = some q) (K : post q.1 q.2) : Y m_X9_tournament 2 [.ref 159] g post := by
  refine Y_of ok_X9_tournament pn_9 rfl (by decide) (Or.inr (Or.inl rfl)) (List.forall_mem_cons.mpr ⟨rfl, (fun _ h => absurd h List.not_mem_nil)⟩) (Nat.le_of_ble_eq_true rfl) ?_
  show u_V m_X9_tournament 2 post 0 [some (.ref 159)] [] g
  unfold f_X9_tournament at H
  refine am_aload_n rfl rfl ?_
  refine u_getI f_9_105 rfl (Nat.le_of_ble_eq_true rfl) rfl rfl ?_
  refine x_iconst (v := (4 : Int32)) rfl (by decide) ?_
  refine am_icmp_ne rfl (fun c1 => ?_) (fun c1 => ?_)
  · have H := it_neg c1 H
    refine am_aload_n rfl rfl ?_
    obtain ⟨r2, g3, H1, H⟩ := bd2_some H
    refine cv0i v_9_136 rfl rfl (Nat.le_of_ble_eq_true rfl) rfl (Nat.le_of_ble_eq_true rfl) (fun _ _ => Nat.le_of_ble_eq_true rfl) (y_X9_another  g _ H1 ?_)
    have H := Option.some.inj H
    subst H
    exact u_iret rfl rfl K
  · have H := it_pos c1 H
    refine x_bipush (v := (-4 : Int32)) rfl (by decide) ?_
    refine am_goto rfl ?_
    have H := Option.some.inj H
    subst H
    exact u_iret rfl rfl K
def f_X9_placeOf (a1 : Int32) (a2 : Int32) (g : G) : Option (Int32 × G) := bd (lp (fun (s3 : Int32 × G) => (bd2 (f_X9_cell a1 (0 : Int32) s3.2) fun r6 g7 => if r6 ≤ s3.1 then some (.inr (.inl (g7))) else bd2 (f_X9_cell a1 ((1 : Int32) + s3.1) g7) fun r9 g10 => if r9 = a2 then some (.inr (.inr ((s3.1, g10)))) else some (.inl ((s3.1 + (1 : Int32)), g10)) : Option ((Int32 × G) ⊕ ((G) ⊕ (Int32 × G))))) 2000 ((0 : Int32), g)) fun s12m => (match s12m with | .inl s5 => (some (((-1 : Int32), s5))) | .inr y => some y)
set_option maxHeartbeats 4000000 in
set_option maxRecDepth 100000 in
theorem y_X9_placeOf (a1 : Int32) (a2 : Int32)  (g : G) (q : Int32 × G) {post : Int32 → G → Prop} (H : f_X9_placeOf a1 a2 g = some q) (K : post q.1 q.2) : Y m_X9_placeOf 1 [.ref 159, .int a1, .int a2] g post := by
  refine Y_of ok_X9_placeOf pn_9 rfl (by decide) (Or.inr (Or.inl rfl)) (List.forall_mem_cons.mpr ⟨rfl, (List.forall_mem_cons.mpr ⟨rfl, (List.forall_mem_cons.mpr ⟨rfl, (fun _ h => absurd h List.not_mem_nil)⟩)⟩)⟩) (Nat.le_of_ble_eq_true rfl) ?_
  show u_V m_X9_placeOf 1 post 0 [some (.ref 159), some (.int a1), some (.int a2), none] [] g
  unfold f_X9_placeOf at H
  refine x_iconst (v := (0 : Int32)) rfl (by decide) ?_
  refine am_istore_n rfl (Nat.le_of_ble_eq_true rfl) ?_
  obtain ⟨s12, H1, H⟩ := bd_some H
  have K2 : (Sum.elim (fun (s5 : G) => u_V m_X9_placeOf 1 post 32 [none, none, none, none] [] s5) (fun (q : Int32 × G) => post q.1 q.2)) s12 := by
    clear H1
    cases s12 with
    | inl s5 =>
      obtain ⟨g4, e_g4⟩ : ∃ z, z = s5 := ⟨_, rfl⟩
      subst e_g4
      (try dsimp only at H); (try dsimp only)
      refine x_iconst (v := (-1 : Int32)) rfl (by decide) ?_
      have H := Option.some.inj H
      subst H
      exact u_iret rfl rfl K
    | inr y =>
      have H := Option.some.inj H
      subst H
      exact K
  refine am_drop (L' := [some (.ref 159), some (.int a1), some (.int a2), some (.int (0 : Int32))]) (And.intro rfl (And.intro rfl (And.intro rfl (And.intro rfl trivial)))) ?_
  refine lp_ind (P := (fun (s3 : Int32 × G) => u_V m_X9_placeOf 1 post 2 [some (.ref 159), some (.int a1), some (.int a2), some (.int s3.1)] [] s3.2)) (Q := (Sum.elim (fun (s5 : G) => u_V m_X9_placeOf 1 post 32 [none, none, none, none] [] s5) (fun (q : Int32 × G) => post q.1 q.2))) ?_ 2000 ((0 : Int32), g) s12 H1 K2
  clear H1 H K
  intro s3 s12b H K
  obtain ⟨x1, g2⟩ := s3
  (try dsimp only at H); (try dsimp only)
  refine am_iload_n rfl rfl ?_
  refine am_aload_n rfl rfl ?_
  refine am_iload_n rfl rfl ?_
  refine x_iconst (v := (0 : Int32)) rfl (by decide) ?_
  obtain ⟨r6, g7, H1, H⟩ := bd2_some H
  refine cv2i v_9_140 rfl rfl (Nat.le_of_ble_eq_true rfl) rfl (Nat.le_of_ble_eq_true rfl) (fun _ _ => Nat.le_of_ble_eq_true rfl) (y_X9_cell a1 (0 : Int32) g2 _ H1 ?_)
  refine am_icmp_ge rfl (fun c8 => ?_) (fun c8 => ?_)
  · have H := it_pos c8 H
    have H := Option.some.inj H
    subst H
    exact am_drop (L' := [none, none, none, none]) trivial K
  · have H := it_neg c8 H
    refine am_aload_n rfl rfl ?_
    refine am_iload_n rfl rfl ?_
    refine x_iconst (v := (1 : Int32)) rfl (by decide) ?_
    refine am_iload_n rfl rfl ?_
    refine am_iadd rfl ?_
    obtain ⟨r9, g10, H1, H⟩ := bd2_some H
    refine cv2i v_9_140 rfl rfl (Nat.le_of_ble_eq_true rfl) rfl (Nat.le_of_ble_eq_true rfl) (fun _ _ => Nat.le_of_ble_eq_true rfl) (y_X9_cell a1 ((1 : Int32) + x1) g7 _ H1 ?_)
    refine am_iload_n rfl rfl ?_
    refine am_icmp_ne rfl (fun c11 => ?_) (fun c11 => ?_)
    · have H := it_neg c11 H
      refine x_iinc (v := (x1 + (1 : Int32))) rfl rfl (Nat.le_of_ble_eq_true rfl) rfl ?_
      refine am_goto rfl ?_
      have H := Option.some.inj H
      subst H
      exact am_drop (L' := [some (.ref 159), some (.int a1), some (.int a2), some (.int (x1 + (1 : Int32)))]) (And.intro rfl (And.intro rfl (And.intro rfl (And.intro rfl trivial)))) K
    · have H := it_pos c11 H
      refine am_iload_n rfl rfl ?_
      have H := Option.some.inj H
      subst H
      exact u_iret rfl rfl K
def f_X9_enter (a1 : Int32) (a2 : Int32) (g : G) : Option (Int32 × G) := bd2 (f_X9_isTournament a1 g) fun r1 g2 => if r1 = 0 then some (((-2 : Int32), g2)) else bd2 (f_X9_isPlayer a2 g2) fun r4 g5 => if r4 = 0 then some (((-2 : Int32), g5)) else bd2 (f_X9_placeOf a1 a2 g5) fun r7 g8 => if r7 = (-1 : Int32) then bd2 (f_X9_cell a1 (25 : Int32) g8) fun r10 g11 => if r10 ≤ 0 then bd2 (f_X9_cell a1 (0 : Int32) g11) fun r13 g14 => if r13 = (10 : Int32) then some (((-4 : Int32), g14)) else ck a2 24 fun j16 => if (g14 161 j16) = (4 : Int32) then bd2 (f_X9_meets (3 : Int32) g14) fun r28 g29 => some ((r28, g29)) else bd2 (f_X9_cell a1 (0 : Int32) g14) fun r18 g19 => bd2 (f_X9_lay a1 ((1 : Int32) + r18) a2 g19) fun r20 g21 => bd2 (f_X9_cell a1 (0 : Int32) g21) fun r22 g23 => bd2 (f_X9_lay a1 (0 : Int32) (r22 + (1 : Int32)) g23) fun r24 g25 => bd2 (f_X9_cell a1 (0 : Int32) g25) fun r26 g27 => some ((r26, g27)) else some (((-3 : Int32), g11)) else some (((-3 : Int32), g8))
set_option maxHeartbeats 4000000 in
set_option maxRecDepth 100000 in
theorem y_X9_enter (a1 : Int32) (a2 : Int32)  (g : G) (q : Int32 × G) {post : Int32 → G → Prop} (H : f_X9_enter a1 a2 g = some q) (K : post q.1 q.2) : Y m_X9_enter 2 [.ref 159, .int a1, .int a2] g post := by
  refine Y_of ok_X9_enter pn_9 rfl (by decide) (Or.inr (Or.inl rfl)) (List.forall_mem_cons.mpr ⟨rfl, (List.forall_mem_cons.mpr ⟨rfl, (List.forall_mem_cons.mpr ⟨rfl, (fun _ h => absurd h List.not_mem_nil)⟩)⟩)⟩) (Nat.le_of_ble_eq_true rfl) ?_
  show u_V m_X9_enter 2 post 0 [some (.ref 159), some (.int a1), some (.int a2)] [] g
  unfold f_X9_enter at H
  refine am_aload_n rfl rfl ?_
  refine am_iload_n rfl rfl ?_
  obtain ⟨r1, g2, H1, H⟩ := bd2_some H
  refine cv1i v_9_144 rfl rfl (Nat.le_of_ble_eq_true rfl) rfl (Nat.le_of_ble_eq_true rfl) (fun _ _ => Nat.le_of_ble_eq_true rfl) (y_X9_isTournament a1 g _ H1 ?_)
  refine am_if_eq rfl (fun c3 => ?_) (fun c3 => ?_)
  · have H := it_pos c3 H
    refine x_bipush (v := (-2 : Int32)) rfl (by decide) ?_
    have H := Option.some.inj H
    subst H
    exact u_iret rfl rfl K
  · have H := it_neg c3 H
    refine am_aload_n rfl rfl ?_
    refine am_iload_n rfl rfl ?_
    obtain ⟨r4, g5, H1, H⟩ := bd2_some H
    refine cv1i v_9_108 rfl rfl (Nat.le_of_ble_eq_true rfl) rfl (Nat.le_of_ble_eq_true rfl) (fun _ _ => Nat.le_of_ble_eq_true rfl) (y_X9_isPlayer a2 g2 _ H1 ?_)
    refine am_if_ne rfl (fun c6 => ?_) (fun c6 => ?_)
    · have H := it_neg c6 H
      refine am_aload_n rfl rfl ?_
      refine am_iload_n rfl rfl ?_
      refine am_iload_n rfl rfl ?_
      obtain ⟨r7, g8, H1, H⟩ := bd2_some H
      refine cv2i v_9_147 rfl rfl (Nat.le_of_ble_eq_true rfl) rfl (Nat.le_of_ble_eq_true rfl) (fun _ _ => Nat.le_of_ble_eq_true rfl) (y_X9_placeOf a1 a2 g5 _ H1 ?_)
      refine x_iconst (v := (-1 : Int32)) rfl (by decide) ?_
      refine am_icmp_ne rfl (fun c9 => ?_) (fun c9 => ?_)
      · have H := it_neg c9 H
        refine x_bipush (v := (-3 : Int32)) rfl (by decide) ?_
        have H := Option.some.inj H
        subst H
        exact u_iret rfl rfl K
      · have H := it_pos c9 H
        refine am_aload_n rfl rfl ?_
        refine am_iload_n rfl rfl ?_
        refine x_bipush (v := (25 : Int32)) rfl (by decide) ?_
        obtain ⟨r10, g11, H1, H⟩ := bd2_some H
        refine cv2i v_9_140 rfl rfl (Nat.le_of_ble_eq_true rfl) rfl (Nat.le_of_ble_eq_true rfl) (fun _ _ => Nat.le_of_ble_eq_true rfl) (y_X9_cell a1 (25 : Int32) g8 _ H1 ?_)
        refine am_if_le rfl (fun c12 => ?_) (fun c12 => ?_)
        · have H := it_pos c12 H
          refine am_aload_n rfl rfl ?_
          refine am_iload_n rfl rfl ?_
          refine x_iconst (v := (0 : Int32)) rfl (by decide) ?_
          obtain ⟨r13, g14, H1, H⟩ := bd2_some H
          refine cv2i v_9_140 rfl rfl (Nat.le_of_ble_eq_true rfl) rfl (Nat.le_of_ble_eq_true rfl) (fun _ _ => Nat.le_of_ble_eq_true rfl) (y_X9_cell a1 (0 : Int32) g11 _ H1 ?_)
          refine x_bipush (v := (10 : Int32)) rfl (by decide) ?_
          refine am_icmp_ne rfl (fun c15 => ?_) (fun c15 => ?_)
          · have H := it_neg c15 H
            refine am_aload_n rfl rfl ?_
            refine u_getR f_9_13 rfl (Nat.le_of_ble_eq_true rfl) rfl rfl ?_
            refine am_iload_n rfl rfl ?_
            obtain ⟨j16, ej16, hj16, H⟩ := ck_some H
            refine x_iald rfl (Nat.le_of_ble_eq_true rfl) rfl hj16 ej16 ?_
            refine x_iconst (v := (4 : Int32)) rfl (by decide) ?_
            refine am_icmp_ne rfl (fun c17 => ?_) (fun c17 => ?_)
            · have H := it_neg c17 H
              refine am_aload_n rfl rfl ?_
              refine am_iload_n rfl rfl ?_
              refine x_iconst (v := (1 : Int32)) rfl (by decide) ?_
              refine am_aload_n rfl rfl ?_
              refine am_iload_n rfl rfl ?_
              refine x_iconst (v := (0 : Int32)) rfl (by decide) ?_
              obtain ⟨r18, g19, H1, H⟩ := bd2_some H
              refine cv2i v_9_140 rfl rfl (Nat.le_of_ble_eq_true rfl) rfl (Nat.le_of_ble_eq_true rfl) (fun _ _ => Nat.le_of_ble_eq_true rfl) (y_X9_cell a1 (0 : Int32) g14 _ H1 ?_)
              refine am_iadd rfl ?_
              refine am_iload_n rfl rfl ?_
              obtain ⟨r20, g21, H1, H⟩ := bd2_some H
              refine cv3v v_9_129 rfl rfl (Nat.le_of_ble_eq_true rfl) rfl (Nat.le_of_ble_eq_true rfl) (fun _ _ => Nat.le_of_ble_eq_true rfl) (y_X9_lay a1 ((1 : Int32) + r18) a2 g19 _ H1 ?_)
              refine am_aload_n rfl rfl ?_
              refine am_iload_n rfl rfl ?_
              refine x_iconst (v := (0 : Int32)) rfl (by decide) ?_
              refine am_aload_n rfl rfl ?_
              refine am_iload_n rfl rfl ?_
              refine x_iconst (v := (0 : Int32)) rfl (by decide) ?_
              obtain ⟨r22, g23, H1, H⟩ := bd2_some H
              refine cv2i v_9_140 rfl rfl (Nat.le_of_ble_eq_true rfl) rfl (Nat.le_of_ble_eq_true rfl) (fun _ _ => Nat.le_of_ble_eq_true rfl) (y_X9_cell a1 (0 : Int32) g21 _ H1 ?_)
              refine x_iconst (v := (1 : Int32)) rfl (by decide) ?_
              refine am_iadd rfl ?_
              obtain ⟨r24, g25, H1, H⟩ := bd2_some H
              refine cv3v v_9_129 rfl rfl (Nat.le_of_ble_eq_true rfl) rfl (Nat.le_of_ble_eq_true rfl) (fun _ _ => Nat.le_of_ble_eq_true rfl) (y_X9_lay a1 (0 : Int32) (r22 + (1 : Int32)) g23 _ H1 ?_)
              refine am_aload_n rfl rfl ?_
              refine am_iload_n rfl rfl ?_
              refine x_iconst (v := (0 : Int32)) rfl (by decide) ?_
              obtain ⟨r26, g27, H1, H⟩ := bd2_some H
              refine cv2i v_9_140 rfl rfl (Nat.le_of_ble_eq_true rfl) rfl (Nat.le_of_ble_eq_true rfl) (fun _ _ => Nat.le_of_ble_eq_true rfl) (y_X9_cell a1 (0 : Int32) g25 _ H1 ?_)
              have H := Option.some.inj H
              subst H
              exact u_iret rfl rfl K
            · have H := it_pos c17 H
              refine am_aload_n rfl rfl ?_
              refine x_iconst (v := (3 : Int32)) rfl (by decide) ?_
              obtain ⟨r28, g29, H1, H⟩ := bd2_some H
              refine cv1i v_9_112 rfl rfl (Nat.le_of_ble_eq_true rfl) rfl (Nat.le_of_ble_eq_true rfl) (fun _ _ => Nat.le_of_ble_eq_true rfl) (y_X9_meets (3 : Int32) g14 _ H1 ?_)
              have H := Option.some.inj H
              subst H
              exact u_iret rfl rfl K
          · have H := it_pos c15 H
            refine x_bipush (v := (-4 : Int32)) rfl (by decide) ?_
            have H := Option.some.inj H
            subst H
            exact u_iret rfl rfl K
        · have H := it_neg c12 H
          refine x_bipush (v := (-3 : Int32)) rfl (by decide) ?_
          have H := Option.some.inj H
          subst H
          exact u_iret rfl rfl K
    · have H := it_pos c6 H
      refine x_bipush (v := (-2 : Int32)) rfl (by decide) ?_
      have H := Option.some.inj H
      subst H
      exact u_iret rfl rfl K
def f_X9_withdraw (a1 : Int32) (a2 : Int32) (g : G) : Option (Int32 × G) := bd2 (f_X9_isTournament a1 g) fun r1 g2 => if r1 = 0 then some (((-2 : Int32), g2)) else bd2 (f_X9_isPlayer a2 g2) fun r4 g5 => if r4 = 0 then some (((-2 : Int32), g5)) else bd2 (f_X9_placeOf a1 a2 g5) fun r7 g8 => if r7 = (-1 : Int32) then some (((-3 : Int32), g8)) else bd2 (f_X9_cell a1 ((11 : Int32) + r7) g8) fun r10 g11 => if r10 = (1 : Int32) then some (((-3 : Int32), g11)) else bd2 (f_X9_lay a1 ((11 : Int32) + r7) (1 : Int32) g11) fun r13 g14 => some (((1 : Int32), g14))
set_option maxHeartbeats 4000000 in
set_option maxRecDepth 100000 in
theorem y_X9_withdraw (a1 : Int32) (a2 : Int32)  (g : G) (q : Int32 × G) {post : Int32 → G → Prop} (H : f_X9_withdraw a1 a2 g = some q) (K : post q.1 q.2) : Y m_X9_withdraw 2 [.ref 159, .int a1, .int a2] g post := by
  refine Y_of ok_X9_withdraw pn_9 rfl (by decide) (Or.inr (Or.inl rfl)) (List.forall_mem_cons.mpr ⟨rfl, (List.forall_mem_cons.mpr ⟨rfl, (List.forall_mem_cons.mpr ⟨rfl, (fun _ h => absurd h List.not_mem_nil)⟩)⟩)⟩) (Nat.le_of_ble_eq_true rfl) ?_
  show u_V m_X9_withdraw 2 post 0 [some (.ref 159), some (.int a1), some (.int a2), none] [] g
  unfold f_X9_withdraw at H
  refine am_aload_n rfl rfl ?_
  refine am_iload_n rfl rfl ?_
  obtain ⟨r1, g2, H1, H⟩ := bd2_some H
  refine cv1i v_9_144 rfl rfl (Nat.le_of_ble_eq_true rfl) rfl (Nat.le_of_ble_eq_true rfl) (fun _ _ => Nat.le_of_ble_eq_true rfl) (y_X9_isTournament a1 g _ H1 ?_)
  refine am_if_eq rfl (fun c3 => ?_) (fun c3 => ?_)
  · have H := it_pos c3 H
    refine x_bipush (v := (-2 : Int32)) rfl (by decide) ?_
    have H := Option.some.inj H
    subst H
    exact u_iret rfl rfl K
  · have H := it_neg c3 H
    refine am_aload_n rfl rfl ?_
    refine am_iload_n rfl rfl ?_
    obtain ⟨r4, g5, H1, H⟩ := bd2_some H
    refine cv1i v_9_108 rfl rfl (Nat.le_of_ble_eq_true rfl) rfl (Nat.le_of_ble_eq_true rfl) (fun _ _ => Nat.le_of_ble_eq_true rfl) (y_X9_isPlayer a2 g2 _ H1 ?_)
    refine am_if_ne rfl (fun c6 => ?_) (fun c6 => ?_)
    · have H := it_neg c6 H
      refine am_aload_n rfl rfl ?_
      refine am_iload_n rfl rfl ?_
      refine am_iload_n rfl rfl ?_
      obtain ⟨r7, g8, H1, H⟩ := bd2_some H
      refine cv2i v_9_147 rfl rfl (Nat.le_of_ble_eq_true rfl) rfl (Nat.le_of_ble_eq_true rfl) (fun _ _ => Nat.le_of_ble_eq_true rfl) (y_X9_placeOf a1 a2 g5 _ H1 ?_)
      refine am_istore_n rfl (Nat.le_of_ble_eq_true rfl) ?_
      refine am_iload_n rfl rfl ?_
      refine x_iconst (v := (-1 : Int32)) rfl (by decide) ?_
      refine am_icmp_eq rfl (fun c9 => ?_) (fun c9 => ?_)
      · have H := it_pos c9 H
        refine x_bipush (v := (-3 : Int32)) rfl (by decide) ?_
        have H := Option.some.inj H
        subst H
        exact u_iret rfl rfl K
      · have H := it_neg c9 H
        refine am_aload_n rfl rfl ?_
        refine am_iload_n rfl rfl ?_
        refine x_bipush (v := (11 : Int32)) rfl (by decide) ?_
        refine am_iload_n rfl rfl ?_
        refine am_iadd rfl ?_
        obtain ⟨r10, g11, H1, H⟩ := bd2_some H
        refine cv2i v_9_140 rfl rfl (Nat.le_of_ble_eq_true rfl) rfl (Nat.le_of_ble_eq_true rfl) (fun _ _ => Nat.le_of_ble_eq_true rfl) (y_X9_cell a1 ((11 : Int32) + r7) g8 _ H1 ?_)
        refine x_iconst (v := (1 : Int32)) rfl (by decide) ?_
        refine am_icmp_ne rfl (fun c12 => ?_) (fun c12 => ?_)
        · have H := it_neg c12 H
          refine am_aload_n rfl rfl ?_
          refine am_iload_n rfl rfl ?_
          refine x_bipush (v := (11 : Int32)) rfl (by decide) ?_
          refine am_iload_n rfl rfl ?_
          refine am_iadd rfl ?_
          refine x_iconst (v := (1 : Int32)) rfl (by decide) ?_
          obtain ⟨r13, g14, H1, H⟩ := bd2_some H
          refine cv3v v_9_129 rfl rfl (Nat.le_of_ble_eq_true rfl) rfl (Nat.le_of_ble_eq_true rfl) (fun _ _ => Nat.le_of_ble_eq_true rfl) (y_X9_lay a1 ((11 : Int32) + r7) (1 : Int32) g11 _ H1 ?_)
          refine x_iconst (v := (1 : Int32)) rfl (by decide) ?_
          have H := Option.some.inj H
          subst H
          exact u_iret rfl rfl K
        · have H := it_pos c12 H
          refine x_bipush (v := (-3 : Int32)) rfl (by decide) ?_
          have H := Option.some.inj H
          subst H
          exact u_iret rfl rfl K
    · have H := it_pos c6 H
      refine x_bipush (v := (-2 : Int32)) rfl (by decide) ?_
      have H := Option.some.inj H
      subst H
      exact u_iret rfl rfl K
def f_X9_rule (a1 : Int32) (a2 : Int32) (a3 : Int32) (g : G) : Option (Int32 × G) := bd2 (f_X9_isTournament a1 g) fun r1 g2 => if r1 = 0 then some (((-2 : Int32), g2)) else bd2 (f_X9_in a2 (1 : Int32) (4 : Int32) g2) fun r4 g5 => if r4 = 0 then some (((-2 : Int32), g5)) else bd2 (f_X9_in a3 (0 : Int32) (5 : Int32) g5) fun r7 g8 => if r7 = 0 then some (((-2 : Int32), g8)) else bd2 (f_X9_cell a1 (((21 : Int32) + a2) - (1 : Int32)) g8) fun r10 g11 => bd2 (f_X9_lay a1 (((21 : Int32) + a2) - (1 : Int32)) a3 g11) fun r12 g13 => some ((r10, g13))
set_option maxHeartbeats 4000000 in
set_option maxRecDepth 100000 in
theorem y_X9_rule (a1 : Int32) (a2 : Int32) (a3 : Int32)  (g : G) (q : Int32 × G) {post : Int32 → G → Prop} (H : f_X9_rule a1 a2 a3 g = some q) (K : post q.1 q.2) : Y m_X9_rule 2 [.ref 159, .int a1, .int a2, .int a3] g post := by
  refine Y_of ok_X9_rule pn_9 rfl (by decide) (Or.inr (Or.inl rfl)) (List.forall_mem_cons.mpr ⟨rfl, (List.forall_mem_cons.mpr ⟨rfl, (List.forall_mem_cons.mpr ⟨rfl, (List.forall_mem_cons.mpr ⟨rfl, (fun _ h => absurd h List.not_mem_nil)⟩)⟩)⟩)⟩) (Nat.le_of_ble_eq_true rfl) ?_
  show u_V m_X9_rule 2 post 0 [some (.ref 159), some (.int a1), some (.int a2), some (.int a3), none] [] g
  unfold f_X9_rule at H
  refine am_aload_n rfl rfl ?_
  refine am_iload_n rfl rfl ?_
  obtain ⟨r1, g2, H1, H⟩ := bd2_some H
  refine cv1i v_9_144 rfl rfl (Nat.le_of_ble_eq_true rfl) rfl (Nat.le_of_ble_eq_true rfl) (fun _ _ => Nat.le_of_ble_eq_true rfl) (y_X9_isTournament a1 g _ H1 ?_)
  refine am_if_eq rfl (fun c3 => ?_) (fun c3 => ?_)
  · have H := it_pos c3 H
    refine x_bipush (v := (-2 : Int32)) rfl (by decide) ?_
    have H := Option.some.inj H
    subst H
    exact u_iret rfl rfl K
  · have H := it_neg c3 H
    refine am_iload_n rfl rfl ?_
    refine x_iconst (v := (1 : Int32)) rfl (by decide) ?_
    refine x_iconst (v := (4 : Int32)) rfl (by decide) ?_
    obtain ⟨r4, g5, H1, H⟩ := bd2_some H
    refine cs3i s_9_101 rfl rfl (Nat.le_of_ble_eq_true rfl) (fun _ _ => Nat.le_of_ble_eq_true rfl) (y_X9_in a2 (1 : Int32) (4 : Int32) g2 _ H1 ?_)
    refine am_if_eq rfl (fun c6 => ?_) (fun c6 => ?_)
    · have H := it_pos c6 H
      refine x_bipush (v := (-2 : Int32)) rfl (by decide) ?_
      have H := Option.some.inj H
      subst H
      exact u_iret rfl rfl K
    · have H := it_neg c6 H
      refine am_iload_n rfl rfl ?_
      refine x_iconst (v := (0 : Int32)) rfl (by decide) ?_
      refine x_iconst (v := (5 : Int32)) rfl (by decide) ?_
      obtain ⟨r7, g8, H1, H⟩ := bd2_some H
      refine cs3i s_9_101 rfl rfl (Nat.le_of_ble_eq_true rfl) (fun _ _ => Nat.le_of_ble_eq_true rfl) (y_X9_in a3 (0 : Int32) (5 : Int32) g5 _ H1 ?_)
      refine am_if_ne rfl (fun c9 => ?_) (fun c9 => ?_)
      · have H := it_neg c9 H
        refine am_aload_n rfl rfl ?_
        refine am_iload_n rfl rfl ?_
        refine x_bipush (v := (21 : Int32)) rfl (by decide) ?_
        refine am_iload_n rfl rfl ?_
        refine am_iadd rfl ?_
        refine x_iconst (v := (1 : Int32)) rfl (by decide) ?_
        refine am_isub rfl ?_
        obtain ⟨r10, g11, H1, H⟩ := bd2_some H
        refine cv2i v_9_140 rfl rfl (Nat.le_of_ble_eq_true rfl) rfl (Nat.le_of_ble_eq_true rfl) (fun _ _ => Nat.le_of_ble_eq_true rfl) (y_X9_cell a1 (((21 : Int32) + a2) - (1 : Int32)) g8 _ H1 ?_)
        refine am_istore rfl (Nat.le_of_ble_eq_true rfl) ?_
        refine am_aload_n rfl rfl ?_
        refine am_iload_n rfl rfl ?_
        refine x_bipush (v := (21 : Int32)) rfl (by decide) ?_
        refine am_iload_n rfl rfl ?_
        refine am_iadd rfl ?_
        refine x_iconst (v := (1 : Int32)) rfl (by decide) ?_
        refine am_isub rfl ?_
        refine am_iload_n rfl rfl ?_
        obtain ⟨r12, g13, H1, H⟩ := bd2_some H
        refine cv3v v_9_129 rfl rfl (Nat.le_of_ble_eq_true rfl) rfl (Nat.le_of_ble_eq_true rfl) (fun _ _ => Nat.le_of_ble_eq_true rfl) (y_X9_lay a1 (((21 : Int32) + a2) - (1 : Int32)) a3 g11 _ H1 ?_)
        refine am_iload rfl rfl ?_
        have H := Option.some.inj H
        subst H
        exact u_iret rfl rfl K
      · have H := it_pos c9 H
        refine x_bipush (v := (-2 : Int32)) rfl (by decide) ?_
        have H := Option.some.inj H
        subst H
        exact u_iret rfl rfl K
def f_X9_entryOf (a1 : Int32) (a2 : Int32) (a3 : Int32) (g : G) : Option (Int32 × G) := bd (lp (fun (s4 : Int32 × Int32 × G) => (bd2 (f_X9_cell a1 (110 : Int32) s4.2.2) fun r8 g9 => if r8 ≤ s4.2.1 then some (.inr (s4.1, g9)) else bd2 (f_X9_cell a1 ((291 : Int32) + s4.2.1) g9) fun r11 g12 => bd2 (f_X9_cell a1 ((351 : Int32) + s4.2.1) g12) fun r13 g14 => bd2 (f_X9_cell a1 ((111 : Int32) + s4.2.1) g14) fun r15 g16 => bd ((if r15 = a2 then if a3 < r11 then some (.inl (s4.1, s4.2.1, g16)) else bd ((if r13 = 0 then some (.inl ()) else if (r13 - (1 : Int32)) ≤ a3 then some (.inr (.inl (s4.1, s4.2.1, g16))) else some (.inl ()) : Option ((Unit) ⊕ ((Int32 × Int32 × G) ⊕ ((Int32 × Int32 × G) ⊕ (Int32 × G)))))) fun s50m => (match s50m with | .inl _ => (bd ((if (1 : Int32) = 0 then some ((s4.1, g16)) else bd ((if s4.1 = (-1 : Int32) then some (.inl (g16)) else bd2 (f_X9_cell a1 ((291 : Int32) + s4.1) g16) fun r43 g44 => if r11 < r43 then some (.inr ((s4.1, g44))) else some (.inl (g44)) : Option ((G) ⊕ (Int32 × G)))) fun s46m => (match s46m with | .inl s41 => (some ((s4.2.1, s41))) | .inr y => some y) : Option (Int32 × G))) fun (s38 : Int32 × G) => some (.inr (.inl (s38.1, (s4.2.1 + (1 : Int32)), s38.2)))) | .inr y => some y) else some (.inl (s4.1, s4.2.1, g16)) : Option ((Int32 × Int32 × G) ⊕ ((Int32 × Int32 × G) ⊕ (Int32 × G))))) fun s51m => (match s51m with | .inl s20 => (bd ((if (0 : Int32) = 0 then some ((s20.1, s20.2.2)) else bd ((if s20.1 = (-1 : Int32) then some (.inl (s20.2.2)) else bd2 (f_X9_cell a1 ((291 : Int32) + s20.1) s20.2.2) fun r28 g29 => if r11 < r28 then some (.inr ((s20.1, g29))) else some (.inl (g29)) : Option ((G) ⊕ (Int32 × G)))) fun s31m => (match s31m with | .inl s26 => (some ((s20.2.1, s26))) | .inr y => some y) : Option (Int32 × G))) fun (s23 : Int32 × G) => some (.inl (s23.1, (s20.2.1 + (1 : Int32)), s23.2))) | .inr y => some y) : Option ((Int32 × Int32 × G) ⊕ (Int32 × G)))) 2000 ((-1 : Int32), (0 : Int32), g)) fun (s7 : Int32 × G) => some ((s7.1, s7.2))
set_option maxHeartbeats 4000000 in
set_option maxRecDepth 100000 in
theorem y_X9_entryOf (a1 : Int32) (a2 : Int32) (a3 : Int32)  (g : G) (q : Int32 × G) {post : Int32 → G → Prop} (H : f_X9_entryOf a1 a2 a3 g = some q) (K : post q.1 q.2) : Y m_X9_entryOf 1 [.ref 159, .int a1, .int a2, .int a3] g post := by
  refine Y_of ok_X9_entryOf pn_9 rfl (by decide) (Or.inr (Or.inl rfl)) (List.forall_mem_cons.mpr ⟨rfl, (List.forall_mem_cons.mpr ⟨rfl, (List.forall_mem_cons.mpr ⟨rfl, (List.forall_mem_cons.mpr ⟨rfl, (fun _ h => absurd h List.not_mem_nil)⟩)⟩)⟩)⟩) (Nat.le_of_ble_eq_true rfl) ?_
  show u_V m_X9_entryOf 1 post 0 [some (.ref 159), some (.int a1), some (.int a2), some (.int a3), none, none, none, none, none] [] g
  unfold f_X9_entryOf at H
  refine x_iconst (v := (-1 : Int32)) rfl (by decide) ?_
  refine am_istore rfl (Nat.le_of_ble_eq_true rfl) ?_
  refine x_iconst (v := (0 : Int32)) rfl (by decide) ?_
  refine am_istore rfl (Nat.le_of_ble_eq_true rfl) ?_
  obtain ⟨s52, H1, H⟩ := bd_some H
  have K2 : (fun (s7 : Int32 × G) => u_V m_X9_entryOf 1 post 121 [none, none, none, none, some (.int s7.1), none, none, none, none] [] s7.2) s52 := by
    clear H1
    obtain ⟨x5, g6⟩ := s52
    (try dsimp only at H); (try dsimp only)
    refine am_iload rfl rfl ?_
    have H := Option.some.inj H
    subst H
    exact u_iret rfl rfl K
  refine am_drop (L' := [some (.ref 159), some (.int a1), some (.int a2), some (.int a3), some (.int (-1 : Int32)), some (.int (0 : Int32)), none, none, none]) (And.intro rfl (And.intro rfl (And.intro rfl (And.intro rfl (And.intro rfl (And.intro rfl trivial)))))) ?_
  refine lp_ind (P := (fun (s4 : Int32 × Int32 × G) => u_V m_X9_entryOf 1 post 6 [some (.ref 159), some (.int a1), some (.int a2), some (.int a3), some (.int s4.1), some (.int s4.2.1), none, none, none] [] s4.2.2)) (Q := (fun (s7 : Int32 × G) => u_V m_X9_entryOf 1 post 121 [none, none, none, none, some (.int s7.1), none, none, none, none] [] s7.2)) ?_ 2000 ((-1 : Int32), (0 : Int32), g) s52 H1 K2
  clear H1 H K
  intro s4 s52b H K
  obtain ⟨x1, x2, g3⟩ := s4
  (try dsimp only at H); (try dsimp only)
  refine am_iload rfl rfl ?_
  refine am_aload_n rfl rfl ?_
  refine am_iload_n rfl rfl ?_
  refine x_bipush (v := (110 : Int32)) rfl (by decide) ?_
  obtain ⟨r8, g9, H1, H⟩ := bd2_some H
  refine cv2i v_9_140 rfl rfl (Nat.le_of_ble_eq_true rfl) rfl (Nat.le_of_ble_eq_true rfl) (fun _ _ => Nat.le_of_ble_eq_true rfl) (y_X9_cell a1 (110 : Int32) g3 _ H1 ?_)
  refine am_icmp_ge rfl (fun c10 => ?_) (fun c10 => ?_)
  · have H := it_pos c10 H
    have H := Option.some.inj H
    subst H
    exact am_drop (L' := [none, none, none, none, some (.int x1), none, none, none, none]) (And.intro rfl trivial) K
  · have H := it_neg c10 H
    refine am_aload_n rfl rfl ?_
    refine am_iload_n rfl rfl ?_
    refine x_sipush (v := (291 : Int32)) rfl (by decide) ?_
    refine am_iload rfl rfl ?_
    refine am_iadd rfl ?_
    obtain ⟨r11, g12, H1, H⟩ := bd2_some H
    refine cv2i v_9_140 rfl rfl (Nat.le_of_ble_eq_true rfl) rfl (Nat.le_of_ble_eq_true rfl) (fun _ _ => Nat.le_of_ble_eq_true rfl) (y_X9_cell a1 ((291 : Int32) + x2) g9 _ H1 ?_)
    refine am_istore rfl (Nat.le_of_ble_eq_true rfl) ?_
    refine am_aload_n rfl rfl ?_
    refine am_iload_n rfl rfl ?_
    refine x_sipush (v := (351 : Int32)) rfl (by decide) ?_
    refine am_iload rfl rfl ?_
    refine am_iadd rfl ?_
    obtain ⟨r13, g14, H1, H⟩ := bd2_some H
    refine cv2i v_9_140 rfl rfl (Nat.le_of_ble_eq_true rfl) rfl (Nat.le_of_ble_eq_true rfl) (fun _ _ => Nat.le_of_ble_eq_true rfl) (y_X9_cell a1 ((351 : Int32) + x2) g12 _ H1 ?_)
    refine am_istore rfl (Nat.le_of_ble_eq_true rfl) ?_
    refine am_aload_n rfl rfl ?_
    refine am_iload_n rfl rfl ?_
    refine x_bipush (v := (111 : Int32)) rfl (by decide) ?_
    refine am_iload rfl rfl ?_
    refine am_iadd rfl ?_
    obtain ⟨r15, g16, H1, H⟩ := bd2_some H
    refine cv2i v_9_140 rfl rfl (Nat.le_of_ble_eq_true rfl) rfl (Nat.le_of_ble_eq_true rfl) (fun _ _ => Nat.le_of_ble_eq_true rfl) (y_X9_cell a1 ((111 : Int32) + x2) g14 _ H1 ?_)
    refine am_iload_n rfl rfl ?_
    obtain ⟨s51, H1, H⟩ := bd_some H
    have K : (Sum.elim (fun (s20 : Int32 × Int32 × G) => u_V m_X9_entryOf 1 post 81 [some (.ref 159), some (.int a1), some (.int a2), some (.int a3), some (.int s20.1), some (.int s20.2.1), some (.int r11), none, none] [] s20.2.2) (Sum.elim (fun (s4 : Int32 × Int32 × G) => u_V m_X9_entryOf 1 post 6 [some (.ref 159), some (.int a1), some (.int a2), some (.int a3), some (.int s4.1), some (.int s4.2.1), none, none, none] [] s4.2.2) (fun (s7 : Int32 × G) => u_V m_X9_entryOf 1 post 121 [none, none, none, none, some (.int s7.1), none, none, none, none] [] s7.2))) s51 := by
      clear H1
      cases s51 with
      | inl s20 =>
        obtain ⟨x17, x18, g19⟩ := s20
        (try dsimp only at H); (try dsimp only)
        refine x_iconst (v := (0 : Int32)) rfl (by decide) ?_
        refine am_istore rfl (Nat.le_of_ble_eq_true rfl) ?_
        refine am_iload rfl rfl ?_
        obtain ⟨s32, H1, H⟩ := bd_some H
        have K : (fun (s23 : Int32 × G) => u_V m_X9_entryOf 1 post 115 [some (.ref 159), some (.int a1), some (.int a2), some (.int a3), some (.int s23.1), some (.int x18), none, none, none] [] s23.2) s32 := by
          clear H1
          obtain ⟨x21, g22⟩ := s32
          (try dsimp only at H); (try dsimp only)
          refine x_iinc (v := (x18 + (1 : Int32))) rfl rfl (Nat.le_of_ble_eq_true rfl) rfl ?_
          refine am_goto rfl ?_
          have H := Option.some.inj H
          subst H
          exact am_drop (L' := [some (.ref 159), some (.int a1), some (.int a2), some (.int a3), some (.int x21), some (.int (x18 + (1 : Int32))), none, none, none]) (And.intro rfl (And.intro rfl (And.intro rfl (And.intro rfl (And.intro rfl (And.intro rfl trivial)))))) K
        have H := H1
        clear H1
        refine am_if_eq rfl (fun c24 => ?_) (fun c24 => ?_)
        · have H := it_pos c24 H
          have H := Option.some.inj H
          subst H
          exact am_drop (L' := [some (.ref 159), some (.int a1), some (.int a2), some (.int a3), some (.int x17), some (.int x18), none, none, none]) (And.intro rfl (And.intro rfl (And.intro rfl (And.intro rfl (And.intro rfl (And.intro rfl trivial)))))) K
        · have H := it_neg c24 H
          refine am_iload rfl rfl ?_
          refine x_iconst (v := (-1 : Int32)) rfl (by decide) ?_
          obtain ⟨s31, H1, H⟩ := bd_some H
          have K : (Sum.elim (fun (s26 : G) => u_V m_X9_entryOf 1 post 111 [some (.ref 159), some (.int a1), some (.int a2), some (.int a3), none, some (.int x18), none, none, none] [] s26) (fun (s23 : Int32 × G) => u_V m_X9_entryOf 1 post 115 [some (.ref 159), some (.int a1), some (.int a2), some (.int a3), some (.int s23.1), some (.int x18), none, none, none] [] s23.2)) s31 := by
            clear H1
            cases s31 with
            | inl s26 =>
              obtain ⟨g25, e_g25⟩ : ∃ z, z = s26 := ⟨_, rfl⟩
              subst e_g25
              (try dsimp only at H); (try dsimp only)
              refine am_iload rfl rfl ?_
              refine am_istore rfl (Nat.le_of_ble_eq_true rfl) ?_
              have H := Option.some.inj H
              subst H
              exact am_drop (L' := [some (.ref 159), some (.int a1), some (.int a2), some (.int a3), some (.int x18), some (.int x18), none, none, none]) (And.intro rfl (And.intro rfl (And.intro rfl (And.intro rfl (And.intro rfl (And.intro rfl trivial)))))) K
            | inr y =>
              have H := Option.some.inj H
              subst H
              exact K
          have H := H1
          clear H1
          refine am_icmp_eq rfl (fun c27 => ?_) (fun c27 => ?_)
          · have H := it_pos c27 H
            have H := Option.some.inj H
            subst H
            exact am_drop (L' := [some (.ref 159), some (.int a1), some (.int a2), some (.int a3), none, some (.int x18), none, none, none]) (And.intro rfl (And.intro rfl (And.intro rfl (And.intro rfl (And.intro rfl trivial))))) K
          · have H := it_neg c27 H
            refine am_iload rfl rfl ?_
            refine am_aload_n rfl rfl ?_
            refine am_iload_n rfl rfl ?_
            refine x_sipush (v := (291 : Int32)) rfl (by decide) ?_
            refine am_iload rfl rfl ?_
            refine am_iadd rfl ?_
            obtain ⟨r28, g29, H1, H⟩ := bd2_some H
            refine cv2i v_9_140 rfl rfl (Nat.le_of_ble_eq_true rfl) rfl (Nat.le_of_ble_eq_true rfl) (fun _ _ => Nat.le_of_ble_eq_true rfl) (y_X9_cell a1 ((291 : Int32) + x17) g19 _ H1 ?_)
            refine am_icmp_lt rfl (fun c30 => ?_) (fun c30 => ?_)
            · have H := it_pos c30 H
              have H := Option.some.inj H
              subst H
              exact am_drop (L' := [some (.ref 159), some (.int a1), some (.int a2), some (.int a3), some (.int x17), some (.int x18), none, none, none]) (And.intro rfl (And.intro rfl (And.intro rfl (And.intro rfl (And.intro rfl (And.intro rfl trivial)))))) K
            · have H := it_neg c30 H
              have H := Option.some.inj H
              subst H
              exact am_drop (L' := [some (.ref 159), some (.int a1), some (.int a2), some (.int a3), none, some (.int x18), none, none, none]) (And.intro rfl (And.intro rfl (And.intro rfl (And.intro rfl (And.intro rfl trivial))))) K
      | inr y =>
        have H := Option.some.inj H
        subst H
        exact K
    have H := H1
    clear H1
    refine am_icmp_ne rfl (fun c33 => ?_) (fun c33 => ?_)
    · have H := it_neg c33 H
      have H := Option.some.inj H
      subst H
      exact am_drop (L' := [some (.ref 159), some (.int a1), some (.int a2), some (.int a3), some (.int x1), some (.int x2), some (.int r11), none, none]) (And.intro rfl (And.intro rfl (And.intro rfl (And.intro rfl (And.intro rfl (And.intro rfl (And.intro rfl trivial))))))) K
    · have H := it_pos c33 H
      refine am_iload rfl rfl ?_
      refine am_iload_n rfl rfl ?_
      refine am_icmp_gt rfl (fun c34 => ?_) (fun c34 => ?_)
      · have H := it_pos c34 H
        have H := Option.some.inj H
        subst H
        exact am_drop (L' := [some (.ref 159), some (.int a1), some (.int a2), some (.int a3), some (.int x1), some (.int x2), some (.int r11), none, none]) (And.intro rfl (And.intro rfl (And.intro rfl (And.intro rfl (And.intro rfl (And.intro rfl (And.intro rfl trivial))))))) K
      · have H := it_neg c34 H
        refine am_iload rfl rfl ?_
        obtain ⟨s50, H1, H⟩ := bd_some H
        have K : (Sum.elim (fun (_ : Unit) => u_V m_X9_entryOf 1 post 77 [some (.ref 159), some (.int a1), some (.int a2), some (.int a3), some (.int x1), some (.int x2), some (.int r11), none, none] [] g16) (Sum.elim (fun (s20 : Int32 × Int32 × G) => u_V m_X9_entryOf 1 post 81 [some (.ref 159), some (.int a1), some (.int a2), some (.int a3), some (.int s20.1), some (.int s20.2.1), some (.int r11), none, none] [] s20.2.2) (Sum.elim (fun (s4 : Int32 × Int32 × G) => u_V m_X9_entryOf 1 post 6 [some (.ref 159), some (.int a1), some (.int a2), some (.int a3), some (.int s4.1), some (.int s4.2.1), none, none, none] [] s4.2.2) (fun (s7 : Int32 × G) => u_V m_X9_entryOf 1 post 121 [none, none, none, none, some (.int s7.1), none, none, none, none] [] s7.2)))) s50 := by
          clear H1
          cases s50 with
          | inl s35 =>
            (try dsimp only at H); (try dsimp only)
            refine x_iconst (v := (1 : Int32)) rfl (by decide) ?_
            refine am_goto rfl ?_
            refine am_istore rfl (Nat.le_of_ble_eq_true rfl) ?_
            refine am_iload rfl rfl ?_
            obtain ⟨s47, H1, H⟩ := bd_some H
            have K : (fun (s38 : Int32 × G) => u_V m_X9_entryOf 1 post 115 [some (.ref 159), some (.int a1), some (.int a2), some (.int a3), some (.int s38.1), some (.int x2), none, none, none] [] s38.2) s47 := by
              clear H1
              obtain ⟨x36, g37⟩ := s47
              (try dsimp only at H); (try dsimp only)
              refine x_iinc (v := (x2 + (1 : Int32))) rfl rfl (Nat.le_of_ble_eq_true rfl) rfl ?_
              refine am_goto rfl ?_
              have H := Option.some.inj H
              subst H
              exact am_drop (L' := [some (.ref 159), some (.int a1), some (.int a2), some (.int a3), some (.int x36), some (.int (x2 + (1 : Int32))), none, none, none]) (And.intro rfl (And.intro rfl (And.intro rfl (And.intro rfl (And.intro rfl (And.intro rfl trivial)))))) K
            have H := H1
            clear H1
            refine am_if_eq rfl (fun c39 => ?_) (fun c39 => ?_)
            · have H := it_pos c39 H
              have H := Option.some.inj H
              subst H
              exact am_drop (L' := [some (.ref 159), some (.int a1), some (.int a2), some (.int a3), some (.int x1), some (.int x2), none, none, none]) (And.intro rfl (And.intro rfl (And.intro rfl (And.intro rfl (And.intro rfl (And.intro rfl trivial)))))) K
            · have H := it_neg c39 H
              refine am_iload rfl rfl ?_
              refine x_iconst (v := (-1 : Int32)) rfl (by decide) ?_
              obtain ⟨s46, H1, H⟩ := bd_some H
              have K : (Sum.elim (fun (s41 : G) => u_V m_X9_entryOf 1 post 111 [some (.ref 159), some (.int a1), some (.int a2), some (.int a3), none, some (.int x2), none, none, none] [] s41) (fun (s38 : Int32 × G) => u_V m_X9_entryOf 1 post 115 [some (.ref 159), some (.int a1), some (.int a2), some (.int a3), some (.int s38.1), some (.int x2), none, none, none] [] s38.2)) s46 := by
                clear H1
                cases s46 with
                | inl s41 =>
                  obtain ⟨g40, e_g40⟩ : ∃ z, z = s41 := ⟨_, rfl⟩
                  subst e_g40
                  (try dsimp only at H); (try dsimp only)
                  refine am_iload rfl rfl ?_
                  refine am_istore rfl (Nat.le_of_ble_eq_true rfl) ?_
                  have H := Option.some.inj H
                  subst H
                  exact am_drop (L' := [some (.ref 159), some (.int a1), some (.int a2), some (.int a3), some (.int x2), some (.int x2), none, none, none]) (And.intro rfl (And.intro rfl (And.intro rfl (And.intro rfl (And.intro rfl (And.intro rfl trivial)))))) K
                | inr y =>
                  have H := Option.some.inj H
                  subst H
                  exact K
              have H := H1
              clear H1
              refine am_icmp_eq rfl (fun c42 => ?_) (fun c42 => ?_)
              · have H := it_pos c42 H
                have H := Option.some.inj H
                subst H
                exact am_drop (L' := [some (.ref 159), some (.int a1), some (.int a2), some (.int a3), none, some (.int x2), none, none, none]) (And.intro rfl (And.intro rfl (And.intro rfl (And.intro rfl (And.intro rfl trivial))))) K
              · have H := it_neg c42 H
                refine am_iload rfl rfl ?_
                refine am_aload_n rfl rfl ?_
                refine am_iload_n rfl rfl ?_
                refine x_sipush (v := (291 : Int32)) rfl (by decide) ?_
                refine am_iload rfl rfl ?_
                refine am_iadd rfl ?_
                obtain ⟨r43, g44, H1, H⟩ := bd2_some H
                refine cv2i v_9_140 rfl rfl (Nat.le_of_ble_eq_true rfl) rfl (Nat.le_of_ble_eq_true rfl) (fun _ _ => Nat.le_of_ble_eq_true rfl) (y_X9_cell a1 ((291 : Int32) + x1) g16 _ H1 ?_)
                refine am_icmp_lt rfl (fun c45 => ?_) (fun c45 => ?_)
                · have H := it_pos c45 H
                  have H := Option.some.inj H
                  subst H
                  exact am_drop (L' := [some (.ref 159), some (.int a1), some (.int a2), some (.int a3), some (.int x1), some (.int x2), none, none, none]) (And.intro rfl (And.intro rfl (And.intro rfl (And.intro rfl (And.intro rfl (And.intro rfl trivial)))))) K
                · have H := it_neg c45 H
                  have H := Option.some.inj H
                  subst H
                  exact am_drop (L' := [some (.ref 159), some (.int a1), some (.int a2), some (.int a3), none, some (.int x2), none, none, none]) (And.intro rfl (And.intro rfl (And.intro rfl (And.intro rfl (And.intro rfl trivial))))) K
          | inr y =>
            have H := Option.some.inj H
            subst H
            exact K
        have H := H1
        clear H1
        refine am_if_eq rfl (fun c48 => ?_) (fun c48 => ?_)
        · have H := it_pos c48 H
          have H := Option.some.inj H
          subst H
          exact am_drop (L' := [some (.ref 159), some (.int a1), some (.int a2), some (.int a3), some (.int x1), some (.int x2), some (.int r11), none, none]) (And.intro rfl (And.intro rfl (And.intro rfl (And.intro rfl (And.intro rfl (And.intro rfl (And.intro rfl trivial))))))) K
        · have H := it_neg c48 H
          refine am_iload rfl rfl ?_
          refine x_iconst (v := (1 : Int32)) rfl (by decide) ?_
          refine am_isub rfl ?_
          refine am_iload_n rfl rfl ?_
          refine am_icmp_le rfl (fun c49 => ?_) (fun c49 => ?_)
          · have H := it_pos c49 H
            have H := Option.some.inj H
            subst H
            exact am_drop (L' := [some (.ref 159), some (.int a1), some (.int a2), some (.int a3), some (.int x1), some (.int x2), some (.int r11), none, none]) (And.intro rfl (And.intro rfl (And.intro rfl (And.intro rfl (And.intro rfl (And.intro rfl (And.intro rfl trivial))))))) K
          · have H := it_neg c49 H
            have H := Option.some.inj H
            subst H
            exact am_drop (L' := [some (.ref 159), some (.int a1), some (.int a2), some (.int a3), some (.int x1), some (.int x2), some (.int r11), none, none]) (And.intro rfl (And.intro rfl (And.intro rfl (And.intro rfl (And.intro rfl (And.intro rfl (And.intro rfl trivial))))))) K
def f_X9_outcomeOf (a1 : Int32) (a2 : Int32) (a3 : Int32) (a4 : Int32) (g : G) : Option (Int32 × G) := bd ((if (g 159 25) = 0 then some (.inl ()) else ck a2 30 fun j11 => if (g 174 j11) = (-1 : Int32) then some (.inl ()) else ck a2 30 fun j13 => some (.inr (((g 174 j13), g))) : Option ((Unit) ⊕ (Int32 × G)))) fun s14m => (match s14m with | .inl _ => (bd2 (f_X9_entryOf a1 a2 a4 g) fun r2 g3 => if r2 = (-1 : Int32) then some (((-1 : Int32), g3)) else bd2 (f_X9_cell a1 ((231 : Int32) + r2) g3) fun r5 g6 => if r5 ≤ a3 then bd2 (f_X9_cell a1 ((171 : Int32) + r2) g6) fun r8 g9 => some ((r8, g9)) else some (((-1 : Int32), g6))) | .inr y => some y)
set_option maxHeartbeats 4000000 in
set_option maxRecDepth 100000 in
theorem y_X9_outcomeOf (a1 : Int32) (a2 : Int32) (a3 : Int32) (a4 : Int32)  (g : G) (q : Int32 × G) {post : Int32 → G → Prop} (H : f_X9_outcomeOf a1 a2 a3 a4 g = some q) (K : post q.1 q.2) : Y m_X9_outcomeOf 2 [.ref 159, .int a1, .int a2, .int a3, .int a4] g post := by
  refine Y_of ok_X9_outcomeOf pn_9 rfl (by decide) (Or.inr (Or.inl rfl)) (List.forall_mem_cons.mpr ⟨rfl, (List.forall_mem_cons.mpr ⟨rfl, (List.forall_mem_cons.mpr ⟨rfl, (List.forall_mem_cons.mpr ⟨rfl, (List.forall_mem_cons.mpr ⟨rfl, (fun _ h => absurd h List.not_mem_nil)⟩)⟩)⟩)⟩)⟩) (Nat.le_of_ble_eq_true rfl) ?_
  show u_V m_X9_outcomeOf 2 post 0 [some (.ref 159), some (.int a1), some (.int a2), some (.int a3), some (.int a4), none] [] g
  unfold f_X9_outcomeOf at H
  refine am_aload_n rfl rfl ?_
  refine u_getI f_9_150 rfl (Nat.le_of_ble_eq_true rfl) rfl rfl ?_
  obtain ⟨s14, H1, H⟩ := bd_some H
  have K : (Sum.elim (fun (_ : Unit) => u_V m_X9_outcomeOf 2 post 24 [some (.ref 159), some (.int a1), some (.int a2), some (.int a3), some (.int a4), none] [] g) (fun (q : Int32 × G) => post q.1 q.2)) s14 := by
    clear H1
    cases s14 with
    | inl s1 =>
      (try dsimp only at H); (try dsimp only)
      refine am_aload_n rfl rfl ?_
      refine am_iload_n rfl rfl ?_
      refine am_iload_n rfl rfl ?_
      refine am_iload rfl rfl ?_
      obtain ⟨r2, g3, H1, H⟩ := bd2_some H
      refine cv3i v_9_154 rfl rfl (Nat.le_of_ble_eq_true rfl) rfl (Nat.le_of_ble_eq_true rfl) (fun _ _ => Nat.le_of_ble_eq_true rfl) (y_X9_entryOf a1 a2 a4 g _ H1 ?_)
      refine am_istore rfl (Nat.le_of_ble_eq_true rfl) ?_
      refine am_iload rfl rfl ?_
      refine x_iconst (v := (-1 : Int32)) rfl (by decide) ?_
      refine am_icmp_eq rfl (fun c4 => ?_) (fun c4 => ?_)
      · have H := it_pos c4 H
        refine x_iconst (v := (-1 : Int32)) rfl (by decide) ?_
        refine am_goto rfl ?_
        have H := Option.some.inj H
        subst H
        exact u_iret rfl rfl K
      · have H := it_neg c4 H
        refine am_aload_n rfl rfl ?_
        refine am_iload_n rfl rfl ?_
        refine x_sipush (v := (231 : Int32)) rfl (by decide) ?_
        refine am_iload rfl rfl ?_
        refine am_iadd rfl ?_
        obtain ⟨r5, g6, H1, H⟩ := bd2_some H
        refine cv2i v_9_140 rfl rfl (Nat.le_of_ble_eq_true rfl) rfl (Nat.le_of_ble_eq_true rfl) (fun _ _ => Nat.le_of_ble_eq_true rfl) (y_X9_cell a1 ((231 : Int32) + r2) g3 _ H1 ?_)
        refine am_iload_n rfl rfl ?_
        refine am_icmp_le rfl (fun c7 => ?_) (fun c7 => ?_)
        · have H := it_pos c7 H
          refine am_aload_n rfl rfl ?_
          refine am_iload_n rfl rfl ?_
          refine x_sipush (v := (171 : Int32)) rfl (by decide) ?_
          refine am_iload rfl rfl ?_
          refine am_iadd rfl ?_
          obtain ⟨r8, g9, H1, H⟩ := bd2_some H
          refine cv2i v_9_140 rfl rfl (Nat.le_of_ble_eq_true rfl) rfl (Nat.le_of_ble_eq_true rfl) (fun _ _ => Nat.le_of_ble_eq_true rfl) (y_X9_cell a1 ((171 : Int32) + r2) g6 _ H1 ?_)
          have H := Option.some.inj H
          subst H
          exact u_iret rfl rfl K
        · have H := it_neg c7 H
          refine x_iconst (v := (-1 : Int32)) rfl (by decide) ?_
          refine am_goto rfl ?_
          have H := Option.some.inj H
          subst H
          exact u_iret rfl rfl K
    | inr y =>
      have H := Option.some.inj H
      subst H
      exact K
  have H := H1
  clear H1
  refine am_if_eq rfl (fun c10 => ?_) (fun c10 => ?_)
  · have H := it_pos c10 H
    have H := Option.some.inj H
    subst H
    exact am_drop (L' := [some (.ref 159), some (.int a1), some (.int a2), some (.int a3), some (.int a4), none]) (And.intro rfl (And.intro rfl (And.intro rfl (And.intro rfl (And.intro rfl trivial))))) K
  · have H := it_neg c10 H
    refine am_aload_n rfl rfl ?_
    refine u_getR f_9_59 rfl (Nat.le_of_ble_eq_true rfl) rfl rfl ?_
    refine am_iload_n rfl rfl ?_
    obtain ⟨j11, ej11, hj11, H⟩ := ck_some H
    refine x_iald rfl (Nat.le_of_ble_eq_true rfl) rfl hj11 ej11 ?_
    refine x_iconst (v := (-1 : Int32)) rfl (by decide) ?_
    refine am_icmp_eq rfl (fun c12 => ?_) (fun c12 => ?_)
    · have H := it_pos c12 H
      have H := Option.some.inj H
      subst H
      exact am_drop (L' := [some (.ref 159), some (.int a1), some (.int a2), some (.int a3), some (.int a4), none]) (And.intro rfl (And.intro rfl (And.intro rfl (And.intro rfl (And.intro rfl trivial))))) K
    · have H := it_neg c12 H
      refine am_aload_n rfl rfl ?_
      refine u_getR f_9_59 rfl (Nat.le_of_ble_eq_true rfl) rfl rfl ?_
      refine am_iload_n rfl rfl ?_
      obtain ⟨j13, ej13, hj13, H⟩ := ck_some H
      refine x_iald rfl (Nat.le_of_ble_eq_true rfl) rfl hj13 ej13 ?_
      have H := Option.some.inj H
      subst H
      exact u_iret rfl rfl K
def f_X9_halves (a0 : Int32) (a1 : Int32) (g : G) : Option (Int32 × G) := if a0 = (1 : Int32) then some (((1 : Int32), g)) else bd ((if a0 = 0 then some (.inl ()) else if a0 = (3 : Int32) then some (.inl ()) else bd ((if a0 = (2 : Int32) then some (.inl ()) else if a0 = (4 : Int32) then some (.inl ()) else some (.inr (.inr (((0 : Int32), g)))) : Option ((Unit) ⊕ ((Unit) ⊕ (Int32 × G))))) fun s10m => (match s10m with | .inl _ => (if a1 = 0 then some (.inr (((0 : Int32), g))) else some (.inr (((2 : Int32), g)))) | .inr y => some y) : Option ((Unit) ⊕ (Int32 × G)))) fun s11m => (match s11m with | .inl _ => (if a1 = 0 then some (((2 : Int32), g)) else some (((0 : Int32), g))) | .inr y => some y)
set_option maxHeartbeats 4000000 in
set_option maxRecDepth 100000 in
theorem y_X9_halves (a0 : Int32) (a1 : Int32)  (g : G) (q : Int32 × G) {post : Int32 → G → Prop} (H : f_X9_halves a0 a1 g = some q) (K : post q.1 q.2) : Y m_X9_halves 0 [.int a0, .int a1] g post := by
  refine Y_of ok_X9_halves pn_9 rfl (by decide) (Or.inr (Or.inl rfl)) (List.forall_mem_cons.mpr ⟨rfl, (List.forall_mem_cons.mpr ⟨rfl, (fun _ h => absurd h List.not_mem_nil)⟩)⟩) (Nat.le_of_ble_eq_true rfl) ?_
  show u_V m_X9_halves 0 post 0 [some (.int a0), some (.int a1)] [] g
  unfold f_X9_halves at H
  refine am_iload_n rfl rfl ?_
  refine x_iconst (v := (1 : Int32)) rfl (by decide) ?_
  refine am_icmp_ne rfl (fun c1 => ?_) (fun c1 => ?_)
  · have H := it_neg c1 H
    refine am_iload_n rfl rfl ?_
    obtain ⟨s11, H1, H⟩ := bd_some H
    have K : (Sum.elim (fun (_ : Unit) => u_V m_X9_halves 0 post 18 [none, some (.int a1)] [] g) (fun (q : Int32 × G) => post q.1 q.2)) s11 := by
      clear H1
      cases s11 with
      | inl s2 =>
        (try dsimp only at H); (try dsimp only)
        refine am_iload_n rfl rfl ?_
        refine am_if_eq rfl (fun c3 => ?_) (fun c3 => ?_)
        · have H := it_pos c3 H
          refine x_iconst (v := (2 : Int32)) rfl (by decide) ?_
          refine am_goto rfl ?_
          have H := Option.some.inj H
          subst H
          exact u_iret rfl rfl K
        · have H := it_neg c3 H
          refine x_iconst (v := (0 : Int32)) rfl (by decide) ?_
          refine am_goto rfl ?_
          have H := Option.some.inj H
          subst H
          exact u_iret rfl rfl K
      | inr y =>
        have H := Option.some.inj H
        subst H
        exact K
    have H := H1
    clear H1
    refine am_if_eq rfl (fun c4 => ?_) (fun c4 => ?_)
    · have H := it_pos c4 H
      have H := Option.some.inj H
      subst H
      exact am_drop (L' := [none, some (.int a1)]) (And.intro rfl trivial) K
    · have H := it_neg c4 H
      refine am_iload_n rfl rfl ?_
      refine x_iconst (v := (3 : Int32)) rfl (by decide) ?_
      refine am_icmp_ne rfl (fun c5 => ?_) (fun c5 => ?_)
      · have H := it_neg c5 H
        refine am_iload_n rfl rfl ?_
        refine x_iconst (v := (2 : Int32)) rfl (by decide) ?_
        obtain ⟨s10, H1, H⟩ := bd_some H
        have K : (Sum.elim (fun (_ : Unit) => u_V m_X9_halves 0 post 40 [none, some (.int a1)] [] g) (Sum.elim (fun (_ : Unit) => u_V m_X9_halves 0 post 18 [none, some (.int a1)] [] g) (fun (q : Int32 × G) => post q.1 q.2))) s10 := by
          clear H1
          cases s10 with
          | inl s6 =>
            (try dsimp only at H); (try dsimp only)
            refine am_iload_n rfl rfl ?_
            refine am_if_eq rfl (fun c7 => ?_) (fun c7 => ?_)
            · have H := it_pos c7 H
              refine x_iconst (v := (0 : Int32)) rfl (by decide) ?_
              refine am_goto rfl ?_
              have H := Option.some.inj H
              subst H
              exact u_iret rfl rfl K
            · have H := it_neg c7 H
              refine x_iconst (v := (2 : Int32)) rfl (by decide) ?_
              refine am_goto rfl ?_
              have H := Option.some.inj H
              subst H
              exact u_iret rfl rfl K
          | inr y =>
            have H := Option.some.inj H
            subst H
            exact K
        have H := H1
        clear H1
        refine am_icmp_eq rfl (fun c8 => ?_) (fun c8 => ?_)
        · have H := it_pos c8 H
          have H := Option.some.inj H
          subst H
          exact am_drop (L' := [none, some (.int a1)]) (And.intro rfl trivial) K
        · have H := it_neg c8 H
          refine am_iload_n rfl rfl ?_
          refine x_iconst (v := (4 : Int32)) rfl (by decide) ?_
          refine am_icmp_ne rfl (fun c9 => ?_) (fun c9 => ?_)
          · have H := it_neg c9 H
            refine x_iconst (v := (0 : Int32)) rfl (by decide) ?_
            have H := Option.some.inj H
            subst H
            exact u_iret rfl rfl K
          · have H := it_pos c9 H
            have H := Option.some.inj H
            subst H
            exact am_drop (L' := [none, some (.int a1)]) (And.intro rfl trivial) K
      · have H := it_pos c5 H
        have H := Option.some.inj H
        subst H
        exact am_drop (L' := [none, some (.int a1)]) (And.intro rfl trivial) K
  · have H := it_pos c1 H
    refine x_iconst (v := (1 : Int32)) rfl (by decide) ?_
    refine am_goto rfl ?_
    have H := Option.some.inj H
    subst H
    exact u_iret rfl rfl K
def f_X9_pairOf (a1 : Int32) (a2 : Int32) (a3 : Int32) (g : G) : Option (Int32 × G) := bd (lp (fun (s3 : Int32 × G) => (bd2 (f_X9_cell a1 ((32 : Int32) + a2) s3.2) fun r6 g7 => if r6 ≤ s3.1 then some (.inr (.inl (g7))) else bd2 (f_X9_cell a1 ((50 : Int32) + (((5 : Int32) * a2) + s3.1)) g7) fun r9 g10 => if r9 = a3 then some (.inr (.inr (((((5 : Int32) * a2) + s3.1), g10)))) else bd2 (f_X9_cell a1 ((80 : Int32) + (((5 : Int32) * a2) + s3.1)) g10) fun r12 g13 => if r12 = a3 then some (.inr (.inr (((((5 : Int32) * a2) + s3.1), g13)))) else some (.inl ((s3.1 + (1 : Int32)), g13)) : Option ((Int32 × G) ⊕ ((G) ⊕ (Int32 × G))))) 2000 ((0 : Int32), g)) fun s15m => (match s15m with | .inl s5 => (some (((-1 : Int32), s5))) | .inr y => some y)
set_option maxHeartbeats 4000000 in
set_option maxRecDepth 100000 in
theorem y_X9_pairOf (a1 : Int32) (a2 : Int32) (a3 : Int32)  (g : G) (q : Int32 × G) {post : Int32 → G → Prop} (H : f_X9_pairOf a1 a2 a3 g = some q) (K : post q.1 q.2) : Y m_X9_pairOf 1 [.ref 159, .int a1, .int a2, .int a3] g post := by
  refine Y_of ok_X9_pairOf pn_9 rfl (by decide) (Or.inr (Or.inl rfl)) (List.forall_mem_cons.mpr ⟨rfl, (List.forall_mem_cons.mpr ⟨rfl, (List.forall_mem_cons.mpr ⟨rfl, (List.forall_mem_cons.mpr ⟨rfl, (fun _ h => absurd h List.not_mem_nil)⟩)⟩)⟩)⟩) (Nat.le_of_ble_eq_true rfl) ?_
  show u_V m_X9_pairOf 1 post 0 [some (.ref 159), some (.int a1), some (.int a2), some (.int a3), none, none] [] g
  unfold f_X9_pairOf at H
  refine x_iconst (v := (0 : Int32)) rfl (by decide) ?_
  refine am_istore rfl (Nat.le_of_ble_eq_true rfl) ?_
  obtain ⟨s15, H1, H⟩ := bd_some H
  have K2 : (Sum.elim (fun (s5 : G) => u_V m_X9_pairOf 1 post 62 [none, none, none, none, none, none] [] s5) (fun (q : Int32 × G) => post q.1 q.2)) s15 := by
    clear H1
    cases s15 with
    | inl s5 =>
      obtain ⟨g4, e_g4⟩ : ∃ z, z = s5 := ⟨_, rfl⟩
      subst e_g4
      (try dsimp only at H); (try dsimp only)
      refine x_iconst (v := (-1 : Int32)) rfl (by decide) ?_
      have H := Option.some.inj H
      subst H
      exact u_iret rfl rfl K
    | inr y =>
      have H := Option.some.inj H
      subst H
      exact K
  refine am_drop (L' := [some (.ref 159), some (.int a1), some (.int a2), some (.int a3), some (.int (0 : Int32)), none]) (And.intro rfl (And.intro rfl (And.intro rfl (And.intro rfl (And.intro rfl trivial))))) ?_
  refine lp_ind (P := (fun (s3 : Int32 × G) => u_V m_X9_pairOf 1 post 3 [some (.ref 159), some (.int a1), some (.int a2), some (.int a3), some (.int s3.1), none] [] s3.2)) (Q := (Sum.elim (fun (s5 : G) => u_V m_X9_pairOf 1 post 62 [none, none, none, none, none, none] [] s5) (fun (q : Int32 × G) => post q.1 q.2))) ?_ 2000 ((0 : Int32), g) s15 H1 K2
  clear H1 H K
  intro s3 s15b H K
  obtain ⟨x1, g2⟩ := s3
  (try dsimp only at H); (try dsimp only)
  refine am_iload rfl rfl ?_
  refine am_aload_n rfl rfl ?_
  refine am_iload_n rfl rfl ?_
  refine x_bipush (v := (32 : Int32)) rfl (by decide) ?_
  refine am_iload_n rfl rfl ?_
  refine am_iadd rfl ?_
  obtain ⟨r6, g7, H1, H⟩ := bd2_some H
  refine cv2i v_9_140 rfl rfl (Nat.le_of_ble_eq_true rfl) rfl (Nat.le_of_ble_eq_true rfl) (fun _ _ => Nat.le_of_ble_eq_true rfl) (y_X9_cell a1 ((32 : Int32) + a2) g2 _ H1 ?_)
  refine am_icmp_ge rfl (fun c8 => ?_) (fun c8 => ?_)
  · have H := it_pos c8 H
    have H := Option.some.inj H
    subst H
    exact am_drop (L' := [none, none, none, none, none, none]) trivial K
  · have H := it_neg c8 H
    refine x_iconst (v := (5 : Int32)) rfl (by decide) ?_
    refine am_iload_n rfl rfl ?_
    refine am_imul rfl ?_
    refine am_iload rfl rfl ?_
    refine am_iadd rfl ?_
    refine am_istore rfl (Nat.le_of_ble_eq_true rfl) ?_
    refine am_aload_n rfl rfl ?_
    refine am_iload_n rfl rfl ?_
    refine x_bipush (v := (50 : Int32)) rfl (by decide) ?_
    refine am_iload rfl rfl ?_
    refine am_iadd rfl ?_
    obtain ⟨r9, g10, H1, H⟩ := bd2_some H
    refine cv2i v_9_140 rfl rfl (Nat.le_of_ble_eq_true rfl) rfl (Nat.le_of_ble_eq_true rfl) (fun _ _ => Nat.le_of_ble_eq_true rfl) (y_X9_cell a1 ((50 : Int32) + (((5 : Int32) * a2) + x1)) g7 _ H1 ?_)
    refine am_iload_n rfl rfl ?_
    refine am_icmp_eq rfl (fun c11 => ?_) (fun c11 => ?_)
    · have H := it_pos c11 H
      refine am_iload rfl rfl ?_
      have H := Option.some.inj H
      subst H
      exact u_iret rfl rfl K
    · have H := it_neg c11 H
      refine am_aload_n rfl rfl ?_
      refine am_iload_n rfl rfl ?_
      refine x_bipush (v := (80 : Int32)) rfl (by decide) ?_
      refine am_iload rfl rfl ?_
      refine am_iadd rfl ?_
      obtain ⟨r12, g13, H1, H⟩ := bd2_some H
      refine cv2i v_9_140 rfl rfl (Nat.le_of_ble_eq_true rfl) rfl (Nat.le_of_ble_eq_true rfl) (fun _ _ => Nat.le_of_ble_eq_true rfl) (y_X9_cell a1 ((80 : Int32) + (((5 : Int32) * a2) + x1)) g10 _ H1 ?_)
      refine am_iload_n rfl rfl ?_
      refine am_icmp_ne rfl (fun c14 => ?_) (fun c14 => ?_)
      · have H := it_neg c14 H
        refine x_iinc (v := (x1 + (1 : Int32))) rfl rfl (Nat.le_of_ble_eq_true rfl) rfl ?_
        refine am_goto rfl ?_
        have H := Option.some.inj H
        subst H
        exact am_drop (L' := [some (.ref 159), some (.int a1), some (.int a2), some (.int a3), some (.int (x1 + (1 : Int32))), none]) (And.intro rfl (And.intro rfl (And.intro rfl (And.intro rfl (And.intro rfl trivial))))) K
      · have H := it_pos c14 H
        refine am_iload rfl rfl ?_
        have H := Option.some.inj H
        subst H
        exact u_iret rfl rfl K
def f_X9_isWithNobody (a1 : Int32) (a2 : Int32) (g : G) : Option (Int32 × G) := bd2 (f_X9_cell a1 ((80 : Int32) + a2) g) fun r1 g2 => if r1 = (99 : Int32) then some (((1 : Int32), g2)) else some (((0 : Int32), g2))
set_option maxHeartbeats 4000000 in
set_option maxRecDepth 100000 in
theorem y_X9_isWithNobody (a1 : Int32) (a2 : Int32)  (g : G) (q : Int32 × G) {post : Int32 → G → Prop} (H : f_X9_isWithNobody a1 a2 g = some q) (K : post q.1 q.2) : Y m_X9_isWithNobody 1 [.ref 159, .int a1, .int a2] g post := by
  refine Y_of ok_X9_isWithNobody pn_9 rfl (by decide) (Or.inr (Or.inr rfl)) (List.forall_mem_cons.mpr ⟨rfl, (List.forall_mem_cons.mpr ⟨rfl, (List.forall_mem_cons.mpr ⟨rfl, (fun _ h => absurd h List.not_mem_nil)⟩)⟩)⟩) (Nat.le_of_ble_eq_true rfl) ?_
  show u_V m_X9_isWithNobody 1 post 0 [some (.ref 159), some (.int a1), some (.int a2)] [] g
  unfold f_X9_isWithNobody at H
  refine am_aload_n rfl rfl ?_
  refine am_iload_n rfl rfl ?_
  refine x_bipush (v := (80 : Int32)) rfl (by decide) ?_
  refine am_iload_n rfl rfl ?_
  refine am_iadd rfl ?_
  obtain ⟨r1, g2, H1, H⟩ := bd2_some H
  refine cv2i v_9_140 rfl rfl (Nat.le_of_ble_eq_true rfl) rfl (Nat.le_of_ble_eq_true rfl) (fun _ _ => Nat.le_of_ble_eq_true rfl) (y_X9_cell a1 ((80 : Int32) + a2) g _ H1 ?_)
  refine x_bipush (v := (99 : Int32)) rfl (by decide) ?_
  refine am_icmp_ne rfl (fun c3 => ?_) (fun c3 => ?_)
  · have H := it_neg c3 H
    refine x_iconst (v := (0 : Int32)) rfl (by decide) ?_
    have H := Option.some.inj H
    subst H
    exact u_zret rfl rfl (Or.inl rfl) K
  · have H := it_pos c3 H
    refine x_iconst (v := (1 : Int32)) rfl (by decide) ?_
    refine am_goto rfl ?_
    have H := Option.some.inj H
    subst H
    exact u_zret rfl rfl (Or.inr rfl) K
def f_X9_otherOf (a1 : Int32) (a2 : Int32) (a3 : Int32) (g : G) : Option (Int32 × G) := bd2 (f_X9_cell a1 ((50 : Int32) + a2) g) fun r1 g2 => if r1 = a3 then bd2 (f_X9_cell a1 ((80 : Int32) + a2) g2) fun r6 g7 => some ((r6, g7)) else bd2 (f_X9_cell a1 ((50 : Int32) + a2) g2) fun r4 g5 => some ((r4, g5))
set_option maxHeartbeats 4000000 in
set_option maxRecDepth 100000 in
theorem y_X9_otherOf (a1 : Int32) (a2 : Int32) (a3 : Int32)  (g : G) (q : Int32 × G) {post : Int32 → G → Prop} (H : f_X9_otherOf a1 a2 a3 g = some q) (K : post q.1 q.2) : Y m_X9_otherOf 1 [.ref 159, .int a1, .int a2, .int a3] g post := by
  refine Y_of ok_X9_otherOf pn_9 rfl (by decide) (Or.inr (Or.inl rfl)) (List.forall_mem_cons.mpr ⟨rfl, (List.forall_mem_cons.mpr ⟨rfl, (List.forall_mem_cons.mpr ⟨rfl, (List.forall_mem_cons.mpr ⟨rfl, (fun _ h => absurd h List.not_mem_nil)⟩)⟩)⟩)⟩) (Nat.le_of_ble_eq_true rfl) ?_
  show u_V m_X9_otherOf 1 post 0 [some (.ref 159), some (.int a1), some (.int a2), some (.int a3)] [] g
  unfold f_X9_otherOf at H
  refine am_aload_n rfl rfl ?_
  refine am_iload_n rfl rfl ?_
  refine x_bipush (v := (50 : Int32)) rfl (by decide) ?_
  refine am_iload_n rfl rfl ?_
  refine am_iadd rfl ?_
  obtain ⟨r1, g2, H1, H⟩ := bd2_some H
  refine cv2i v_9_140 rfl rfl (Nat.le_of_ble_eq_true rfl) rfl (Nat.le_of_ble_eq_true rfl) (fun _ _ => Nat.le_of_ble_eq_true rfl) (y_X9_cell a1 ((50 : Int32) + a2) g _ H1 ?_)
  refine am_iload_n rfl rfl ?_
  refine am_icmp_ne rfl (fun c3 => ?_) (fun c3 => ?_)
  · have H := it_neg c3 H
    refine am_aload_n rfl rfl ?_
    refine am_iload_n rfl rfl ?_
    refine x_bipush (v := (50 : Int32)) rfl (by decide) ?_
    refine am_iload_n rfl rfl ?_
    refine am_iadd rfl ?_
    obtain ⟨r4, g5, H1, H⟩ := bd2_some H
    refine cv2i v_9_140 rfl rfl (Nat.le_of_ble_eq_true rfl) rfl (Nat.le_of_ble_eq_true rfl) (fun _ _ => Nat.le_of_ble_eq_true rfl) (y_X9_cell a1 ((50 : Int32) + a2) g2 _ H1 ?_)
    have H := Option.some.inj H
    subst H
    exact u_iret rfl rfl K
  · have H := it_pos c3 H
    refine am_aload_n rfl rfl ?_
    refine am_iload_n rfl rfl ?_
    refine x_bipush (v := (80 : Int32)) rfl (by decide) ?_
    refine am_iload_n rfl rfl ?_
    refine am_iadd rfl ?_
    obtain ⟨r6, g7, H1, H⟩ := bd2_some H
    refine cv2i v_9_140 rfl rfl (Nat.le_of_ble_eq_true rfl) rfl (Nat.le_of_ble_eq_true rfl) (fun _ _ => Nat.le_of_ble_eq_true rfl) (y_X9_cell a1 ((80 : Int32) + a2) g2 _ H1 ?_)
    refine am_goto rfl ?_
    have H := Option.some.inj H
    subst H
    exact u_iret rfl rfl K
def f_X9_pointsOf (a1 : Int32) (a2 : Int32) (a3 : Int32) (a4 : Int32) (g : G) : Option (Int32 × G) := bd (lp (fun (s4 : Int32 × Int32 × G) => (bd2 (f_X9_cell a1 (25 : Int32) s4.2.2) fun r8 g9 => if r8 ≤ s4.2.1 then some (.inr (s4.1, g9)) else bd2 (f_X9_pairOf a1 s4.2.1 a2 g9) fun r11 g12 => bd ((if r11 = (-1 : Int32) then some (.inl (s4.1, s4.2.1, g12)) else bd2 (f_X9_isWithNobody a1 r11 g12) fun r33 g34 => if r33 = 0 then some (.inl (s4.1, s4.2.1, g34)) else bd2 (f_X9_cell a1 ((26 : Int32) + s4.2.1) g34) fun r36 g37 => bd ((if a3 < r36 then some ((0 : Int32)) else some ((2 : Int32)) : Option (Int32))) fun (s39 : Int32) => some (.inr (.inl ((s4.1 + s39), (s4.2.1 + (1 : Int32)), g37))) : Option ((Int32 × Int32 × G) ⊕ ((Int32 × Int32 × G) ⊕ (Int32 × G))))) fun s42m => (match s42m with | .inl s16 => (bd ((if r11 = (-1 : Int32) then some ((s16.1, s16.2.2)) else bd2 (f_X9_outcomeOf a1 r11 a3 a4 s16.2.2) fun r21 g22 => bd2 (f_X9_cell a1 ((50 : Int32) + r11) g22) fun r23 g24 => bd ((if r23 = a2 then some ((1 : Int32)) else some ((0 : Int32)) : Option (Int32))) fun (s26 : Int32) => bd2 (f_X9_halves r21 s26 g24) fun r27 g28 => some (((s16.1 + r27), g28)) : Option (Int32 × G))) fun (s19 : Int32 × G) => some (.inl (s19.1, (s16.2.1 + (1 : Int32)), s19.2))) | .inr y => some y) : Option ((Int32 × Int32 × G) ⊕ (Int32 × G)))) 2000 ((0 : Int32), (0 : Int32), g)) fun (s7 : Int32 × G) => some ((s7.1, s7.2))
set_option maxHeartbeats 4000000 in
set_option maxRecDepth 100000 in
theorem y_X9_pointsOf (a1 : Int32) (a2 : Int32) (a3 : Int32) (a4 : Int32)  (g : G) (q : Int32 × G) {post : Int32 → G → Prop} (H : f_X9_pointsOf a1 a2 a3 a4 g = some q) (K : post q.1 q.2) : Y m_X9_pointsOf 3 [.ref 159, .int a1, .int a2, .int a3, .int a4] g post := by
  refine Y_of ok_X9_pointsOf pn_9 rfl (by decide) (Or.inr (Or.inl rfl)) (List.forall_mem_cons.mpr ⟨rfl, (List.forall_mem_cons.mpr ⟨rfl, (List.forall_mem_cons.mpr ⟨rfl, (List.forall_mem_cons.mpr ⟨rfl, (List.forall_mem_cons.mpr ⟨rfl, (fun _ h => absurd h List.not_mem_nil)⟩)⟩)⟩)⟩)⟩) (Nat.le_of_ble_eq_true rfl) ?_
  show u_V m_X9_pointsOf 3 post 0 [some (.ref 159), some (.int a1), some (.int a2), some (.int a3), some (.int a4), none, none, none] [] g
  unfold f_X9_pointsOf at H
  refine x_iconst (v := (0 : Int32)) rfl (by decide) ?_
  refine am_istore rfl (Nat.le_of_ble_eq_true rfl) ?_
  refine x_iconst (v := (0 : Int32)) rfl (by decide) ?_
  refine am_istore rfl (Nat.le_of_ble_eq_true rfl) ?_
  obtain ⟨s43, H1, H⟩ := bd_some H
  have K2 : (fun (s7 : Int32 × G) => u_V m_X9_pointsOf 3 post 120 [none, none, none, none, none, some (.int s7.1), none, none] [] s7.2) s43 := by
    clear H1
    obtain ⟨x5, g6⟩ := s43
    (try dsimp only at H); (try dsimp only)
    refine am_iload rfl rfl ?_
    have H := Option.some.inj H
    subst H
    exact u_iret rfl rfl K
  refine am_drop (L' := [some (.ref 159), some (.int a1), some (.int a2), some (.int a3), some (.int a4), some (.int (0 : Int32)), some (.int (0 : Int32)), none]) (And.intro rfl (And.intro rfl (And.intro rfl (And.intro rfl (And.intro rfl (And.intro rfl (And.intro rfl trivial))))))) ?_
  refine lp_ind (P := (fun (s4 : Int32 × Int32 × G) => u_V m_X9_pointsOf 3 post 6 [some (.ref 159), some (.int a1), some (.int a2), some (.int a3), some (.int a4), some (.int s4.1), some (.int s4.2.1), none] [] s4.2.2)) (Q := (fun (s7 : Int32 × G) => u_V m_X9_pointsOf 3 post 120 [none, none, none, none, none, some (.int s7.1), none, none] [] s7.2)) ?_ 2000 ((0 : Int32), (0 : Int32), g) s43 H1 K2
  clear H1 H K
  intro s4 s43b H K
  obtain ⟨x1, x2, g3⟩ := s4
  (try dsimp only at H); (try dsimp only)
  refine am_iload rfl rfl ?_
  refine am_aload_n rfl rfl ?_
  refine am_iload_n rfl rfl ?_
  refine x_bipush (v := (25 : Int32)) rfl (by decide) ?_
  obtain ⟨r8, g9, H1, H⟩ := bd2_some H
  refine cv2i v_9_140 rfl rfl (Nat.le_of_ble_eq_true rfl) rfl (Nat.le_of_ble_eq_true rfl) (fun _ _ => Nat.le_of_ble_eq_true rfl) (y_X9_cell a1 (25 : Int32) g3 _ H1 ?_)
  refine am_icmp_ge rfl (fun c10 => ?_) (fun c10 => ?_)
  · have H := it_pos c10 H
    have H := Option.some.inj H
    subst H
    exact am_drop (L' := [none, none, none, none, none, some (.int x1), none, none]) (And.intro rfl trivial) K
  · have H := it_neg c10 H
    refine am_aload_n rfl rfl ?_
    refine am_iload_n rfl rfl ?_
    refine am_iload rfl rfl ?_
    refine am_iload_n rfl rfl ?_
    obtain ⟨r11, g12, H1, H⟩ := bd2_some H
    refine cv3i v_9_158 rfl rfl (Nat.le_of_ble_eq_true rfl) rfl (Nat.le_of_ble_eq_true rfl) (fun _ _ => Nat.le_of_ble_eq_true rfl) (y_X9_pairOf a1 x2 a2 g9 _ H1 ?_)
    refine am_istore rfl (Nat.le_of_ble_eq_true rfl) ?_
    refine am_iload rfl rfl ?_
    refine x_iconst (v := (-1 : Int32)) rfl (by decide) ?_
    obtain ⟨s42, H1, H⟩ := bd_some H
    have K : (Sum.elim (fun (s16 : Int32 × Int32 × G) => u_V m_X9_pointsOf 3 post 71 [some (.ref 159), some (.int a1), some (.int a2), some (.int a3), some (.int a4), some (.int s16.1), some (.int s16.2.1), some (.int r11)] [] s16.2.2) (Sum.elim (fun (s4 : Int32 × Int32 × G) => u_V m_X9_pointsOf 3 post 6 [some (.ref 159), some (.int a1), some (.int a2), some (.int a3), some (.int a4), some (.int s4.1), some (.int s4.2.1), none] [] s4.2.2) (fun (s7 : Int32 × G) => u_V m_X9_pointsOf 3 post 120 [none, none, none, none, none, some (.int s7.1), none, none] [] s7.2))) s42 := by
      clear H1
      cases s42 with
      | inl s16 =>
        obtain ⟨x13, x14, g15⟩ := s16
        (try dsimp only at H); (try dsimp only)
        refine am_iload rfl rfl ?_
        refine x_iconst (v := (-1 : Int32)) rfl (by decide) ?_
        obtain ⟨s31, H1, H⟩ := bd_some H
        have K : (fun (s19 : Int32 × G) => u_V m_X9_pointsOf 3 post 114 [some (.ref 159), some (.int a1), some (.int a2), some (.int a3), some (.int a4), some (.int s19.1), some (.int x14), none] [] s19.2) s31 := by
          clear H1
          obtain ⟨x17, g18⟩ := s31
          (try dsimp only at H); (try dsimp only)
          refine x_iinc (v := (x14 + (1 : Int32))) rfl rfl (Nat.le_of_ble_eq_true rfl) rfl ?_
          refine am_goto rfl ?_
          have H := Option.some.inj H
          subst H
          exact am_drop (L' := [some (.ref 159), some (.int a1), some (.int a2), some (.int a3), some (.int a4), some (.int x17), some (.int (x14 + (1 : Int32))), none]) (And.intro rfl (And.intro rfl (And.intro rfl (And.intro rfl (And.intro rfl (And.intro rfl (And.intro rfl trivial))))))) K
        have H := H1
        clear H1
        refine am_icmp_eq rfl (fun c20 => ?_) (fun c20 => ?_)
        · have H := it_pos c20 H
          have H := Option.some.inj H
          subst H
          exact am_drop (L' := [some (.ref 159), some (.int a1), some (.int a2), some (.int a3), some (.int a4), some (.int x13), some (.int x14), none]) (And.intro rfl (And.intro rfl (And.intro rfl (And.intro rfl (And.intro rfl (And.intro rfl (And.intro rfl trivial))))))) K
        · have H := it_neg c20 H
          refine am_iload rfl rfl ?_
          refine am_aload_n rfl rfl ?_
          refine am_iload_n rfl rfl ?_
          refine am_iload rfl rfl ?_
          refine am_iload_n rfl rfl ?_
          refine am_iload rfl rfl ?_
          obtain ⟨r21, g22, H1, H⟩ := bd2_some H
          refine cv4i v_9_165 rfl rfl (Nat.le_of_ble_eq_true rfl) rfl (Nat.le_of_ble_eq_true rfl) (fun _ _ => Nat.le_of_ble_eq_true rfl) (y_X9_outcomeOf a1 r11 a3 a4 g15 _ H1 ?_)
          refine am_aload_n rfl rfl ?_
          refine am_iload_n rfl rfl ?_
          refine x_bipush (v := (50 : Int32)) rfl (by decide) ?_
          refine am_iload rfl rfl ?_
          refine am_iadd rfl ?_
          obtain ⟨r23, g24, H1, H⟩ := bd2_some H
          refine cv2i v_9_140 rfl rfl (Nat.le_of_ble_eq_true rfl) rfl (Nat.le_of_ble_eq_true rfl) (fun _ _ => Nat.le_of_ble_eq_true rfl) (y_X9_cell a1 ((50 : Int32) + r11) g22 _ H1 ?_)
          refine am_iload_n rfl rfl ?_
          obtain ⟨s30, H1, H⟩ := bd_some H
          have K : (fun (s26 : Int32) => u_V m_X9_pointsOf 3 post 108 [some (.ref 159), some (.int a1), some (.int a2), some (.int a3), some (.int a4), none, some (.int x14), none] [.int s26, .int r21, .int x13] g24) s30 := by
            clear H1
            obtain ⟨x25, e_x25⟩ : ∃ z, z = s30 := ⟨_, rfl⟩
            subst e_x25
            (try dsimp only at H); (try dsimp only)
            obtain ⟨r27, g28, H1, H⟩ := bd2_some H
            refine cs2i s_9_169 rfl rfl (Nat.le_of_ble_eq_true rfl) (fun _ _ => Nat.le_of_ble_eq_true rfl) (y_X9_halves r21 x25 g24 _ H1 ?_)
            refine am_iadd rfl ?_
            refine am_istore rfl (Nat.le_of_ble_eq_true rfl) ?_
            have H := Option.some.inj H
            subst H
            exact am_drop (L' := [some (.ref 159), some (.int a1), some (.int a2), some (.int a3), some (.int a4), some (.int (x13 + r27)), some (.int x14), none]) (And.intro rfl (And.intro rfl (And.intro rfl (And.intro rfl (And.intro rfl (And.intro rfl (And.intro rfl trivial))))))) K
          have H := H1
          clear H1
          refine am_icmp_ne rfl (fun c29 => ?_) (fun c29 => ?_)
          · have H := it_neg c29 H
            refine x_iconst (v := (0 : Int32)) rfl (by decide) ?_
            have H := Option.some.inj H
            subst H
            exact am_drop (L' := [some (.ref 159), some (.int a1), some (.int a2), some (.int a3), some (.int a4), none, some (.int x14), none]) (And.intro rfl (And.intro rfl (And.intro rfl (And.intro rfl (And.intro rfl (And.intro rfl trivial)))))) K
          · have H := it_pos c29 H
            refine x_iconst (v := (1 : Int32)) rfl (by decide) ?_
            refine am_goto rfl ?_
            have H := Option.some.inj H
            subst H
            exact am_drop (L' := [some (.ref 159), some (.int a1), some (.int a2), some (.int a3), some (.int a4), none, some (.int x14), none]) (And.intro rfl (And.intro rfl (And.intro rfl (And.intro rfl (And.intro rfl (And.intro rfl trivial)))))) K
      | inr y =>
        have H := Option.some.inj H
        subst H
        exact K
    have H := H1
    clear H1
    refine am_icmp_eq rfl (fun c32 => ?_) (fun c32 => ?_)
    · have H := it_pos c32 H
      have H := Option.some.inj H
      subst H
      exact am_drop (L' := [some (.ref 159), some (.int a1), some (.int a2), some (.int a3), some (.int a4), some (.int x1), some (.int x2), some (.int r11)]) (And.intro rfl (And.intro rfl (And.intro rfl (And.intro rfl (And.intro rfl (And.intro rfl (And.intro rfl (And.intro rfl trivial)))))))) K
    · have H := it_neg c32 H
      refine am_aload_n rfl rfl ?_
      refine am_iload_n rfl rfl ?_
      refine am_iload rfl rfl ?_
      obtain ⟨r33, g34, H1, H⟩ := bd2_some H
      refine cv2i v_9_161 rfl rfl (Nat.le_of_ble_eq_true rfl) rfl (Nat.le_of_ble_eq_true rfl) (fun _ _ => Nat.le_of_ble_eq_true rfl) (y_X9_isWithNobody a1 r11 g12 _ H1 ?_)
      refine am_if_eq rfl (fun c35 => ?_) (fun c35 => ?_)
      · have H := it_pos c35 H
        have H := Option.some.inj H
        subst H
        exact am_drop (L' := [some (.ref 159), some (.int a1), some (.int a2), some (.int a3), some (.int a4), some (.int x1), some (.int x2), some (.int r11)]) (And.intro rfl (And.intro rfl (And.intro rfl (And.intro rfl (And.intro rfl (And.intro rfl (And.intro rfl (And.intro rfl trivial)))))))) K
      · have H := it_neg c35 H
        refine am_iload rfl rfl ?_
        refine am_aload_n rfl rfl ?_
        refine am_iload_n rfl rfl ?_
        refine x_bipush (v := (26 : Int32)) rfl (by decide) ?_
        refine am_iload rfl rfl ?_
        refine am_iadd rfl ?_
        obtain ⟨r36, g37, H1, H⟩ := bd2_some H
        refine cv2i v_9_140 rfl rfl (Nat.le_of_ble_eq_true rfl) rfl (Nat.le_of_ble_eq_true rfl) (fun _ _ => Nat.le_of_ble_eq_true rfl) (y_X9_cell a1 ((26 : Int32) + x2) g34 _ H1 ?_)
        refine am_iload_n rfl rfl ?_
        obtain ⟨s41, H1, H⟩ := bd_some H
        have K : (fun (s39 : Int32) => u_V m_X9_pointsOf 3 post 65 [some (.ref 159), some (.int a1), some (.int a2), some (.int a3), some (.int a4), none, some (.int x2), none] [.int s39, .int x1] g37) s41 := by
          clear H1
          obtain ⟨x38, e_x38⟩ : ∃ z, z = s41 := ⟨_, rfl⟩
          subst e_x38
          (try dsimp only at H); (try dsimp only)
          refine am_iadd rfl ?_
          refine am_istore rfl (Nat.le_of_ble_eq_true rfl) ?_
          refine am_goto rfl ?_
          refine x_iinc (v := (x2 + (1 : Int32))) rfl rfl (Nat.le_of_ble_eq_true rfl) rfl ?_
          refine am_goto rfl ?_
          have H := Option.some.inj H
          subst H
          exact am_drop (L' := [some (.ref 159), some (.int a1), some (.int a2), some (.int a3), some (.int a4), some (.int (x1 + x38)), some (.int (x2 + (1 : Int32))), none]) (And.intro rfl (And.intro rfl (And.intro rfl (And.intro rfl (And.intro rfl (And.intro rfl (And.intro rfl trivial))))))) K
        have H := H1
        clear H1
        refine am_icmp_gt rfl (fun c40 => ?_) (fun c40 => ?_)
        · have H := it_pos c40 H
          refine x_iconst (v := (0 : Int32)) rfl (by decide) ?_
          have H := Option.some.inj H
          subst H
          exact am_drop (L' := [some (.ref 159), some (.int a1), some (.int a2), some (.int a3), some (.int a4), none, some (.int x2), none]) (And.intro rfl (And.intro rfl (And.intro rfl (And.intro rfl (And.intro rfl (And.intro rfl trivial)))))) K
        · have H := it_neg c40 H
          refine x_iconst (v := (2 : Int32)) rfl (by decide) ?_
          refine am_goto rfl ?_
          have H := Option.some.inj H
          subst H
          exact am_drop (L' := [some (.ref 159), some (.int a1), some (.int a2), some (.int a3), some (.int a4), none, some (.int x2), none]) (And.intro rfl (And.intro rfl (And.intro rfl (And.intro rfl (And.intro rfl (And.intro rfl trivial)))))) K
def f_X9_sumOf (a1 : Int32) (a2 : Int32) (a3 : Int32) (a4 : Int32) (a5 : Int32) (g : G) : Option (Int32 × G) := bd2 (f_X9_pointsOf a1 a2 a4 a5 g) fun r1 g2 => bd (lp (fun (s9 : Int32 × Int32 × Int32 × Int32 × Int32 × G) => (bd2 (f_X9_cell a1 (25 : Int32) s9.2.2.2.2.2) fun r16 g17 => if r16 ≤ s9.2.2.2.2.1 then some (.inr (s9.1, s9.2.1, s9.2.2.1, s9.2.2.2.1, g17)) else bd2 (f_X9_pairOf a1 s9.2.2.2.2.1 a2 g17) fun r19 g20 => bd ((if r19 = (-1 : Int32) then some ((s9.1, s9.2.1, s9.2.2.1, s9.2.2.2.1, g20)) else bd2 (f_X9_isWithNobody a1 r19 g20) fun r28 g29 => if r28 = 0 then bd2 (f_X9_cell a1 ((50 : Int32) + r19) g29) fun r31 g32 => bd ((if r31 = a2 then some ((1 : Int32)) else some ((0 : Int32)) : Option (Int32))) fun (s34 : Int32) => bd2 (f_X9_outcomeOf a1 r19 a4 a5 g32) fun r35 g36 => bd2 (f_X9_otherOf a1 r19 a2 g36) fun r37 g38 => bd2 (f_X9_pointsOf a1 r37 a4 a5 g38) fun r39 g40 => if (3 : Int32) ≤ a3 then if a3 = (3 : Int32) then bd ((if s34 = 0 then some ((0 : Int32)) else some ((2 : Int32)) : Option (Int32))) fun (s59 : Int32) => bd ((if r35 = s59 then some ((1 : Int32)) else some ((0 : Int32)) : Option (Int32))) fun (s61 : Int32) => some (((s9.1 + s61), s9.2.1, s9.2.2.1, s9.2.2.2.1, g40)) else if a3 = (4 : Int32) then bd ((if r39 = r1 then bd2 (f_X9_halves r35 s34 g40) fun r55 g56 => some ((r55, g56)) else some (((0 : Int32), g40)) : Option (Int32 × G))) fun (s53 : Int32 × G) => some (((s9.1 + s53.1), s9.2.1, s9.2.2.1, s9.2.2.2.1, s53.2)) else bd ((if s34 = 0 then bd2 (f_X9_in r35 (0 : Int32) (2 : Int32) g40) fun r47 g48 => if r47 = 0 then some (.inl (g48)) else some (.inr (((s9.1 + (1 : Int32)), s9.2.1, s9.2.2.1, s9.2.2.2.1, g48))) else some (.inl (g40)) : Option ((G) ⊕ (Int32 × Int32 × Int32 × Int32 × G)))) fun s50m => (match s50m with | .inl s45 => (some (((s9.1 + (0 : Int32)), s9.2.1, s9.2.2.1, s9.2.2.2.1, s45))) | .inr y => some y) else bd ((if s9.2.1 = 0 then some (.inl (s9.2.1, s9.2.2.2.1)) else if s9.2.2.1 ≤ r39 then bd ((if s9.2.1 = 0 then some (.inl (s9.2.1)) else if r39 ≤ s9.2.2.2.1 then some (.inr (.inr (((s9.1 + r39), (s9.2.1 + (1 : Int32)), s9.2.2.1, s9.2.2.2.1, g40)))) else some (.inl (s9.2.1)) : Option ((Int32) ⊕ ((Int32 × Int32) ⊕ (Int32 × Int32 × Int32 × Int32 × G))))) fun s80m => (match s80m with | .inl s77 => (some (.inr (((s9.1 + r39), (s77 + (1 : Int32)), s9.2.2.1, r39, g40)))) | .inr y => some y) else some (.inl (s9.2.1, s9.2.2.2.1)) : Option ((Int32 × Int32) ⊕ (Int32 × Int32 × Int32 × Int32 × G)))) fun s81m => (match s81m with | .inl s68 => (bd ((if s68.1 = 0 then some (.inl (s68.1)) else if r39 ≤ s68.2 then some (.inr (((s9.1 + r39), (s68.1 + (1 : Int32)), r39, s68.2, g40))) else some (.inl (s68.1)) : Option ((Int32) ⊕ (Int32 × Int32 × Int32 × Int32 × G)))) fun s73m => (match s73m with | .inl s70 => (some (((s9.1 + r39), (s70 + (1 : Int32)), r39, r39, g40))) | .inr y => some y)) | .inr y => some y) else some ((s9.1, s9.2.1, s9.2.2.1, s9.2.2.2.1, g29)) : Option (Int32 × Int32 × Int32 × Int32 × G))) fun (s26 : Int32 × Int32 × Int32 × Int32 × G) => some (.inl (s26.1, s26.2.1, s26.2.2.1, s26.2.2.2.1, (s9.2.2.2.2.1 + (1 : Int32)), s26.2.2.2.2)) : Option ((Int32 × Int32 × Int32 × Int32 × Int32 × G) ⊕ (Int32 × Int32 × Int32 × Int32 × G)))) 2000 ((0 : Int32), (0 : Int32), (0 : Int32), (0 : Int32), (0 : Int32), g2)) fun (s15 : Int32 × Int32 × Int32 × Int32 × G) => if a3 = (2 : Int32) then if (3 : Int32) ≤ s15.2.1 then some ((((s15.1 - s15.2.2.1) - s15.2.2.2.1), s15.2.2.2.2)) else some (((0 : Int32), s15.2.2.2.2)) else some ((s15.1, s15.2.2.2.2))
set_option maxHeartbeats 4000000 in
set_option maxRecDepth 100000 in
theorem y_X9_sumOf (a1 : Int32) (a2 : Int32) (a3 : Int32) (a4 : Int32) (a5 : Int32)  (g : G) (q : Int32 × G) {post : Int32 → G → Prop} (H : f_X9_sumOf a1 a2 a3 a4 a5 g = some q) (K : post q.1 q.2) : Y m_X9_sumOf 4 [.ref 159, .int a1, .int a2, .int a3, .int a4, .int a5] g post := by
  refine Y_of ok_X9_sumOf pn_9 rfl (by decide) (Or.inr (Or.inl rfl)) (List.forall_mem_cons.mpr ⟨rfl, (List.forall_mem_cons.mpr ⟨rfl, (List.forall_mem_cons.mpr ⟨rfl, (List.forall_mem_cons.mpr ⟨rfl, (List.forall_mem_cons.mpr ⟨rfl, (List.forall_mem_cons.mpr ⟨rfl, (fun _ h => absurd h List.not_mem_nil)⟩)⟩)⟩)⟩)⟩)⟩) (Nat.le_of_ble_eq_true rfl) ?_
  show u_V m_X9_sumOf 4 post 0 [some (.ref 159), some (.int a1), some (.int a2), some (.int a3), some (.int a4), some (.int a5), none, none, none, none, none, none, none, none, none, none] [] g
  unfold f_X9_sumOf at H
  refine x_iconst (v := (0 : Int32)) rfl (by decide) ?_
  refine am_istore rfl (Nat.le_of_ble_eq_true rfl) ?_
  refine x_iconst (v := (0 : Int32)) rfl (by decide) ?_
  refine am_istore rfl (Nat.le_of_ble_eq_true rfl) ?_
  refine x_iconst (v := (0 : Int32)) rfl (by decide) ?_
  refine am_istore rfl (Nat.le_of_ble_eq_true rfl) ?_
  refine x_iconst (v := (0 : Int32)) rfl (by decide) ?_
  refine am_istore rfl (Nat.le_of_ble_eq_true rfl) ?_
  refine am_aload_n rfl rfl ?_
  refine am_iload_n rfl rfl ?_
  refine am_iload_n rfl rfl ?_
  refine am_iload rfl rfl ?_
  refine am_iload rfl rfl ?_
  obtain ⟨r1, g2, H1, H⟩ := bd2_some H
  refine cv4i v_9_173 rfl rfl (Nat.le_of_ble_eq_true rfl) rfl (Nat.le_of_ble_eq_true rfl) (fun _ _ => Nat.le_of_ble_eq_true rfl) (y_X9_pointsOf a1 a2 a4 a5 g _ H1 ?_)
  refine am_istore rfl (Nat.le_of_ble_eq_true rfl) ?_
  refine x_iconst (v := (0 : Int32)) rfl (by decide) ?_
  refine am_istore rfl (Nat.le_of_ble_eq_true rfl) ?_
  obtain ⟨s85, H1, H⟩ := bd_some H
  have K2 : (fun (s15 : Int32 × Int32 × Int32 × Int32 × G) => u_V m_X9_sumOf 4 post 276 [none, none, none, some (.int a3), none, none, some (.int s15.1), some (.int s15.2.1), some (.int s15.2.2.1), some (.int s15.2.2.2.1), none, none, none, none, none, none] [] s15.2.2.2.2) s85 := by
    clear H1
    obtain ⟨x10, x11, x12, x13, g14⟩ := s85
    (try dsimp only at H); (try dsimp only)
    refine am_iload_n rfl rfl ?_
    refine x_iconst (v := (2 : Int32)) rfl (by decide) ?_
    refine am_icmp_eq rfl (fun c86 => ?_) (fun c86 => ?_)
    · have H := it_pos c86 H
      refine am_iload rfl rfl ?_
      refine x_iconst (v := (3 : Int32)) rfl (by decide) ?_
      refine am_icmp_ge rfl (fun c87 => ?_) (fun c87 => ?_)
      · have H := it_pos c87 H
        refine am_iload rfl rfl ?_
        refine am_iload rfl rfl ?_
        refine am_isub rfl ?_
        refine am_iload rfl rfl ?_
        refine am_isub rfl ?_
        have H := Option.some.inj H
        subst H
        exact u_iret rfl rfl K
      · have H := it_neg c87 H
        refine x_iconst (v := (0 : Int32)) rfl (by decide) ?_
        refine am_goto rfl ?_
        have H := Option.some.inj H
        subst H
        exact u_iret rfl rfl K
    · have H := it_neg c86 H
      refine am_iload rfl rfl ?_
      refine am_goto rfl ?_
      have H := Option.some.inj H
      subst H
      exact u_iret rfl rfl K
  refine am_drop (L' := [some (.ref 159), some (.int a1), some (.int a2), some (.int a3), some (.int a4), some (.int a5), some (.int (0 : Int32)), some (.int (0 : Int32)), some (.int (0 : Int32)), some (.int (0 : Int32)), some (.int r1), some (.int (0 : Int32)), none, none, none, none]) (And.intro rfl (And.intro rfl (And.intro rfl (And.intro rfl (And.intro rfl (And.intro rfl (And.intro rfl (And.intro rfl (And.intro rfl (And.intro rfl (And.intro rfl (And.intro rfl trivial)))))))))))) ?_
  refine lp_ind (P := (fun (s9 : Int32 × Int32 × Int32 × Int32 × Int32 × G) => u_V m_X9_sumOf 4 post 27 [some (.ref 159), some (.int a1), some (.int a2), some (.int a3), some (.int a4), some (.int a5), some (.int s9.1), some (.int s9.2.1), some (.int s9.2.2.1), some (.int s9.2.2.2.1), some (.int r1), some (.int s9.2.2.2.2.1), none, none, none, none] [] s9.2.2.2.2.2)) (Q := (fun (s15 : Int32 × Int32 × Int32 × Int32 × G) => u_V m_X9_sumOf 4 post 276 [none, none, none, some (.int a3), none, none, some (.int s15.1), some (.int s15.2.1), some (.int s15.2.2.1), some (.int s15.2.2.2.1), none, none, none, none, none, none] [] s15.2.2.2.2)) ?_ 2000 ((0 : Int32), (0 : Int32), (0 : Int32), (0 : Int32), (0 : Int32), g2) s85 H1 K2
  clear H1 H K
  intro s9 s85b H K
  obtain ⟨x3, x4, x5, x6, x7, g8⟩ := s9
  (try dsimp only at H); (try dsimp only)
  refine am_iload rfl rfl ?_
  refine am_aload_n rfl rfl ?_
  refine am_iload_n rfl rfl ?_
  refine x_bipush (v := (25 : Int32)) rfl (by decide) ?_
  obtain ⟨r16, g17, H1, H⟩ := bd2_some H
  refine cv2i v_9_140 rfl rfl (Nat.le_of_ble_eq_true rfl) rfl (Nat.le_of_ble_eq_true rfl) (fun _ _ => Nat.le_of_ble_eq_true rfl) (y_X9_cell a1 (25 : Int32) g8 _ H1 ?_)
  refine am_icmp_ge rfl (fun c18 => ?_) (fun c18 => ?_)
  · have H := it_pos c18 H
    have H := Option.some.inj H
    subst H
    exact am_drop (L' := [none, none, none, some (.int a3), none, none, some (.int x3), some (.int x4), some (.int x5), some (.int x6), none, none, none, none, none, none]) (And.intro rfl (And.intro rfl (And.intro rfl (And.intro rfl (And.intro rfl trivial))))) K
  · have H := it_neg c18 H
    refine am_aload_n rfl rfl ?_
    refine am_iload_n rfl rfl ?_
    refine am_iload rfl rfl ?_
    refine am_iload_n rfl rfl ?_
    obtain ⟨r19, g20, H1, H⟩ := bd2_some H
    refine cv3i v_9_158 rfl rfl (Nat.le_of_ble_eq_true rfl) rfl (Nat.le_of_ble_eq_true rfl) (fun _ _ => Nat.le_of_ble_eq_true rfl) (y_X9_pairOf a1 x7 a2 g17 _ H1 ?_)
    refine am_istore rfl (Nat.le_of_ble_eq_true rfl) ?_
    refine am_iload rfl rfl ?_
    refine x_iconst (v := (-1 : Int32)) rfl (by decide) ?_
    obtain ⟨s84, H1, H⟩ := bd_some H
    have K : (fun (s26 : Int32 × Int32 × Int32 × Int32 × G) => u_V m_X9_sumOf 4 post 270 [some (.ref 159), some (.int a1), some (.int a2), some (.int a3), some (.int a4), some (.int a5), some (.int s26.1), some (.int s26.2.1), some (.int s26.2.2.1), some (.int s26.2.2.2.1), some (.int r1), some (.int x7), none, none, none, none] [] s26.2.2.2.2) s84 := by
      clear H1
      obtain ⟨x21, x22, x23, x24, g25⟩ := s84
      (try dsimp only at H); (try dsimp only)
      refine x_iinc (v := (x7 + (1 : Int32))) rfl rfl (Nat.le_of_ble_eq_true rfl) rfl ?_
      refine am_goto rfl ?_
      have H := Option.some.inj H
      subst H
      exact am_drop (L' := [some (.ref 159), some (.int a1), some (.int a2), some (.int a3), some (.int a4), some (.int a5), some (.int x21), some (.int x22), some (.int x23), some (.int x24), some (.int r1), some (.int (x7 + (1 : Int32))), none, none, none, none]) (And.intro rfl (And.intro rfl (And.intro rfl (And.intro rfl (And.intro rfl (And.intro rfl (And.intro rfl (And.intro rfl (And.intro rfl (And.intro rfl (And.intro rfl (And.intro rfl trivial)))))))))))) K
    have H := H1
    clear H1
    refine am_icmp_eq rfl (fun c27 => ?_) (fun c27 => ?_)
    · have H := it_pos c27 H
      have H := Option.some.inj H
      subst H
      exact am_drop (L' := [some (.ref 159), some (.int a1), some (.int a2), some (.int a3), some (.int a4), some (.int a5), some (.int x3), some (.int x4), some (.int x5), some (.int x6), some (.int r1), some (.int x7), none, none, none, none]) (And.intro rfl (And.intro rfl (And.intro rfl (And.intro rfl (And.intro rfl (And.intro rfl (And.intro rfl (And.intro rfl (And.intro rfl (And.intro rfl (And.intro rfl (And.intro rfl trivial)))))))))))) K
    · have H := it_neg c27 H
      refine am_aload_n rfl rfl ?_
      refine am_iload_n rfl rfl ?_
      refine am_iload rfl rfl ?_
      obtain ⟨r28, g29, H1, H⟩ := bd2_some H
      refine cv2i v_9_161 rfl rfl (Nat.le_of_ble_eq_true rfl) rfl (Nat.le_of_ble_eq_true rfl) (fun _ _ => Nat.le_of_ble_eq_true rfl) (y_X9_isWithNobody a1 r19 g20 _ H1 ?_)
      refine am_if_eq rfl (fun c30 => ?_) (fun c30 => ?_)
      · have H := it_pos c30 H
        refine am_aload_n rfl rfl ?_
        refine am_iload_n rfl rfl ?_
        refine x_bipush (v := (50 : Int32)) rfl (by decide) ?_
        refine am_iload rfl rfl ?_
        refine am_iadd rfl ?_
        obtain ⟨r31, g32, H1, H⟩ := bd2_some H
        refine cv2i v_9_140 rfl rfl (Nat.le_of_ble_eq_true rfl) rfl (Nat.le_of_ble_eq_true rfl) (fun _ _ => Nat.le_of_ble_eq_true rfl) (y_X9_cell a1 ((50 : Int32) + r19) g29 _ H1 ?_)
        refine am_iload_n rfl rfl ?_
        obtain ⟨s83, H1, H⟩ := bd_some H
        have K : (fun (s34 : Int32) => u_V m_X9_sumOf 4 post 87 [some (.ref 159), some (.int a1), some (.int a2), some (.int a3), some (.int a4), some (.int a5), some (.int x3), some (.int x4), some (.int x5), some (.int x6), some (.int r1), some (.int x7), some (.int r19), none, none, none] [.int s34] g32) s83 := by
          clear H1
          obtain ⟨x33, e_x33⟩ : ∃ z, z = s83 := ⟨_, rfl⟩
          subst e_x33
          (try dsimp only at H); (try dsimp only)
          refine am_istore rfl (Nat.le_of_ble_eq_true rfl) ?_
          refine am_aload_n rfl rfl ?_
          refine am_iload_n rfl rfl ?_
          refine am_iload rfl rfl ?_
          refine am_iload rfl rfl ?_
          refine am_iload rfl rfl ?_
          obtain ⟨r35, g36, H1, H⟩ := bd2_some H
          refine cv4i v_9_165 rfl rfl (Nat.le_of_ble_eq_true rfl) rfl (Nat.le_of_ble_eq_true rfl) (fun _ _ => Nat.le_of_ble_eq_true rfl) (y_X9_outcomeOf a1 r19 a4 a5 g32 _ H1 ?_)
          refine am_istore rfl (Nat.le_of_ble_eq_true rfl) ?_
          refine am_aload_n rfl rfl ?_
          refine am_iload_n rfl rfl ?_
          refine am_aload_n rfl rfl ?_
          refine am_iload_n rfl rfl ?_
          refine am_iload rfl rfl ?_
          refine am_iload_n rfl rfl ?_
          obtain ⟨r37, g38, H1, H⟩ := bd2_some H
          refine cv3i v_9_176 rfl rfl (Nat.le_of_ble_eq_true rfl) rfl (Nat.le_of_ble_eq_true rfl) (fun _ _ => Nat.le_of_ble_eq_true rfl) (y_X9_otherOf a1 r19 a2 g36 _ H1 ?_)
          refine am_iload rfl rfl ?_
          refine am_iload rfl rfl ?_
          obtain ⟨r39, g40, H1, H⟩ := bd2_some H
          refine cv4i v_9_173 rfl rfl (Nat.le_of_ble_eq_true rfl) rfl (Nat.le_of_ble_eq_true rfl) (fun _ _ => Nat.le_of_ble_eq_true rfl) (y_X9_pointsOf a1 r37 a4 a5 g38 _ H1 ?_)
          refine am_istore rfl (Nat.le_of_ble_eq_true rfl) ?_
          refine am_iload_n rfl rfl ?_
          refine x_iconst (v := (3 : Int32)) rfl (by decide) ?_
          refine am_icmp_ge rfl (fun c41 => ?_) (fun c41 => ?_)
          · have H := it_pos c41 H
            refine am_iload_n rfl rfl ?_
            refine x_iconst (v := (3 : Int32)) rfl (by decide) ?_
            refine am_icmp_ne rfl (fun c42 => ?_) (fun c42 => ?_)
            · have H := it_neg c42 H
              refine am_iload_n rfl rfl ?_
              refine x_iconst (v := (4 : Int32)) rfl (by decide) ?_
              refine am_icmp_ne rfl (fun c43 => ?_) (fun c43 => ?_)
              · have H := it_neg c43 H
                refine am_iload rfl rfl ?_
                refine am_iload rfl rfl ?_
                obtain ⟨s50, H1, H⟩ := bd_some H
                have K : (Sum.elim (fun (s45 : G) => u_V m_X9_sumOf 4 post 266 [some (.ref 159), some (.int a1), some (.int a2), some (.int a3), some (.int a4), some (.int a5), none, some (.int x4), some (.int x5), some (.int x6), some (.int r1), some (.int x7), none, none, none, none] [.int x3] s45) (fun (s26 : Int32 × Int32 × Int32 × Int32 × G) => u_V m_X9_sumOf 4 post 270 [some (.ref 159), some (.int a1), some (.int a2), some (.int a3), some (.int a4), some (.int a5), some (.int s26.1), some (.int s26.2.1), some (.int s26.2.2.1), some (.int s26.2.2.2.1), some (.int r1), some (.int x7), none, none, none, none] [] s26.2.2.2.2)) s50 := by
                  clear H1
                  cases s50 with
                  | inl s45 =>
                    obtain ⟨g44, e_g44⟩ : ∃ z, z = s45 := ⟨_, rfl⟩
                    subst e_g44
                    (try dsimp only at H); (try dsimp only)
                    refine x_iconst (v := (0 : Int32)) rfl (by decide) ?_
                    refine am_iadd rfl ?_
                    refine am_istore rfl (Nat.le_of_ble_eq_true rfl) ?_
                    have H := Option.some.inj H
                    subst H
                    exact am_drop (L' := [some (.ref 159), some (.int a1), some (.int a2), some (.int a3), some (.int a4), some (.int a5), some (.int (x3 + (0 : Int32))), some (.int x4), some (.int x5), some (.int x6), some (.int r1), some (.int x7), none, none, none, none]) (And.intro rfl (And.intro rfl (And.intro rfl (And.intro rfl (And.intro rfl (And.intro rfl (And.intro rfl (And.intro rfl (And.intro rfl (And.intro rfl (And.intro rfl (And.intro rfl trivial)))))))))))) K
                  | inr y =>
                    have H := Option.some.inj H
                    subst H
                    exact K
                have H := H1
                clear H1
                refine am_if_ne rfl (fun c46 => ?_) (fun c46 => ?_)
                · have H := it_neg c46 H
                  have H := Option.some.inj H
                  subst H
                  exact am_drop (L' := [some (.ref 159), some (.int a1), some (.int a2), some (.int a3), some (.int a4), some (.int a5), none, some (.int x4), some (.int x5), some (.int x6), some (.int r1), some (.int x7), none, none, none, none]) (And.intro rfl (And.intro rfl (And.intro rfl (And.intro rfl (And.intro rfl (And.intro rfl (And.intro rfl (And.intro rfl (And.intro rfl (And.intro rfl (And.intro rfl trivial))))))))))) K
                · have H := it_pos c46 H
                  refine am_iload rfl rfl ?_
                  refine x_iconst (v := (0 : Int32)) rfl (by decide) ?_
                  refine x_iconst (v := (2 : Int32)) rfl (by decide) ?_
                  obtain ⟨r47, g48, H1, H⟩ := bd2_some H
                  refine cs3i s_9_101 rfl rfl (Nat.le_of_ble_eq_true rfl) (fun _ _ => Nat.le_of_ble_eq_true rfl) (y_X9_in r35 (0 : Int32) (2 : Int32) g40 _ H1 ?_)
                  refine am_if_eq rfl (fun c49 => ?_) (fun c49 => ?_)
                  · have H := it_pos c49 H
                    have H := Option.some.inj H
                    subst H
                    exact am_drop (L' := [some (.ref 159), some (.int a1), some (.int a2), some (.int a3), some (.int a4), some (.int a5), none, some (.int x4), some (.int x5), some (.int x6), some (.int r1), some (.int x7), none, none, none, none]) (And.intro rfl (And.intro rfl (And.intro rfl (And.intro rfl (And.intro rfl (And.intro rfl (And.intro rfl (And.intro rfl (And.intro rfl (And.intro rfl (And.intro rfl trivial))))))))))) K
                  · have H := it_neg c49 H
                    refine x_iconst (v := (1 : Int32)) rfl (by decide) ?_
                    refine am_goto rfl ?_
                    refine am_iadd rfl ?_
                    refine am_istore rfl (Nat.le_of_ble_eq_true rfl) ?_
                    have H := Option.some.inj H
                    subst H
                    exact am_drop (L' := [some (.ref 159), some (.int a1), some (.int a2), some (.int a3), some (.int a4), some (.int a5), some (.int (x3 + (1 : Int32))), some (.int x4), some (.int x5), some (.int x6), some (.int r1), some (.int x7), none, none, none, none]) (And.intro rfl (And.intro rfl (And.intro rfl (And.intro rfl (And.intro rfl (And.intro rfl (And.intro rfl (And.intro rfl (And.intro rfl (And.intro rfl (And.intro rfl (And.intro rfl trivial)))))))))))) K
              · have H := it_pos c43 H
                refine am_iload rfl rfl ?_
                refine am_iload rfl rfl ?_
                refine am_iload rfl rfl ?_
                obtain ⟨s57, H1, H⟩ := bd_some H
                have K : (fun (s53 : Int32 × G) => u_V m_X9_sumOf 4 post 239 [some (.ref 159), some (.int a1), some (.int a2), some (.int a3), some (.int a4), some (.int a5), none, some (.int x4), some (.int x5), some (.int x6), some (.int r1), some (.int x7), none, none, none, none] [.int s53.1, .int x3] s53.2) s57 := by
                  clear H1
                  obtain ⟨x51, g52⟩ := s57
                  (try dsimp only at H); (try dsimp only)
                  refine am_iadd rfl ?_
                  refine am_istore rfl (Nat.le_of_ble_eq_true rfl) ?_
                  refine am_goto rfl ?_
                  have H := Option.some.inj H
                  subst H
                  exact am_drop (L' := [some (.ref 159), some (.int a1), some (.int a2), some (.int a3), some (.int a4), some (.int a5), some (.int (x3 + x51)), some (.int x4), some (.int x5), some (.int x6), some (.int r1), some (.int x7), none, none, none, none]) (And.intro rfl (And.intro rfl (And.intro rfl (And.intro rfl (And.intro rfl (And.intro rfl (And.intro rfl (And.intro rfl (And.intro rfl (And.intro rfl (And.intro rfl (And.intro rfl trivial)))))))))))) K
                have H := H1
                clear H1
                refine am_icmp_ne rfl (fun c54 => ?_) (fun c54 => ?_)
                · have H := it_neg c54 H
                  refine x_iconst (v := (0 : Int32)) rfl (by decide) ?_
                  have H := Option.some.inj H
                  subst H
                  exact am_drop (L' := [some (.ref 159), some (.int a1), some (.int a2), some (.int a3), some (.int a4), some (.int a5), none, some (.int x4), some (.int x5), some (.int x6), some (.int r1), some (.int x7), none, none, none, none]) (And.intro rfl (And.intro rfl (And.intro rfl (And.intro rfl (And.intro rfl (And.intro rfl (And.intro rfl (And.intro rfl (And.intro rfl (And.intro rfl (And.intro rfl trivial))))))))))) K
                · have H := it_pos c54 H
                  refine am_iload rfl rfl ?_
                  refine am_iload rfl rfl ?_
                  obtain ⟨r55, g56, H1, H⟩ := bd2_some H
                  refine cs2i s_9_169 rfl rfl (Nat.le_of_ble_eq_true rfl) (fun _ _ => Nat.le_of_ble_eq_true rfl) (y_X9_halves r35 x33 g40 _ H1 ?_)
                  refine am_goto rfl ?_
                  have H := Option.some.inj H
                  subst H
                  exact am_drop (L' := [some (.ref 159), some (.int a1), some (.int a2), some (.int a3), some (.int a4), some (.int a5), none, some (.int x4), some (.int x5), some (.int x6), some (.int r1), some (.int x7), none, none, none, none]) (And.intro rfl (And.intro rfl (And.intro rfl (And.intro rfl (And.intro rfl (And.intro rfl (And.intro rfl (And.intro rfl (And.intro rfl (And.intro rfl (And.intro rfl trivial))))))))))) K
            · have H := it_pos c42 H
              refine am_iload rfl rfl ?_
              refine am_iload rfl rfl ?_
              refine am_iload rfl rfl ?_
              obtain ⟨s65, H1, H⟩ := bd_some H
              have K : (fun (s59 : Int32) => u_V m_X9_sumOf 4 post 200 [some (.ref 159), some (.int a1), some (.int a2), some (.int a3), some (.int a4), some (.int a5), none, some (.int x4), some (.int x5), some (.int x6), some (.int r1), some (.int x7), none, none, none, none] [.int s59, .int r35, .int x3] g40) s65 := by
                clear H1
                obtain ⟨x58, e_x58⟩ : ∃ z, z = s65 := ⟨_, rfl⟩
                subst e_x58
                (try dsimp only at H); (try dsimp only)
                obtain ⟨s63, H1, H⟩ := bd_some H
                have K : (fun (s61 : Int32) => u_V m_X9_sumOf 4 post 208 [some (.ref 159), some (.int a1), some (.int a2), some (.int a3), some (.int a4), some (.int a5), none, some (.int x4), some (.int x5), some (.int x6), some (.int r1), some (.int x7), none, none, none, none] [.int s61, .int x3] g40) s63 := by
                  clear H1
                  obtain ⟨x60, e_x60⟩ : ∃ z, z = s63 := ⟨_, rfl⟩
                  subst e_x60
                  (try dsimp only at H); (try dsimp only)
                  refine am_iadd rfl ?_
                  refine am_istore rfl (Nat.le_of_ble_eq_true rfl) ?_
                  refine am_goto rfl ?_
                  have H := Option.some.inj H
                  subst H
                  exact am_drop (L' := [some (.ref 159), some (.int a1), some (.int a2), some (.int a3), some (.int a4), some (.int a5), some (.int (x3 + x60)), some (.int x4), some (.int x5), some (.int x6), some (.int r1), some (.int x7), none, none, none, none]) (And.intro rfl (And.intro rfl (And.intro rfl (And.intro rfl (And.intro rfl (And.intro rfl (And.intro rfl (And.intro rfl (And.intro rfl (And.intro rfl (And.intro rfl (And.intro rfl trivial)))))))))))) K
                have H := H1
                clear H1
                refine am_icmp_ne rfl (fun c62 => ?_) (fun c62 => ?_)
                · have H := it_neg c62 H
                  refine x_iconst (v := (0 : Int32)) rfl (by decide) ?_
                  have H := Option.some.inj H
                  subst H
                  exact am_drop (L' := [some (.ref 159), some (.int a1), some (.int a2), some (.int a3), some (.int a4), some (.int a5), none, some (.int x4), some (.int x5), some (.int x6), some (.int r1), some (.int x7), none, none, none, none]) (And.intro rfl (And.intro rfl (And.intro rfl (And.intro rfl (And.intro rfl (And.intro rfl (And.intro rfl (And.intro rfl (And.intro rfl (And.intro rfl (And.intro rfl trivial))))))))))) K
                · have H := it_pos c62 H
                  refine x_iconst (v := (1 : Int32)) rfl (by decide) ?_
                  refine am_goto rfl ?_
                  have H := Option.some.inj H
                  subst H
                  exact am_drop (L' := [some (.ref 159), some (.int a1), some (.int a2), some (.int a3), some (.int a4), some (.int a5), none, some (.int x4), some (.int x5), some (.int x6), some (.int r1), some (.int x7), none, none, none, none]) (And.intro rfl (And.intro rfl (And.intro rfl (And.intro rfl (And.intro rfl (And.intro rfl (And.intro rfl (And.intro rfl (And.intro rfl (And.intro rfl (And.intro rfl trivial))))))))))) K
              have H := H1
              clear H1
              refine am_if_eq rfl (fun c64 => ?_) (fun c64 => ?_)
              · have H := it_pos c64 H
                refine x_iconst (v := (0 : Int32)) rfl (by decide) ?_
                have H := Option.some.inj H
                subst H
                exact am_drop (L' := [some (.ref 159), some (.int a1), some (.int a2), some (.int a3), some (.int a4), some (.int a5), none, some (.int x4), some (.int x5), some (.int x6), some (.int r1), some (.int x7), none, none, none, none]) (And.intro rfl (And.intro rfl (And.intro rfl (And.intro rfl (And.intro rfl (And.intro rfl (And.intro rfl (And.intro rfl (And.intro rfl (And.intro rfl (And.intro rfl trivial))))))))))) K
              · have H := it_neg c64 H
                refine x_iconst (v := (2 : Int32)) rfl (by decide) ?_
                refine am_goto rfl ?_
                have H := Option.some.inj H
                subst H
                exact am_drop (L' := [some (.ref 159), some (.int a1), some (.int a2), some (.int a3), some (.int a4), some (.int a5), none, some (.int x4), some (.int x5), some (.int x6), some (.int r1), some (.int x7), none, none, none, none]) (And.intro rfl (And.intro rfl (And.intro rfl (And.intro rfl (And.intro rfl (And.intro rfl (And.intro rfl (And.intro rfl (And.intro rfl (And.intro rfl (And.intro rfl trivial))))))))))) K
          · have H := it_neg c41 H
            refine am_iload rfl rfl ?_
            refine am_iload rfl rfl ?_
            refine am_iadd rfl ?_
            refine am_istore rfl (Nat.le_of_ble_eq_true rfl) ?_
            refine am_iload rfl rfl ?_
            obtain ⟨s81, H1, H⟩ := bd_some H
            have K : (Sum.elim (fun (s68 : Int32 × Int32) => u_V m_X9_sumOf 4 post 145 [some (.ref 159), some (.int a1), some (.int a2), some (.int a3), some (.int a4), some (.int a5), some (.int (x3 + r39)), some (.int s68.1), none, some (.int s68.2), some (.int r1), some (.int x7), none, none, none, some (.int r39)] [] g40) (fun (s26 : Int32 × Int32 × Int32 × Int32 × G) => u_V m_X9_sumOf 4 post 270 [some (.ref 159), some (.int a1), some (.int a2), some (.int a3), some (.int a4), some (.int a5), some (.int s26.1), some (.int s26.2.1), some (.int s26.2.2.1), some (.int s26.2.2.2.1), some (.int r1), some (.int x7), none, none, none, none] [] s26.2.2.2.2)) s81 := by
              clear H1
              cases s81 with
              | inl s68 =>
                obtain ⟨x66, x67⟩ := s68
                (try dsimp only at H); (try dsimp only)
                refine am_iload rfl rfl ?_
                refine am_goto rfl ?_
                refine am_istore rfl (Nat.le_of_ble_eq_true rfl) ?_
                refine am_iload rfl rfl ?_
                obtain ⟨s73, H1, H⟩ := bd_some H
                have K : (Sum.elim (fun (s70 : Int32) => u_V m_X9_sumOf 4 post 166 [some (.ref 159), some (.int a1), some (.int a2), some (.int a3), some (.int a4), some (.int a5), some (.int (x3 + r39)), some (.int s70), some (.int r39), none, some (.int r1), some (.int x7), none, none, none, some (.int r39)] [] g40) (fun (s26 : Int32 × Int32 × Int32 × Int32 × G) => u_V m_X9_sumOf 4 post 270 [some (.ref 159), some (.int a1), some (.int a2), some (.int a3), some (.int a4), some (.int a5), some (.int s26.1), some (.int s26.2.1), some (.int s26.2.2.1), some (.int s26.2.2.2.1), some (.int r1), some (.int x7), none, none, none, none] [] s26.2.2.2.2)) s73 := by
                  clear H1
                  cases s73 with
                  | inl s70 =>
                    obtain ⟨x69, e_x69⟩ : ∃ z, z = s70 := ⟨_, rfl⟩
                    subst e_x69
                    (try dsimp only at H); (try dsimp only)
                    refine am_iload rfl rfl ?_
                    refine am_goto rfl ?_
                    refine am_istore rfl (Nat.le_of_ble_eq_true rfl) ?_
                    refine x_iinc (v := (x69 + (1 : Int32))) rfl rfl (Nat.le_of_ble_eq_true rfl) rfl ?_
                    refine am_goto rfl ?_
                    have H := Option.some.inj H
                    subst H
                    exact am_drop (L' := [some (.ref 159), some (.int a1), some (.int a2), some (.int a3), some (.int a4), some (.int a5), some (.int (x3 + r39)), some (.int (x69 + (1 : Int32))), some (.int r39), some (.int r39), some (.int r1), some (.int x7), none, none, none, none]) (And.intro rfl (And.intro rfl (And.intro rfl (And.intro rfl (And.intro rfl (And.intro rfl (And.intro rfl (And.intro rfl (And.intro rfl (And.intro rfl (And.intro rfl (And.intro rfl trivial)))))))))))) K
                  | inr y =>
                    have H := Option.some.inj H
                    subst H
                    exact K
                have H := H1
                clear H1
                refine am_if_eq rfl (fun c71 => ?_) (fun c71 => ?_)
                · have H := it_pos c71 H
                  have H := Option.some.inj H
                  subst H
                  exact am_drop (L' := [some (.ref 159), some (.int a1), some (.int a2), some (.int a3), some (.int a4), some (.int a5), some (.int (x3 + r39)), some (.int x66), some (.int r39), none, some (.int r1), some (.int x7), none, none, none, some (.int r39)]) (And.intro rfl (And.intro rfl (And.intro rfl (And.intro rfl (And.intro rfl (And.intro rfl (And.intro rfl (And.intro rfl (And.intro rfl (And.intro rfl (And.intro rfl (And.intro rfl trivial)))))))))))) K
                · have H := it_neg c71 H
                  refine am_iload rfl rfl ?_
                  refine am_iload rfl rfl ?_
                  refine am_icmp_le rfl (fun c72 => ?_) (fun c72 => ?_)
                  · have H := it_pos c72 H
                    refine am_iload rfl rfl ?_
                    refine am_istore rfl (Nat.le_of_ble_eq_true rfl) ?_
                    refine x_iinc (v := (x66 + (1 : Int32))) rfl rfl (Nat.le_of_ble_eq_true rfl) rfl ?_
                    refine am_goto rfl ?_
                    have H := Option.some.inj H
                    subst H
                    exact am_drop (L' := [some (.ref 159), some (.int a1), some (.int a2), some (.int a3), some (.int a4), some (.int a5), some (.int (x3 + r39)), some (.int (x66 + (1 : Int32))), some (.int r39), some (.int x67), some (.int r1), some (.int x7), none, none, none, none]) (And.intro rfl (And.intro rfl (And.intro rfl (And.intro rfl (And.intro rfl (And.intro rfl (And.intro rfl (And.intro rfl (And.intro rfl (And.intro rfl (And.intro rfl (And.intro rfl trivial)))))))))))) K
                  · have H := it_neg c72 H
                    have H := Option.some.inj H
                    subst H
                    exact am_drop (L' := [some (.ref 159), some (.int a1), some (.int a2), some (.int a3), some (.int a4), some (.int a5), some (.int (x3 + r39)), some (.int x66), some (.int r39), none, some (.int r1), some (.int x7), none, none, none, some (.int r39)]) (And.intro rfl (And.intro rfl (And.intro rfl (And.intro rfl (And.intro rfl (And.intro rfl (And.intro rfl (And.intro rfl (And.intro rfl (And.intro rfl (And.intro rfl (And.intro rfl trivial)))))))))))) K
              | inr y =>
                have H := Option.some.inj H
                subst H
                exact K
            have H := H1
            clear H1
            refine am_if_eq rfl (fun c74 => ?_) (fun c74 => ?_)
            · have H := it_pos c74 H
              have H := Option.some.inj H
              subst H
              exact am_drop (L' := [some (.ref 159), some (.int a1), some (.int a2), some (.int a3), some (.int a4), some (.int a5), some (.int (x3 + r39)), some (.int x4), none, some (.int x6), some (.int r1), some (.int x7), none, none, none, some (.int r39)]) (And.intro rfl (And.intro rfl (And.intro rfl (And.intro rfl (And.intro rfl (And.intro rfl (And.intro rfl (And.intro rfl (And.intro rfl (And.intro rfl (And.intro rfl (And.intro rfl trivial)))))))))))) K
            · have H := it_neg c74 H
              refine am_iload rfl rfl ?_
              refine am_iload rfl rfl ?_
              refine am_icmp_ge rfl (fun c75 => ?_) (fun c75 => ?_)
              · have H := it_pos c75 H
                refine am_iload rfl rfl ?_
                refine am_istore rfl (Nat.le_of_ble_eq_true rfl) ?_
                refine am_iload rfl rfl ?_
                obtain ⟨s80, H1, H⟩ := bd_some H
                have K : (Sum.elim (fun (s77 : Int32) => u_V m_X9_sumOf 4 post 166 [some (.ref 159), some (.int a1), some (.int a2), some (.int a3), some (.int a4), some (.int a5), some (.int (x3 + r39)), some (.int s77), some (.int x5), none, some (.int r1), some (.int x7), none, none, none, some (.int r39)] [] g40) (Sum.elim (fun (s68 : Int32 × Int32) => u_V m_X9_sumOf 4 post 145 [some (.ref 159), some (.int a1), some (.int a2), some (.int a3), some (.int a4), some (.int a5), some (.int (x3 + r39)), some (.int s68.1), none, some (.int s68.2), some (.int r1), some (.int x7), none, none, none, some (.int r39)] [] g40) (fun (s26 : Int32 × Int32 × Int32 × Int32 × G) => u_V m_X9_sumOf 4 post 270 [some (.ref 159), some (.int a1), some (.int a2), some (.int a3), some (.int a4), some (.int a5), some (.int s26.1), some (.int s26.2.1), some (.int s26.2.2.1), some (.int s26.2.2.2.1), some (.int r1), some (.int x7), none, none, none, none] [] s26.2.2.2.2))) s80 := by
                  clear H1
                  cases s80 with
                  | inl s77 =>
                    obtain ⟨x76, e_x76⟩ : ∃ z, z = s77 := ⟨_, rfl⟩
                    subst e_x76
                    (try dsimp only at H); (try dsimp only)
                    refine am_iload rfl rfl ?_
                    refine am_goto rfl ?_
                    refine am_istore rfl (Nat.le_of_ble_eq_true rfl) ?_
                    refine x_iinc (v := (x76 + (1 : Int32))) rfl rfl (Nat.le_of_ble_eq_true rfl) rfl ?_
                    refine am_goto rfl ?_
                    have H := Option.some.inj H
                    subst H
                    exact am_drop (L' := [some (.ref 159), some (.int a1), some (.int a2), some (.int a3), some (.int a4), some (.int a5), some (.int (x3 + r39)), some (.int (x76 + (1 : Int32))), some (.int x5), some (.int r39), some (.int r1), some (.int x7), none, none, none, none]) (And.intro rfl (And.intro rfl (And.intro rfl (And.intro rfl (And.intro rfl (And.intro rfl (And.intro rfl (And.intro rfl (And.intro rfl (And.intro rfl (And.intro rfl (And.intro rfl trivial)))))))))))) K
                  | inr y =>
                    have H := Option.some.inj H
                    subst H
                    exact K
                have H := H1
                clear H1
                refine am_if_eq rfl (fun c78 => ?_) (fun c78 => ?_)
                · have H := it_pos c78 H
                  have H := Option.some.inj H
                  subst H
                  exact am_drop (L' := [some (.ref 159), some (.int a1), some (.int a2), some (.int a3), some (.int a4), some (.int a5), some (.int (x3 + r39)), some (.int x4), some (.int x5), none, some (.int r1), some (.int x7), none, none, none, some (.int r39)]) (And.intro rfl (And.intro rfl (And.intro rfl (And.intro rfl (And.intro rfl (And.intro rfl (And.intro rfl (And.intro rfl (And.intro rfl (And.intro rfl (And.intro rfl (And.intro rfl trivial)))))))))))) K
                · have H := it_neg c78 H
                  refine am_iload rfl rfl ?_
                  refine am_iload rfl rfl ?_
                  refine am_icmp_le rfl (fun c79 => ?_) (fun c79 => ?_)
                  · have H := it_pos c79 H
                    refine am_iload rfl rfl ?_
                    refine am_istore rfl (Nat.le_of_ble_eq_true rfl) ?_
                    refine x_iinc (v := (x4 + (1 : Int32))) rfl rfl (Nat.le_of_ble_eq_true rfl) rfl ?_
                    refine am_goto rfl ?_
                    have H := Option.some.inj H
                    subst H
                    exact am_drop (L' := [some (.ref 159), some (.int a1), some (.int a2), some (.int a3), some (.int a4), some (.int a5), some (.int (x3 + r39)), some (.int (x4 + (1 : Int32))), some (.int x5), some (.int x6), some (.int r1), some (.int x7), none, none, none, none]) (And.intro rfl (And.intro rfl (And.intro rfl (And.intro rfl (And.intro rfl (And.intro rfl (And.intro rfl (And.intro rfl (And.intro rfl (And.intro rfl (And.intro rfl (And.intro rfl trivial)))))))))))) K
                  · have H := it_neg c79 H
                    have H := Option.some.inj H
                    subst H
                    exact am_drop (L' := [some (.ref 159), some (.int a1), some (.int a2), some (.int a3), some (.int a4), some (.int a5), some (.int (x3 + r39)), some (.int x4), some (.int x5), none, some (.int r1), some (.int x7), none, none, none, some (.int r39)]) (And.intro rfl (And.intro rfl (And.intro rfl (And.intro rfl (And.intro rfl (And.intro rfl (And.intro rfl (And.intro rfl (And.intro rfl (And.intro rfl (And.intro rfl (And.intro rfl trivial)))))))))))) K
              · have H := it_neg c75 H
                have H := Option.some.inj H
                subst H
                exact am_drop (L' := [some (.ref 159), some (.int a1), some (.int a2), some (.int a3), some (.int a4), some (.int a5), some (.int (x3 + r39)), some (.int x4), none, some (.int x6), some (.int r1), some (.int x7), none, none, none, some (.int r39)]) (And.intro rfl (And.intro rfl (And.intro rfl (And.intro rfl (And.intro rfl (And.intro rfl (And.intro rfl (And.intro rfl (And.intro rfl (And.intro rfl (And.intro rfl (And.intro rfl trivial)))))))))))) K
        have H := H1
        clear H1
        refine am_icmp_ne rfl (fun c82 => ?_) (fun c82 => ?_)
        · have H := it_neg c82 H
          refine x_iconst (v := (0 : Int32)) rfl (by decide) ?_
          have H := Option.some.inj H
          subst H
          exact am_drop (L' := [some (.ref 159), some (.int a1), some (.int a2), some (.int a3), some (.int a4), some (.int a5), some (.int x3), some (.int x4), some (.int x5), some (.int x6), some (.int r1), some (.int x7), some (.int r19), none, none, none]) (And.intro rfl (And.intro rfl (And.intro rfl (And.intro rfl (And.intro rfl (And.intro rfl (And.intro rfl (And.intro rfl (And.intro rfl (And.intro rfl (And.intro rfl (And.intro rfl (And.intro rfl trivial))))))))))))) K
        · have H := it_pos c82 H
          refine x_iconst (v := (1 : Int32)) rfl (by decide) ?_
          refine am_goto rfl ?_
          have H := Option.some.inj H
          subst H
          exact am_drop (L' := [some (.ref 159), some (.int a1), some (.int a2), some (.int a3), some (.int a4), some (.int a5), some (.int x3), some (.int x4), some (.int x5), some (.int x6), some (.int r1), some (.int x7), some (.int r19), none, none, none]) (And.intro rfl (And.intro rfl (And.intro rfl (And.intro rfl (And.intro rfl (And.intro rfl (And.intro rfl (And.intro rfl (And.intro rfl (And.intro rfl (And.intro rfl (And.intro rfl (And.intro rfl trivial))))))))))))) K
      · have H := it_neg c30 H
        refine am_goto rfl ?_
        have H := Option.some.inj H
        subst H
        exact am_drop (L' := [some (.ref 159), some (.int a1), some (.int a2), some (.int a3), some (.int a4), some (.int a5), some (.int x3), some (.int x4), some (.int x5), some (.int x6), some (.int r1), some (.int x7), none, none, none, none]) (And.intro rfl (And.intro rfl (And.intro rfl (And.intro rfl (And.intro rfl (And.intro rfl (And.intro rfl (And.intro rfl (And.intro rfl (And.intro rfl (And.intro rfl (And.intro rfl trivial)))))))))))) K
def f_X9_parting (a1 : Int32) (a2 : Int32) (a3 : Int32) (a4 : Int32) (a5 : Int32) (g : G) : Option (Int32 × G) := bd (lp (fun (s3 : Int32 × G) => (if (5 : Int32) ≤ s3.1 then some (.inr (.inr (((0 : Int32), s3.2)))) else bd ((if s3.1 = 0 then some (((0 : Int32), s3.2)) else bd2 (f_X9_cell a1 (((21 : Int32) + s3.1) - (1 : Int32)) s3.2) fun r30 g31 => some ((r30, g31)) : Option (Int32 × G))) fun (s12 : Int32 × G) => bd ((if s3.1 = 0 then bd2 (f_X9_pointsOf a1 a2 a4 a5 s12.2) fun r24 g25 => bd2 (f_X9_pointsOf a1 a3 a4 a5 g25) fun r26 g27 => some ((r24, r26, g27)) else if s12.1 ≤ 0 then some (((0 : Int32), (0 : Int32), s12.2)) else bd2 (f_X9_sumOf a1 a2 s12.1 a4 a5 s12.2) fun r20 g21 => bd2 (f_X9_sumOf a1 a3 s12.1 a4 a5 g21) fun r22 g23 => some ((r20, r22, g23)) : Option (Int32 × Int32 × G))) fun (s16 : Int32 × Int32 × G) => if s16.1 = s16.2.1 then some (.inl ((s3.1 + (1 : Int32)), s16.2.2)) else some (.inr (.inl (s3.1, s16.1, s16.2.1, s16.2.2))) : Option ((Int32 × G) ⊕ ((Int32 × Int32 × Int32 × G) ⊕ (Int32 × G))))) 2000 ((0 : Int32), g)) fun s33m => (match s33m with | .inl s8 => (if s8.2.1 ≤ s8.2.2.1 then some (((((10 : Int32) * s8.1) + (2 : Int32)), s8.2.2.2)) else some (((((10 : Int32) * s8.1) + (1 : Int32)), s8.2.2.2))) | .inr y => some y)
set_option maxHeartbeats 4000000 in
set_option maxRecDepth 100000 in
theorem y_X9_parting (a1 : Int32) (a2 : Int32) (a3 : Int32) (a4 : Int32) (a5 : Int32)  (g : G) (q : Int32 × G) {post : Int32 → G → Prop} (H : f_X9_parting a1 a2 a3 a4 a5 g = some q) (K : post q.1 q.2) : Y m_X9_parting 5 [.ref 159, .int a1, .int a2, .int a3, .int a4, .int a5] g post := by
  refine Y_of ok_X9_parting pn_9 rfl (by decide) (Or.inr (Or.inl rfl)) (List.forall_mem_cons.mpr ⟨rfl, (List.forall_mem_cons.mpr ⟨rfl, (List.forall_mem_cons.mpr ⟨rfl, (List.forall_mem_cons.mpr ⟨rfl, (List.forall_mem_cons.mpr ⟨rfl, (List.forall_mem_cons.mpr ⟨rfl, (fun _ h => absurd h List.not_mem_nil)⟩)⟩)⟩)⟩)⟩)⟩) (Nat.le_of_ble_eq_true rfl) ?_
  show u_V m_X9_parting 5 post 0 [some (.ref 159), some (.int a1), some (.int a2), some (.int a3), some (.int a4), some (.int a5), none, none, none, none] [] g
  unfold f_X9_parting at H
  refine x_iconst (v := (0 : Int32)) rfl (by decide) ?_
  refine am_istore rfl (Nat.le_of_ble_eq_true rfl) ?_
  obtain ⟨s33, H1, H⟩ := bd_some H
  have K2 : (Sum.elim (fun (s8 : Int32 × Int32 × Int32 × G) => u_V m_X9_parting 5 post 110 [none, none, none, none, none, none, some (.int s8.1), none, some (.int s8.2.1), some (.int s8.2.2.1)] [] s8.2.2.2) (fun (q : Int32 × G) => post q.1 q.2)) s33 := by
    clear H1
    cases s33 with
    | inl s8 =>
      obtain ⟨x4, x5, x6, g7⟩ := s8
      (try dsimp only at H); (try dsimp only)
      refine x_bipush (v := (10 : Int32)) rfl (by decide) ?_
      refine am_iload rfl rfl ?_
      refine am_imul rfl ?_
      refine am_iload rfl rfl ?_
      refine am_iload rfl rfl ?_
      refine am_icmp_le rfl (fun c34 => ?_) (fun c34 => ?_)
      · have H := it_pos c34 H
        refine x_iconst (v := (2 : Int32)) rfl (by decide) ?_
        refine am_iadd rfl ?_
        have H := Option.some.inj H
        subst H
        exact u_iret rfl rfl K
      · have H := it_neg c34 H
        refine x_iconst (v := (1 : Int32)) rfl (by decide) ?_
        refine am_goto rfl ?_
        refine am_iadd rfl ?_
        have H := Option.some.inj H
        subst H
        exact u_iret rfl rfl K
    | inr y =>
      have H := Option.some.inj H
      subst H
      exact K
  refine am_drop (L' := [some (.ref 159), some (.int a1), some (.int a2), some (.int a3), some (.int a4), some (.int a5), some (.int (0 : Int32)), none, none, none]) (And.intro rfl (And.intro rfl (And.intro rfl (And.intro rfl (And.intro rfl (And.intro rfl (And.intro rfl trivial))))))) ?_
  refine lp_ind (P := (fun (s3 : Int32 × G) => u_V m_X9_parting 5 post 3 [some (.ref 159), some (.int a1), some (.int a2), some (.int a3), some (.int a4), some (.int a5), some (.int s3.1), none, none, none] [] s3.2)) (Q := (Sum.elim (fun (s8 : Int32 × Int32 × Int32 × G) => u_V m_X9_parting 5 post 110 [none, none, none, none, none, none, some (.int s8.1), none, some (.int s8.2.1), some (.int s8.2.2.1)] [] s8.2.2.2) (fun (q : Int32 × G) => post q.1 q.2))) ?_ 2000 ((0 : Int32), g) s33 H1 K2
  clear H1 H K
  intro s3 s33b H K
  obtain ⟨x1, g2⟩ := s3
  (try dsimp only at H); (try dsimp only)
  refine am_iload rfl rfl ?_
  refine x_iconst (v := (5 : Int32)) rfl (by decide) ?_
  refine am_icmp_ge rfl (fun c9 => ?_) (fun c9 => ?_)
  · have H := it_pos c9 H
    refine x_iconst (v := (0 : Int32)) rfl (by decide) ?_
    have H := Option.some.inj H
    subst H
    exact u_iret rfl rfl K
  · have H := it_neg c9 H
    refine am_iload rfl rfl ?_
    obtain ⟨s32, H1, H⟩ := bd_some H
    have K : (fun (s12 : Int32 × G) => u_V m_X9_parting 5 post 30 [some (.ref 159), some (.int a1), some (.int a2), some (.int a3), some (.int a4), some (.int a5), some (.int x1), none, none, none] [.int s12.1] s12.2) s32 := by
      clear H1
      obtain ⟨x10, g11⟩ := s32
      (try dsimp only at H); (try dsimp only)
      refine am_istore rfl (Nat.le_of_ble_eq_true rfl) ?_
      refine x_iconst (v := (0 : Int32)) rfl (by decide) ?_
      refine am_istore rfl (Nat.le_of_ble_eq_true rfl) ?_
      refine x_iconst (v := (0 : Int32)) rfl (by decide) ?_
      refine am_istore rfl (Nat.le_of_ble_eq_true rfl) ?_
      refine am_iload rfl rfl ?_
      obtain ⟨s28, H1, H⟩ := bd_some H
      have K : (fun (s16 : Int32 × Int32 × G) => u_V m_X9_parting 5 post 103 [some (.ref 159), some (.int a1), some (.int a2), some (.int a3), some (.int a4), some (.int a5), some (.int x1), none, some (.int s16.1), some (.int s16.2.1)] [] s16.2.2) s28 := by
        clear H1
        obtain ⟨x13, x14, g15⟩ := s28
        (try dsimp only at H); (try dsimp only)
        refine am_iload rfl rfl ?_
        refine am_iload rfl rfl ?_
        refine am_icmp_eq rfl (fun c17 => ?_) (fun c17 => ?_)
        · have H := it_pos c17 H
          refine x_iinc (v := (x1 + (1 : Int32))) rfl rfl (Nat.le_of_ble_eq_true rfl) rfl ?_
          refine am_goto rfl ?_
          have H := Option.some.inj H
          subst H
          exact am_drop (L' := [some (.ref 159), some (.int a1), some (.int a2), some (.int a3), some (.int a4), some (.int a5), some (.int (x1 + (1 : Int32))), none, none, none]) (And.intro rfl (And.intro rfl (And.intro rfl (And.intro rfl (And.intro rfl (And.intro rfl (And.intro rfl trivial))))))) K
        · have H := it_neg c17 H
          have H := Option.some.inj H
          subst H
          exact am_drop (L' := [none, none, none, none, none, none, some (.int x1), none, some (.int x13), some (.int x14)]) (And.intro rfl (And.intro rfl (And.intro rfl trivial))) K
      have H := H1
      clear H1
      refine am_if_ne rfl (fun c18 => ?_) (fun c18 => ?_)
      · have H := it_neg c18 H
        refine am_iload rfl rfl ?_
        refine am_if_le rfl (fun c19 => ?_) (fun c19 => ?_)
        · have H := it_pos c19 H
          have H := Option.some.inj H
          subst H
          exact am_drop (L' := [some (.ref 159), some (.int a1), some (.int a2), some (.int a3), some (.int a4), some (.int a5), some (.int x1), none, some (.int (0 : Int32)), some (.int (0 : Int32))]) (And.intro rfl (And.intro rfl (And.intro rfl (And.intro rfl (And.intro rfl (And.intro rfl (And.intro rfl (And.intro rfl (And.intro rfl trivial))))))))) K
        · have H := it_neg c19 H
          refine am_aload_n rfl rfl ?_
          refine am_iload_n rfl rfl ?_
          refine am_iload_n rfl rfl ?_
          refine am_iload rfl rfl ?_
          refine am_iload rfl rfl ?_
          refine am_iload rfl rfl ?_
          obtain ⟨r20, g21, H1, H⟩ := bd2_some H
          refine cv5i v_9_179 rfl rfl (Nat.le_of_ble_eq_true rfl) rfl (Nat.le_of_ble_eq_true rfl) (fun _ _ => Nat.le_of_ble_eq_true rfl) (y_X9_sumOf a1 a2 x10 a4 a5 g11 _ H1 ?_)
          refine am_istore rfl (Nat.le_of_ble_eq_true rfl) ?_
          refine am_aload_n rfl rfl ?_
          refine am_iload_n rfl rfl ?_
          refine am_iload_n rfl rfl ?_
          refine am_iload rfl rfl ?_
          refine am_iload rfl rfl ?_
          refine am_iload rfl rfl ?_
          obtain ⟨r22, g23, H1, H⟩ := bd2_some H
          refine cv5i v_9_179 rfl rfl (Nat.le_of_ble_eq_true rfl) rfl (Nat.le_of_ble_eq_true rfl) (fun _ _ => Nat.le_of_ble_eq_true rfl) (y_X9_sumOf a1 a3 x10 a4 a5 g21 _ H1 ?_)
          refine am_istore rfl (Nat.le_of_ble_eq_true rfl) ?_
          have H := Option.some.inj H
          subst H
          exact am_drop (L' := [some (.ref 159), some (.int a1), some (.int a2), some (.int a3), some (.int a4), some (.int a5), some (.int x1), none, some (.int r20), some (.int r22)]) (And.intro rfl (And.intro rfl (And.intro rfl (And.intro rfl (And.intro rfl (And.intro rfl (And.intro rfl (And.intro rfl (And.intro rfl trivial))))))))) K
      · have H := it_pos c18 H
        refine am_aload_n rfl rfl ?_
        refine am_iload_n rfl rfl ?_
        refine am_iload_n rfl rfl ?_
        refine am_iload rfl rfl ?_
        refine am_iload rfl rfl ?_
        obtain ⟨r24, g25, H1, H⟩ := bd2_some H
        refine cv4i v_9_173 rfl rfl (Nat.le_of_ble_eq_true rfl) rfl (Nat.le_of_ble_eq_true rfl) (fun _ _ => Nat.le_of_ble_eq_true rfl) (y_X9_pointsOf a1 a2 a4 a5 g11 _ H1 ?_)
        refine am_istore rfl (Nat.le_of_ble_eq_true rfl) ?_
        refine am_aload_n rfl rfl ?_
        refine am_iload_n rfl rfl ?_
        refine am_iload_n rfl rfl ?_
        refine am_iload rfl rfl ?_
        refine am_iload rfl rfl ?_
        obtain ⟨r26, g27, H1, H⟩ := bd2_some H
        refine cv4i v_9_173 rfl rfl (Nat.le_of_ble_eq_true rfl) rfl (Nat.le_of_ble_eq_true rfl) (fun _ _ => Nat.le_of_ble_eq_true rfl) (y_X9_pointsOf a1 a3 a4 a5 g25 _ H1 ?_)
        refine am_istore rfl (Nat.le_of_ble_eq_true rfl) ?_
        refine am_goto rfl ?_
        have H := Option.some.inj H
        subst H
        exact am_drop (L' := [some (.ref 159), some (.int a1), some (.int a2), some (.int a3), some (.int a4), some (.int a5), some (.int x1), none, some (.int r24), some (.int r26)]) (And.intro rfl (And.intro rfl (And.intro rfl (And.intro rfl (And.intro rfl (And.intro rfl (And.intro rfl (And.intro rfl (And.intro rfl trivial))))))))) K
    have H := H1
    clear H1
    refine am_if_ne rfl (fun c29 => ?_) (fun c29 => ?_)
    · have H := it_neg c29 H
      refine am_aload_n rfl rfl ?_
      refine am_iload_n rfl rfl ?_
      refine x_bipush (v := (21 : Int32)) rfl (by decide) ?_
      refine am_iload rfl rfl ?_
      refine am_iadd rfl ?_
      refine x_iconst (v := (1 : Int32)) rfl (by decide) ?_
      refine am_isub rfl ?_
      obtain ⟨r30, g31, H1, H⟩ := bd2_some H
      refine cv2i v_9_140 rfl rfl (Nat.le_of_ble_eq_true rfl) rfl (Nat.le_of_ble_eq_true rfl) (fun _ _ => Nat.le_of_ble_eq_true rfl) (y_X9_cell a1 (((21 : Int32) + x1) - (1 : Int32)) g2 _ H1 ?_)
      have H := Option.some.inj H
      subst H
      exact am_drop (L' := [some (.ref 159), some (.int a1), some (.int a2), some (.int a3), some (.int a4), some (.int a5), some (.int x1), none, none, none]) (And.intro rfl (And.intro rfl (And.intro rfl (And.intro rfl (And.intro rfl (And.intro rfl (And.intro rfl trivial))))))) K
    · have H := it_pos c29 H
      refine x_iconst (v := (0 : Int32)) rfl (by decide) ?_
      refine am_goto rfl ?_
      have H := Option.some.inj H
      subst H
      exact am_drop (L' := [some (.ref 159), some (.int a1), some (.int a2), some (.int a3), some (.int a4), some (.int a5), some (.int x1), none, none, none]) (And.intro rfl (And.intro rfl (And.intro rfl (And.intro rfl (And.intro rfl (And.intro rfl (And.intro rfl trivial))))))) K
def f_X9_colours (a1 : Int32) (a2 : Int32) (g : G) : Option (Int32 × G) := wr (up2 g 159 32 (0 : Int32)) fun g1 => wr (up2 g1 159 33 (-1 : Int32)) fun g2 => wr (up2 g2 159 34 (-1 : Int32)) fun g3 => bd (lp (fun (s6 : Int32 × G) => (bd2 (f_X9_cell a1 (25 : Int32) s6.2) fun r9 g10 => if r9 ≤ s6.1 then some (.inr (g10)) else bd2 (f_X9_pairOf a1 s6.1 a2 g10) fun r12 g13 => bd ((if r12 = (-1 : Int32) then some (g13) else bd2 (f_X9_isWithNobody a1 r12 g13) fun r17 g18 => if r17 = 0 then bd2 (f_X9_cell a1 ((50 : Int32) + r12) g18) fun r20 g21 => bd ((if r20 = a2 then some ((1 : Int32)) else some ((0 : Int32)) : Option (Int32))) fun (s23 : Int32) => bd ((if s23 = (1 : Int32) then some ((1 : Int32)) else some ((-1 : Int32)) : Option (Int32))) fun (s25 : Int32) => wr (up2 g21 159 32 ((g21 159 32) + s25)) fun g26 => wr (up2 g26 159 34 (g26 159 33)) fun g27 => wr (up2 g27 159 33 s23) fun g28 => some (g28) else some (g18) : Option (G))) fun (s15 : G) => some (.inl ((s6.1 + (1 : Int32)), s15)) : Option ((Int32 × G) ⊕ (G)))) 2000 ((0 : Int32), g3)) fun (s8 : G) => some (((0 : Int32), s8))
set_option maxHeartbeats 4000000 in
set_option maxRecDepth 100000 in
theorem y_X9_colours (a1 : Int32) (a2 : Int32)  (g : G) (q : Int32 × G) {post : Int32 → G → Prop} (H : f_X9_colours a1 a2 g = some q) (K : post q.1 q.2) : Y m_X9_colours 2 [.ref 159, .int a1, .int a2] g post := by
  refine Y_of ok_X9_colours pn_9 rfl (by decide) (Or.inl rfl) (List.forall_mem_cons.mpr ⟨rfl, (List.forall_mem_cons.mpr ⟨rfl, (List.forall_mem_cons.mpr ⟨rfl, (fun _ h => absurd h List.not_mem_nil)⟩)⟩)⟩) (Nat.le_of_ble_eq_true rfl) ?_
  show u_V m_X9_colours 2 post 0 [some (.ref 159), some (.int a1), some (.int a2), none, none, none] [] g
  unfold f_X9_colours at H
  refine am_aload_n rfl rfl ?_
  refine x_iconst (v := (0 : Int32)) rfl (by decide) ?_
  obtain ⟨g1, eg1, H⟩ := wr_some H
  refine x_putI f_9_183 rfl rfl (Nat.le_of_ble_eq_true rfl) rfl rfl (fun _ _ => ⟨rfl, rfl⟩) eg1 ?_
  refine am_aload_n rfl rfl ?_
  refine x_iconst (v := (-1 : Int32)) rfl (by decide) ?_
  obtain ⟨g2, eg2, H⟩ := wr_some H
  refine x_putI f_9_186 rfl rfl (Nat.le_of_ble_eq_true rfl) rfl rfl (fun _ _ => ⟨rfl, rfl⟩) eg2 ?_
  refine am_aload_n rfl rfl ?_
  refine x_iconst (v := (-1 : Int32)) rfl (by decide) ?_
  obtain ⟨g3, eg3, H⟩ := wr_some H
  refine x_putI f_9_189 rfl rfl (Nat.le_of_ble_eq_true rfl) rfl rfl (fun _ _ => ⟨rfl, rfl⟩) eg3 ?_
  refine x_iconst (v := (0 : Int32)) rfl (by decide) ?_
  refine am_istore_n rfl (Nat.le_of_ble_eq_true rfl) ?_
  obtain ⟨s34, H1, H⟩ := bd_some H
  have K2 : (fun (s8 : G) => u_V m_X9_colours 2 post 114 [none, none, none, none, none, none] [] s8) s34 := by
    clear H1
    obtain ⟨g7, e_g7⟩ : ∃ z, z = s34 := ⟨_, rfl⟩
    subst e_g7
    (try dsimp only at H); (try dsimp only)
    have H := Option.some.inj H
    subst H
    exact u_vret rfl rfl K
  refine am_drop (L' := [some (.ref 159), some (.int a1), some (.int a2), some (.int (0 : Int32)), none, none]) (And.intro rfl (And.intro rfl (And.intro rfl (And.intro rfl trivial)))) ?_
  refine lp_ind (P := (fun (s6 : Int32 × G) => u_V m_X9_colours 2 post 17 [some (.ref 159), some (.int a1), some (.int a2), some (.int s6.1), none, none] [] s6.2)) (Q := (fun (s8 : G) => u_V m_X9_colours 2 post 114 [none, none, none, none, none, none] [] s8)) ?_ 2000 ((0 : Int32), g3) s34 H1 K2
  clear H1 H K
  intro s6 s34b H K
  obtain ⟨x4, g5⟩ := s6
  (try dsimp only at H); (try dsimp only)
  refine am_iload_n rfl rfl ?_
  refine am_aload_n rfl rfl ?_
  refine am_iload_n rfl rfl ?_
  refine x_bipush (v := (25 : Int32)) rfl (by decide) ?_
  obtain ⟨r9, g10, H1, H⟩ := bd2_some H
  refine cv2i v_9_140 rfl rfl (Nat.le_of_ble_eq_true rfl) rfl (Nat.le_of_ble_eq_true rfl) (fun _ _ => Nat.le_of_ble_eq_true rfl) (y_X9_cell a1 (25 : Int32) g5 _ H1 ?_)
  refine am_icmp_ge rfl (fun c11 => ?_) (fun c11 => ?_)
  · have H := it_pos c11 H
    have H := Option.some.inj H
    subst H
    exact am_drop (L' := [none, none, none, none, none, none]) trivial K
  · have H := it_neg c11 H
    refine am_aload_n rfl rfl ?_
    refine am_iload_n rfl rfl ?_
    refine am_iload_n rfl rfl ?_
    refine am_iload_n rfl rfl ?_
    obtain ⟨r12, g13, H1, H⟩ := bd2_some H
    refine cv3i v_9_158 rfl rfl (Nat.le_of_ble_eq_true rfl) rfl (Nat.le_of_ble_eq_true rfl) (fun _ _ => Nat.le_of_ble_eq_true rfl) (y_X9_pairOf a1 x4 a2 g10 _ H1 ?_)
    refine am_istore rfl (Nat.le_of_ble_eq_true rfl) ?_
    refine am_iload rfl rfl ?_
    refine x_iconst (v := (-1 : Int32)) rfl (by decide) ?_
    obtain ⟨s33, H1, H⟩ := bd_some H
    have K : (fun (s15 : G) => u_V m_X9_colours 2 post 108 [some (.ref 159), some (.int a1), some (.int a2), some (.int x4), none, none] [] s15) s33 := by
      clear H1
      obtain ⟨g14, e_g14⟩ : ∃ z, z = s33 := ⟨_, rfl⟩
      subst e_g14
      (try dsimp only at H); (try dsimp only)
      refine x_iinc (v := (x4 + (1 : Int32))) rfl rfl (Nat.le_of_ble_eq_true rfl) rfl ?_
      refine am_goto rfl ?_
      have H := Option.some.inj H
      subst H
      exact am_drop (L' := [some (.ref 159), some (.int a1), some (.int a2), some (.int (x4 + (1 : Int32))), none, none]) (And.intro rfl (And.intro rfl (And.intro rfl (And.intro rfl trivial)))) K
    have H := H1
    clear H1
    refine am_icmp_eq rfl (fun c16 => ?_) (fun c16 => ?_)
    · have H := it_pos c16 H
      have H := Option.some.inj H
      subst H
      exact am_drop (L' := [some (.ref 159), some (.int a1), some (.int a2), some (.int x4), none, none]) (And.intro rfl (And.intro rfl (And.intro rfl (And.intro rfl trivial)))) K
    · have H := it_neg c16 H
      refine am_aload_n rfl rfl ?_
      refine am_iload_n rfl rfl ?_
      refine am_iload rfl rfl ?_
      obtain ⟨r17, g18, H1, H⟩ := bd2_some H
      refine cv2i v_9_161 rfl rfl (Nat.le_of_ble_eq_true rfl) rfl (Nat.le_of_ble_eq_true rfl) (fun _ _ => Nat.le_of_ble_eq_true rfl) (y_X9_isWithNobody a1 r12 g13 _ H1 ?_)
      refine am_if_ne rfl (fun c19 => ?_) (fun c19 => ?_)
      · have H := it_neg c19 H
        have H := Option.some.inj H
        subst H
        exact am_drop (L' := [some (.ref 159), some (.int a1), some (.int a2), some (.int x4), none, none]) (And.intro rfl (And.intro rfl (And.intro rfl (And.intro rfl trivial)))) K
      · have H := it_pos c19 H
        refine am_aload_n rfl rfl ?_
        refine am_iload_n rfl rfl ?_
        refine x_bipush (v := (50 : Int32)) rfl (by decide) ?_
        refine am_iload rfl rfl ?_
        refine am_iadd rfl ?_
        obtain ⟨r20, g21, H1, H⟩ := bd2_some H
        refine cv2i v_9_140 rfl rfl (Nat.le_of_ble_eq_true rfl) rfl (Nat.le_of_ble_eq_true rfl) (fun _ _ => Nat.le_of_ble_eq_true rfl) (y_X9_cell a1 ((50 : Int32) + r12) g18 _ H1 ?_)
        refine am_iload_n rfl rfl ?_
        obtain ⟨s32, H1, H⟩ := bd_some H
        have K : (fun (s23 : Int32) => u_V m_X9_colours 2 post 72 [some (.ref 159), some (.int a1), some (.int a2), some (.int x4), none, none] [.int s23] g21) s32 := by
          clear H1
          obtain ⟨x22, e_x22⟩ : ∃ z, z = s32 := ⟨_, rfl⟩
          subst e_x22
          (try dsimp only at H); (try dsimp only)
          refine am_istore rfl (Nat.le_of_ble_eq_true rfl) ?_
          refine am_aload_n rfl rfl ?_
          refine am_dup rfl rfl ?_
          refine u_getI f_9_183 rfl (Nat.le_of_ble_eq_true rfl) rfl rfl ?_
          refine am_iload rfl rfl ?_
          refine x_iconst (v := (1 : Int32)) rfl (by decide) ?_
          obtain ⟨s30, H1, H⟩ := bd_some H
          have K : (fun (s25 : Int32) => u_V m_X9_colours 2 post 90 [some (.ref 159), some (.int a1), some (.int a2), some (.int x4), none, some (.int x22)] [.int s25, .int (g21 159 32), .ref 159] g21) s30 := by
            clear H1
            obtain ⟨x24, e_x24⟩ : ∃ z, z = s30 := ⟨_, rfl⟩
            subst e_x24
            (try dsimp only at H); (try dsimp only)
            refine am_iadd rfl ?_
            obtain ⟨g26, eg26, H⟩ := wr_some H
            refine x_putI f_9_183 rfl rfl (Nat.le_of_ble_eq_true rfl) rfl rfl (fun _ _ => ⟨rfl, rfl⟩) eg26 ?_
            refine am_aload_n rfl rfl ?_
            refine am_aload_n rfl rfl ?_
            refine u_getI f_9_186 rfl (Nat.le_of_ble_eq_true rfl) rfl rfl ?_
            obtain ⟨g27, eg27, H⟩ := wr_some H
            refine x_putI f_9_189 rfl rfl (Nat.le_of_ble_eq_true rfl) rfl rfl (fun _ _ => ⟨rfl, rfl⟩) eg27 ?_
            refine am_aload_n rfl rfl ?_
            refine am_iload rfl rfl ?_
            obtain ⟨g28, eg28, H⟩ := wr_some H
            refine x_putI f_9_186 rfl rfl (Nat.le_of_ble_eq_true rfl) rfl rfl (fun _ _ => ⟨rfl, rfl⟩) eg28 ?_
            have H := Option.some.inj H
            subst H
            exact am_drop (L' := [some (.ref 159), some (.int a1), some (.int a2), some (.int x4), none, none]) (And.intro rfl (And.intro rfl (And.intro rfl (And.intro rfl trivial)))) K
          have H := H1
          clear H1
          refine am_icmp_ne rfl (fun c29 => ?_) (fun c29 => ?_)
          · have H := it_neg c29 H
            refine x_iconst (v := (-1 : Int32)) rfl (by decide) ?_
            have H := Option.some.inj H
            subst H
            exact am_drop (L' := [some (.ref 159), some (.int a1), some (.int a2), some (.int x4), none, some (.int x22)]) (And.intro rfl (And.intro rfl (And.intro rfl (And.intro rfl (And.intro rfl trivial))))) K
          · have H := it_pos c29 H
            refine x_iconst (v := (1 : Int32)) rfl (by decide) ?_
            refine am_goto rfl ?_
            have H := Option.some.inj H
            subst H
            exact am_drop (L' := [some (.ref 159), some (.int a1), some (.int a2), some (.int x4), none, some (.int x22)]) (And.intro rfl (And.intro rfl (And.intro rfl (And.intro rfl (And.intro rfl trivial))))) K
        have H := H1
        clear H1
        refine am_icmp_ne rfl (fun c31 => ?_) (fun c31 => ?_)
        · have H := it_neg c31 H
          refine x_iconst (v := (0 : Int32)) rfl (by decide) ?_
          have H := Option.some.inj H
          subst H
          exact am_drop (L' := [some (.ref 159), some (.int a1), some (.int a2), some (.int x4), none, none]) (And.intro rfl (And.intro rfl (And.intro rfl (And.intro rfl trivial)))) K
        · have H := it_pos c31 H
          refine x_iconst (v := (1 : Int32)) rfl (by decide) ?_
          refine am_goto rfl ?_
          have H := Option.some.inj H
          subst H
          exact am_drop (L' := [some (.ref 159), some (.int a1), some (.int a2), some (.int x4), none, none]) (And.intro rfl (And.intro rfl (And.intro rfl (And.intro rfl trivial)))) K
def f_X9_colourCost (a1 : Int32) (a2 : Int32) (a3 : Int32) (g : G) : Option (Int32 × G) := bd2 (f_X9_colours a1 a2 g) fun r1 g2 => bd ((if (g2 159 32) ≤ 0 then some (.inl ()) else if a3 = 0 then some (.inl ()) else bd ((if a3 = 0 then some ((0 : Int32)) else some ((1 : Int32)) : Option (Int32))) fun (s23 : Int32) => if (g2 159 33) = s23 then if (g2 159 34) = (g2 159 33) then some (.inr ((((40 : Int32) + (1000000 : Int32)), g2))) else some (.inr ((((40 : Int32) + (0 : Int32)), g2))) else some (.inr ((((40 : Int32) + (0 : Int32)), g2))) : Option ((Unit) ⊕ (Int32 × G)))) fun s28m => (match s28m with | .inl _ => (bd ((if 0 ≤ (g2 159 32) then some (.inl ()) else if a3 = 0 then bd ((if a3 = 0 then some ((0 : Int32)) else some ((1 : Int32)) : Option (Int32))) fun (s14 : Int32) => if (g2 159 33) = s14 then if (g2 159 34) = (g2 159 33) then some (.inr ((((40 : Int32) + (1000000 : Int32)), g2))) else some (.inr ((((40 : Int32) + (0 : Int32)), g2))) else some (.inr ((((40 : Int32) + (0 : Int32)), g2))) else some (.inl ()) : Option ((Unit) ⊕ (Int32 × G)))) fun s19m => (match s19m with | .inl _ => (bd ((if a3 = 0 then some ((0 : Int32)) else some ((1 : Int32)) : Option (Int32))) fun (s6 : Int32) => if (g2 159 33) = s6 then if (g2 159 34) = (g2 159 33) then some ((((0 : Int32) + (1000000 : Int32)), g2)) else some ((((0 : Int32) + (0 : Int32)), g2)) else some ((((0 : Int32) + (0 : Int32)), g2))) | .inr y => some y)) | .inr y => some y)
set_option maxHeartbeats 4000000 in
set_option maxRecDepth 100000 in
theorem y_X9_colourCost (a1 : Int32) (a2 : Int32) (a3 : Int32)  (g : G) (q : Int32 × G) {post : Int32 → G → Prop} (H : f_X9_colourCost a1 a2 a3 g = some q) (K : post q.1 q.2) : Y m_X9_colourCost 3 [.ref 159, .int a1, .int a2, .int a3] g post := by
  refine Y_of ok_X9_colourCost pn_9 rfl (by decide) (Or.inr (Or.inl rfl)) (List.forall_mem_cons.mpr ⟨rfl, (List.forall_mem_cons.mpr ⟨rfl, (List.forall_mem_cons.mpr ⟨rfl, (List.forall_mem_cons.mpr ⟨rfl, (fun _ h => absurd h List.not_mem_nil)⟩)⟩)⟩)⟩) (Nat.le_of_ble_eq_true rfl) ?_
  show u_V m_X9_colourCost 3 post 0 [some (.ref 159), some (.int a1), some (.int a2), some (.int a3), none] [] g
  unfold f_X9_colourCost at H
  refine am_aload_n rfl rfl ?_
  refine am_iload_n rfl rfl ?_
  refine am_iload_n rfl rfl ?_
  obtain ⟨r1, g2, H1, H⟩ := bd2_some H
  refine cv2v v_9_192 rfl rfl (Nat.le_of_ble_eq_true rfl) rfl (Nat.le_of_ble_eq_true rfl) (fun _ _ => Nat.le_of_ble_eq_true rfl) (y_X9_colours a1 a2 g _ H1 ?_)
  refine am_aload_n rfl rfl ?_
  refine u_getI f_9_183 rfl (Nat.le_of_ble_eq_true rfl) rfl rfl ?_
  obtain ⟨s28, H1, H⟩ := bd_some H
  have K : (Sum.elim (fun (_ : Unit) => u_V m_X9_colourCost 3 post 17 [some (.ref 159), none, none, some (.int a3), none] [] g2) (fun (q : Int32 × G) => post q.1 q.2)) s28 := by
    clear H1
    cases s28 with
    | inl s3 =>
      (try dsimp only at H); (try dsimp only)
      refine am_aload_n rfl rfl ?_
      refine u_getI f_9_183 rfl (Nat.le_of_ble_eq_true rfl) rfl rfl ?_
      obtain ⟨s19, H1, H⟩ := bd_some H
      have K : (Sum.elim (fun (_ : Unit) => u_V m_X9_colourCost 3 post 33 [some (.ref 159), none, none, some (.int a3), none] [] g2) (fun (q : Int32 × G) => post q.1 q.2)) s19 := by
        clear H1
        cases s19 with
        | inl s4 =>
          (try dsimp only at H); (try dsimp only)
          refine x_iconst (v := (0 : Int32)) rfl (by decide) ?_
          refine am_istore rfl (Nat.le_of_ble_eq_true rfl) ?_
          refine am_iload rfl rfl ?_
          refine am_aload_n rfl rfl ?_
          refine u_getI f_9_186 rfl (Nat.le_of_ble_eq_true rfl) rfl rfl ?_
          refine am_iload_n rfl rfl ?_
          obtain ⟨s10, H1, H⟩ := bd_some H
          have K : (fun (s6 : Int32) => u_V m_X9_colourCost 3 post 51 [some (.ref 159), none, none, none, none] [.int s6, .int (g2 159 33), .int (0 : Int32)] g2) s10 := by
            clear H1
            obtain ⟨x5, e_x5⟩ : ∃ z, z = s10 := ⟨_, rfl⟩
            subst e_x5
            (try dsimp only at H); (try dsimp only)
            refine am_icmp_ne rfl (fun c7 => ?_) (fun c7 => ?_)
            · have H := it_neg c7 H
              refine x_iconst (v := (0 : Int32)) rfl (by decide) ?_
              refine am_iadd rfl ?_
              have H := Option.some.inj H
              subst H
              exact u_iret rfl rfl K
            · have H := it_pos c7 H
              refine am_aload_n rfl rfl ?_
              refine u_getI f_9_189 rfl (Nat.le_of_ble_eq_true rfl) rfl rfl ?_
              refine am_aload_n rfl rfl ?_
              refine u_getI f_9_186 rfl (Nat.le_of_ble_eq_true rfl) rfl rfl ?_
              refine am_icmp_ne rfl (fun c8 => ?_) (fun c8 => ?_)
              · have H := it_neg c8 H
                refine x_iconst (v := (0 : Int32)) rfl (by decide) ?_
                refine am_iadd rfl ?_
                have H := Option.some.inj H
                subst H
                exact u_iret rfl rfl K
              · have H := it_pos c8 H
                refine am_ldc (v := (1000000 : Int32)) c_9_196 rfl ?_
                refine am_goto rfl ?_
                refine am_iadd rfl ?_
                have H := Option.some.inj H
                subst H
                exact u_iret rfl rfl K
          have H := H1
          clear H1
          refine am_if_eq rfl (fun c9 => ?_) (fun c9 => ?_)
          · have H := it_pos c9 H
            refine x_iconst (v := (0 : Int32)) rfl (by decide) ?_
            have H := Option.some.inj H
            subst H
            exact am_drop (L' := [some (.ref 159), none, none, none, none]) (And.intro rfl trivial) K
          · have H := it_neg c9 H
            refine x_iconst (v := (1 : Int32)) rfl (by decide) ?_
            refine am_goto rfl ?_
            have H := Option.some.inj H
            subst H
            exact am_drop (L' := [some (.ref 159), none, none, none, none]) (And.intro rfl trivial) K
        | inr y =>
          have H := Option.some.inj H
          subst H
          exact K
      have H := H1
      clear H1
      refine am_if_ge rfl (fun c11 => ?_) (fun c11 => ?_)
      · have H := it_pos c11 H
        have H := Option.some.inj H
        subst H
        exact am_drop (L' := [some (.ref 159), none, none, some (.int a3), none]) (And.intro rfl (And.intro rfl trivial)) K
      · have H := it_neg c11 H
        refine am_iload_n rfl rfl ?_
        refine am_if_ne rfl (fun c12 => ?_) (fun c12 => ?_)
        · have H := it_neg c12 H
          have H := Option.some.inj H
          subst H
          exact am_drop (L' := [some (.ref 159), none, none, some (.int a3), none]) (And.intro rfl (And.intro rfl trivial)) K
        · have H := it_pos c12 H
          refine x_bipush (v := (40 : Int32)) rfl (by decide) ?_
          refine am_goto rfl ?_
          refine am_istore rfl (Nat.le_of_ble_eq_true rfl) ?_
          refine am_iload rfl rfl ?_
          refine am_aload_n rfl rfl ?_
          refine u_getI f_9_186 rfl (Nat.le_of_ble_eq_true rfl) rfl rfl ?_
          refine am_iload_n rfl rfl ?_
          obtain ⟨s18, H1, H⟩ := bd_some H
          have K : (fun (s14 : Int32) => u_V m_X9_colourCost 3 post 51 [some (.ref 159), none, none, none, none] [.int s14, .int (g2 159 33), .int (40 : Int32)] g2) s18 := by
            clear H1
            obtain ⟨x13, e_x13⟩ : ∃ z, z = s18 := ⟨_, rfl⟩
            subst e_x13
            (try dsimp only at H); (try dsimp only)
            refine am_icmp_ne rfl (fun c15 => ?_) (fun c15 => ?_)
            · have H := it_neg c15 H
              refine x_iconst (v := (0 : Int32)) rfl (by decide) ?_
              refine am_iadd rfl ?_
              have H := Option.some.inj H
              subst H
              exact u_iret rfl rfl K
            · have H := it_pos c15 H
              refine am_aload_n rfl rfl ?_
              refine u_getI f_9_189 rfl (Nat.le_of_ble_eq_true rfl) rfl rfl ?_
              refine am_aload_n rfl rfl ?_
              refine u_getI f_9_186 rfl (Nat.le_of_ble_eq_true rfl) rfl rfl ?_
              refine am_icmp_ne rfl (fun c16 => ?_) (fun c16 => ?_)
              · have H := it_neg c16 H
                refine x_iconst (v := (0 : Int32)) rfl (by decide) ?_
                refine am_iadd rfl ?_
                have H := Option.some.inj H
                subst H
                exact u_iret rfl rfl K
              · have H := it_pos c16 H
                refine am_ldc (v := (1000000 : Int32)) c_9_196 rfl ?_
                refine am_goto rfl ?_
                refine am_iadd rfl ?_
                have H := Option.some.inj H
                subst H
                exact u_iret rfl rfl K
          have H := H1
          clear H1
          refine am_if_eq rfl (fun c17 => ?_) (fun c17 => ?_)
          · have H := it_pos c17 H
            refine x_iconst (v := (0 : Int32)) rfl (by decide) ?_
            have H := Option.some.inj H
            subst H
            exact am_drop (L' := [some (.ref 159), none, none, none, none]) (And.intro rfl trivial) K
          · have H := it_neg c17 H
            refine x_iconst (v := (1 : Int32)) rfl (by decide) ?_
            refine am_goto rfl ?_
            have H := Option.some.inj H
            subst H
            exact am_drop (L' := [some (.ref 159), none, none, none, none]) (And.intro rfl trivial) K
    | inr y =>
      have H := Option.some.inj H
      subst H
      exact K
  have H := H1
  clear H1
  refine am_if_le rfl (fun c20 => ?_) (fun c20 => ?_)
  · have H := it_pos c20 H
    have H := Option.some.inj H
    subst H
    exact am_drop (L' := [some (.ref 159), none, none, some (.int a3), none]) (And.intro rfl (And.intro rfl trivial)) K
  · have H := it_neg c20 H
    refine am_iload_n rfl rfl ?_
    refine am_if_ne rfl (fun c21 => ?_) (fun c21 => ?_)
    · have H := it_neg c21 H
      refine x_bipush (v := (40 : Int32)) rfl (by decide) ?_
      refine am_goto rfl ?_
      refine am_istore rfl (Nat.le_of_ble_eq_true rfl) ?_
      refine am_iload rfl rfl ?_
      refine am_aload_n rfl rfl ?_
      refine u_getI f_9_186 rfl (Nat.le_of_ble_eq_true rfl) rfl rfl ?_
      refine am_iload_n rfl rfl ?_
      obtain ⟨s27, H1, H⟩ := bd_some H
      have K : (fun (s23 : Int32) => u_V m_X9_colourCost 3 post 51 [some (.ref 159), none, none, none, none] [.int s23, .int (g2 159 33), .int (40 : Int32)] g2) s27 := by
        clear H1
        obtain ⟨x22, e_x22⟩ : ∃ z, z = s27 := ⟨_, rfl⟩
        subst e_x22
        (try dsimp only at H); (try dsimp only)
        refine am_icmp_ne rfl (fun c24 => ?_) (fun c24 => ?_)
        · have H := it_neg c24 H
          refine x_iconst (v := (0 : Int32)) rfl (by decide) ?_
          refine am_iadd rfl ?_
          have H := Option.some.inj H
          subst H
          exact u_iret rfl rfl K
        · have H := it_pos c24 H
          refine am_aload_n rfl rfl ?_
          refine u_getI f_9_189 rfl (Nat.le_of_ble_eq_true rfl) rfl rfl ?_
          refine am_aload_n rfl rfl ?_
          refine u_getI f_9_186 rfl (Nat.le_of_ble_eq_true rfl) rfl rfl ?_
          refine am_icmp_ne rfl (fun c25 => ?_) (fun c25 => ?_)
          · have H := it_neg c25 H
            refine x_iconst (v := (0 : Int32)) rfl (by decide) ?_
            refine am_iadd rfl ?_
            have H := Option.some.inj H
            subst H
            exact u_iret rfl rfl K
          · have H := it_pos c25 H
            refine am_ldc (v := (1000000 : Int32)) c_9_196 rfl ?_
            refine am_goto rfl ?_
            refine am_iadd rfl ?_
            have H := Option.some.inj H
            subst H
            exact u_iret rfl rfl K
      have H := H1
      clear H1
      refine am_if_eq rfl (fun c26 => ?_) (fun c26 => ?_)
      · have H := it_pos c26 H
        refine x_iconst (v := (0 : Int32)) rfl (by decide) ?_
        have H := Option.some.inj H
        subst H
        exact am_drop (L' := [some (.ref 159), none, none, none, none]) (And.intro rfl trivial) K
      · have H := it_neg c26 H
        refine x_iconst (v := (1 : Int32)) rfl (by decide) ?_
        refine am_goto rfl ?_
        have H := Option.some.inj H
        subst H
        exact am_drop (L' := [some (.ref 159), none, none, none, none]) (And.intro rfl trivial) K
    · have H := it_pos c21 H
      have H := Option.some.inj H
      subst H
      exact am_drop (L' := [some (.ref 159), none, none, some (.int a3), none]) (And.intro rfl (And.intro rfl trivial)) K
def f_X9_wasWith (a1 : Int32) (a2 : Int32) (a3 : Int32) (g : G) : Option (Int32 × G) := bd (lp (fun (s4 : Int32 × Int32 × G) => (bd2 (f_X9_cell a1 (25 : Int32) s4.2.2) fun r8 g9 => if r8 ≤ s4.2.1 then some (.inr (s4.1, g9)) else bd2 (f_X9_pairOf a1 s4.2.1 a2 g9) fun r11 g12 => bd ((if s4.1 = 0 then bd ((if r11 = (-1 : Int32) then some (.inl (g12)) else bd2 (f_X9_otherOf a1 r11 a2 g12) fun r20 g21 => if r20 = a3 then some (.inr (.inl (s4.2.1, g21))) else some (.inl (g21)) : Option ((G) ⊕ ((Int32 × G) ⊕ ((Int32 × Int32 × G) ⊕ (Int32 × G)))))) fun s23m => (match s23m with | .inl s18 => (some (.inr (.inl ((0 : Int32), (s4.2.1 + (1 : Int32)), s18)))) | .inr y => some y) else some (.inl (s4.2.1, g12)) : Option ((Int32 × G) ⊕ ((Int32 × Int32 × G) ⊕ (Int32 × G))))) fun s24m => (match s24m with | .inl s15 => (some (.inl ((1 : Int32), (s15.1 + (1 : Int32)), s15.2))) | .inr y => some y) : Option ((Int32 × Int32 × G) ⊕ (Int32 × G)))) 2000 ((0 : Int32), (0 : Int32), g)) fun (s7 : Int32 × G) => bz s7.1 (some ((s7.1, s7.2)))
set_option maxHeartbeats 4000000 in
set_option maxRecDepth 100000 in
theorem y_X9_wasWith (a1 : Int32) (a2 : Int32) (a3 : Int32)  (g : G) (q : Int32 × G) {post : Int32 → G → Prop} (H : f_X9_wasWith a1 a2 a3 g = some q) (K : post q.1 q.2) : Y m_X9_wasWith 2 [.ref 159, .int a1, .int a2, .int a3] g post := by
  refine Y_of ok_X9_wasWith pn_9 rfl (by decide) (Or.inr (Or.inr rfl)) (List.forall_mem_cons.mpr ⟨rfl, (List.forall_mem_cons.mpr ⟨rfl, (List.forall_mem_cons.mpr ⟨rfl, (List.forall_mem_cons.mpr ⟨rfl, (fun _ h => absurd h List.not_mem_nil)⟩)⟩)⟩)⟩) (Nat.le_of_ble_eq_true rfl) ?_
  show u_V m_X9_wasWith 2 post 0 [some (.ref 159), some (.int a1), some (.int a2), some (.int a3), none, none, none] [] g
  unfold f_X9_wasWith at H
  refine x_iconst (v := (0 : Int32)) rfl (by decide) ?_
  refine am_istore rfl (Nat.le_of_ble_eq_true rfl) ?_
  refine x_iconst (v := (0 : Int32)) rfl (by decide) ?_
  refine am_istore rfl (Nat.le_of_ble_eq_true rfl) ?_
  obtain ⟨s25, H1, H⟩ := bd_some H
  have K2 : (fun (s7 : Int32 × G) => u_V m_X9_wasWith 2 post 64 [none, none, none, none, some (.int s7.1), none, none] [] s7.2) s25 := by
    clear H1
    obtain ⟨x5, g6⟩ := s25
    (try dsimp only at H); (try dsimp only)
    refine am_iload rfl rfl ?_
    obtain ⟨hb26, H⟩ := bz_some H
    have H := Option.some.inj H
    subst H
    exact u_zret rfl rfl hb26 K
  refine am_drop (L' := [some (.ref 159), some (.int a1), some (.int a2), some (.int a3), some (.int (0 : Int32)), some (.int (0 : Int32)), none]) (And.intro rfl (And.intro rfl (And.intro rfl (And.intro rfl (And.intro rfl (And.intro rfl trivial)))))) ?_
  refine lp_ind (P := (fun (s4 : Int32 × Int32 × G) => u_V m_X9_wasWith 2 post 6 [some (.ref 159), some (.int a1), some (.int a2), some (.int a3), some (.int s4.1), some (.int s4.2.1), none] [] s4.2.2)) (Q := (fun (s7 : Int32 × G) => u_V m_X9_wasWith 2 post 64 [none, none, none, none, some (.int s7.1), none, none] [] s7.2)) ?_ 2000 ((0 : Int32), (0 : Int32), g) s25 H1 K2
  clear H1 H K
  intro s4 s25b H K
  obtain ⟨x1, x2, g3⟩ := s4
  (try dsimp only at H); (try dsimp only)
  refine am_iload rfl rfl ?_
  refine am_aload_n rfl rfl ?_
  refine am_iload_n rfl rfl ?_
  refine x_bipush (v := (25 : Int32)) rfl (by decide) ?_
  obtain ⟨r8, g9, H1, H⟩ := bd2_some H
  refine cv2i v_9_140 rfl rfl (Nat.le_of_ble_eq_true rfl) rfl (Nat.le_of_ble_eq_true rfl) (fun _ _ => Nat.le_of_ble_eq_true rfl) (y_X9_cell a1 (25 : Int32) g3 _ H1 ?_)
  refine am_icmp_ge rfl (fun c10 => ?_) (fun c10 => ?_)
  · have H := it_pos c10 H
    have H := Option.some.inj H
    subst H
    exact am_drop (L' := [none, none, none, none, some (.int x1), none, none]) (And.intro rfl trivial) K
  · have H := it_neg c10 H
    refine am_aload_n rfl rfl ?_
    refine am_iload_n rfl rfl ?_
    refine am_iload rfl rfl ?_
    refine am_iload_n rfl rfl ?_
    obtain ⟨r11, g12, H1, H⟩ := bd2_some H
    refine cv3i v_9_158 rfl rfl (Nat.le_of_ble_eq_true rfl) rfl (Nat.le_of_ble_eq_true rfl) (fun _ _ => Nat.le_of_ble_eq_true rfl) (y_X9_pairOf a1 x2 a2 g9 _ H1 ?_)
    refine am_istore rfl (Nat.le_of_ble_eq_true rfl) ?_
    refine am_iload rfl rfl ?_
    obtain ⟨s24, H1, H⟩ := bd_some H
    have K : (Sum.elim (fun (s15 : Int32 × G) => u_V m_X9_wasWith 2 post 51 [some (.ref 159), some (.int a1), some (.int a2), some (.int a3), none, some (.int s15.1), none] [] s15.2) (Sum.elim (fun (s4 : Int32 × Int32 × G) => u_V m_X9_wasWith 2 post 6 [some (.ref 159), some (.int a1), some (.int a2), some (.int a3), some (.int s4.1), some (.int s4.2.1), none] [] s4.2.2) (fun (s7 : Int32 × G) => u_V m_X9_wasWith 2 post 64 [none, none, none, none, some (.int s7.1), none, none] [] s7.2))) s24 := by
      clear H1
      cases s24 with
      | inl s15 =>
        obtain ⟨x13, g14⟩ := s15
        (try dsimp only at H); (try dsimp only)
        refine x_iconst (v := (1 : Int32)) rfl (by decide) ?_
        refine am_goto rfl ?_
        refine am_istore rfl (Nat.le_of_ble_eq_true rfl) ?_
        refine x_iinc (v := (x13 + (1 : Int32))) rfl rfl (Nat.le_of_ble_eq_true rfl) rfl ?_
        refine am_goto rfl ?_
        have H := Option.some.inj H
        subst H
        exact am_drop (L' := [some (.ref 159), some (.int a1), some (.int a2), some (.int a3), some (.int (1 : Int32)), some (.int (x13 + (1 : Int32))), none]) (And.intro rfl (And.intro rfl (And.intro rfl (And.intro rfl (And.intro rfl (And.intro rfl trivial)))))) K
      | inr y =>
        have H := Option.some.inj H
        subst H
        exact K
    have H := H1
    clear H1
    refine am_if_ne rfl (fun c16 => ?_) (fun c16 => ?_)
    · have H := it_neg c16 H
      have H := Option.some.inj H
      subst H
      exact am_drop (L' := [some (.ref 159), some (.int a1), some (.int a2), some (.int a3), none, some (.int x2), none]) (And.intro rfl (And.intro rfl (And.intro rfl (And.intro rfl (And.intro rfl trivial))))) K
    · have H := it_pos c16 H
      refine am_iload rfl rfl ?_
      refine x_iconst (v := (-1 : Int32)) rfl (by decide) ?_
      obtain ⟨s23, H1, H⟩ := bd_some H
      have K : (Sum.elim (fun (s18 : G) => u_V m_X9_wasWith 2 post 55 [some (.ref 159), some (.int a1), some (.int a2), some (.int a3), none, some (.int x2), none] [] s18) (Sum.elim (fun (s15 : Int32 × G) => u_V m_X9_wasWith 2 post 51 [some (.ref 159), some (.int a1), some (.int a2), some (.int a3), none, some (.int s15.1), none] [] s15.2) (Sum.elim (fun (s4 : Int32 × Int32 × G) => u_V m_X9_wasWith 2 post 6 [some (.ref 159), some (.int a1), some (.int a2), some (.int a3), some (.int s4.1), some (.int s4.2.1), none] [] s4.2.2) (fun (s7 : Int32 × G) => u_V m_X9_wasWith 2 post 64 [none, none, none, none, some (.int s7.1), none, none] [] s7.2)))) s23 := by
        clear H1
        cases s23 with
        | inl s18 =>
          obtain ⟨g17, e_g17⟩ : ∃ z, z = s18 := ⟨_, rfl⟩
          subst e_g17
          (try dsimp only at H); (try dsimp only)
          refine x_iconst (v := (0 : Int32)) rfl (by decide) ?_
          refine am_istore rfl (Nat.le_of_ble_eq_true rfl) ?_
          refine x_iinc (v := (x2 + (1 : Int32))) rfl rfl (Nat.le_of_ble_eq_true rfl) rfl ?_
          refine am_goto rfl ?_
          have H := Option.some.inj H
          subst H
          exact am_drop (L' := [some (.ref 159), some (.int a1), some (.int a2), some (.int a3), some (.int (0 : Int32)), some (.int (x2 + (1 : Int32))), none]) (And.intro rfl (And.intro rfl (And.intro rfl (And.intro rfl (And.intro rfl (And.intro rfl trivial)))))) K
        | inr y =>
          have H := Option.some.inj H
          subst H
          exact K
      have H := H1
      clear H1
      refine am_icmp_eq rfl (fun c19 => ?_) (fun c19 => ?_)
      · have H := it_pos c19 H
        have H := Option.some.inj H
        subst H
        exact am_drop (L' := [some (.ref 159), some (.int a1), some (.int a2), some (.int a3), none, some (.int x2), none]) (And.intro rfl (And.intro rfl (And.intro rfl (And.intro rfl (And.intro rfl trivial))))) K
      · have H := it_neg c19 H
        refine am_aload_n rfl rfl ?_
        refine am_iload_n rfl rfl ?_
        refine am_iload rfl rfl ?_
        refine am_iload_n rfl rfl ?_
        obtain ⟨r20, g21, H1, H⟩ := bd2_some H
        refine cv3i v_9_176 rfl rfl (Nat.le_of_ble_eq_true rfl) rfl (Nat.le_of_ble_eq_true rfl) (fun _ _ => Nat.le_of_ble_eq_true rfl) (y_X9_otherOf a1 r11 a2 g12 _ H1 ?_)
        refine am_iload_n rfl rfl ?_
        refine am_icmp_ne rfl (fun c22 => ?_) (fun c22 => ?_)
        · have H := it_neg c22 H
          have H := Option.some.inj H
          subst H
          exact am_drop (L' := [some (.ref 159), some (.int a1), some (.int a2), some (.int a3), none, some (.int x2), none]) (And.intro rfl (And.intro rfl (And.intro rfl (And.intro rfl (And.intro rfl trivial))))) K
        · have H := it_pos c22 H
          have H := Option.some.inj H
          subst H
          exact am_drop (L' := [some (.ref 159), some (.int a1), some (.int a2), some (.int a3), none, some (.int x2), none]) (And.intro rfl (And.intro rfl (And.intro rfl (And.intro rfl (And.intro rfl trivial))))) K
def f_X9_costAlone (a1 : Int32) (a2 : Int32) (g : G) : Option (Int32 × G) := ck (0 : Int32) 10 fun j1 => bd (lp (fun (s4 : Int32 × Int32) => (if (g 159 30) ≤ s4.2 then some (.inr (s4.1)) else ck s4.2 10 fun j8 => bd ((if s4.1 ≤ (g 177 j8) then some (s4.1) else ck s4.2 10 fun j12 => some ((g 177 j12)) : Option (Int32))) fun (s10 : Int32) => some (.inl (s10, (s4.2 + (1 : Int32)))) : Option ((Int32 × Int32) ⊕ (Int32)))) 2000 ((g 177 j1), (1 : Int32))) fun (s6 : Int32) => ck a2 10 fun j15 => ck a2 10 fun j16 => bd2 (f_X9_wasWith a1 (g 175 j16) (99 : Int32) g) fun r17 g18 => if r17 = 0 then some ((((((200 : Int32) * ((g 177 j15) - s6)) * ((g 177 j15) - s6)) + (0 : Int32)), g18)) else some ((((((200 : Int32) * ((g 177 j15) - s6)) * ((g 177 j15) - s6)) + (1000000 : Int32)), g18))
set_option maxHeartbeats 4000000 in
set_option maxRecDepth 100000 in
theorem y_X9_costAlone (a1 : Int32) (a2 : Int32)  (g : G) (q : Int32 × G) {post : Int32 → G → Prop} (H : f_X9_costAlone a1 a2 g = some q) (K : post q.1 q.2) : Y m_X9_costAlone 3 [.ref 159, .int a1, .int a2] g post := by
  refine Y_of ok_X9_costAlone pn_9 rfl (by decide) (Or.inr (Or.inl rfl)) (List.forall_mem_cons.mpr ⟨rfl, (List.forall_mem_cons.mpr ⟨rfl, (List.forall_mem_cons.mpr ⟨rfl, (fun _ h => absurd h List.not_mem_nil)⟩)⟩)⟩) (Nat.le_of_ble_eq_true rfl) ?_
  show u_V m_X9_costAlone 3 post 0 [some (.ref 159), some (.int a1), some (.int a2), none, none] [] g
  unfold f_X9_costAlone at H
  refine am_aload_n rfl rfl ?_
  refine u_getR f_9_68 rfl (Nat.le_of_ble_eq_true rfl) rfl rfl ?_
  refine x_iconst (v := (0 : Int32)) rfl (by decide) ?_
  obtain ⟨j1, ej1, hj1, H⟩ := ck_some H
  refine x_iald rfl (Nat.le_of_ble_eq_true rfl) rfl hj1 ej1 ?_
  refine am_istore_n rfl (Nat.le_of_ble_eq_true rfl) ?_
  refine x_iconst (v := (1 : Int32)) rfl (by decide) ?_
  refine am_istore rfl (Nat.le_of_ble_eq_true rfl) ?_
  obtain ⟨s14, H1, H⟩ := bd_some H
  have K2 : (fun (s6 : Int32) => u_V m_X9_costAlone 3 post 48 [some (.ref 159), some (.int a1), some (.int a2), some (.int s6), none] [] g) s14 := by
    clear H1
    obtain ⟨x5, e_x5⟩ : ∃ z, z = s14 := ⟨_, rfl⟩
    subst e_x5
    (try dsimp only at H); (try dsimp only)
    refine am_aload_n rfl rfl ?_
    refine u_getR f_9_68 rfl (Nat.le_of_ble_eq_true rfl) rfl rfl ?_
    refine am_iload_n rfl rfl ?_
    obtain ⟨j15, ej15, hj15, H⟩ := ck_some H
    refine x_iald rfl (Nat.le_of_ble_eq_true rfl) rfl hj15 ej15 ?_
    refine am_iload_n rfl rfl ?_
    refine am_isub rfl ?_
    refine am_istore rfl (Nat.le_of_ble_eq_true rfl) ?_
    refine x_sipush (v := (200 : Int32)) rfl (by decide) ?_
    refine am_iload rfl rfl ?_
    refine am_imul rfl ?_
    refine am_iload rfl rfl ?_
    refine am_imul rfl ?_
    refine am_aload_n rfl rfl ?_
    refine am_iload_n rfl rfl ?_
    refine am_aload_n rfl rfl ?_
    refine u_getR f_9_62 rfl (Nat.le_of_ble_eq_true rfl) rfl rfl ?_
    refine am_iload_n rfl rfl ?_
    obtain ⟨j16, ej16, hj16, H⟩ := ck_some H
    refine x_iald rfl (Nat.le_of_ble_eq_true rfl) rfl hj16 ej16 ?_
    refine x_bipush (v := (99 : Int32)) rfl (by decide) ?_
    obtain ⟨r17, g18, H1, H⟩ := bd2_some H
    refine cv3i v_9_200 rfl rfl (Nat.le_of_ble_eq_true rfl) rfl (Nat.le_of_ble_eq_true rfl) (fun _ _ => Nat.le_of_ble_eq_true rfl) (y_X9_wasWith a1 (g 175 j16) (99 : Int32) g _ H1 ?_)
    refine am_if_eq rfl (fun c19 => ?_) (fun c19 => ?_)
    · have H := it_pos c19 H
      refine x_iconst (v := (0 : Int32)) rfl (by decide) ?_
      refine am_iadd rfl ?_
      have H := Option.some.inj H
      subst H
      exact u_iret rfl rfl K
    · have H := it_neg c19 H
      refine am_ldc (v := (1000000 : Int32)) c_9_196 rfl ?_
      refine am_goto rfl ?_
      refine am_iadd rfl ?_
      have H := Option.some.inj H
      subst H
      exact u_iret rfl rfl K
  refine am_drop (L' := [some (.ref 159), some (.int a1), some (.int a2), some (.int (g 177 j1)), some (.int (1 : Int32))]) (And.intro rfl (And.intro rfl (And.intro rfl (And.intro rfl (And.intro rfl trivial))))) ?_
  refine lp_ind (P := (fun (s4 : Int32 × Int32) => u_V m_X9_costAlone 3 post 10 [some (.ref 159), some (.int a1), some (.int a2), some (.int s4.1), some (.int s4.2)] [] g)) (Q := (fun (s6 : Int32) => u_V m_X9_costAlone 3 post 48 [some (.ref 159), some (.int a1), some (.int a2), some (.int s6), none] [] g)) ?_ 2000 ((g 177 j1), (1 : Int32)) s14 H1 K2
  clear H1 H K
  intro s4 s14b H K
  obtain ⟨x2, x3⟩ := s4
  (try dsimp only at H); (try dsimp only)
  refine am_iload rfl rfl ?_
  refine am_aload_n rfl rfl ?_
  refine u_getI f_9_197 rfl (Nat.le_of_ble_eq_true rfl) rfl rfl ?_
  refine am_icmp_ge rfl (fun c7 => ?_) (fun c7 => ?_)
  · have H := it_pos c7 H
    have H := Option.some.inj H
    subst H
    exact am_drop (L' := [some (.ref 159), some (.int a1), some (.int a2), some (.int x2), none]) (And.intro rfl (And.intro rfl (And.intro rfl (And.intro rfl trivial)))) K
  · have H := it_neg c7 H
    refine am_aload_n rfl rfl ?_
    refine u_getR f_9_68 rfl (Nat.le_of_ble_eq_true rfl) rfl rfl ?_
    refine am_iload rfl rfl ?_
    obtain ⟨j8, ej8, hj8, H⟩ := ck_some H
    refine x_iald rfl (Nat.le_of_ble_eq_true rfl) rfl hj8 ej8 ?_
    refine am_iload_n rfl rfl ?_
    obtain ⟨s13, H1, H⟩ := bd_some H
    have K : (fun (s10 : Int32) => u_V m_X9_costAlone 3 post 41 [some (.ref 159), some (.int a1), some (.int a2), none, some (.int x3)] [.int s10] g) s13 := by
      clear H1
      obtain ⟨x9, e_x9⟩ : ∃ z, z = s13 := ⟨_, rfl⟩
      subst e_x9
      (try dsimp only at H); (try dsimp only)
      refine am_istore_n rfl (Nat.le_of_ble_eq_true rfl) ?_
      refine x_iinc (v := (x3 + (1 : Int32))) rfl rfl (Nat.le_of_ble_eq_true rfl) rfl ?_
      refine am_goto rfl ?_
      have H := Option.some.inj H
      subst H
      exact am_drop (L' := [some (.ref 159), some (.int a1), some (.int a2), some (.int x9), some (.int (x3 + (1 : Int32)))]) (And.intro rfl (And.intro rfl (And.intro rfl (And.intro rfl (And.intro rfl trivial))))) K
    have H := H1
    clear H1
    refine am_icmp_ge rfl (fun c11 => ?_) (fun c11 => ?_)
    · have H := it_pos c11 H
      refine am_iload_n rfl rfl ?_
      have H := Option.some.inj H
      subst H
      exact am_drop (L' := [some (.ref 159), some (.int a1), some (.int a2), none, some (.int x3)]) (And.intro rfl (And.intro rfl (And.intro rfl (And.intro rfl trivial)))) K
    · have H := it_neg c11 H
      refine am_aload_n rfl rfl ?_
      refine u_getR f_9_68 rfl (Nat.le_of_ble_eq_true rfl) rfl rfl ?_
      refine am_iload rfl rfl ?_
      obtain ⟨j12, ej12, hj12, H⟩ := ck_some H
      refine x_iald rfl (Nat.le_of_ble_eq_true rfl) rfl hj12 ej12 ?_
      refine am_goto rfl ?_
      have H := Option.some.inj H
      subst H
      exact am_drop (L' := [some (.ref 159), some (.int a1), some (.int a2), none, some (.int x3)]) (And.intro rfl (And.intro rfl (And.intro rfl (And.intro rfl trivial)))) K
def f_X9_costOf (a1 : Int32) (a2 : Int32) (a3 : Int32) (a4 : Int32) (g : G) : Option (Int32 × G) := ck a2 10 fun j1 => ck a3 10 fun j2 => ck a2 10 fun j3 => ck a3 10 fun j4 => bd ((if 0 ≤ ((g 176 j3) - (g 176 j4)) then some (((g 176 j3) - (g 176 j4))) else some ((-((g 176 j3) - (g 176 j4)))) : Option (Int32))) fun (s6 : Int32) => ck a2 10 fun j7 => ck a3 10 fun j8 => bd2 (f_X9_wasWith a1 (g 175 j7) (g 175 j8) g) fun r9 g10 => bd ((if r9 = 0 then some ((0 : Int32)) else some ((1000000 : Int32)) : Option (Int32))) fun (s12 : Int32) => ck a2 10 fun j13 => bd2 (f_X9_colourCost a1 (g10 175 j13) a4 g10) fun r14 g15 => ck a3 10 fun j16 => if a4 = 0 then bd2 (f_X9_colourCost a1 (g15 175 j16) (1 : Int32) g15) fun r20 g21 => some (((((((((200 : Int32) * ((g 177 j1) - (g 177 j2))) * ((g 177 j1) - (g 177 j2))) + (s6 / (10 : Int32))) + s12) + r14) + r20), g21)) else bd2 (f_X9_colourCost a1 (g15 175 j16) (0 : Int32) g15) fun r18 g19 => some (((((((((200 : Int32) * ((g 177 j1) - (g 177 j2))) * ((g 177 j1) - (g 177 j2))) + (s6 / (10 : Int32))) + s12) + r14) + r18), g19))
set_option maxHeartbeats 4000000 in
set_option maxRecDepth 100000 in
theorem y_X9_costOf (a1 : Int32) (a2 : Int32) (a3 : Int32) (a4 : Int32)  (g : G) (q : Int32 × G) {post : Int32 → G → Prop} (H : f_X9_costOf a1 a2 a3 a4 g = some q) (K : post q.1 q.2) : Y m_X9_costOf 4 [.ref 159, .int a1, .int a2, .int a3, .int a4] g post := by
  refine Y_of ok_X9_costOf pn_9 rfl (by decide) (Or.inr (Or.inl rfl)) (List.forall_mem_cons.mpr ⟨rfl, (List.forall_mem_cons.mpr ⟨rfl, (List.forall_mem_cons.mpr ⟨rfl, (List.forall_mem_cons.mpr ⟨rfl, (List.forall_mem_cons.mpr ⟨rfl, (fun _ h => absurd h List.not_mem_nil)⟩)⟩)⟩)⟩)⟩) (Nat.le_of_ble_eq_true rfl) ?_
  show u_V m_X9_costOf 4 post 0 [some (.ref 159), some (.int a1), some (.int a2), some (.int a3), some (.int a4), none, none, none] [] g
  unfold f_X9_costOf at H
  refine am_aload_n rfl rfl ?_
  refine u_getR f_9_68 rfl (Nat.le_of_ble_eq_true rfl) rfl rfl ?_
  refine am_iload_n rfl rfl ?_
  obtain ⟨j1, ej1, hj1, H⟩ := ck_some H
  refine x_iald rfl (Nat.le_of_ble_eq_true rfl) rfl hj1 ej1 ?_
  refine am_aload_n rfl rfl ?_
  refine u_getR f_9_68 rfl (Nat.le_of_ble_eq_true rfl) rfl rfl ?_
  refine am_iload_n rfl rfl ?_
  obtain ⟨j2, ej2, hj2, H⟩ := ck_some H
  refine x_iald rfl (Nat.le_of_ble_eq_true rfl) rfl hj2 ej2 ?_
  refine am_isub rfl ?_
  refine am_istore rfl (Nat.le_of_ble_eq_true rfl) ?_
  refine am_aload_n rfl rfl ?_
  refine u_getR f_9_65 rfl (Nat.le_of_ble_eq_true rfl) rfl rfl ?_
  refine am_iload_n rfl rfl ?_
  obtain ⟨j3, ej3, hj3, H⟩ := ck_some H
  refine x_iald rfl (Nat.le_of_ble_eq_true rfl) rfl hj3 ej3 ?_
  refine am_aload_n rfl rfl ?_
  refine u_getR f_9_65 rfl (Nat.le_of_ble_eq_true rfl) rfl rfl ?_
  refine am_iload_n rfl rfl ?_
  obtain ⟨j4, ej4, hj4, H⟩ := ck_some H
  refine x_iald rfl (Nat.le_of_ble_eq_true rfl) rfl hj4 ej4 ?_
  refine am_isub rfl ?_
  refine am_istore rfl (Nat.le_of_ble_eq_true rfl) ?_
  refine am_iload rfl rfl ?_
  obtain ⟨s25, H1, H⟩ := bd_some H
  have K : (fun (s6 : Int32) => u_V m_X9_costOf 4 post 43 [some (.ref 159), some (.int a1), some (.int a2), some (.int a3), some (.int a4), some (.int ((g 177 j1) - (g 177 j2))), none, none] [.int s6] g) s25 := by
    clear H1
    obtain ⟨x5, e_x5⟩ : ∃ z, z = s25 := ⟨_, rfl⟩
    subst e_x5
    (try dsimp only at H); (try dsimp only)
    refine am_istore rfl (Nat.le_of_ble_eq_true rfl) ?_
    refine x_sipush (v := (200 : Int32)) rfl (by decide) ?_
    refine am_iload rfl rfl ?_
    refine am_imul rfl ?_
    refine am_iload rfl rfl ?_
    refine am_imul rfl ?_
    refine am_iload rfl rfl ?_
    refine x_bipush (v := (10 : Int32)) rfl (by decide) ?_
    refine am_idiv rfl (by decide) ?_
    refine am_iadd rfl ?_
    refine am_aload_n rfl rfl ?_
    refine am_iload_n rfl rfl ?_
    refine am_aload_n rfl rfl ?_
    refine u_getR f_9_62 rfl (Nat.le_of_ble_eq_true rfl) rfl rfl ?_
    refine am_iload_n rfl rfl ?_
    obtain ⟨j7, ej7, hj7, H⟩ := ck_some H
    refine x_iald rfl (Nat.le_of_ble_eq_true rfl) rfl hj7 ej7 ?_
    refine am_aload_n rfl rfl ?_
    refine u_getR f_9_62 rfl (Nat.le_of_ble_eq_true rfl) rfl rfl ?_
    refine am_iload_n rfl rfl ?_
    obtain ⟨j8, ej8, hj8, H⟩ := ck_some H
    refine x_iald rfl (Nat.le_of_ble_eq_true rfl) rfl hj8 ej8 ?_
    obtain ⟨r9, g10, H1, H⟩ := bd2_some H
    refine cv3i v_9_200 rfl rfl (Nat.le_of_ble_eq_true rfl) rfl (Nat.le_of_ble_eq_true rfl) (fun _ _ => Nat.le_of_ble_eq_true rfl) (y_X9_wasWith a1 (g 175 j7) (g 175 j8) g _ H1 ?_)
    obtain ⟨s23, H1, H⟩ := bd_some H
    have K : (fun (s12 : Int32) => u_V m_X9_costOf 4 post 86 [some (.ref 159), some (.int a1), some (.int a2), some (.int a3), some (.int a4), none, none, none] [.int s12, .int ((((200 : Int32) * ((g 177 j1) - (g 177 j2))) * ((g 177 j1) - (g 177 j2))) + (x5 / (10 : Int32)))] g10) s23 := by
      clear H1
      obtain ⟨x11, e_x11⟩ : ∃ z, z = s23 := ⟨_, rfl⟩
      subst e_x11
      (try dsimp only at H); (try dsimp only)
      refine am_iadd rfl ?_
      refine am_istore rfl (Nat.le_of_ble_eq_true rfl) ?_
      refine am_iload rfl rfl ?_
      refine am_aload_n rfl rfl ?_
      refine am_iload_n rfl rfl ?_
      refine am_aload_n rfl rfl ?_
      refine u_getR f_9_62 rfl (Nat.le_of_ble_eq_true rfl) rfl rfl ?_
      refine am_iload_n rfl rfl ?_
      obtain ⟨j13, ej13, hj13, H⟩ := ck_some H
      refine x_iald rfl (Nat.le_of_ble_eq_true rfl) rfl hj13 ej13 ?_
      refine am_iload rfl rfl ?_
      obtain ⟨r14, g15, H1, H⟩ := bd2_some H
      refine cv3i v_9_203 rfl rfl (Nat.le_of_ble_eq_true rfl) rfl (Nat.le_of_ble_eq_true rfl) (fun _ _ => Nat.le_of_ble_eq_true rfl) (y_X9_colourCost a1 (g10 175 j13) a4 g10 _ H1 ?_)
      refine am_iadd rfl ?_
      refine am_aload_n rfl rfl ?_
      refine am_iload_n rfl rfl ?_
      refine am_aload_n rfl rfl ?_
      refine u_getR f_9_62 rfl (Nat.le_of_ble_eq_true rfl) rfl rfl ?_
      refine am_iload_n rfl rfl ?_
      obtain ⟨j16, ej16, hj16, H⟩ := ck_some H
      refine x_iald rfl (Nat.le_of_ble_eq_true rfl) rfl hj16 ej16 ?_
      refine am_iload rfl rfl ?_
      refine am_if_ne rfl (fun c17 => ?_) (fun c17 => ?_)
      · have H := it_neg c17 H
        refine x_iconst (v := (0 : Int32)) rfl (by decide) ?_
        obtain ⟨r18, g19, H1, H⟩ := bd2_some H
        refine cv3i v_9_203 rfl rfl (Nat.le_of_ble_eq_true rfl) rfl (Nat.le_of_ble_eq_true rfl) (fun _ _ => Nat.le_of_ble_eq_true rfl) (y_X9_colourCost a1 (g15 175 j16) (0 : Int32) g15 _ H1 ?_)
        refine am_iadd rfl ?_
        have H := Option.some.inj H
        subst H
        exact u_iret rfl rfl K
      · have H := it_pos c17 H
        refine x_iconst (v := (1 : Int32)) rfl (by decide) ?_
        refine am_goto rfl ?_
        obtain ⟨r20, g21, H1, H⟩ := bd2_some H
        refine cv3i v_9_203 rfl rfl (Nat.le_of_ble_eq_true rfl) rfl (Nat.le_of_ble_eq_true rfl) (fun _ _ => Nat.le_of_ble_eq_true rfl) (y_X9_colourCost a1 (g15 175 j16) (1 : Int32) g15 _ H1 ?_)
        refine am_iadd rfl ?_
        have H := Option.some.inj H
        subst H
        exact u_iret rfl rfl K
    have H := H1
    clear H1
    refine am_if_eq rfl (fun c22 => ?_) (fun c22 => ?_)
    · have H := it_pos c22 H
      refine x_iconst (v := (0 : Int32)) rfl (by decide) ?_
      have H := Option.some.inj H
      subst H
      exact am_drop (L' := [some (.ref 159), some (.int a1), some (.int a2), some (.int a3), some (.int a4), none, none, none]) (And.intro rfl (And.intro rfl (And.intro rfl (And.intro rfl (And.intro rfl trivial))))) K
    · have H := it_neg c22 H
      refine am_ldc (v := (1000000 : Int32)) c_9_196 rfl ?_
      refine am_goto rfl ?_
      have H := Option.some.inj H
      subst H
      exact am_drop (L' := [some (.ref 159), some (.int a1), some (.int a2), some (.int a3), some (.int a4), none, none, none]) (And.intro rfl (And.intro rfl (And.intro rfl (And.intro rfl (And.intro rfl trivial))))) K
  have H := H1
  clear H1
  refine am_if_ge rfl (fun c24 => ?_) (fun c24 => ?_)
  · have H := it_pos c24 H
    refine am_iload rfl rfl ?_
    have H := Option.some.inj H
    subst H
    exact am_drop (L' := [some (.ref 159), some (.int a1), some (.int a2), some (.int a3), some (.int a4), some (.int ((g 177 j1) - (g 177 j2))), none, none]) (And.intro rfl (And.intro rfl (And.intro rfl (And.intro rfl (And.intro rfl (And.intro rfl trivial)))))) K
  · have H := it_neg c24 H
    refine am_iload rfl rfl ?_
    refine am_ineg rfl ?_
    refine am_goto rfl ?_
    have H := Option.some.inj H
    subst H
    exact am_drop (L' := [some (.ref 159), some (.int a1), some (.int a2), some (.int a3), some (.int a4), some (.int ((g 177 j1) - (g 177 j2))), none, none]) (And.intro rfl (And.intro rfl (And.intro rfl (And.intro rfl (And.intro rfl (And.intro rfl trivial)))))) K
def f_X9_search (a1 : Int32) (g : G) : Option (Int32 × G) := bd (lp (fun (s3 : Int32 × G) => (if (s3.2 159 30) ≤ s3.1 then some (.inr (s3.2)) else bd (lp (fun (s9 : Int32 × G) => (if (s9.2 159 30) ≤ s9.1 then some (.inr (s9.2)) else bd2 (f_X9_costOf a1 s3.1 s9.1 (1 : Int32) s9.2) fun r13 g14 => bd2 (f_X9_costOf a1 s3.1 s9.1 (0 : Int32) g14) fun r15 g16 => bd ((if r15 < r13 then some (r15) else some (r13) : Option (Int32))) fun (s18 : Int32) => ck (((10 : Int32) * s3.1) + s9.1) 100 fun j19 => wr (up2 g16 180 j19 s18) fun g20 => some (.inl ((s9.1 + (1 : Int32)), g20)) : Option ((Int32 × G) ⊕ (G)))) 2000 ((s3.1 + (1 : Int32)), s3.2)) fun (s11 : G) => bd2 (f_X9_costAlone a1 s3.1 s11) fun r24 g25 => ck ((11 : Int32) * s3.1) 100 fun j26 => wr (up2 g25 180 j26 r24) fun g27 => some (.inl ((s3.1 + (1 : Int32)), g27)) : Option ((Int32 × G) ⊕ (G)))) 2000 ((0 : Int32), g)) fun (s5 : G) => ck (0 : Int32) 1024 fun j29 => wr (up2 s5 178 j29 (0 : Int32)) fun g30 => bd (lp (fun (s33 : Int32 × G) => (if ((1 : Int32) <<< ((g30 159 30) &&& 31)) ≤ s33.1 then some (.inr (s33.2)) else bd (lp (fun (s39 : Int32 × Int32) => (if (s33.2 159 30) ≤ s39.2 then some (.inr (s39.1)) else some (.inl ((s39.1 + ((s33.1 >>> (s39.2 &&& 31)) &&& (1 : Int32))), (s39.2 + (1 : Int32)))) : Option ((Int32 × Int32) ⊕ (Int32)))) 2000 ((0 : Int32), (0 : Int32))) fun (s41 : Int32) => bd (lp (fun (s45 : Int32) => (if ((s33.1 >>> (s45 &&& 31)) &&& (1 : Int32)) = 0 then some (.inl ((s45 + (1 : Int32)))) else some (.inr (s45)) : Option ((Int32) ⊕ (Int32)))) 2000 (0 : Int32)) fun (s47 : Int32) => ck s33.1 1024 fun j50 => wr (up2 s33.2 178 j50 (2147483647 : Int32)) fun g51 => ck s33.1 1024 fun j52 => wr (up2 g51 179 j52 (10 : Int32)) fun g53 => bd (lp (fun (s56 : Int32 × G) => (if (s56.2 159 30) ≤ s56.1 then some (.inr (s56.2)) else bd ((if ((s33.1 >>> (s56.1 &&& 31)) &&& (1 : Int32)) = (1 : Int32) then ck ((s33.1 - ((1 : Int32) <<< (s47 &&& 31))) - ((1 : Int32) <<< (s56.1 &&& 31))) 1024 fun j63 => if (s56.2 178 j63) = (2147483647 : Int32) then some (s56.2) else ck (((10 : Int32) * s47) + s56.1) 100 fun j65 => ck s33.1 1024 fun j66 => if (s56.2 178 j66) ≤ ((s56.2 180 j65) + (s56.2 178 j63)) then some (s56.2) else ck (((10 : Int32) * s47) + s56.1) 100 fun j68 => ck s33.1 1024 fun j69 => wr (up2 s56.2 178 j69 ((s56.2 180 j68) + (s56.2 178 j63))) fun g70 => ck s33.1 1024 fun j71 => wr (up2 g70 179 j71 s56.1) fun g72 => some (g72) else some (s56.2) : Option (G))) fun (s61 : G) => some (.inl ((s56.1 + (1 : Int32)), s61)) : Option ((Int32 × G) ⊕ (G)))) 2000 ((s47 + (1 : Int32)), g53)) fun (s58 : G) => bd ((if (s41 - s41 / (2 : Int32) * (2 : Int32)) = (1 : Int32) then ck ((11 : Int32) * s47) 100 fun j78 => ck (s33.1 - ((1 : Int32) <<< (s47 &&& 31))) 1024 fun j79 => ck s33.1 1024 fun j80 => if (s58 178 j80) ≤ ((s58 180 j78) + (s58 178 j79)) then some (s58) else ck ((11 : Int32) * s47) 100 fun j82 => ck (s33.1 - ((1 : Int32) <<< (s47 &&& 31))) 1024 fun j83 => ck s33.1 1024 fun j84 => wr (up2 s58 178 j84 ((s58 180 j82) + (s58 178 j83))) fun g85 => ck s33.1 1024 fun j86 => wr (up2 g85 179 j86 (10 : Int32)) fun g87 => some (g87) else some (s58) : Option (G))) fun (s76 : G) => some (.inl ((s33.1 + (1 : Int32)), s76)) : Option ((Int32 × G) ⊕ (G)))) 2000 ((1 : Int32), g30)) fun (s35 : G) => some (((0 : Int32), s35))
set_option maxHeartbeats 4000000 in
set_option maxRecDepth 100000 in
theorem y_X9_search (a1 : Int32)  (g : G) (q : Int32 × G) {post : Int32 → G → Prop} (H : f_X9_search a1 g = some q) (K : post q.1 q.2) : Y m_X9_search 5 [.ref 159, .int a1] g post := by
  refine Y_of ok_X9_search pn_9 rfl (by decide) (Or.inl rfl) (List.forall_mem_cons.mpr ⟨rfl, (List.forall_mem_cons.mpr ⟨rfl, (fun _ h => absurd h List.not_mem_nil)⟩)⟩) (Nat.le_of_ble_eq_true rfl) ?_
  show u_V m_X9_search 5 post 0 [some (.ref 159), some (.int a1), none, none, none, none, none, none, none] [] g
  unfold f_X9_search at H
  refine x_iconst (v := (0 : Int32)) rfl (by decide) ?_
  refine am_istore_n rfl (Nat.le_of_ble_eq_true rfl) ?_
  obtain ⟨s28, H1, H⟩ := bd_some H
  have K2 : (fun (s5 : G) => u_V m_X9_search 5 post 94 [some (.ref 159), none, none, none, none, none, none, none, none] [] s5) s28 := by
    clear H1
    obtain ⟨g4, e_g4⟩ : ∃ z, z = s28 := ⟨_, rfl⟩
    subst e_g4
    (try dsimp only at H); (try dsimp only)
    refine am_aload_n rfl rfl ?_
    refine u_getR f_9_71 rfl (Nat.le_of_ble_eq_true rfl) rfl rfl ?_
    refine x_iconst (v := (0 : Int32)) rfl (by decide) ?_
    refine x_iconst (v := (0 : Int32)) rfl (by decide) ?_
    obtain ⟨j29, ej29, hj29, H⟩ := ck_some H
    obtain ⟨g30, eg30, H⟩ := wr_some H
    refine x_iast rfl (Nat.le_of_ble_eq_true rfl) rfl hj29 ej29 eg30 ?_
    refine x_iconst (v := (1 : Int32)) rfl (by decide) ?_
    refine am_aload_n rfl rfl ?_
    refine u_getI f_9_197 rfl (Nat.le_of_ble_eq_true rfl) rfl rfl ?_
    refine am_ishl rfl ?_
    refine am_istore_n rfl (Nat.le_of_ble_eq_true rfl) ?_
    refine x_iconst (v := (1 : Int32)) rfl (by decide) ?_
    refine am_istore_n rfl (Nat.le_of_ble_eq_true rfl) ?_
    obtain ⟨s89, H1, H⟩ := bd_some H
    have K2 : (fun (s35 : G) => u_V m_X9_search 5 post 369 [none, none, none, none, none, none, none, none, none] [] s35) s89 := by
      clear H1
      obtain ⟨g34, e_g34⟩ : ∃ z, z = s89 := ⟨_, rfl⟩
      subst e_g34
      (try dsimp only at H); (try dsimp only)
      have H := Option.some.inj H
      subst H
      exact u_vret rfl rfl K
    refine am_drop (L' := [some (.ref 159), none, some (.int ((1 : Int32) <<< ((g30 159 30) &&& 31))), some (.int (1 : Int32)), none, none, none, none, none]) (And.intro rfl (And.intro rfl (And.intro rfl trivial))) ?_
    refine lp_ind (P := (fun (s33 : Int32 × G) => u_V m_X9_search 5 post 110 [some (.ref 159), none, some (.int ((1 : Int32) <<< ((g30 159 30) &&& 31))), some (.int s33.1), none, none, none, none, none] [] s33.2)) (Q := (fun (s35 : G) => u_V m_X9_search 5 post 369 [none, none, none, none, none, none, none, none, none] [] s35)) ?_ 2000 ((1 : Int32), g30) s89 H1 K2
    clear H1 H K
    intro s33 s89b H K
    obtain ⟨x31, g32⟩ := s33
    (try dsimp only at H); (try dsimp only)
    refine am_iload_n rfl rfl ?_
    refine am_iload_n rfl rfl ?_
    refine am_icmp_ge rfl (fun c36 => ?_) (fun c36 => ?_)
    · have H := it_pos c36 H
      have H := Option.some.inj H
      subst H
      exact am_drop (L' := [none, none, none, none, none, none, none, none, none]) trivial K
    · have H := it_neg c36 H
      refine x_iconst (v := (0 : Int32)) rfl (by decide) ?_
      refine am_istore rfl (Nat.le_of_ble_eq_true rfl) ?_
      refine x_iconst (v := (0 : Int32)) rfl (by decide) ?_
      refine am_istore rfl (Nat.le_of_ble_eq_true rfl) ?_
      obtain ⟨s43, H1, H⟩ := bd_some H
      have K2 : (fun (s41 : Int32) => u_V m_X9_search 5 post 147 [some (.ref 159), none, some (.int ((1 : Int32) <<< ((g30 159 30) &&& 31))), some (.int x31), some (.int s41), none, none, none, none] [] g32) s43 := by
        clear H1
        obtain ⟨x40, e_x40⟩ : ∃ z, z = s43 := ⟨_, rfl⟩
        subst e_x40
        (try dsimp only at H); (try dsimp only)
        refine x_iconst (v := (0 : Int32)) rfl (by decide) ?_
        refine am_istore rfl (Nat.le_of_ble_eq_true rfl) ?_
        obtain ⟨s49, H1, H⟩ := bd_some H
        have K2 : (fun (s47 : Int32) => u_V m_X9_search 5 post 165 [some (.ref 159), none, some (.int ((1 : Int32) <<< ((g30 159 30) &&& 31))), some (.int x31), some (.int x40), some (.int s47), none, none, none] [] g32) s49 := by
          clear H1
          obtain ⟨x46, e_x46⟩ : ∃ z, z = s49 := ⟨_, rfl⟩
          subst e_x46
          (try dsimp only at H); (try dsimp only)
          refine am_iload_n rfl rfl ?_
          refine x_iconst (v := (1 : Int32)) rfl (by decide) ?_
          refine am_iload rfl rfl ?_
          refine am_ishl rfl ?_
          refine am_isub rfl ?_
          refine am_istore rfl (Nat.le_of_ble_eq_true rfl) ?_
          refine am_aload_n rfl rfl ?_
          refine u_getR f_9_71 rfl (Nat.le_of_ble_eq_true rfl) rfl rfl ?_
          refine am_iload_n rfl rfl ?_
          refine am_ldc (v := (2147483647 : Int32)) c_9_214 rfl ?_
          obtain ⟨j50, ej50, hj50, H⟩ := ck_some H
          obtain ⟨g51, eg51, H⟩ := wr_some H
          refine x_iast rfl (Nat.le_of_ble_eq_true rfl) rfl hj50 ej50 eg51 ?_
          refine am_aload_n rfl rfl ?_
          refine u_getR f_9_74 rfl (Nat.le_of_ble_eq_true rfl) rfl rfl ?_
          refine am_iload_n rfl rfl ?_
          refine x_bipush (v := (10 : Int32)) rfl (by decide) ?_
          obtain ⟨j52, ej52, hj52, H⟩ := ck_some H
          obtain ⟨g53, eg53, H⟩ := wr_some H
          refine x_iast rfl (Nat.le_of_ble_eq_true rfl) rfl hj52 ej52 eg53 ?_
          refine am_iload rfl rfl ?_
          refine x_iconst (v := (1 : Int32)) rfl (by decide) ?_
          refine am_iadd rfl ?_
          refine am_istore rfl (Nat.le_of_ble_eq_true rfl) ?_
          obtain ⟨s74, H1, H⟩ := bd_some H
          have K2 : (fun (s58 : G) => u_V m_X9_search 5 post 296 [some (.ref 159), none, some (.int ((1 : Int32) <<< ((g30 159 30) &&& 31))), some (.int x31), some (.int x40), some (.int x46), some (.int (x31 - ((1 : Int32) <<< (x46 &&& 31)))), none, none] [] s58) s74 := by
            clear H1
            obtain ⟨g57, e_g57⟩ : ∃ z, z = s74 := ⟨_, rfl⟩
            subst e_g57
            (try dsimp only at H); (try dsimp only)
            refine am_iload rfl rfl ?_
            refine x_iconst (v := (2 : Int32)) rfl (by decide) ?_
            refine am_irem rfl (by decide) ?_
            refine x_iconst (v := (1 : Int32)) rfl (by decide) ?_
            obtain ⟨s88, H1, H⟩ := bd_some H
            have K : (fun (s76 : G) => u_V m_X9_search 5 post 363 [some (.ref 159), none, some (.int ((1 : Int32) <<< ((g30 159 30) &&& 31))), some (.int x31), none, none, none, none, none] [] s76) s88 := by
              clear H1
              obtain ⟨g75, e_g75⟩ : ∃ z, z = s88 := ⟨_, rfl⟩
              subst e_g75
              (try dsimp only at H); (try dsimp only)
              refine x_iinc (v := (x31 + (1 : Int32))) rfl rfl (Nat.le_of_ble_eq_true rfl) rfl ?_
              refine am_goto rfl ?_
              have H := Option.some.inj H
              subst H
              exact am_drop (L' := [some (.ref 159), none, some (.int ((1 : Int32) <<< ((g30 159 30) &&& 31))), some (.int (x31 + (1 : Int32))), none, none, none, none, none]) (And.intro rfl (And.intro rfl (And.intro rfl trivial))) K
            have H := H1
            clear H1
            refine am_icmp_ne rfl (fun c77 => ?_) (fun c77 => ?_)
            · have H := it_neg c77 H
              have H := Option.some.inj H
              subst H
              exact am_drop (L' := [some (.ref 159), none, some (.int ((1 : Int32) <<< ((g30 159 30) &&& 31))), some (.int x31), none, none, none, none, none]) (And.intro rfl (And.intro rfl (And.intro rfl trivial))) K
            · have H := it_pos c77 H
              refine am_aload_n rfl rfl ?_
              refine u_getR f_9_77 rfl (Nat.le_of_ble_eq_true rfl) rfl rfl ?_
              refine x_bipush (v := (11 : Int32)) rfl (by decide) ?_
              refine am_iload rfl rfl ?_
              refine am_imul rfl ?_
              obtain ⟨j78, ej78, hj78, H⟩ := ck_some H
              refine x_iald rfl (Nat.le_of_ble_eq_true rfl) rfl hj78 ej78 ?_
              refine am_aload_n rfl rfl ?_
              refine u_getR f_9_71 rfl (Nat.le_of_ble_eq_true rfl) rfl rfl ?_
              refine am_iload rfl rfl ?_
              obtain ⟨j79, ej79, hj79, H⟩ := ck_some H
              refine x_iald rfl (Nat.le_of_ble_eq_true rfl) rfl hj79 ej79 ?_
              refine am_iadd rfl ?_
              refine am_aload_n rfl rfl ?_
              refine u_getR f_9_71 rfl (Nat.le_of_ble_eq_true rfl) rfl rfl ?_
              refine am_iload_n rfl rfl ?_
              obtain ⟨j80, ej80, hj80, H⟩ := ck_some H
              refine x_iald rfl (Nat.le_of_ble_eq_true rfl) rfl hj80 ej80 ?_
              refine am_icmp_ge rfl (fun c81 => ?_) (fun c81 => ?_)
              · have H := it_pos c81 H
                have H := Option.some.inj H
                subst H
                exact am_drop (L' := [some (.ref 159), none, some (.int ((1 : Int32) <<< ((g30 159 30) &&& 31))), some (.int x31), none, none, none, none, none]) (And.intro rfl (And.intro rfl (And.intro rfl trivial))) K
              · have H := it_neg c81 H
                refine am_aload_n rfl rfl ?_
                refine u_getR f_9_71 rfl (Nat.le_of_ble_eq_true rfl) rfl rfl ?_
                refine am_iload_n rfl rfl ?_
                refine am_aload_n rfl rfl ?_
                refine u_getR f_9_77 rfl (Nat.le_of_ble_eq_true rfl) rfl rfl ?_
                refine x_bipush (v := (11 : Int32)) rfl (by decide) ?_
                refine am_iload rfl rfl ?_
                refine am_imul rfl ?_
                obtain ⟨j82, ej82, hj82, H⟩ := ck_some H
                refine x_iald rfl (Nat.le_of_ble_eq_true rfl) rfl hj82 ej82 ?_
                refine am_aload_n rfl rfl ?_
                refine u_getR f_9_71 rfl (Nat.le_of_ble_eq_true rfl) rfl rfl ?_
                refine am_iload rfl rfl ?_
                obtain ⟨j83, ej83, hj83, H⟩ := ck_some H
                refine x_iald rfl (Nat.le_of_ble_eq_true rfl) rfl hj83 ej83 ?_
                refine am_iadd rfl ?_
                obtain ⟨j84, ej84, hj84, H⟩ := ck_some H
                obtain ⟨g85, eg85, H⟩ := wr_some H
                refine x_iast rfl (Nat.le_of_ble_eq_true rfl) rfl hj84 ej84 eg85 ?_
                refine am_aload_n rfl rfl ?_
                refine u_getR f_9_74 rfl (Nat.le_of_ble_eq_true rfl) rfl rfl ?_
                refine am_iload_n rfl rfl ?_
                refine x_bipush (v := (10 : Int32)) rfl (by decide) ?_
                obtain ⟨j86, ej86, hj86, H⟩ := ck_some H
                obtain ⟨g87, eg87, H⟩ := wr_some H
                refine x_iast rfl (Nat.le_of_ble_eq_true rfl) rfl hj86 ej86 eg87 ?_
                have H := Option.some.inj H
                subst H
                exact am_drop (L' := [some (.ref 159), none, some (.int ((1 : Int32) <<< ((g30 159 30) &&& 31))), some (.int x31), none, none, none, none, none]) (And.intro rfl (And.intro rfl (And.intro rfl trivial))) K
          refine am_drop (L' := [some (.ref 159), none, some (.int ((1 : Int32) <<< ((g30 159 30) &&& 31))), some (.int x31), some (.int x40), some (.int x46), some (.int (x31 - ((1 : Int32) <<< (x46 &&& 31)))), some (.int (x46 + (1 : Int32))), none]) (And.intro rfl (And.intro rfl (And.intro rfl (And.intro rfl (And.intro rfl (And.intro rfl (And.intro rfl trivial))))))) ?_
          refine lp_ind (P := (fun (s56 : Int32 × G) => u_V m_X9_search 5 post 195 [some (.ref 159), none, some (.int ((1 : Int32) <<< ((g30 159 30) &&& 31))), some (.int x31), some (.int x40), some (.int x46), some (.int (x31 - ((1 : Int32) <<< (x46 &&& 31)))), some (.int s56.1), none] [] s56.2)) (Q := (fun (s58 : G) => u_V m_X9_search 5 post 296 [some (.ref 159), none, some (.int ((1 : Int32) <<< ((g30 159 30) &&& 31))), some (.int x31), some (.int x40), some (.int x46), some (.int (x31 - ((1 : Int32) <<< (x46 &&& 31)))), none, none] [] s58)) ?_ 2000 ((x46 + (1 : Int32)), g53) s74 H1 K2
          clear H1 H K
          intro s56 s74b H K
          obtain ⟨x54, g55⟩ := s56
          (try dsimp only at H); (try dsimp only)
          refine am_iload rfl rfl ?_
          refine am_aload_n rfl rfl ?_
          refine u_getI f_9_197 rfl (Nat.le_of_ble_eq_true rfl) rfl rfl ?_
          refine am_icmp_ge rfl (fun c59 => ?_) (fun c59 => ?_)
          · have H := it_pos c59 H
            have H := Option.some.inj H
            subst H
            exact am_drop (L' := [some (.ref 159), none, some (.int ((1 : Int32) <<< ((g30 159 30) &&& 31))), some (.int x31), some (.int x40), some (.int x46), some (.int (x31 - ((1 : Int32) <<< (x46 &&& 31)))), none, none]) (And.intro rfl (And.intro rfl (And.intro rfl (And.intro rfl (And.intro rfl (And.intro rfl trivial)))))) K
          · have H := it_neg c59 H
            refine am_iload_n rfl rfl ?_
            refine am_iload rfl rfl ?_
            refine am_ishr rfl ?_
            refine x_iconst (v := (1 : Int32)) rfl (by decide) ?_
            refine am_iand rfl ?_
            refine x_iconst (v := (1 : Int32)) rfl (by decide) ?_
            obtain ⟨s73, H1, H⟩ := bd_some H
            have K : (fun (s61 : G) => u_V m_X9_search 5 post 290 [some (.ref 159), none, some (.int ((1 : Int32) <<< ((g30 159 30) &&& 31))), some (.int x31), some (.int x40), some (.int x46), some (.int (x31 - ((1 : Int32) <<< (x46 &&& 31)))), some (.int x54), none] [] s61) s73 := by
              clear H1
              obtain ⟨g60, e_g60⟩ : ∃ z, z = s73 := ⟨_, rfl⟩
              subst e_g60
              (try dsimp only at H); (try dsimp only)
              refine x_iinc (v := (x54 + (1 : Int32))) rfl rfl (Nat.le_of_ble_eq_true rfl) rfl ?_
              refine am_goto rfl ?_
              have H := Option.some.inj H
              subst H
              exact am_drop (L' := [some (.ref 159), none, some (.int ((1 : Int32) <<< ((g30 159 30) &&& 31))), some (.int x31), some (.int x40), some (.int x46), some (.int (x31 - ((1 : Int32) <<< (x46 &&& 31)))), some (.int (x54 + (1 : Int32))), none]) (And.intro rfl (And.intro rfl (And.intro rfl (And.intro rfl (And.intro rfl (And.intro rfl (And.intro rfl trivial))))))) K
            have H := H1
            clear H1
            refine am_icmp_ne rfl (fun c62 => ?_) (fun c62 => ?_)
            · have H := it_neg c62 H
              have H := Option.some.inj H
              subst H
              exact am_drop (L' := [some (.ref 159), none, some (.int ((1 : Int32) <<< ((g30 159 30) &&& 31))), some (.int x31), some (.int x40), some (.int x46), some (.int (x31 - ((1 : Int32) <<< (x46 &&& 31)))), some (.int x54), none]) (And.intro rfl (And.intro rfl (And.intro rfl (And.intro rfl (And.intro rfl (And.intro rfl (And.intro rfl trivial))))))) K
            · have H := it_pos c62 H
              refine am_aload_n rfl rfl ?_
              refine u_getR f_9_71 rfl (Nat.le_of_ble_eq_true rfl) rfl rfl ?_
              refine am_iload rfl rfl ?_
              refine x_iconst (v := (1 : Int32)) rfl (by decide) ?_
              refine am_iload rfl rfl ?_
              refine am_ishl rfl ?_
              refine am_isub rfl ?_
              obtain ⟨j63, ej63, hj63, H⟩ := ck_some H
              refine x_iald rfl (Nat.le_of_ble_eq_true rfl) rfl hj63 ej63 ?_
              refine am_istore rfl (Nat.le_of_ble_eq_true rfl) ?_
              refine am_iload rfl rfl ?_
              refine am_ldc (v := (2147483647 : Int32)) c_9_214 rfl ?_
              refine am_icmp_eq rfl (fun c64 => ?_) (fun c64 => ?_)
              · have H := it_pos c64 H
                have H := Option.some.inj H
                subst H
                exact am_drop (L' := [some (.ref 159), none, some (.int ((1 : Int32) <<< ((g30 159 30) &&& 31))), some (.int x31), some (.int x40), some (.int x46), some (.int (x31 - ((1 : Int32) <<< (x46 &&& 31)))), some (.int x54), none]) (And.intro rfl (And.intro rfl (And.intro rfl (And.intro rfl (And.intro rfl (And.intro rfl (And.intro rfl trivial))))))) K
              · have H := it_neg c64 H
                refine am_aload_n rfl rfl ?_
                refine u_getR f_9_77 rfl (Nat.le_of_ble_eq_true rfl) rfl rfl ?_
                refine x_bipush (v := (10 : Int32)) rfl (by decide) ?_
                refine am_iload rfl rfl ?_
                refine am_imul rfl ?_
                refine am_iload rfl rfl ?_
                refine am_iadd rfl ?_
                obtain ⟨j65, ej65, hj65, H⟩ := ck_some H
                refine x_iald rfl (Nat.le_of_ble_eq_true rfl) rfl hj65 ej65 ?_
                refine am_iload rfl rfl ?_
                refine am_iadd rfl ?_
                refine am_aload_n rfl rfl ?_
                refine u_getR f_9_71 rfl (Nat.le_of_ble_eq_true rfl) rfl rfl ?_
                refine am_iload_n rfl rfl ?_
                obtain ⟨j66, ej66, hj66, H⟩ := ck_some H
                refine x_iald rfl (Nat.le_of_ble_eq_true rfl) rfl hj66 ej66 ?_
                refine am_icmp_ge rfl (fun c67 => ?_) (fun c67 => ?_)
                · have H := it_pos c67 H
                  have H := Option.some.inj H
                  subst H
                  exact am_drop (L' := [some (.ref 159), none, some (.int ((1 : Int32) <<< ((g30 159 30) &&& 31))), some (.int x31), some (.int x40), some (.int x46), some (.int (x31 - ((1 : Int32) <<< (x46 &&& 31)))), some (.int x54), none]) (And.intro rfl (And.intro rfl (And.intro rfl (And.intro rfl (And.intro rfl (And.intro rfl (And.intro rfl trivial))))))) K
                · have H := it_neg c67 H
                  refine am_aload_n rfl rfl ?_
                  refine u_getR f_9_71 rfl (Nat.le_of_ble_eq_true rfl) rfl rfl ?_
                  refine am_iload_n rfl rfl ?_
                  refine am_aload_n rfl rfl ?_
                  refine u_getR f_9_77 rfl (Nat.le_of_ble_eq_true rfl) rfl rfl ?_
                  refine x_bipush (v := (10 : Int32)) rfl (by decide) ?_
                  refine am_iload rfl rfl ?_
                  refine am_imul rfl ?_
                  refine am_iload rfl rfl ?_
                  refine am_iadd rfl ?_
                  obtain ⟨j68, ej68, hj68, H⟩ := ck_some H
                  refine x_iald rfl (Nat.le_of_ble_eq_true rfl) rfl hj68 ej68 ?_
                  refine am_iload rfl rfl ?_
                  refine am_iadd rfl ?_
                  obtain ⟨j69, ej69, hj69, H⟩ := ck_some H
                  obtain ⟨g70, eg70, H⟩ := wr_some H
                  refine x_iast rfl (Nat.le_of_ble_eq_true rfl) rfl hj69 ej69 eg70 ?_
                  refine am_aload_n rfl rfl ?_
                  refine u_getR f_9_74 rfl (Nat.le_of_ble_eq_true rfl) rfl rfl ?_
                  refine am_iload_n rfl rfl ?_
                  refine am_iload rfl rfl ?_
                  obtain ⟨j71, ej71, hj71, H⟩ := ck_some H
                  obtain ⟨g72, eg72, H⟩ := wr_some H
                  refine x_iast rfl (Nat.le_of_ble_eq_true rfl) rfl hj71 ej71 eg72 ?_
                  have H := Option.some.inj H
                  subst H
                  exact am_drop (L' := [some (.ref 159), none, some (.int ((1 : Int32) <<< ((g30 159 30) &&& 31))), some (.int x31), some (.int x40), some (.int x46), some (.int (x31 - ((1 : Int32) <<< (x46 &&& 31)))), some (.int x54), none]) (And.intro rfl (And.intro rfl (And.intro rfl (And.intro rfl (And.intro rfl (And.intro rfl (And.intro rfl trivial))))))) K
        refine am_drop (L' := [some (.ref 159), none, some (.int ((1 : Int32) <<< ((g30 159 30) &&& 31))), some (.int x31), some (.int x40), some (.int (0 : Int32)), none, none, none]) (And.intro rfl (And.intro rfl (And.intro rfl (And.intro rfl (And.intro rfl trivial))))) ?_
        refine lp_ind (P := (fun (s45 : Int32) => u_V m_X9_search 5 post 150 [some (.ref 159), none, some (.int ((1 : Int32) <<< ((g30 159 30) &&& 31))), some (.int x31), some (.int x40), some (.int s45), none, none, none] [] g32)) (Q := (fun (s47 : Int32) => u_V m_X9_search 5 post 165 [some (.ref 159), none, some (.int ((1 : Int32) <<< ((g30 159 30) &&& 31))), some (.int x31), some (.int x40), some (.int s47), none, none, none] [] g32)) ?_ 2000 (0 : Int32) s49 H1 K2
        clear H1 H K
        intro s45 s49b H K
        obtain ⟨x44, e_x44⟩ : ∃ z, z = s45 := ⟨_, rfl⟩
        subst e_x44
        (try dsimp only at H); (try dsimp only)
        refine am_iload_n rfl rfl ?_
        refine am_iload rfl rfl ?_
        refine am_ishr rfl ?_
        refine x_iconst (v := (1 : Int32)) rfl (by decide) ?_
        refine am_iand rfl ?_
        refine am_if_ne rfl (fun c48 => ?_) (fun c48 => ?_)
        · have H := it_neg c48 H
          have H := Option.some.inj H
          subst H
          exact am_drop (L' := [some (.ref 159), none, some (.int ((1 : Int32) <<< ((g30 159 30) &&& 31))), some (.int x31), some (.int x40), some (.int x44), none, none, none]) (And.intro rfl (And.intro rfl (And.intro rfl (And.intro rfl (And.intro rfl trivial))))) K
        · have H := it_pos c48 H
          refine x_iinc (v := (x44 + (1 : Int32))) rfl rfl (Nat.le_of_ble_eq_true rfl) rfl ?_
          refine am_goto rfl ?_
          have H := Option.some.inj H
          subst H
          exact am_drop (L' := [some (.ref 159), none, some (.int ((1 : Int32) <<< ((g30 159 30) &&& 31))), some (.int x31), some (.int x40), some (.int (x44 + (1 : Int32))), none, none, none]) (And.intro rfl (And.intro rfl (And.intro rfl (And.intro rfl (And.intro rfl trivial))))) K
      refine am_drop (L' := [some (.ref 159), none, some (.int ((1 : Int32) <<< ((g30 159 30) &&& 31))), some (.int x31), some (.int (0 : Int32)), some (.int (0 : Int32)), none, none, none]) (And.intro rfl (And.intro rfl (And.intro rfl (And.intro rfl (And.intro rfl trivial))))) ?_
      refine lp_ind (P := (fun (s39 : Int32 × Int32) => u_V m_X9_search 5 post 121 [some (.ref 159), none, some (.int ((1 : Int32) <<< ((g30 159 30) &&& 31))), some (.int x31), some (.int s39.1), some (.int s39.2), none, none, none] [] g32)) (Q := (fun (s41 : Int32) => u_V m_X9_search 5 post 147 [some (.ref 159), none, some (.int ((1 : Int32) <<< ((g30 159 30) &&& 31))), some (.int x31), some (.int s41), none, none, none, none] [] g32)) ?_ 2000 ((0 : Int32), (0 : Int32)) s43 H1 K2
      clear H1 H K
      intro s39 s43b H K
      obtain ⟨x37, x38⟩ := s39
      (try dsimp only at H); (try dsimp only)
      refine am_iload rfl rfl ?_
      refine am_aload_n rfl rfl ?_
      refine u_getI f_9_197 rfl (Nat.le_of_ble_eq_true rfl) rfl rfl ?_
      refine am_icmp_ge rfl (fun c42 => ?_) (fun c42 => ?_)
      · have H := it_pos c42 H
        have H := Option.some.inj H
        subst H
        exact am_drop (L' := [some (.ref 159), none, some (.int ((1 : Int32) <<< ((g30 159 30) &&& 31))), some (.int x31), some (.int x37), none, none, none, none]) (And.intro rfl (And.intro rfl (And.intro rfl (And.intro rfl trivial)))) K
      · have H := it_neg c42 H
        refine am_iload rfl rfl ?_
        refine am_iload_n rfl rfl ?_
        refine am_iload rfl rfl ?_
        refine am_ishr rfl ?_
        refine x_iconst (v := (1 : Int32)) rfl (by decide) ?_
        refine am_iand rfl ?_
        refine am_iadd rfl ?_
        refine am_istore rfl (Nat.le_of_ble_eq_true rfl) ?_
        refine x_iinc (v := (x38 + (1 : Int32))) rfl rfl (Nat.le_of_ble_eq_true rfl) rfl ?_
        refine am_goto rfl ?_
        have H := Option.some.inj H
        subst H
        exact am_drop (L' := [some (.ref 159), none, some (.int ((1 : Int32) <<< ((g30 159 30) &&& 31))), some (.int x31), some (.int (x37 + ((x31 >>> (x38 &&& 31)) &&& (1 : Int32)))), some (.int (x38 + (1 : Int32))), none, none, none]) (And.intro rfl (And.intro rfl (And.intro rfl (And.intro rfl (And.intro rfl trivial))))) K
  refine am_drop (L' := [some (.ref 159), some (.int a1), some (.int (0 : Int32)), none, none, none, none, none, none]) (And.intro rfl (And.intro rfl (And.intro rfl trivial))) ?_
  refine lp_ind (P := (fun (s3 : Int32 × G) => u_V m_X9_search 5 post 2 [some (.ref 159), some (.int a1), some (.int s3.1), none, none, none, none, none, none] [] s3.2)) (Q := (fun (s5 : G) => u_V m_X9_search 5 post 94 [some (.ref 159), none, none, none, none, none, none, none, none] [] s5)) ?_ 2000 ((0 : Int32), g) s28 H1 K2
  clear H1 H K
  intro s3 s28b H K
  obtain ⟨x1, g2⟩ := s3
  (try dsimp only at H); (try dsimp only)
  refine am_iload_n rfl rfl ?_
  refine am_aload_n rfl rfl ?_
  refine u_getI f_9_197 rfl (Nat.le_of_ble_eq_true rfl) rfl rfl ?_
  refine am_icmp_ge rfl (fun c6 => ?_) (fun c6 => ?_)
  · have H := it_pos c6 H
    have H := Option.some.inj H
    subst H
    exact am_drop (L' := [some (.ref 159), none, none, none, none, none, none, none, none]) (And.intro rfl trivial) K
  · have H := it_neg c6 H
    refine am_iload_n rfl rfl ?_
    refine x_iconst (v := (1 : Int32)) rfl (by decide) ?_
    refine am_iadd rfl ?_
    refine am_istore_n rfl (Nat.le_of_ble_eq_true rfl) ?_
    obtain ⟨s23, H1, H⟩ := bd_some H
    have K2 : (fun (s11 : G) => u_V m_X9_search 5 post 73 [some (.ref 159), some (.int a1), some (.int x1), none, none, none, none, none, none] [] s11) s23 := by
      clear H1
      obtain ⟨g10, e_g10⟩ : ∃ z, z = s23 := ⟨_, rfl⟩
      subst e_g10
      (try dsimp only at H); (try dsimp only)
      refine am_aload_n rfl rfl ?_
      refine u_getR f_9_77 rfl (Nat.le_of_ble_eq_true rfl) rfl rfl ?_
      refine x_bipush (v := (11 : Int32)) rfl (by decide) ?_
      refine am_iload_n rfl rfl ?_
      refine am_imul rfl ?_
      refine am_aload_n rfl rfl ?_
      refine am_iload_n rfl rfl ?_
      refine am_iload_n rfl rfl ?_
      obtain ⟨r24, g25, H1, H⟩ := bd2_some H
      refine cv2i v_9_211 rfl rfl (Nat.le_of_ble_eq_true rfl) rfl (Nat.le_of_ble_eq_true rfl) (fun _ _ => Nat.le_of_ble_eq_true rfl) (y_X9_costAlone a1 x1 g10 _ H1 ?_)
      obtain ⟨j26, ej26, hj26, H⟩ := ck_some H
      obtain ⟨g27, eg27, H⟩ := wr_some H
      refine x_iast rfl (Nat.le_of_ble_eq_true rfl) rfl hj26 ej26 eg27 ?_
      refine x_iinc (v := (x1 + (1 : Int32))) rfl rfl (Nat.le_of_ble_eq_true rfl) rfl ?_
      refine am_goto rfl ?_
      have H := Option.some.inj H
      subst H
      exact am_drop (L' := [some (.ref 159), some (.int a1), some (.int (x1 + (1 : Int32))), none, none, none, none, none, none]) (And.intro rfl (And.intro rfl (And.intro rfl trivial))) K
    refine am_drop (L' := [some (.ref 159), some (.int a1), some (.int x1), some (.int (x1 + (1 : Int32))), none, none, none, none, none]) (And.intro rfl (And.intro rfl (And.intro rfl (And.intro rfl trivial)))) ?_
    refine lp_ind (P := (fun (s9 : Int32 × G) => u_V m_X9_search 5 post 14 [some (.ref 159), some (.int a1), some (.int x1), some (.int s9.1), none, none, none, none, none] [] s9.2)) (Q := (fun (s11 : G) => u_V m_X9_search 5 post 73 [some (.ref 159), some (.int a1), some (.int x1), none, none, none, none, none, none] [] s11)) ?_ 2000 ((x1 + (1 : Int32)), g2) s23 H1 K2
    clear H1 H K
    intro s9 s23b H K
    obtain ⟨x7, g8⟩ := s9
    (try dsimp only at H); (try dsimp only)
    refine am_iload_n rfl rfl ?_
    refine am_aload_n rfl rfl ?_
    refine u_getI f_9_197 rfl (Nat.le_of_ble_eq_true rfl) rfl rfl ?_
    refine am_icmp_ge rfl (fun c12 => ?_) (fun c12 => ?_)
    · have H := it_pos c12 H
      have H := Option.some.inj H
      subst H
      exact am_drop (L' := [some (.ref 159), some (.int a1), some (.int x1), none, none, none, none, none, none]) (And.intro rfl (And.intro rfl (And.intro rfl trivial))) K
    · have H := it_neg c12 H
      refine am_aload_n rfl rfl ?_
      refine am_iload_n rfl rfl ?_
      refine am_iload_n rfl rfl ?_
      refine am_iload_n rfl rfl ?_
      refine x_iconst (v := (1 : Int32)) rfl (by decide) ?_
      obtain ⟨r13, g14, H1, H⟩ := bd2_some H
      refine cv4i v_9_207 rfl rfl (Nat.le_of_ble_eq_true rfl) rfl (Nat.le_of_ble_eq_true rfl) (fun _ _ => Nat.le_of_ble_eq_true rfl) (y_X9_costOf a1 x1 x7 (1 : Int32) g8 _ H1 ?_)
      refine am_istore rfl (Nat.le_of_ble_eq_true rfl) ?_
      refine am_aload_n rfl rfl ?_
      refine am_iload_n rfl rfl ?_
      refine am_iload_n rfl rfl ?_
      refine am_iload_n rfl rfl ?_
      refine x_iconst (v := (0 : Int32)) rfl (by decide) ?_
      obtain ⟨r15, g16, H1, H⟩ := bd2_some H
      refine cv4i v_9_207 rfl rfl (Nat.le_of_ble_eq_true rfl) rfl (Nat.le_of_ble_eq_true rfl) (fun _ _ => Nat.le_of_ble_eq_true rfl) (y_X9_costOf a1 x1 x7 (0 : Int32) g14 _ H1 ?_)
      refine am_istore rfl (Nat.le_of_ble_eq_true rfl) ?_
      refine am_aload_n rfl rfl ?_
      refine u_getR f_9_77 rfl (Nat.le_of_ble_eq_true rfl) rfl rfl ?_
      refine x_bipush (v := (10 : Int32)) rfl (by decide) ?_
      refine am_iload_n rfl rfl ?_
      refine am_imul rfl ?_
      refine am_iload_n rfl rfl ?_
      refine am_iadd rfl ?_
      refine am_iload rfl rfl ?_
      refine am_iload rfl rfl ?_
      obtain ⟨s22, H1, H⟩ := bd_some H
      have K : (fun (s18 : Int32) => u_V m_X9_search 5 post 66 [some (.ref 159), some (.int a1), some (.int x1), some (.int x7), none, none, none, none, none] [.int s18, .int (((10 : Int32) * x1) + x7), .ref 180] g16) s22 := by
        clear H1
        obtain ⟨x17, e_x17⟩ : ∃ z, z = s22 := ⟨_, rfl⟩
        subst e_x17
        (try dsimp only at H); (try dsimp only)
        obtain ⟨j19, ej19, hj19, H⟩ := ck_some H
        obtain ⟨g20, eg20, H⟩ := wr_some H
        refine x_iast rfl (Nat.le_of_ble_eq_true rfl) rfl hj19 ej19 eg20 ?_
        refine x_iinc (v := (x7 + (1 : Int32))) rfl rfl (Nat.le_of_ble_eq_true rfl) rfl ?_
        refine am_goto rfl ?_
        have H := Option.some.inj H
        subst H
        exact am_drop (L' := [some (.ref 159), some (.int a1), some (.int x1), some (.int (x7 + (1 : Int32))), none, none, none, none, none]) (And.intro rfl (And.intro rfl (And.intro rfl (And.intro rfl trivial)))) K
      have H := H1
      clear H1
      refine am_icmp_gt rfl (fun c21 => ?_) (fun c21 => ?_)
      · have H := it_pos c21 H
        refine am_iload rfl rfl ?_
        have H := Option.some.inj H
        subst H
        exact am_drop (L' := [some (.ref 159), some (.int a1), some (.int x1), some (.int x7), none, none, none, none, none]) (And.intro rfl (And.intro rfl (And.intro rfl (And.intro rfl trivial)))) K
      · have H := it_neg c21 H
        refine am_iload rfl rfl ?_
        refine am_goto rfl ?_
        have H := Option.some.inj H
        subst H
        exact am_drop (L' := [some (.ref 159), some (.int a1), some (.int x1), some (.int x7), none, none, none, none, none]) (And.intro rfl (And.intro rfl (And.intro rfl (And.intro rfl trivial)))) K
def f_X9_pairUp (a1 : Int32) (a2 : Int32) (g : G) : Option (Int32 × G) := bd2 (f_X9_cell a1 (25 : Int32) g) fun r1 g2 => ck (((1 : Int32) <<< ((g2 159 30) &&& 31)) - (1 : Int32)) 1024 fun j3 => wr (up2 g2 159 31 ((g2 178 j3) / (1000000 : Int32))) fun g4 => bd (lp (fun (s8 : Int32 × Int32 × G) => (if s8.1 ≤ 0 then some (.inr (s8.2.1, s8.2.2)) else bd (lp (fun (s14 : Int32) => (if ((s8.1 >>> (s14 &&& 31)) &&& (1 : Int32)) = 0 then some (.inl ((s14 + (1 : Int32)))) else some (.inr (s14)) : Option ((Int32) ⊕ (Int32)))) 2000 (0 : Int32)) fun (s16 : Int32) => ck s8.1 1024 fun j19 => bd ((if (s8.2.2 179 j19) = (10 : Int32) then some (.inl (s8.1, s8.2.1, s8.2.2)) else bd2 (f_X9_costOf a1 s16 (s8.2.2 179 j19) (1 : Int32) s8.2.2) fun r46 g47 => bd2 (f_X9_costOf a1 s16 (s8.2.2 179 j19) (0 : Int32) g47) fun r48 g49 => if r48 < r46 then bd ((if (s8.2.2 179 j19) = (10 : Int32) then some ((0 : Int32)) else some (((1 : Int32) <<< ((s8.2.2 179 j19) &&& 31))) : Option (Int32))) fun (s52 : Int32) => bd ((if (0 : Int32) = 0 then ck (s8.2.2 179 j19) 10 fun j67 => some ((g49 175 j67)) else ck s16 10 fun j68 => some ((g49 175 j68)) : Option (Int32))) fun (s54 : Int32) => bd2 (f_X9_lay a1 ((50 : Int32) + (((5 : Int32) * r1) + s8.2.1)) s54 g49) fun r55 g56 => bd ((if (s8.2.2 179 j19) = (10 : Int32) then some ((99 : Int32)) else if (0 : Int32) = 0 then ck s16 10 fun j63 => some ((g56 175 j63)) else ck (s8.2.2 179 j19) 10 fun j64 => some ((g56 175 j64)) : Option (Int32))) fun (s58 : Int32) => bd2 (f_X9_lay a1 ((80 : Int32) + (((5 : Int32) * r1) + s8.2.1)) s58 g56) fun r59 g60 => some (.inr (.inl ((s8.1 - (((1 : Int32) <<< (s16 &&& 31)) + s52)), (s8.2.1 + (1 : Int32)), g60))) else some (.inl (s8.1, s8.2.1, g49)) : Option ((Int32 × Int32 × G) ⊕ ((Int32 × Int32 × G) ⊕ (Int32 × G))))) fun s72m => (match s72m with | .inl s23 => (bd ((if (s8.2.2 179 j19) = (10 : Int32) then some ((0 : Int32)) else some (((1 : Int32) <<< ((s8.2.2 179 j19) &&& 31))) : Option (Int32))) fun (s25 : Int32) => bd ((if (1 : Int32) = 0 then ck (s8.2.2 179 j19) 10 fun j40 => some ((s23.2.2 175 j40)) else ck s16 10 fun j41 => some ((s23.2.2 175 j41)) : Option (Int32))) fun (s27 : Int32) => bd2 (f_X9_lay a1 ((50 : Int32) + (((5 : Int32) * r1) + s8.2.1)) s27 s23.2.2) fun r28 g29 => bd ((if (s8.2.2 179 j19) = (10 : Int32) then some ((99 : Int32)) else if (1 : Int32) = 0 then ck s16 10 fun j36 => some ((g29 175 j36)) else ck (s8.2.2 179 j19) 10 fun j37 => some ((g29 175 j37)) : Option (Int32))) fun (s31 : Int32) => bd2 (f_X9_lay a1 ((80 : Int32) + (((5 : Int32) * r1) + s8.2.1)) s31 g29) fun r32 g33 => some (.inl ((s23.1 - (((1 : Int32) <<< (s16 &&& 31)) + s25)), (s23.2.1 + (1 : Int32)), g33))) | .inr y => some y) : Option ((Int32 × Int32 × G) ⊕ (Int32 × G)))) 2000 ((((1 : Int32) <<< ((g2 159 30) &&& 31)) - (1 : Int32)), (0 : Int32), g4)) fun (s11 : Int32 × G) => bd2 (f_X9_lay a1 ((26 : Int32) + r1) a2 s11.2) fun r74 g75 => bd2 (f_X9_lay a1 ((32 : Int32) + r1) s11.1 g75) fun r76 g77 => bd2 (f_X9_lay a1 ((38 : Int32) + r1) (g2 178 j3) g77) fun r78 g79 => bd2 (f_X9_lay a1 ((44 : Int32) + r1) (g79 159 31) g79) fun r80 g81 => bd2 (f_X9_lay a1 (25 : Int32) (r1 + (1 : Int32)) g81) fun r82 g83 => some (((0 : Int32), g83))
set_option maxHeartbeats 4000000 in
set_option maxRecDepth 100000 in
theorem y_X9_pairUp (a1 : Int32) (a2 : Int32)  (g : G) (q : Int32 × G) {post : Int32 → G → Prop} (H : f_X9_pairUp a1 a2 g = some q) (K : post q.1 q.2) : Y m_X9_pairUp 5 [.ref 159, .int a1, .int a2] g post := by
  refine Y_of ok_X9_pairUp pn_9 rfl (by decide) (Or.inl rfl) (List.forall_mem_cons.mpr ⟨rfl, (List.forall_mem_cons.mpr ⟨rfl, (List.forall_mem_cons.mpr ⟨rfl, (fun _ h => absurd h List.not_mem_nil)⟩)⟩)⟩) (Nat.le_of_ble_eq_true rfl) ?_
  show u_V m_X9_pairUp 5 post 0 [some (.ref 159), some (.int a1), some (.int a2), none, none, none, none, none, none, none, none] [] g
  unfold f_X9_pairUp at H
  refine am_aload_n rfl rfl ?_
  refine am_iload_n rfl rfl ?_
  refine x_bipush (v := (25 : Int32)) rfl (by decide) ?_
  obtain ⟨r1, g2, H1, H⟩ := bd2_some H
  refine cv2i v_9_140 rfl rfl (Nat.le_of_ble_eq_true rfl) rfl (Nat.le_of_ble_eq_true rfl) (fun _ _ => Nat.le_of_ble_eq_true rfl) (y_X9_cell a1 (25 : Int32) g _ H1 ?_)
  refine am_istore_n rfl (Nat.le_of_ble_eq_true rfl) ?_
  refine x_iconst (v := (1 : Int32)) rfl (by decide) ?_
  refine am_aload_n rfl rfl ?_
  refine u_getI f_9_197 rfl (Nat.le_of_ble_eq_true rfl) rfl rfl ?_
  refine am_ishl rfl ?_
  refine x_iconst (v := (1 : Int32)) rfl (by decide) ?_
  refine am_isub rfl ?_
  refine am_istore rfl (Nat.le_of_ble_eq_true rfl) ?_
  refine am_aload_n rfl rfl ?_
  refine u_getR f_9_71 rfl (Nat.le_of_ble_eq_true rfl) rfl rfl ?_
  refine am_iload rfl rfl ?_
  obtain ⟨j3, ej3, hj3, H⟩ := ck_some H
  refine x_iald rfl (Nat.le_of_ble_eq_true rfl) rfl hj3 ej3 ?_
  refine am_istore rfl (Nat.le_of_ble_eq_true rfl) ?_
  refine x_iconst (v := (0 : Int32)) rfl (by decide) ?_
  refine am_istore rfl (Nat.le_of_ble_eq_true rfl) ?_
  refine am_aload_n rfl rfl ?_
  refine am_iload rfl rfl ?_
  refine am_ldc (v := (1000000 : Int32)) c_9_196 rfl ?_
  refine am_idiv rfl (by decide) ?_
  obtain ⟨g4, eg4, H⟩ := wr_some H
  refine x_putI f_9_215 rfl rfl (Nat.le_of_ble_eq_true rfl) rfl rfl (fun _ _ => ⟨rfl, rfl⟩) eg4 ?_
  obtain ⟨s73, H1, H⟩ := bd_some H
  have K2 : (fun (s11 : Int32 × G) => u_V m_X9_pairUp 5 post 224 [some (.ref 159), some (.int a1), some (.int a2), some (.int r1), none, some (.int (g2 178 j3)), some (.int s11.1), none, none, none, none] [] s11.2) s73 := by
    clear H1
    obtain ⟨x9, g10⟩ := s73
    (try dsimp only at H); (try dsimp only)
    refine am_aload_n rfl rfl ?_
    refine am_iload_n rfl rfl ?_
    refine x_bipush (v := (26 : Int32)) rfl (by decide) ?_
    refine am_iload_n rfl rfl ?_
    refine am_iadd rfl ?_
    refine am_iload_n rfl rfl ?_
    obtain ⟨r74, g75, H1, H⟩ := bd2_some H
    refine cv3v v_9_129 rfl rfl (Nat.le_of_ble_eq_true rfl) rfl (Nat.le_of_ble_eq_true rfl) (fun _ _ => Nat.le_of_ble_eq_true rfl) (y_X9_lay a1 ((26 : Int32) + r1) a2 g10 _ H1 ?_)
    refine am_aload_n rfl rfl ?_
    refine am_iload_n rfl rfl ?_
    refine x_bipush (v := (32 : Int32)) rfl (by decide) ?_
    refine am_iload_n rfl rfl ?_
    refine am_iadd rfl ?_
    refine am_iload rfl rfl ?_
    obtain ⟨r76, g77, H1, H⟩ := bd2_some H
    refine cv3v v_9_129 rfl rfl (Nat.le_of_ble_eq_true rfl) rfl (Nat.le_of_ble_eq_true rfl) (fun _ _ => Nat.le_of_ble_eq_true rfl) (y_X9_lay a1 ((32 : Int32) + r1) x9 g75 _ H1 ?_)
    refine am_aload_n rfl rfl ?_
    refine am_iload_n rfl rfl ?_
    refine x_bipush (v := (38 : Int32)) rfl (by decide) ?_
    refine am_iload_n rfl rfl ?_
    refine am_iadd rfl ?_
    refine am_iload rfl rfl ?_
    obtain ⟨r78, g79, H1, H⟩ := bd2_some H
    refine cv3v v_9_129 rfl rfl (Nat.le_of_ble_eq_true rfl) rfl (Nat.le_of_ble_eq_true rfl) (fun _ _ => Nat.le_of_ble_eq_true rfl) (y_X9_lay a1 ((38 : Int32) + r1) (g2 178 j3) g77 _ H1 ?_)
    refine am_aload_n rfl rfl ?_
    refine am_iload_n rfl rfl ?_
    refine x_bipush (v := (44 : Int32)) rfl (by decide) ?_
    refine am_iload_n rfl rfl ?_
    refine am_iadd rfl ?_
    refine am_aload_n rfl rfl ?_
    refine u_getI f_9_215 rfl (Nat.le_of_ble_eq_true rfl) rfl rfl ?_
    obtain ⟨r80, g81, H1, H⟩ := bd2_some H
    refine cv3v v_9_129 rfl rfl (Nat.le_of_ble_eq_true rfl) rfl (Nat.le_of_ble_eq_true rfl) (fun _ _ => Nat.le_of_ble_eq_true rfl) (y_X9_lay a1 ((44 : Int32) + r1) (g79 159 31) g79 _ H1 ?_)
    refine am_aload_n rfl rfl ?_
    refine am_iload_n rfl rfl ?_
    refine x_bipush (v := (25 : Int32)) rfl (by decide) ?_
    refine am_iload_n rfl rfl ?_
    refine x_iconst (v := (1 : Int32)) rfl (by decide) ?_
    refine am_iadd rfl ?_
    obtain ⟨r82, g83, H1, H⟩ := bd2_some H
    refine cv3v v_9_129 rfl rfl (Nat.le_of_ble_eq_true rfl) rfl (Nat.le_of_ble_eq_true rfl) (fun _ _ => Nat.le_of_ble_eq_true rfl) (y_X9_lay a1 (25 : Int32) (r1 + (1 : Int32)) g81 _ H1 ?_)
    have H := Option.some.inj H
    subst H
    exact u_vret rfl rfl K
  refine am_drop (L' := [some (.ref 159), some (.int a1), some (.int a2), some (.int r1), some (.int (((1 : Int32) <<< ((g2 159 30) &&& 31)) - (1 : Int32))), some (.int (g2 178 j3)), some (.int (0 : Int32)), none, none, none, none]) (And.intro rfl (And.intro rfl (And.intro rfl (And.intro rfl (And.intro rfl (And.intro rfl (And.intro rfl trivial))))))) ?_
  refine lp_ind (P := (fun (s8 : Int32 × Int32 × G) => u_V m_X9_pairUp 5 post 39 [some (.ref 159), some (.int a1), some (.int a2), some (.int r1), some (.int s8.1), some (.int (g2 178 j3)), some (.int s8.2.1), none, none, none, none] [] s8.2.2)) (Q := (fun (s11 : Int32 × G) => u_V m_X9_pairUp 5 post 224 [some (.ref 159), some (.int a1), some (.int a2), some (.int r1), none, some (.int (g2 178 j3)), some (.int s11.1), none, none, none, none] [] s11.2)) ?_ 2000 ((((1 : Int32) <<< ((g2 159 30) &&& 31)) - (1 : Int32)), (0 : Int32), g4) s73 H1 K2
  clear H1 H K
  intro s8 s73b H K
  obtain ⟨x5, x6, g7⟩ := s8
  (try dsimp only at H); (try dsimp only)
  refine am_iload rfl rfl ?_
  refine am_if_le rfl (fun c12 => ?_) (fun c12 => ?_)
  · have H := it_pos c12 H
    have H := Option.some.inj H
    subst H
    exact am_drop (L' := [some (.ref 159), some (.int a1), some (.int a2), some (.int r1), none, some (.int (g2 178 j3)), some (.int x6), none, none, none, none]) (And.intro rfl (And.intro rfl (And.intro rfl (And.intro rfl (And.intro rfl (And.intro rfl trivial)))))) K
  · have H := it_neg c12 H
    refine x_iconst (v := (0 : Int32)) rfl (by decide) ?_
    refine am_istore rfl (Nat.le_of_ble_eq_true rfl) ?_
    obtain ⟨s18, H1, H⟩ := bd_some H
    have K2 : (fun (s16 : Int32) => u_V m_X9_pairUp 5 post 63 [some (.ref 159), some (.int a1), some (.int a2), some (.int r1), some (.int x5), some (.int (g2 178 j3)), some (.int x6), some (.int s16), none, none, none] [] g7) s18 := by
      clear H1
      obtain ⟨x15, e_x15⟩ : ∃ z, z = s18 := ⟨_, rfl⟩
      subst e_x15
      (try dsimp only at H); (try dsimp only)
      refine am_aload_n rfl rfl ?_
      refine u_getR f_9_74 rfl (Nat.le_of_ble_eq_true rfl) rfl rfl ?_
      refine am_iload rfl rfl ?_
      obtain ⟨j19, ej19, hj19, H⟩ := ck_some H
      refine x_iald rfl (Nat.le_of_ble_eq_true rfl) rfl hj19 ej19 ?_
      refine am_istore rfl (Nat.le_of_ble_eq_true rfl) ?_
      refine x_iconst (v := (5 : Int32)) rfl (by decide) ?_
      refine am_iload_n rfl rfl ?_
      refine am_imul rfl ?_
      refine am_iload rfl rfl ?_
      refine am_iadd rfl ?_
      refine am_istore rfl (Nat.le_of_ble_eq_true rfl) ?_
      refine am_iload rfl rfl ?_
      refine x_bipush (v := (10 : Int32)) rfl (by decide) ?_
      obtain ⟨s72, H1, H⟩ := bd_some H
      have K : (Sum.elim (fun (s23 : Int32 × Int32 × G) => u_V m_X9_pairUp 5 post 110 [some (.ref 159), some (.int a1), some (.int a2), some (.int r1), some (.int s23.1), some (.int (g2 178 j3)), some (.int s23.2.1), some (.int x15), some (.int (g7 179 j19)), some (.int (((5 : Int32) * r1) + x6)), none] [] s23.2.2) (Sum.elim (fun (s8 : Int32 × Int32 × G) => u_V m_X9_pairUp 5 post 39 [some (.ref 159), some (.int a1), some (.int a2), some (.int r1), some (.int s8.1), some (.int (g2 178 j3)), some (.int s8.2.1), none, none, none, none] [] s8.2.2) (fun (s11 : Int32 × G) => u_V m_X9_pairUp 5 post 224 [some (.ref 159), some (.int a1), some (.int a2), some (.int r1), none, some (.int (g2 178 j3)), some (.int s11.1), none, none, none, none] [] s11.2))) s72 := by
        clear H1
        cases s72 with
        | inl s23 =>
          obtain ⟨x20, x21, g22⟩ := s23
          (try dsimp only at H); (try dsimp only)
          refine x_iconst (v := (1 : Int32)) rfl (by decide) ?_
          refine am_goto rfl ?_
          refine am_istore rfl (Nat.le_of_ble_eq_true rfl) ?_
          refine am_iload rfl rfl ?_
          refine x_iconst (v := (1 : Int32)) rfl (by decide) ?_
          refine am_iload rfl rfl ?_
          refine am_ishl rfl ?_
          refine am_iload rfl rfl ?_
          refine x_bipush (v := (10 : Int32)) rfl (by decide) ?_
          obtain ⟨s44, H1, H⟩ := bd_some H
          have K : (fun (s25 : Int32) => u_V m_X9_pairUp 5 post 138 [some (.ref 159), some (.int a1), some (.int a2), some (.int r1), none, some (.int (g2 178 j3)), some (.int x21), some (.int x15), some (.int (g7 179 j19)), some (.int (((5 : Int32) * r1) + x6)), some (.int (1 : Int32))] [.int s25, .int ((1 : Int32) <<< (x15 &&& 31)), .int x20] g22) s44 := by
            clear H1
            obtain ⟨x24, e_x24⟩ : ∃ z, z = s44 := ⟨_, rfl⟩
            subst e_x24
            (try dsimp only at H); (try dsimp only)
            refine am_iadd rfl ?_
            refine am_isub rfl ?_
            refine am_istore rfl (Nat.le_of_ble_eq_true rfl) ?_
            refine am_aload_n rfl rfl ?_
            refine am_iload_n rfl rfl ?_
            refine x_bipush (v := (50 : Int32)) rfl (by decide) ?_
            refine am_iload rfl rfl ?_
            refine am_iadd rfl ?_
            refine am_iload rfl rfl ?_
            obtain ⟨s42, H1, H⟩ := bd_some H
            have K : (fun (s27 : Int32) => u_V m_X9_pairUp 5 post 171 [some (.ref 159), some (.int a1), some (.int a2), some (.int r1), some (.int (x20 - (((1 : Int32) <<< (x15 &&& 31)) + x24))), some (.int (g2 178 j3)), some (.int x21), some (.int x15), some (.int (g7 179 j19)), some (.int (((5 : Int32) * r1) + x6)), some (.int (1 : Int32))] [.int s27, .int ((50 : Int32) + (((5 : Int32) * r1) + x6)), .int a1, .ref 159] g22) s42 := by
              clear H1
              obtain ⟨x26, e_x26⟩ : ∃ z, z = s42 := ⟨_, rfl⟩
              subst e_x26
              (try dsimp only at H); (try dsimp only)
              obtain ⟨r28, g29, H1, H⟩ := bd2_some H
              refine cv3v v_9_129 rfl rfl (Nat.le_of_ble_eq_true rfl) rfl (Nat.le_of_ble_eq_true rfl) (fun _ _ => Nat.le_of_ble_eq_true rfl) (y_X9_lay a1 ((50 : Int32) + (((5 : Int32) * r1) + x6)) x26 g22 _ H1 ?_)
              refine am_aload_n rfl rfl ?_
              refine am_iload_n rfl rfl ?_
              refine x_bipush (v := (80 : Int32)) rfl (by decide) ?_
              refine am_iload rfl rfl ?_
              refine am_iadd rfl ?_
              refine am_iload rfl rfl ?_
              refine x_bipush (v := (10 : Int32)) rfl (by decide) ?_
              obtain ⟨s38, H1, H⟩ := bd_some H
              have K : (fun (s31 : Int32) => u_V m_X9_pairUp 5 post 215 [some (.ref 159), some (.int a1), some (.int a2), some (.int r1), some (.int (x20 - (((1 : Int32) <<< (x15 &&& 31)) + x24))), some (.int (g2 178 j3)), some (.int x21), none, none, none, none] [.int s31, .int ((80 : Int32) + (((5 : Int32) * r1) + x6)), .int a1, .ref 159] g29) s38 := by
                clear H1
                obtain ⟨x30, e_x30⟩ : ∃ z, z = s38 := ⟨_, rfl⟩
                subst e_x30
                (try dsimp only at H); (try dsimp only)
                obtain ⟨r32, g33, H1, H⟩ := bd2_some H
                refine cv3v v_9_129 rfl rfl (Nat.le_of_ble_eq_true rfl) rfl (Nat.le_of_ble_eq_true rfl) (fun _ _ => Nat.le_of_ble_eq_true rfl) (y_X9_lay a1 ((80 : Int32) + (((5 : Int32) * r1) + x6)) x30 g29 _ H1 ?_)
                refine x_iinc (v := (x21 + (1 : Int32))) rfl rfl (Nat.le_of_ble_eq_true rfl) rfl ?_
                refine am_goto rfl ?_
                have H := Option.some.inj H
                subst H
                exact am_drop (L' := [some (.ref 159), some (.int a1), some (.int a2), some (.int r1), some (.int (x20 - (((1 : Int32) <<< (x15 &&& 31)) + x24))), some (.int (g2 178 j3)), some (.int (x21 + (1 : Int32))), none, none, none, none]) (And.intro rfl (And.intro rfl (And.intro rfl (And.intro rfl (And.intro rfl (And.intro rfl (And.intro rfl trivial))))))) K
              have H := H1
              clear H1
              refine am_icmp_ne rfl (fun c34 => ?_) (fun c34 => ?_)
              · have H := it_neg c34 H
                refine am_iload rfl rfl ?_
                refine am_if_eq rfl (fun c35 => ?_) (fun c35 => ?_)
                · have H := it_pos c35 H
                  refine am_aload_n rfl rfl ?_
                  refine u_getR f_9_62 rfl (Nat.le_of_ble_eq_true rfl) rfl rfl ?_
                  refine am_iload rfl rfl ?_
                  obtain ⟨j36, ej36, hj36, H⟩ := ck_some H
                  refine x_iald rfl (Nat.le_of_ble_eq_true rfl) rfl hj36 ej36 ?_
                  have H := Option.some.inj H
                  subst H
                  exact am_drop (L' := [some (.ref 159), some (.int a1), some (.int a2), some (.int r1), some (.int (x20 - (((1 : Int32) <<< (x15 &&& 31)) + x24))), some (.int (g2 178 j3)), some (.int x21), none, none, none, none]) (And.intro rfl (And.intro rfl (And.intro rfl (And.intro rfl (And.intro rfl (And.intro rfl (And.intro rfl trivial))))))) K
                · have H := it_neg c35 H
                  refine am_aload_n rfl rfl ?_
                  refine u_getR f_9_62 rfl (Nat.le_of_ble_eq_true rfl) rfl rfl ?_
                  refine am_iload rfl rfl ?_
                  obtain ⟨j37, ej37, hj37, H⟩ := ck_some H
                  refine x_iald rfl (Nat.le_of_ble_eq_true rfl) rfl hj37 ej37 ?_
                  refine am_goto rfl ?_
                  have H := Option.some.inj H
                  subst H
                  exact am_drop (L' := [some (.ref 159), some (.int a1), some (.int a2), some (.int r1), some (.int (x20 - (((1 : Int32) <<< (x15 &&& 31)) + x24))), some (.int (g2 178 j3)), some (.int x21), none, none, none, none]) (And.intro rfl (And.intro rfl (And.intro rfl (And.intro rfl (And.intro rfl (And.intro rfl (And.intro rfl trivial))))))) K
              · have H := it_pos c34 H
                refine x_bipush (v := (99 : Int32)) rfl (by decide) ?_
                refine am_goto rfl ?_
                have H := Option.some.inj H
                subst H
                exact am_drop (L' := [some (.ref 159), some (.int a1), some (.int a2), some (.int r1), some (.int (x20 - (((1 : Int32) <<< (x15 &&& 31)) + x24))), some (.int (g2 178 j3)), some (.int x21), none, none, none, none]) (And.intro rfl (And.intro rfl (And.intro rfl (And.intro rfl (And.intro rfl (And.intro rfl (And.intro rfl trivial))))))) K
            have H := H1
            clear H1
            refine am_if_eq rfl (fun c39 => ?_) (fun c39 => ?_)
            · have H := it_pos c39 H
              refine am_aload_n rfl rfl ?_
              refine u_getR f_9_62 rfl (Nat.le_of_ble_eq_true rfl) rfl rfl ?_
              refine am_iload rfl rfl ?_
              obtain ⟨j40, ej40, hj40, H⟩ := ck_some H
              refine x_iald rfl (Nat.le_of_ble_eq_true rfl) rfl hj40 ej40 ?_
              have H := Option.some.inj H
              subst H
              exact am_drop (L' := [some (.ref 159), some (.int a1), some (.int a2), some (.int r1), some (.int (x20 - (((1 : Int32) <<< (x15 &&& 31)) + x24))), some (.int (g2 178 j3)), some (.int x21), some (.int x15), some (.int (g7 179 j19)), some (.int (((5 : Int32) * r1) + x6)), some (.int (1 : Int32))]) (And.intro rfl (And.intro rfl (And.intro rfl (And.intro rfl (And.intro rfl (And.intro rfl (And.intro rfl (And.intro rfl (And.intro rfl (And.intro rfl (And.intro rfl trivial))))))))))) K
            · have H := it_neg c39 H
              refine am_aload_n rfl rfl ?_
              refine u_getR f_9_62 rfl (Nat.le_of_ble_eq_true rfl) rfl rfl ?_
              refine am_iload rfl rfl ?_
              obtain ⟨j41, ej41, hj41, H⟩ := ck_some H
              refine x_iald rfl (Nat.le_of_ble_eq_true rfl) rfl hj41 ej41 ?_
              refine am_goto rfl ?_
              have H := Option.some.inj H
              subst H
              exact am_drop (L' := [some (.ref 159), some (.int a1), some (.int a2), some (.int r1), some (.int (x20 - (((1 : Int32) <<< (x15 &&& 31)) + x24))), some (.int (g2 178 j3)), some (.int x21), some (.int x15), some (.int (g7 179 j19)), some (.int (((5 : Int32) * r1) + x6)), some (.int (1 : Int32))]) (And.intro rfl (And.intro rfl (And.intro rfl (And.intro rfl (And.intro rfl (And.intro rfl (And.intro rfl (And.intro rfl (And.intro rfl (And.intro rfl (And.intro rfl trivial))))))))))) K
          have H := H1
          clear H1
          refine am_icmp_ne rfl (fun c43 => ?_) (fun c43 => ?_)
          · have H := it_neg c43 H
            refine x_iconst (v := (1 : Int32)) rfl (by decide) ?_
            refine am_iload rfl rfl ?_
            refine am_ishl rfl ?_
            have H := Option.some.inj H
            subst H
            exact am_drop (L' := [some (.ref 159), some (.int a1), some (.int a2), some (.int r1), none, some (.int (g2 178 j3)), some (.int x21), some (.int x15), some (.int (g7 179 j19)), some (.int (((5 : Int32) * r1) + x6)), some (.int (1 : Int32))]) (And.intro rfl (And.intro rfl (And.intro rfl (And.intro rfl (And.intro rfl (And.intro rfl (And.intro rfl (And.intro rfl (And.intro rfl (And.intro rfl trivial)))))))))) K
          · have H := it_pos c43 H
            refine x_iconst (v := (0 : Int32)) rfl (by decide) ?_
            refine am_goto rfl ?_
            have H := Option.some.inj H
            subst H
            exact am_drop (L' := [some (.ref 159), some (.int a1), some (.int a2), some (.int r1), none, some (.int (g2 178 j3)), some (.int x21), some (.int x15), some (.int (g7 179 j19)), some (.int (((5 : Int32) * r1) + x6)), some (.int (1 : Int32))]) (And.intro rfl (And.intro rfl (And.intro rfl (And.intro rfl (And.intro rfl (And.intro rfl (And.intro rfl (And.intro rfl (And.intro rfl (And.intro rfl trivial)))))))))) K
        | inr y =>
          have H := Option.some.inj H
          subst H
          exact K
      have H := H1
      clear H1
      refine am_icmp_eq rfl (fun c45 => ?_) (fun c45 => ?_)
      · have H := it_pos c45 H
        have H := Option.some.inj H
        subst H
        exact am_drop (L' := [some (.ref 159), some (.int a1), some (.int a2), some (.int r1), some (.int x5), some (.int (g2 178 j3)), some (.int x6), some (.int x15), some (.int (g7 179 j19)), some (.int (((5 : Int32) * r1) + x6)), none]) (And.intro rfl (And.intro rfl (And.intro rfl (And.intro rfl (And.intro rfl (And.intro rfl (And.intro rfl (And.intro rfl (And.intro rfl (And.intro rfl trivial)))))))))) K
      · have H := it_neg c45 H
        refine am_aload_n rfl rfl ?_
        refine am_iload_n rfl rfl ?_
        refine am_iload rfl rfl ?_
        refine am_iload rfl rfl ?_
        refine x_iconst (v := (1 : Int32)) rfl (by decide) ?_
        obtain ⟨r46, g47, H1, H⟩ := bd2_some H
        refine cv4i v_9_207 rfl rfl (Nat.le_of_ble_eq_true rfl) rfl (Nat.le_of_ble_eq_true rfl) (fun _ _ => Nat.le_of_ble_eq_true rfl) (y_X9_costOf a1 x15 (g7 179 j19) (1 : Int32) g7 _ H1 ?_)
        refine am_aload_n rfl rfl ?_
        refine am_iload_n rfl rfl ?_
        refine am_iload rfl rfl ?_
        refine am_iload rfl rfl ?_
        refine x_iconst (v := (0 : Int32)) rfl (by decide) ?_
        obtain ⟨r48, g49, H1, H⟩ := bd2_some H
        refine cv4i v_9_207 rfl rfl (Nat.le_of_ble_eq_true rfl) rfl (Nat.le_of_ble_eq_true rfl) (fun _ _ => Nat.le_of_ble_eq_true rfl) (y_X9_costOf a1 x15 (g7 179 j19) (0 : Int32) g47 _ H1 ?_)
        refine am_icmp_gt rfl (fun c50 => ?_) (fun c50 => ?_)
        · have H := it_pos c50 H
          refine x_iconst (v := (0 : Int32)) rfl (by decide) ?_
          refine am_istore rfl (Nat.le_of_ble_eq_true rfl) ?_
          refine am_iload rfl rfl ?_
          refine x_iconst (v := (1 : Int32)) rfl (by decide) ?_
          refine am_iload rfl rfl ?_
          refine am_ishl rfl ?_
          refine am_iload rfl rfl ?_
          refine x_bipush (v := (10 : Int32)) rfl (by decide) ?_
          obtain ⟨s71, H1, H⟩ := bd_some H
          have K : (fun (s52 : Int32) => u_V m_X9_pairUp 5 post 138 [some (.ref 159), some (.int a1), some (.int a2), some (.int r1), none, some (.int (g2 178 j3)), some (.int x6), some (.int x15), some (.int (g7 179 j19)), some (.int (((5 : Int32) * r1) + x6)), some (.int (0 : Int32))] [.int s52, .int ((1 : Int32) <<< (x15 &&& 31)), .int x5] g49) s71 := by
            clear H1
            obtain ⟨x51, e_x51⟩ : ∃ z, z = s71 := ⟨_, rfl⟩
            subst e_x51
            (try dsimp only at H); (try dsimp only)
            refine am_iadd rfl ?_
            refine am_isub rfl ?_
            refine am_istore rfl (Nat.le_of_ble_eq_true rfl) ?_
            refine am_aload_n rfl rfl ?_
            refine am_iload_n rfl rfl ?_
            refine x_bipush (v := (50 : Int32)) rfl (by decide) ?_
            refine am_iload rfl rfl ?_
            refine am_iadd rfl ?_
            refine am_iload rfl rfl ?_
            obtain ⟨s69, H1, H⟩ := bd_some H
            have K : (fun (s54 : Int32) => u_V m_X9_pairUp 5 post 171 [some (.ref 159), some (.int a1), some (.int a2), some (.int r1), some (.int (x5 - (((1 : Int32) <<< (x15 &&& 31)) + x51))), some (.int (g2 178 j3)), some (.int x6), some (.int x15), some (.int (g7 179 j19)), some (.int (((5 : Int32) * r1) + x6)), some (.int (0 : Int32))] [.int s54, .int ((50 : Int32) + (((5 : Int32) * r1) + x6)), .int a1, .ref 159] g49) s69 := by
              clear H1
              obtain ⟨x53, e_x53⟩ : ∃ z, z = s69 := ⟨_, rfl⟩
              subst e_x53
              (try dsimp only at H); (try dsimp only)
              obtain ⟨r55, g56, H1, H⟩ := bd2_some H
              refine cv3v v_9_129 rfl rfl (Nat.le_of_ble_eq_true rfl) rfl (Nat.le_of_ble_eq_true rfl) (fun _ _ => Nat.le_of_ble_eq_true rfl) (y_X9_lay a1 ((50 : Int32) + (((5 : Int32) * r1) + x6)) x53 g49 _ H1 ?_)
              refine am_aload_n rfl rfl ?_
              refine am_iload_n rfl rfl ?_
              refine x_bipush (v := (80 : Int32)) rfl (by decide) ?_
              refine am_iload rfl rfl ?_
              refine am_iadd rfl ?_
              refine am_iload rfl rfl ?_
              refine x_bipush (v := (10 : Int32)) rfl (by decide) ?_
              obtain ⟨s65, H1, H⟩ := bd_some H
              have K : (fun (s58 : Int32) => u_V m_X9_pairUp 5 post 215 [some (.ref 159), some (.int a1), some (.int a2), some (.int r1), some (.int (x5 - (((1 : Int32) <<< (x15 &&& 31)) + x51))), some (.int (g2 178 j3)), some (.int x6), none, none, none, none] [.int s58, .int ((80 : Int32) + (((5 : Int32) * r1) + x6)), .int a1, .ref 159] g56) s65 := by
                clear H1
                obtain ⟨x57, e_x57⟩ : ∃ z, z = s65 := ⟨_, rfl⟩
                subst e_x57
                (try dsimp only at H); (try dsimp only)
                obtain ⟨r59, g60, H1, H⟩ := bd2_some H
                refine cv3v v_9_129 rfl rfl (Nat.le_of_ble_eq_true rfl) rfl (Nat.le_of_ble_eq_true rfl) (fun _ _ => Nat.le_of_ble_eq_true rfl) (y_X9_lay a1 ((80 : Int32) + (((5 : Int32) * r1) + x6)) x57 g56 _ H1 ?_)
                refine x_iinc (v := (x6 + (1 : Int32))) rfl rfl (Nat.le_of_ble_eq_true rfl) rfl ?_
                refine am_goto rfl ?_
                have H := Option.some.inj H
                subst H
                exact am_drop (L' := [some (.ref 159), some (.int a1), some (.int a2), some (.int r1), some (.int (x5 - (((1 : Int32) <<< (x15 &&& 31)) + x51))), some (.int (g2 178 j3)), some (.int (x6 + (1 : Int32))), none, none, none, none]) (And.intro rfl (And.intro rfl (And.intro rfl (And.intro rfl (And.intro rfl (And.intro rfl (And.intro rfl trivial))))))) K
              have H := H1
              clear H1
              refine am_icmp_ne rfl (fun c61 => ?_) (fun c61 => ?_)
              · have H := it_neg c61 H
                refine am_iload rfl rfl ?_
                refine am_if_eq rfl (fun c62 => ?_) (fun c62 => ?_)
                · have H := it_pos c62 H
                  refine am_aload_n rfl rfl ?_
                  refine u_getR f_9_62 rfl (Nat.le_of_ble_eq_true rfl) rfl rfl ?_
                  refine am_iload rfl rfl ?_
                  obtain ⟨j63, ej63, hj63, H⟩ := ck_some H
                  refine x_iald rfl (Nat.le_of_ble_eq_true rfl) rfl hj63 ej63 ?_
                  have H := Option.some.inj H
                  subst H
                  exact am_drop (L' := [some (.ref 159), some (.int a1), some (.int a2), some (.int r1), some (.int (x5 - (((1 : Int32) <<< (x15 &&& 31)) + x51))), some (.int (g2 178 j3)), some (.int x6), none, none, none, none]) (And.intro rfl (And.intro rfl (And.intro rfl (And.intro rfl (And.intro rfl (And.intro rfl (And.intro rfl trivial))))))) K
                · have H := it_neg c62 H
                  refine am_aload_n rfl rfl ?_
                  refine u_getR f_9_62 rfl (Nat.le_of_ble_eq_true rfl) rfl rfl ?_
                  refine am_iload rfl rfl ?_
                  obtain ⟨j64, ej64, hj64, H⟩ := ck_some H
                  refine x_iald rfl (Nat.le_of_ble_eq_true rfl) rfl hj64 ej64 ?_
                  refine am_goto rfl ?_
                  have H := Option.some.inj H
                  subst H
                  exact am_drop (L' := [some (.ref 159), some (.int a1), some (.int a2), some (.int r1), some (.int (x5 - (((1 : Int32) <<< (x15 &&& 31)) + x51))), some (.int (g2 178 j3)), some (.int x6), none, none, none, none]) (And.intro rfl (And.intro rfl (And.intro rfl (And.intro rfl (And.intro rfl (And.intro rfl (And.intro rfl trivial))))))) K
              · have H := it_pos c61 H
                refine x_bipush (v := (99 : Int32)) rfl (by decide) ?_
                refine am_goto rfl ?_
                have H := Option.some.inj H
                subst H
                exact am_drop (L' := [some (.ref 159), some (.int a1), some (.int a2), some (.int r1), some (.int (x5 - (((1 : Int32) <<< (x15 &&& 31)) + x51))), some (.int (g2 178 j3)), some (.int x6), none, none, none, none]) (And.intro rfl (And.intro rfl (And.intro rfl (And.intro rfl (And.intro rfl (And.intro rfl (And.intro rfl trivial))))))) K
            have H := H1
            clear H1
            refine am_if_eq rfl (fun c66 => ?_) (fun c66 => ?_)
            · have H := it_pos c66 H
              refine am_aload_n rfl rfl ?_
              refine u_getR f_9_62 rfl (Nat.le_of_ble_eq_true rfl) rfl rfl ?_
              refine am_iload rfl rfl ?_
              obtain ⟨j67, ej67, hj67, H⟩ := ck_some H
              refine x_iald rfl (Nat.le_of_ble_eq_true rfl) rfl hj67 ej67 ?_
              have H := Option.some.inj H
              subst H
              exact am_drop (L' := [some (.ref 159), some (.int a1), some (.int a2), some (.int r1), some (.int (x5 - (((1 : Int32) <<< (x15 &&& 31)) + x51))), some (.int (g2 178 j3)), some (.int x6), some (.int x15), some (.int (g7 179 j19)), some (.int (((5 : Int32) * r1) + x6)), some (.int (0 : Int32))]) (And.intro rfl (And.intro rfl (And.intro rfl (And.intro rfl (And.intro rfl (And.intro rfl (And.intro rfl (And.intro rfl (And.intro rfl (And.intro rfl (And.intro rfl trivial))))))))))) K
            · have H := it_neg c66 H
              refine am_aload_n rfl rfl ?_
              refine u_getR f_9_62 rfl (Nat.le_of_ble_eq_true rfl) rfl rfl ?_
              refine am_iload rfl rfl ?_
              obtain ⟨j68, ej68, hj68, H⟩ := ck_some H
              refine x_iald rfl (Nat.le_of_ble_eq_true rfl) rfl hj68 ej68 ?_
              refine am_goto rfl ?_
              have H := Option.some.inj H
              subst H
              exact am_drop (L' := [some (.ref 159), some (.int a1), some (.int a2), some (.int r1), some (.int (x5 - (((1 : Int32) <<< (x15 &&& 31)) + x51))), some (.int (g2 178 j3)), some (.int x6), some (.int x15), some (.int (g7 179 j19)), some (.int (((5 : Int32) * r1) + x6)), some (.int (0 : Int32))]) (And.intro rfl (And.intro rfl (And.intro rfl (And.intro rfl (And.intro rfl (And.intro rfl (And.intro rfl (And.intro rfl (And.intro rfl (And.intro rfl (And.intro rfl trivial))))))))))) K
          have H := H1
          clear H1
          refine am_icmp_ne rfl (fun c70 => ?_) (fun c70 => ?_)
          · have H := it_neg c70 H
            refine x_iconst (v := (1 : Int32)) rfl (by decide) ?_
            refine am_iload rfl rfl ?_
            refine am_ishl rfl ?_
            have H := Option.some.inj H
            subst H
            exact am_drop (L' := [some (.ref 159), some (.int a1), some (.int a2), some (.int r1), none, some (.int (g2 178 j3)), some (.int x6), some (.int x15), some (.int (g7 179 j19)), some (.int (((5 : Int32) * r1) + x6)), some (.int (0 : Int32))]) (And.intro rfl (And.intro rfl (And.intro rfl (And.intro rfl (And.intro rfl (And.intro rfl (And.intro rfl (And.intro rfl (And.intro rfl (And.intro rfl trivial)))))))))) K
          · have H := it_pos c70 H
            refine x_iconst (v := (0 : Int32)) rfl (by decide) ?_
            refine am_goto rfl ?_
            have H := Option.some.inj H
            subst H
            exact am_drop (L' := [some (.ref 159), some (.int a1), some (.int a2), some (.int r1), none, some (.int (g2 178 j3)), some (.int x6), some (.int x15), some (.int (g7 179 j19)), some (.int (((5 : Int32) * r1) + x6)), some (.int (0 : Int32))]) (And.intro rfl (And.intro rfl (And.intro rfl (And.intro rfl (And.intro rfl (And.intro rfl (And.intro rfl (And.intro rfl (And.intro rfl (And.intro rfl trivial)))))))))) K
        · have H := it_neg c50 H
          have H := Option.some.inj H
          subst H
          exact am_drop (L' := [some (.ref 159), some (.int a1), some (.int a2), some (.int r1), some (.int x5), some (.int (g2 178 j3)), some (.int x6), some (.int x15), some (.int (g7 179 j19)), some (.int (((5 : Int32) * r1) + x6)), none]) (And.intro rfl (And.intro rfl (And.intro rfl (And.intro rfl (And.intro rfl (And.intro rfl (And.intro rfl (And.intro rfl (And.intro rfl (And.intro rfl trivial)))))))))) K
    refine am_drop (L' := [some (.ref 159), some (.int a1), some (.int a2), some (.int r1), some (.int x5), some (.int (g2 178 j3)), some (.int x6), some (.int (0 : Int32)), none, none, none]) (And.intro rfl (And.intro rfl (And.intro rfl (And.intro rfl (And.intro rfl (And.intro rfl (And.intro rfl (And.intro rfl trivial)))))))) ?_
    refine lp_ind (P := (fun (s14 : Int32) => u_V m_X9_pairUp 5 post 47 [some (.ref 159), some (.int a1), some (.int a2), some (.int r1), some (.int x5), some (.int (g2 178 j3)), some (.int x6), some (.int s14), none, none, none] [] g7)) (Q := (fun (s16 : Int32) => u_V m_X9_pairUp 5 post 63 [some (.ref 159), some (.int a1), some (.int a2), some (.int r1), some (.int x5), some (.int (g2 178 j3)), some (.int x6), some (.int s16), none, none, none] [] g7)) ?_ 2000 (0 : Int32) s18 H1 K2
    clear H1 H K
    intro s14 s18b H K
    obtain ⟨x13, e_x13⟩ : ∃ z, z = s14 := ⟨_, rfl⟩
    subst e_x13
    (try dsimp only at H); (try dsimp only)
    refine am_iload rfl rfl ?_
    refine am_iload rfl rfl ?_
    refine am_ishr rfl ?_
    refine x_iconst (v := (1 : Int32)) rfl (by decide) ?_
    refine am_iand rfl ?_
    refine am_if_ne rfl (fun c17 => ?_) (fun c17 => ?_)
    · have H := it_neg c17 H
      have H := Option.some.inj H
      subst H
      exact am_drop (L' := [some (.ref 159), some (.int a1), some (.int a2), some (.int r1), some (.int x5), some (.int (g2 178 j3)), some (.int x6), some (.int x13), none, none, none]) (And.intro rfl (And.intro rfl (And.intro rfl (And.intro rfl (And.intro rfl (And.intro rfl (And.intro rfl (And.intro rfl trivial)))))))) K
    · have H := it_pos c17 H
      refine x_iinc (v := (x13 + (1 : Int32))) rfl rfl (Nat.le_of_ble_eq_true rfl) rfl ?_
      refine am_goto rfl ?_
      have H := Option.some.inj H
      subst H
      exact am_drop (L' := [some (.ref 159), some (.int a1), some (.int a2), some (.int r1), some (.int x5), some (.int (g2 178 j3)), some (.int x6), some (.int (x13 + (1 : Int32))), none, none, none]) (And.intro rfl (And.intro rfl (And.intro rfl (And.intro rfl (And.intro rfl (And.intro rfl (And.intro rfl (And.intro rfl trivial)))))))) K
def f_X9_gather (a1 : Int32) (a2 : Int32) (g : G) : Option (Int32 × G) := wr (up2 g 159 30 (0 : Int32)) fun g1 => bd (lp (fun (s4 : Int32 × G) => (if (s4.2 159 3) ≤ s4.1 then some (.inr (s4.2)) else bd2 (f_X9_placeOf a1 s4.1 s4.2) fun r8 g9 => bd ((if r8 = (-1 : Int32) then some (g9) else bd ((if a2 = 0 then bd2 (f_X9_cell a1 ((11 : Int32) + r8) g9) fun r19 g20 => if r19 = 0 then some (.inl (g20)) else some (.inr (g20)) else some (.inl (g9)) : Option ((G) ⊕ (G)))) fun s22m => (match s22m with | .inl s14 => (ck (s14 159 30) 10 fun j15 => wr (up2 s14 175 j15 s4.1) fun g16 => wr (up2 g16 159 30 ((g16 159 30) + (1 : Int32))) fun g17 => some (g17)) | .inr y => some y) : Option (G))) fun (s11 : G) => some (.inl ((s4.1 + (1 : Int32)), s11)) : Option ((Int32 × G) ⊕ (G)))) 2000 ((0 : Int32), g1)) fun (s6 : G) => some (((0 : Int32), s6))
set_option maxHeartbeats 4000000 in
set_option maxRecDepth 100000 in
theorem y_X9_gather (a1 : Int32) (a2 : Int32)  (g : G) (q : Int32 × G) {post : Int32 → G → Prop} (H : f_X9_gather a1 a2 g = some q) (K : post q.1 q.2) : Y m_X9_gather 2 [.ref 159, .int a1, .int a2] g post := by
  refine Y_of ok_X9_gather pn_9 rfl (by decide) (Or.inl rfl) (List.forall_mem_cons.mpr ⟨rfl, (List.forall_mem_cons.mpr ⟨rfl, (List.forall_mem_cons.mpr ⟨rfl, (fun _ h => absurd h List.not_mem_nil)⟩)⟩)⟩) (Nat.le_of_ble_eq_true rfl) ?_
  show u_V m_X9_gather 2 post 0 [some (.ref 159), some (.int a1), some (.int a2), none, none] [] g
  unfold f_X9_gather at H
  refine am_aload_n rfl rfl ?_
  refine x_iconst (v := (0 : Int32)) rfl (by decide) ?_
  obtain ⟨g1, eg1, H⟩ := wr_some H
  refine x_putI f_9_197 rfl rfl (Nat.le_of_ble_eq_true rfl) rfl rfl (fun _ _ => ⟨rfl, rfl⟩) eg1 ?_
  refine x_iconst (v := (0 : Int32)) rfl (by decide) ?_
  refine am_istore_n rfl (Nat.le_of_ble_eq_true rfl) ?_
  obtain ⟨s24, H1, H⟩ := bd_some H
  have K2 : (fun (s6 : G) => u_V m_X9_gather 2 post 72 [none, none, none, none, none] [] s6) s24 := by
    clear H1
    obtain ⟨g5, e_g5⟩ : ∃ z, z = s24 := ⟨_, rfl⟩
    subst e_g5
    (try dsimp only at H); (try dsimp only)
    have H := Option.some.inj H
    subst H
    exact u_vret rfl rfl K
  refine am_drop (L' := [some (.ref 159), some (.int a1), some (.int a2), some (.int (0 : Int32)), none]) (And.intro rfl (And.intro rfl (And.intro rfl (And.intro rfl trivial)))) ?_
  refine lp_ind (P := (fun (s4 : Int32 × G) => u_V m_X9_gather 2 post 7 [some (.ref 159), some (.int a1), some (.int a2), some (.int s4.1), none] [] s4.2)) (Q := (fun (s6 : G) => u_V m_X9_gather 2 post 72 [none, none, none, none, none] [] s6)) ?_ 2000 ((0 : Int32), g1) s24 H1 K2
  clear H1 H K
  intro s4 s24b H K
  obtain ⟨x2, g3⟩ := s4
  (try dsimp only at H); (try dsimp only)
  refine am_iload_n rfl rfl ?_
  refine am_aload_n rfl rfl ?_
  refine u_getI f_9_98 rfl (Nat.le_of_ble_eq_true rfl) rfl rfl ?_
  refine am_icmp_ge rfl (fun c7 => ?_) (fun c7 => ?_)
  · have H := it_pos c7 H
    have H := Option.some.inj H
    subst H
    exact am_drop (L' := [none, none, none, none, none]) trivial K
  · have H := it_neg c7 H
    refine am_aload_n rfl rfl ?_
    refine am_iload_n rfl rfl ?_
    refine am_iload_n rfl rfl ?_
    obtain ⟨r8, g9, H1, H⟩ := bd2_some H
    refine cv2i v_9_147 rfl rfl (Nat.le_of_ble_eq_true rfl) rfl (Nat.le_of_ble_eq_true rfl) (fun _ _ => Nat.le_of_ble_eq_true rfl) (y_X9_placeOf a1 x2 g3 _ H1 ?_)
    refine am_istore rfl (Nat.le_of_ble_eq_true rfl) ?_
    refine am_iload rfl rfl ?_
    refine x_iconst (v := (-1 : Int32)) rfl (by decide) ?_
    obtain ⟨s23, H1, H⟩ := bd_some H
    have K : (fun (s11 : G) => u_V m_X9_gather 2 post 66 [some (.ref 159), some (.int a1), some (.int a2), some (.int x2), none] [] s11) s23 := by
      clear H1
      obtain ⟨g10, e_g10⟩ : ∃ z, z = s23 := ⟨_, rfl⟩
      subst e_g10
      (try dsimp only at H); (try dsimp only)
      refine x_iinc (v := (x2 + (1 : Int32))) rfl rfl (Nat.le_of_ble_eq_true rfl) rfl ?_
      refine am_goto rfl ?_
      have H := Option.some.inj H
      subst H
      exact am_drop (L' := [some (.ref 159), some (.int a1), some (.int a2), some (.int (x2 + (1 : Int32))), none]) (And.intro rfl (And.intro rfl (And.intro rfl (And.intro rfl trivial)))) K
    have H := H1
    clear H1
    refine am_icmp_eq rfl (fun c12 => ?_) (fun c12 => ?_)
    · have H := it_pos c12 H
      have H := Option.some.inj H
      subst H
      exact am_drop (L' := [some (.ref 159), some (.int a1), some (.int a2), some (.int x2), none]) (And.intro rfl (And.intro rfl (And.intro rfl (And.intro rfl trivial)))) K
    · have H := it_neg c12 H
      refine am_iload_n rfl rfl ?_
      obtain ⟨s22, H1, H⟩ := bd_some H
      have K : (Sum.elim (fun (s14 : G) => u_V m_X9_gather 2 post 46 [some (.ref 159), some (.int a1), some (.int a2), some (.int x2), none] [] s14) (fun (s11 : G) => u_V m_X9_gather 2 post 66 [some (.ref 159), some (.int a1), some (.int a2), some (.int x2), none] [] s11)) s22 := by
        clear H1
        cases s22 with
        | inl s14 =>
          obtain ⟨g13, e_g13⟩ : ∃ z, z = s14 := ⟨_, rfl⟩
          subst e_g13
          (try dsimp only at H); (try dsimp only)
          refine am_aload_n rfl rfl ?_
          refine u_getR f_9_62 rfl (Nat.le_of_ble_eq_true rfl) rfl rfl ?_
          refine am_aload_n rfl rfl ?_
          refine u_getI f_9_197 rfl (Nat.le_of_ble_eq_true rfl) rfl rfl ?_
          refine am_iload_n rfl rfl ?_
          obtain ⟨j15, ej15, hj15, H⟩ := ck_some H
          obtain ⟨g16, eg16, H⟩ := wr_some H
          refine x_iast rfl (Nat.le_of_ble_eq_true rfl) rfl hj15 ej15 eg16 ?_
          refine am_aload_n rfl rfl ?_
          refine am_dup rfl rfl ?_
          refine u_getI f_9_197 rfl (Nat.le_of_ble_eq_true rfl) rfl rfl ?_
          refine x_iconst (v := (1 : Int32)) rfl (by decide) ?_
          refine am_iadd rfl ?_
          obtain ⟨g17, eg17, H⟩ := wr_some H
          refine x_putI f_9_197 rfl rfl (Nat.le_of_ble_eq_true rfl) rfl rfl (fun _ _ => ⟨rfl, rfl⟩) eg17 ?_
          have H := Option.some.inj H
          subst H
          exact am_drop (L' := [some (.ref 159), some (.int a1), some (.int a2), some (.int x2), none]) (And.intro rfl (And.intro rfl (And.intro rfl (And.intro rfl trivial)))) K
        | inr y =>
          have H := Option.some.inj H
          subst H
          exact K
      have H := H1
      clear H1
      refine am_if_ne rfl (fun c18 => ?_) (fun c18 => ?_)
      · have H := it_neg c18 H
        have H := Option.some.inj H
        subst H
        exact am_drop (L' := [some (.ref 159), some (.int a1), some (.int a2), some (.int x2), none]) (And.intro rfl (And.intro rfl (And.intro rfl (And.intro rfl trivial)))) K
      · have H := it_pos c18 H
        refine am_aload_n rfl rfl ?_
        refine am_iload_n rfl rfl ?_
        refine x_bipush (v := (11 : Int32)) rfl (by decide) ?_
        refine am_iload rfl rfl ?_
        refine am_iadd rfl ?_
        obtain ⟨r19, g20, H1, H⟩ := bd2_some H
        refine cv2i v_9_140 rfl rfl (Nat.le_of_ble_eq_true rfl) rfl (Nat.le_of_ble_eq_true rfl) (fun _ _ => Nat.le_of_ble_eq_true rfl) (y_X9_cell a1 ((11 : Int32) + r8) g9 _ H1 ?_)
        refine am_if_ne rfl (fun c21 => ?_) (fun c21 => ?_)
        · have H := it_neg c21 H
          have H := Option.some.inj H
          subst H
          exact am_drop (L' := [some (.ref 159), some (.int a1), some (.int a2), some (.int x2), none]) (And.intro rfl (And.intro rfl (And.intro rfl (And.intro rfl trivial)))) K
        · have H := it_pos c21 H
          have H := Option.some.inj H
          subst H
          exact am_drop (L' := [some (.ref 159), some (.int a1), some (.int a2), some (.int x2), none]) (And.intro rfl (And.intro rfl (And.intro rfl (And.intro rfl trivial)))) K
def f_X9_askWorths  (g : G) : Option (Int32 × G) := bd (lp (fun (s3 : Int32 × G) => (if (s3.2 159 30) ≤ s3.1 then some (.inr (.inl (s3.2))) else ck s3.1 10 fun j7 => bd2 (f_X9_worthOf (s3.2 175 j7) s3.2) fun r8 g9 => if r8 = (-5 : Int32) then some (.inr (.inr (((-5 : Int32), g9)))) else ck s3.1 10 fun j11 => wr (up2 g9 176 j11 r8) fun g12 => some (.inl ((s3.1 + (1 : Int32)), g12)) : Option ((Int32 × G) ⊕ ((G) ⊕ (Int32 × G))))) 2000 ((0 : Int32), g)) fun s13m => (match s13m with | .inl s5 => (some (((1 : Int32), s5))) | .inr y => some y)
set_option maxHeartbeats 4000000 in
set_option maxRecDepth 100000 in
theorem y_X9_askWorths   (g : G) (q : Int32 × G) {post : Int32 → G → Prop} (H : f_X9_askWorths  g = some q) (K : post q.1 q.2) : Y m_X9_askWorths 3 [.ref 159] g post := by
  refine Y_of ok_X9_askWorths pn_9 rfl (by decide) (Or.inr (Or.inl rfl)) (List.forall_mem_cons.mpr ⟨rfl, (fun _ h => absurd h List.not_mem_nil)⟩) (Nat.le_of_ble_eq_true rfl) ?_
  show u_V m_X9_askWorths 3 post 0 [some (.ref 159), none, none] [] g
  unfold f_X9_askWorths at H
  refine x_iconst (v := (0 : Int32)) rfl (by decide) ?_
  refine am_istore_n rfl (Nat.le_of_ble_eq_true rfl) ?_
  obtain ⟨s13, H1, H⟩ := bd_some H
  have K2 : (Sum.elim (fun (s5 : G) => u_V m_X9_askWorths 3 post 43 [none, none, none] [] s5) (fun (q : Int32 × G) => post q.1 q.2)) s13 := by
    clear H1
    cases s13 with
    | inl s5 =>
      obtain ⟨g4, e_g4⟩ : ∃ z, z = s5 := ⟨_, rfl⟩
      subst e_g4
      (try dsimp only at H); (try dsimp only)
      refine x_iconst (v := (1 : Int32)) rfl (by decide) ?_
      have H := Option.some.inj H
      subst H
      exact u_iret rfl rfl K
    | inr y =>
      have H := Option.some.inj H
      subst H
      exact K
  refine am_drop (L' := [some (.ref 159), some (.int (0 : Int32)), none]) (And.intro rfl (And.intro rfl trivial)) ?_
  refine lp_ind (P := (fun (s3 : Int32 × G) => u_V m_X9_askWorths 3 post 2 [some (.ref 159), some (.int s3.1), none] [] s3.2)) (Q := (Sum.elim (fun (s5 : G) => u_V m_X9_askWorths 3 post 43 [none, none, none] [] s5) (fun (q : Int32 × G) => post q.1 q.2))) ?_ 2000 ((0 : Int32), g) s13 H1 K2
  clear H1 H K
  intro s3 s13b H K
  obtain ⟨x1, g2⟩ := s3
  (try dsimp only at H); (try dsimp only)
  refine am_iload_n rfl rfl ?_
  refine am_aload_n rfl rfl ?_
  refine u_getI f_9_197 rfl (Nat.le_of_ble_eq_true rfl) rfl rfl ?_
  refine am_icmp_ge rfl (fun c6 => ?_) (fun c6 => ?_)
  · have H := it_pos c6 H
    have H := Option.some.inj H
    subst H
    exact am_drop (L' := [none, none, none]) trivial K
  · have H := it_neg c6 H
    refine am_aload_n rfl rfl ?_
    refine am_aload_n rfl rfl ?_
    refine u_getR f_9_62 rfl (Nat.le_of_ble_eq_true rfl) rfl rfl ?_
    refine am_iload_n rfl rfl ?_
    obtain ⟨j7, ej7, hj7, H⟩ := ck_some H
    refine x_iald rfl (Nat.le_of_ble_eq_true rfl) rfl hj7 ej7 ?_
    obtain ⟨r8, g9, H1, H⟩ := bd2_some H
    refine cv1i v_9_123 rfl rfl (Nat.le_of_ble_eq_true rfl) rfl (Nat.le_of_ble_eq_true rfl) (fun _ _ => Nat.le_of_ble_eq_true rfl) (y_X9_worthOf (g2 175 j7) g2 _ H1 ?_)
    refine am_istore_n rfl (Nat.le_of_ble_eq_true rfl) ?_
    refine am_iload_n rfl rfl ?_
    refine x_bipush (v := (-5 : Int32)) rfl (by decide) ?_
    refine am_icmp_ne rfl (fun c10 => ?_) (fun c10 => ?_)
    · have H := it_neg c10 H
      refine am_aload_n rfl rfl ?_
      refine u_getR f_9_65 rfl (Nat.le_of_ble_eq_true rfl) rfl rfl ?_
      refine am_iload_n rfl rfl ?_
      refine am_iload_n rfl rfl ?_
      obtain ⟨j11, ej11, hj11, H⟩ := ck_some H
      obtain ⟨g12, eg12, H⟩ := wr_some H
      refine x_iast rfl (Nat.le_of_ble_eq_true rfl) rfl hj11 ej11 eg12 ?_
      refine x_iinc (v := (x1 + (1 : Int32))) rfl rfl (Nat.le_of_ble_eq_true rfl) rfl ?_
      refine am_goto rfl ?_
      have H := Option.some.inj H
      subst H
      exact am_drop (L' := [some (.ref 159), some (.int (x1 + (1 : Int32))), none]) (And.intro rfl (And.intro rfl trivial)) K
    · have H := it_pos c10 H
      refine x_bipush (v := (-5 : Int32)) rfl (by decide) ?_
      have H := Option.some.inj H
      subst H
      exact u_iret rfl rfl K
def f_X9_drawOf (a1 : Int32) (a2 : Int32) (g : G) : Option (Int32 × G) := bd2 (f_X9_isTournament a1 g) fun r1 g2 => if r1 = 0 then some (((-2 : Int32), g2)) else if a2 < 0 then some (((-2 : Int32), g2)) else bd2 (f_X9_cell a1 (25 : Int32) g2) fun r5 g6 => bd ((if r5 ≤ 0 then some (.inl (g6)) else bd2 (f_X9_cell a1 (25 : Int32) g6) fun r39 g40 => bd2 (f_X9_cell a1 (((26 : Int32) + r39) - (1 : Int32)) g40) fun r41 g42 => if r41 ≤ a2 then some (.inl (g42)) else some (.inr (((-2 : Int32), g42))) : Option ((G) ⊕ (Int32 × G)))) fun s44m => (match s44m with | .inl s8 => (bd2 (f_X9_gather a1 (0 : Int32) s8) fun r9 g10 => if (2 : Int32) ≤ (g10 159 30) then bd2 (f_X9_cell a1 (25 : Int32) g10) fun r12 g13 => if r12 = (6 : Int32) then some (((-4 : Int32), g13)) else bd2 (f_X9_askWorths  g13) fun r15 g16 => if r15 = (-5 : Int32) then some (((-5 : Int32), g16)) else bd (lp (fun (s20 : Int32 × G) => (if (s20.2 159 30) ≤ s20.1 then some (.inr (s20.2)) else ck s20.1 10 fun j24 => bd2 (f_X9_pointsOf a1 (s20.2 175 j24) a2 a2 s20.2) fun r25 g26 => ck s20.1 10 fun j27 => wr (up2 g26 177 j27 r25) fun g28 => some (.inl ((s20.1 + (1 : Int32)), g28)) : Option ((Int32 × G) ⊕ (G)))) 2000 ((0 : Int32), g16)) fun (s22 : G) => bd2 (f_X9_search a1 s22) fun r30 g31 => bd2 (f_X9_pairUp a1 a2 g31) fun r32 g33 => bd2 (f_X9_cell a1 (25 : Int32) g33) fun r34 g35 => bd2 (f_X9_cell a1 (((32 : Int32) + r34) - (1 : Int32)) g35) fun r36 g37 => some ((r36, g37)) else some (((-3 : Int32), g10))) | .inr y => some y)
set_option maxHeartbeats 4000000 in
set_option maxRecDepth 100000 in
theorem y_X9_drawOf (a1 : Int32) (a2 : Int32)  (g : G) (q : Int32 × G) {post : Int32 → G → Prop} (H : f_X9_drawOf a1 a2 g = some q) (K : post q.1 q.2) : Y m_X9_drawOf 6 [.ref 159, .int a1, .int a2] g post := by
  refine Y_of ok_X9_drawOf pn_9 rfl (by decide) (Or.inr (Or.inl rfl)) (List.forall_mem_cons.mpr ⟨rfl, (List.forall_mem_cons.mpr ⟨rfl, (List.forall_mem_cons.mpr ⟨rfl, (fun _ h => absurd h List.not_mem_nil)⟩)⟩)⟩) (Nat.le_of_ble_eq_true rfl) ?_
  show u_V m_X9_drawOf 6 post 0 [some (.ref 159), some (.int a1), some (.int a2), none] [] g
  unfold f_X9_drawOf at H
  refine am_aload_n rfl rfl ?_
  refine am_iload_n rfl rfl ?_
  obtain ⟨r1, g2, H1, H⟩ := bd2_some H
  refine cv1i v_9_144 rfl rfl (Nat.le_of_ble_eq_true rfl) rfl (Nat.le_of_ble_eq_true rfl) (fun _ _ => Nat.le_of_ble_eq_true rfl) (y_X9_isTournament a1 g _ H1 ?_)
  refine am_if_eq rfl (fun c3 => ?_) (fun c3 => ?_)
  · have H := it_pos c3 H
    refine x_bipush (v := (-2 : Int32)) rfl (by decide) ?_
    have H := Option.some.inj H
    subst H
    exact u_iret rfl rfl K
  · have H := it_neg c3 H
    refine am_iload_n rfl rfl ?_
    refine am_if_lt rfl (fun c4 => ?_) (fun c4 => ?_)
    · have H := it_pos c4 H
      refine x_bipush (v := (-2 : Int32)) rfl (by decide) ?_
      have H := Option.some.inj H
      subst H
      exact u_iret rfl rfl K
    · have H := it_neg c4 H
      refine am_aload_n rfl rfl ?_
      refine am_iload_n rfl rfl ?_
      refine x_bipush (v := (25 : Int32)) rfl (by decide) ?_
      obtain ⟨r5, g6, H1, H⟩ := bd2_some H
      refine cv2i v_9_140 rfl rfl (Nat.le_of_ble_eq_true rfl) rfl (Nat.le_of_ble_eq_true rfl) (fun _ _ => Nat.le_of_ble_eq_true rfl) (y_X9_cell a1 (25 : Int32) g2 _ H1 ?_)
      obtain ⟨s44, H1, H⟩ := bd_some H
      have K : (Sum.elim (fun (s8 : G) => u_V m_X9_drawOf 6 post 46 [some (.ref 159), some (.int a1), some (.int a2), none] [] s8) (fun (q : Int32 × G) => post q.1 q.2)) s44 := by
        clear H1
        cases s44 with
        | inl s8 =>
          obtain ⟨g7, e_g7⟩ : ∃ z, z = s8 := ⟨_, rfl⟩
          subst e_g7
          (try dsimp only at H); (try dsimp only)
          refine am_aload_n rfl rfl ?_
          refine am_iload_n rfl rfl ?_
          refine x_iconst (v := (0 : Int32)) rfl (by decide) ?_
          obtain ⟨r9, g10, H1, H⟩ := bd2_some H
          refine cv2v v_9_218 rfl rfl (Nat.le_of_ble_eq_true rfl) rfl (Nat.le_of_ble_eq_true rfl) (fun _ _ => Nat.le_of_ble_eq_true rfl) (y_X9_gather a1 (0 : Int32) g7 _ H1 ?_)
          refine am_aload_n rfl rfl ?_
          refine u_getI f_9_197 rfl (Nat.le_of_ble_eq_true rfl) rfl rfl ?_
          refine x_iconst (v := (2 : Int32)) rfl (by decide) ?_
          refine am_icmp_ge rfl (fun c11 => ?_) (fun c11 => ?_)
          · have H := it_pos c11 H
            refine am_aload_n rfl rfl ?_
            refine am_iload_n rfl rfl ?_
            refine x_bipush (v := (25 : Int32)) rfl (by decide) ?_
            obtain ⟨r12, g13, H1, H⟩ := bd2_some H
            refine cv2i v_9_140 rfl rfl (Nat.le_of_ble_eq_true rfl) rfl (Nat.le_of_ble_eq_true rfl) (fun _ _ => Nat.le_of_ble_eq_true rfl) (y_X9_cell a1 (25 : Int32) g10 _ H1 ?_)
            refine x_bipush (v := (6 : Int32)) rfl (by decide) ?_
            refine am_icmp_ne rfl (fun c14 => ?_) (fun c14 => ?_)
            · have H := it_neg c14 H
              refine am_aload_n rfl rfl ?_
              obtain ⟨r15, g16, H1, H⟩ := bd2_some H
              refine cv0i v_9_222 rfl rfl (Nat.le_of_ble_eq_true rfl) rfl (Nat.le_of_ble_eq_true rfl) (fun _ _ => Nat.le_of_ble_eq_true rfl) (y_X9_askWorths  g13 _ H1 ?_)
              refine x_bipush (v := (-5 : Int32)) rfl (by decide) ?_
              refine am_icmp_ne rfl (fun c17 => ?_) (fun c17 => ?_)
              · have H := it_neg c17 H
                refine x_iconst (v := (0 : Int32)) rfl (by decide) ?_
                refine am_istore_n rfl (Nat.le_of_ble_eq_true rfl) ?_
                obtain ⟨s29, H1, H⟩ := bd_some H
                have K2 : (fun (s22 : G) => u_V m_X9_drawOf 6 post 125 [some (.ref 159), some (.int a1), some (.int a2), none] [] s22) s29 := by
                  clear H1
                  obtain ⟨g21, e_g21⟩ : ∃ z, z = s29 := ⟨_, rfl⟩
                  subst e_g21
                  (try dsimp only at H); (try dsimp only)
                  refine am_aload_n rfl rfl ?_
                  refine am_iload_n rfl rfl ?_
                  obtain ⟨r30, g31, H1, H⟩ := bd2_some H
                  refine cv1v v_9_225 rfl rfl (Nat.le_of_ble_eq_true rfl) rfl (Nat.le_of_ble_eq_true rfl) (fun _ _ => Nat.le_of_ble_eq_true rfl) (y_X9_search a1 g21 _ H1 ?_)
                  refine am_aload_n rfl rfl ?_
                  refine am_iload_n rfl rfl ?_
                  refine am_iload_n rfl rfl ?_
                  obtain ⟨r32, g33, H1, H⟩ := bd2_some H
                  refine cv2v v_9_228 rfl rfl (Nat.le_of_ble_eq_true rfl) rfl (Nat.le_of_ble_eq_true rfl) (fun _ _ => Nat.le_of_ble_eq_true rfl) (y_X9_pairUp a1 a2 g31 _ H1 ?_)
                  refine am_aload_n rfl rfl ?_
                  refine am_iload_n rfl rfl ?_
                  refine x_bipush (v := (32 : Int32)) rfl (by decide) ?_
                  refine am_aload_n rfl rfl ?_
                  refine am_iload_n rfl rfl ?_
                  refine x_bipush (v := (25 : Int32)) rfl (by decide) ?_
                  obtain ⟨r34, g35, H1, H⟩ := bd2_some H
                  refine cv2i v_9_140 rfl rfl (Nat.le_of_ble_eq_true rfl) rfl (Nat.le_of_ble_eq_true rfl) (fun _ _ => Nat.le_of_ble_eq_true rfl) (y_X9_cell a1 (25 : Int32) g33 _ H1 ?_)
                  refine am_iadd rfl ?_
                  refine x_iconst (v := (1 : Int32)) rfl (by decide) ?_
                  refine am_isub rfl ?_
                  obtain ⟨r36, g37, H1, H⟩ := bd2_some H
                  refine cv2i v_9_140 rfl rfl (Nat.le_of_ble_eq_true rfl) rfl (Nat.le_of_ble_eq_true rfl) (fun _ _ => Nat.le_of_ble_eq_true rfl) (y_X9_cell a1 (((32 : Int32) + r34) - (1 : Int32)) g35 _ H1 ?_)
                  have H := Option.some.inj H
                  subst H
                  exact u_iret rfl rfl K
                refine am_drop (L' := [some (.ref 159), some (.int a1), some (.int a2), some (.int (0 : Int32))]) (And.intro rfl (And.intro rfl (And.intro rfl (And.intro rfl trivial)))) ?_
                refine lp_ind (P := (fun (s20 : Int32 × G) => u_V m_X9_drawOf 6 post 92 [some (.ref 159), some (.int a1), some (.int a2), some (.int s20.1)] [] s20.2)) (Q := (fun (s22 : G) => u_V m_X9_drawOf 6 post 125 [some (.ref 159), some (.int a1), some (.int a2), none] [] s22)) ?_ 2000 ((0 : Int32), g16) s29 H1 K2
                clear H1 H K
                intro s20 s29b H K
                obtain ⟨x18, g19⟩ := s20
                (try dsimp only at H); (try dsimp only)
                refine am_iload_n rfl rfl ?_
                refine am_aload_n rfl rfl ?_
                refine u_getI f_9_197 rfl (Nat.le_of_ble_eq_true rfl) rfl rfl ?_
                refine am_icmp_ge rfl (fun c23 => ?_) (fun c23 => ?_)
                · have H := it_pos c23 H
                  have H := Option.some.inj H
                  subst H
                  exact am_drop (L' := [some (.ref 159), some (.int a1), some (.int a2), none]) (And.intro rfl (And.intro rfl (And.intro rfl trivial))) K
                · have H := it_neg c23 H
                  refine am_aload_n rfl rfl ?_
                  refine u_getR f_9_68 rfl (Nat.le_of_ble_eq_true rfl) rfl rfl ?_
                  refine am_iload_n rfl rfl ?_
                  refine am_aload_n rfl rfl ?_
                  refine am_iload_n rfl rfl ?_
                  refine am_aload_n rfl rfl ?_
                  refine u_getR f_9_62 rfl (Nat.le_of_ble_eq_true rfl) rfl rfl ?_
                  refine am_iload_n rfl rfl ?_
                  obtain ⟨j24, ej24, hj24, H⟩ := ck_some H
                  refine x_iald rfl (Nat.le_of_ble_eq_true rfl) rfl hj24 ej24 ?_
                  refine am_iload_n rfl rfl ?_
                  refine am_iload_n rfl rfl ?_
                  obtain ⟨r25, g26, H1, H⟩ := bd2_some H
                  refine cv4i v_9_173 rfl rfl (Nat.le_of_ble_eq_true rfl) rfl (Nat.le_of_ble_eq_true rfl) (fun _ _ => Nat.le_of_ble_eq_true rfl) (y_X9_pointsOf a1 (g19 175 j24) a2 a2 g19 _ H1 ?_)
                  obtain ⟨j27, ej27, hj27, H⟩ := ck_some H
                  obtain ⟨g28, eg28, H⟩ := wr_some H
                  refine x_iast rfl (Nat.le_of_ble_eq_true rfl) rfl hj27 ej27 eg28 ?_
                  refine x_iinc (v := (x18 + (1 : Int32))) rfl rfl (Nat.le_of_ble_eq_true rfl) rfl ?_
                  refine am_goto rfl ?_
                  have H := Option.some.inj H
                  subst H
                  exact am_drop (L' := [some (.ref 159), some (.int a1), some (.int a2), some (.int (x18 + (1 : Int32)))]) (And.intro rfl (And.intro rfl (And.intro rfl (And.intro rfl trivial)))) K
              · have H := it_pos c17 H
                refine x_bipush (v := (-5 : Int32)) rfl (by decide) ?_
                have H := Option.some.inj H
                subst H
                exact u_iret rfl rfl K
            · have H := it_pos c14 H
              refine x_bipush (v := (-4 : Int32)) rfl (by decide) ?_
              have H := Option.some.inj H
              subst H
              exact u_iret rfl rfl K
          · have H := it_neg c11 H
            refine x_bipush (v := (-3 : Int32)) rfl (by decide) ?_
            have H := Option.some.inj H
            subst H
            exact u_iret rfl rfl K
        | inr y =>
          have H := Option.some.inj H
          subst H
          exact K
      have H := H1
      clear H1
      refine am_if_le rfl (fun c38 => ?_) (fun c38 => ?_)
      · have H := it_pos c38 H
        have H := Option.some.inj H
        subst H
        exact am_drop (L' := [some (.ref 159), some (.int a1), some (.int a2), none]) (And.intro rfl (And.intro rfl (And.intro rfl trivial))) K
      · have H := it_neg c38 H
        refine am_iload_n rfl rfl ?_
        refine am_aload_n rfl rfl ?_
        refine am_iload_n rfl rfl ?_
        refine x_bipush (v := (26 : Int32)) rfl (by decide) ?_
        refine am_aload_n rfl rfl ?_
        refine am_iload_n rfl rfl ?_
        refine x_bipush (v := (25 : Int32)) rfl (by decide) ?_
        obtain ⟨r39, g40, H1, H⟩ := bd2_some H
        refine cv2i v_9_140 rfl rfl (Nat.le_of_ble_eq_true rfl) rfl (Nat.le_of_ble_eq_true rfl) (fun _ _ => Nat.le_of_ble_eq_true rfl) (y_X9_cell a1 (25 : Int32) g6 _ H1 ?_)
        refine am_iadd rfl ?_
        refine x_iconst (v := (1 : Int32)) rfl (by decide) ?_
        refine am_isub rfl ?_
        obtain ⟨r41, g42, H1, H⟩ := bd2_some H
        refine cv2i v_9_140 rfl rfl (Nat.le_of_ble_eq_true rfl) rfl (Nat.le_of_ble_eq_true rfl) (fun _ _ => Nat.le_of_ble_eq_true rfl) (y_X9_cell a1 (((26 : Int32) + r39) - (1 : Int32)) g40 _ H1 ?_)
        refine am_icmp_ge rfl (fun c43 => ?_) (fun c43 => ?_)
        · have H := it_pos c43 H
          have H := Option.some.inj H
          subst H
          exact am_drop (L' := [some (.ref 159), some (.int a1), some (.int a2), none]) (And.intro rfl (And.intro rfl (And.intro rfl trivial))) K
        · have H := it_neg c43 H
          refine x_bipush (v := (-2 : Int32)) rfl (by decide) ?_
          have H := Option.some.inj H
          subst H
          exact u_iret rfl rfl K
def f_X9_draw (a1 : Int32) (a2 : Int32) (g : G) : Option (Int32 × G) := wr (up2 g 159 2 (0 : Int32)) fun g1 => bd2 (f_X9_drawOf a1 a2 g1) fun r2 g3 => some ((r2, g3))
set_option maxHeartbeats 4000000 in
set_option maxRecDepth 100000 in
theorem y_X9_draw (a1 : Int32) (a2 : Int32)  (g : G) (q : Int32 × G) {post : Int32 → G → Prop} (H : f_X9_draw a1 a2 g = some q) (K : post q.1 q.2) : Y m_X9_draw 7 [.ref 159, .int a1, .int a2] g post := by
  refine Y_of ok_X9_draw pn_9 rfl (by decide) (Or.inr (Or.inl rfl)) (List.forall_mem_cons.mpr ⟨rfl, (List.forall_mem_cons.mpr ⟨rfl, (List.forall_mem_cons.mpr ⟨rfl, (fun _ h => absurd h List.not_mem_nil)⟩)⟩)⟩) (Nat.le_of_ble_eq_true rfl) ?_
  show u_V m_X9_draw 7 post 0 [some (.ref 159), some (.int a1), some (.int a2)] [] g
  unfold f_X9_draw at H
  refine am_aload_n rfl rfl ?_
  refine x_iconst (v := (0 : Int32)) rfl (by decide) ?_
  obtain ⟨g1, eg1, H⟩ := wr_some H
  refine x_putI f_9_95 rfl rfl (Nat.le_of_ble_eq_true rfl) rfl rfl (fun _ _ => ⟨rfl, rfl⟩) eg1 ?_
  refine am_aload_n rfl rfl ?_
  refine am_iload_n rfl rfl ?_
  refine am_iload_n rfl rfl ?_
  obtain ⟨r2, g3, H1, H⟩ := bd2_some H
  refine cv2i v_9_231 rfl rfl (Nat.le_of_ble_eq_true rfl) rfl (Nat.le_of_ble_eq_true rfl) (fun _ _ => Nat.le_of_ble_eq_true rfl) (y_X9_drawOf a1 a2 g1 _ H1 ?_)
  have H := Option.some.inj H
  subst H
  exact u_iret rfl rfl K
def f_X9_against (a1 : Int32) (a2 : Int32) (a3 : Int32) (g : G) : Option (Int32 × G) := bd2 (f_X9_in a2 (0 : Int32) (5 : Int32) g) fun r1 g2 => if r1 = 0 then some (((2 : Int32), g2)) else bd2 (f_X9_cell a1 (25 : Int32) g2) fun r4 g5 => if a2 < r4 then bd2 (f_X9_cell a1 ((32 : Int32) + a2) g5) fun r7 g8 => bd2 (f_X9_in a3 (0 : Int32) (r7 - (1 : Int32)) g8) fun r9 g10 => if r9 = 0 then some (((2 : Int32), g10)) else some (((0 : Int32), g10)) else some (((1 : Int32), g5))
set_option maxHeartbeats 4000000 in
set_option maxRecDepth 100000 in
theorem y_X9_against (a1 : Int32) (a2 : Int32) (a3 : Int32)  (g : G) (q : Int32 × G) {post : Int32 → G → Prop} (H : f_X9_against a1 a2 a3 g = some q) (K : post q.1 q.2) : Y m_X9_against 1 [.ref 159, .int a1, .int a2, .int a3] g post := by
  refine Y_of ok_X9_against pn_9 rfl (by decide) (Or.inr (Or.inl rfl)) (List.forall_mem_cons.mpr ⟨rfl, (List.forall_mem_cons.mpr ⟨rfl, (List.forall_mem_cons.mpr ⟨rfl, (List.forall_mem_cons.mpr ⟨rfl, (fun _ h => absurd h List.not_mem_nil)⟩)⟩)⟩)⟩) (Nat.le_of_ble_eq_true rfl) ?_
  show u_V m_X9_against 1 post 0 [some (.ref 159), some (.int a1), some (.int a2), some (.int a3)] [] g
  unfold f_X9_against at H
  refine am_iload_n rfl rfl ?_
  refine x_iconst (v := (0 : Int32)) rfl (by decide) ?_
  refine x_iconst (v := (5 : Int32)) rfl (by decide) ?_
  obtain ⟨r1, g2, H1, H⟩ := bd2_some H
  refine cs3i s_9_101 rfl rfl (Nat.le_of_ble_eq_true rfl) (fun _ _ => Nat.le_of_ble_eq_true rfl) (y_X9_in a2 (0 : Int32) (5 : Int32) g _ H1 ?_)
  refine am_if_ne rfl (fun c3 => ?_) (fun c3 => ?_)
  · have H := it_neg c3 H
    refine am_iload_n rfl rfl ?_
    refine am_aload_n rfl rfl ?_
    refine am_iload_n rfl rfl ?_
    refine x_bipush (v := (25 : Int32)) rfl (by decide) ?_
    obtain ⟨r4, g5, H1, H⟩ := bd2_some H
    refine cv2i v_9_140 rfl rfl (Nat.le_of_ble_eq_true rfl) rfl (Nat.le_of_ble_eq_true rfl) (fun _ _ => Nat.le_of_ble_eq_true rfl) (y_X9_cell a1 (25 : Int32) g2 _ H1 ?_)
    refine am_icmp_lt rfl (fun c6 => ?_) (fun c6 => ?_)
    · have H := it_pos c6 H
      refine am_iload_n rfl rfl ?_
      refine x_iconst (v := (0 : Int32)) rfl (by decide) ?_
      refine am_aload_n rfl rfl ?_
      refine am_iload_n rfl rfl ?_
      refine x_bipush (v := (32 : Int32)) rfl (by decide) ?_
      refine am_iload_n rfl rfl ?_
      refine am_iadd rfl ?_
      obtain ⟨r7, g8, H1, H⟩ := bd2_some H
      refine cv2i v_9_140 rfl rfl (Nat.le_of_ble_eq_true rfl) rfl (Nat.le_of_ble_eq_true rfl) (fun _ _ => Nat.le_of_ble_eq_true rfl) (y_X9_cell a1 ((32 : Int32) + a2) g5 _ H1 ?_)
      refine x_iconst (v := (1 : Int32)) rfl (by decide) ?_
      refine am_isub rfl ?_
      obtain ⟨r9, g10, H1, H⟩ := bd2_some H
      refine cs3i s_9_101 rfl rfl (Nat.le_of_ble_eq_true rfl) (fun _ _ => Nat.le_of_ble_eq_true rfl) (y_X9_in a3 (0 : Int32) (r7 - (1 : Int32)) g8 _ H1 ?_)
      refine am_if_ne rfl (fun c11 => ?_) (fun c11 => ?_)
      · have H := it_neg c11 H
        refine x_iconst (v := (0 : Int32)) rfl (by decide) ?_
        have H := Option.some.inj H
        subst H
        exact u_iret rfl rfl K
      · have H := it_pos c11 H
        refine x_iconst (v := (2 : Int32)) rfl (by decide) ?_
        refine am_goto rfl ?_
        have H := Option.some.inj H
        subst H
        exact u_iret rfl rfl K
    · have H := it_neg c6 H
      refine x_iconst (v := (1 : Int32)) rfl (by decide) ?_
      refine am_goto rfl ?_
      have H := Option.some.inj H
      subst H
      exact u_iret rfl rfl K
  · have H := it_pos c3 H
    refine x_iconst (v := (2 : Int32)) rfl (by decide) ?_
    refine am_goto rfl ?_
    have H := Option.some.inj H
    subst H
    exact u_iret rfl rfl K
def f_X9_pair (a1 : Int32) (a2 : Int32) (a3 : Int32) (a4 : Int32) (g : G) : Option (Int32 × G) := bd2 (f_X9_isTournament a1 g) fun r1 g2 => if r1 = 0 then some (((-2 : Int32), g2)) else bd2 (f_X9_against a1 a2 a3 g2) fun r4 g5 => bd ((if r4 = 0 then bd2 (f_X9_in a4 (0 : Int32) (1 : Int32) g5) fun r19 g20 => if r19 = 0 then if (2 : Int32) ≤ 0 then bd ((if a4 = 0 then some ((50 : Int32)) else some ((80 : Int32)) : Option (Int32))) fun (s24 : Int32) => bd2 (f_X9_cell a1 ((s24 + ((5 : Int32) * a2)) + a3) g20) fun r25 g26 => some (.inr ((r25, g26))) else bd2 (f_X9_meets (2 : Int32) g20) fun r29 g30 => some (.inr ((r29, g30))) else some (.inl (r4, g20)) else some (.inl (r4, g5)) : Option ((Int32 × G) ⊕ (Int32 × G)))) fun s31m => (match s31m with | .inl s8 => (if s8.1 ≤ 0 then bd ((if a4 = 0 then some ((50 : Int32)) else some ((80 : Int32)) : Option (Int32))) fun (s11 : Int32) => bd2 (f_X9_cell a1 ((s11 + ((5 : Int32) * a2)) + a3) s8.2) fun r12 g13 => some ((r12, g13)) else bd2 (f_X9_meets s8.1 s8.2) fun r16 g17 => some ((r16, g17))) | .inr y => some y)
set_option maxHeartbeats 4000000 in
set_option maxRecDepth 100000 in
theorem y_X9_pair (a1 : Int32) (a2 : Int32) (a3 : Int32) (a4 : Int32)  (g : G) (q : Int32 × G) {post : Int32 → G → Prop} (H : f_X9_pair a1 a2 a3 a4 g = some q) (K : post q.1 q.2) : Y m_X9_pair 2 [.ref 159, .int a1, .int a2, .int a3, .int a4] g post := by
  refine Y_of ok_X9_pair pn_9 rfl (by decide) (Or.inr (Or.inl rfl)) (List.forall_mem_cons.mpr ⟨rfl, (List.forall_mem_cons.mpr ⟨rfl, (List.forall_mem_cons.mpr ⟨rfl, (List.forall_mem_cons.mpr ⟨rfl, (List.forall_mem_cons.mpr ⟨rfl, (fun _ h => absurd h List.not_mem_nil)⟩)⟩)⟩)⟩)⟩) (Nat.le_of_ble_eq_true rfl) ?_
  show u_V m_X9_pair 2 post 0 [some (.ref 159), some (.int a1), some (.int a2), some (.int a3), some (.int a4), none] [] g
  unfold f_X9_pair at H
  refine am_aload_n rfl rfl ?_
  refine am_iload_n rfl rfl ?_
  obtain ⟨r1, g2, H1, H⟩ := bd2_some H
  refine cv1i v_9_144 rfl rfl (Nat.le_of_ble_eq_true rfl) rfl (Nat.le_of_ble_eq_true rfl) (fun _ _ => Nat.le_of_ble_eq_true rfl) (y_X9_isTournament a1 g _ H1 ?_)
  refine am_if_ne rfl (fun c3 => ?_) (fun c3 => ?_)
  · have H := it_neg c3 H
    refine am_aload_n rfl rfl ?_
    refine am_iload_n rfl rfl ?_
    refine am_iload_n rfl rfl ?_
    refine am_iload_n rfl rfl ?_
    obtain ⟨r4, g5, H1, H⟩ := bd2_some H
    refine cv3i v_9_234 rfl rfl (Nat.le_of_ble_eq_true rfl) rfl (Nat.le_of_ble_eq_true rfl) (fun _ _ => Nat.le_of_ble_eq_true rfl) (y_X9_against a1 a2 a3 g2 _ H1 ?_)
    refine am_istore rfl (Nat.le_of_ble_eq_true rfl) ?_
    refine am_iload rfl rfl ?_
    obtain ⟨s31, H1, H⟩ := bd_some H
    have K : (Sum.elim (fun (s8 : Int32 × G) => u_V m_X9_pair 2 post 39 [some (.ref 159), some (.int a1), some (.int a2), some (.int a3), some (.int a4), some (.int s8.1)] [] s8.2) (fun (q : Int32 × G) => post q.1 q.2)) s31 := by
      clear H1
      cases s31 with
      | inl s8 =>
        obtain ⟨x6, g7⟩ := s8
        (try dsimp only at H); (try dsimp only)
        refine am_iload rfl rfl ?_
        refine am_istore rfl (Nat.le_of_ble_eq_true rfl) ?_
        refine am_iload rfl rfl ?_
        refine am_if_le rfl (fun c9 => ?_) (fun c9 => ?_)
        · have H := it_pos c9 H
          refine am_aload_n rfl rfl ?_
          refine am_iload_n rfl rfl ?_
          refine am_iload rfl rfl ?_
          obtain ⟨s15, H1, H⟩ := bd_some H
          have K : (fun (s11 : Int32) => u_V m_X9_pair 2 post 71 [none, none, some (.int a2), some (.int a3), none, none] [.int s11, .int a1, .ref 159] g7) s15 := by
            clear H1
            obtain ⟨x10, e_x10⟩ : ∃ z, z = s15 := ⟨_, rfl⟩
            subst e_x10
            (try dsimp only at H); (try dsimp only)
            refine x_iconst (v := (5 : Int32)) rfl (by decide) ?_
            refine am_iload_n rfl rfl ?_
            refine am_imul rfl ?_
            refine am_iadd rfl ?_
            refine am_iload_n rfl rfl ?_
            refine am_iadd rfl ?_
            obtain ⟨r12, g13, H1, H⟩ := bd2_some H
            refine cv2i v_9_140 rfl rfl (Nat.le_of_ble_eq_true rfl) rfl (Nat.le_of_ble_eq_true rfl) (fun _ _ => Nat.le_of_ble_eq_true rfl) (y_X9_cell a1 ((x10 + ((5 : Int32) * a2)) + a3) g7 _ H1 ?_)
            have H := Option.some.inj H
            subst H
            exact u_iret rfl rfl K
          have H := H1
          clear H1
          refine am_if_ne rfl (fun c14 => ?_) (fun c14 => ?_)
          · have H := it_neg c14 H
            refine x_bipush (v := (80 : Int32)) rfl (by decide) ?_
            have H := Option.some.inj H
            subst H
            exact am_drop (L' := [none, none, some (.int a2), some (.int a3), none, none]) (And.intro rfl (And.intro rfl trivial)) K
          · have H := it_pos c14 H
            refine x_bipush (v := (50 : Int32)) rfl (by decide) ?_
            refine am_goto rfl ?_
            have H := Option.some.inj H
            subst H
            exact am_drop (L' := [none, none, some (.int a2), some (.int a3), none, none]) (And.intro rfl (And.intro rfl trivial)) K
        · have H := it_neg c9 H
          refine am_aload_n rfl rfl ?_
          refine am_iload rfl rfl ?_
          obtain ⟨r16, g17, H1, H⟩ := bd2_some H
          refine cv1i v_9_112 rfl rfl (Nat.le_of_ble_eq_true rfl) rfl (Nat.le_of_ble_eq_true rfl) (fun _ _ => Nat.le_of_ble_eq_true rfl) (y_X9_meets x6 g7 _ H1 ?_)
          refine am_goto rfl ?_
          have H := Option.some.inj H
          subst H
          exact u_iret rfl rfl K
      | inr y =>
        have H := Option.some.inj H
        subst H
        exact K
    have H := H1
    clear H1
    refine am_if_ne rfl (fun c18 => ?_) (fun c18 => ?_)
    · have H := it_neg c18 H
      have H := Option.some.inj H
      subst H
      exact am_drop (L' := [some (.ref 159), some (.int a1), some (.int a2), some (.int a3), some (.int a4), some (.int r4)]) (And.intro rfl (And.intro rfl (And.intro rfl (And.intro rfl (And.intro rfl (And.intro rfl trivial)))))) K
    · have H := it_pos c18 H
      refine am_iload rfl rfl ?_
      refine x_iconst (v := (0 : Int32)) rfl (by decide) ?_
      refine x_iconst (v := (1 : Int32)) rfl (by decide) ?_
      obtain ⟨r19, g20, H1, H⟩ := bd2_some H
      refine cs3i s_9_101 rfl rfl (Nat.le_of_ble_eq_true rfl) (fun _ _ => Nat.le_of_ble_eq_true rfl) (y_X9_in a4 (0 : Int32) (1 : Int32) g5 _ H1 ?_)
      refine am_if_ne rfl (fun c21 => ?_) (fun c21 => ?_)
      · have H := it_neg c21 H
        have H := Option.some.inj H
        subst H
        exact am_drop (L' := [some (.ref 159), some (.int a1), some (.int a2), some (.int a3), some (.int a4), some (.int r4)]) (And.intro rfl (And.intro rfl (And.intro rfl (And.intro rfl (And.intro rfl (And.intro rfl trivial)))))) K
      · have H := it_pos c21 H
        refine x_iconst (v := (2 : Int32)) rfl (by decide) ?_
        refine am_goto rfl ?_
        refine am_istore rfl (Nat.le_of_ble_eq_true rfl) ?_
        refine am_iload rfl rfl ?_
        refine am_if_le rfl (fun c22 => ?_) (fun c22 => ?_)
        · have H := it_pos c22 H
          refine am_aload_n rfl rfl ?_
          refine am_iload_n rfl rfl ?_
          refine am_iload rfl rfl ?_
          obtain ⟨s28, H1, H⟩ := bd_some H
          have K : (fun (s24 : Int32) => u_V m_X9_pair 2 post 71 [none, none, some (.int a2), some (.int a3), none, none] [.int s24, .int a1, .ref 159] g20) s28 := by
            clear H1
            obtain ⟨x23, e_x23⟩ : ∃ z, z = s28 := ⟨_, rfl⟩
            subst e_x23
            (try dsimp only at H); (try dsimp only)
            refine x_iconst (v := (5 : Int32)) rfl (by decide) ?_
            refine am_iload_n rfl rfl ?_
            refine am_imul rfl ?_
            refine am_iadd rfl ?_
            refine am_iload_n rfl rfl ?_
            refine am_iadd rfl ?_
            obtain ⟨r25, g26, H1, H⟩ := bd2_some H
            refine cv2i v_9_140 rfl rfl (Nat.le_of_ble_eq_true rfl) rfl (Nat.le_of_ble_eq_true rfl) (fun _ _ => Nat.le_of_ble_eq_true rfl) (y_X9_cell a1 ((x23 + ((5 : Int32) * a2)) + a3) g20 _ H1 ?_)
            have H := Option.some.inj H
            subst H
            exact u_iret rfl rfl K
          have H := H1
          clear H1
          refine am_if_ne rfl (fun c27 => ?_) (fun c27 => ?_)
          · have H := it_neg c27 H
            refine x_bipush (v := (80 : Int32)) rfl (by decide) ?_
            have H := Option.some.inj H
            subst H
            exact am_drop (L' := [none, none, some (.int a2), some (.int a3), none, none]) (And.intro rfl (And.intro rfl trivial)) K
          · have H := it_pos c27 H
            refine x_bipush (v := (50 : Int32)) rfl (by decide) ?_
            refine am_goto rfl ?_
            have H := Option.some.inj H
            subst H
            exact am_drop (L' := [none, none, some (.int a2), some (.int a3), none, none]) (And.intro rfl (And.intro rfl trivial)) K
        · have H := it_neg c22 H
          refine am_aload_n rfl rfl ?_
          refine am_iload rfl rfl ?_
          obtain ⟨r29, g30, H1, H⟩ := bd2_some H
          refine cv1i v_9_112 rfl rfl (Nat.le_of_ble_eq_true rfl) rfl (Nat.le_of_ble_eq_true rfl) (fun _ _ => Nat.le_of_ble_eq_true rfl) (y_X9_meets (2 : Int32) g20 _ H1 ?_)
          refine am_goto rfl ?_
          have H := Option.some.inj H
          subst H
          exact u_iret rfl rfl K
  · have H := it_pos c3 H
    refine x_bipush (v := (-2 : Int32)) rfl (by decide) ?_
    have H := Option.some.inj H
    subst H
    exact u_iret rfl rfl K
def f_X9_round (a1 : Int32) (a2 : Int32) (a3 : Int32) (g : G) : Option (Int32 × G) := bd2 (f_X9_isTournament a1 g) fun r1 g2 => if r1 = 0 then some (((-2 : Int32), g2)) else bd2 (f_X9_in a3 (0 : Int32) (3 : Int32) g2) fun r4 g5 => if r4 = 0 then some (((-2 : Int32), g5)) else bd2 (f_X9_against a1 a2 (0 : Int32) g5) fun r7 g8 => if r7 ≤ 0 then bd ((if a3 = 0 then some ((26 : Int32)) else if a3 = (1 : Int32) then some ((32 : Int32)) else if a3 = (2 : Int32) then some ((38 : Int32)) else some ((44 : Int32)) : Option (Int32))) fun (s11 : Int32) => bd2 (f_X9_cell a1 (s11 + a2) g8) fun r12 g13 => some ((r12, g13)) else bd2 (f_X9_meets r7 g8) fun r18 g19 => some ((r18, g19))
set_option maxHeartbeats 4000000 in
set_option maxRecDepth 100000 in
theorem y_X9_round (a1 : Int32) (a2 : Int32) (a3 : Int32)  (g : G) (q : Int32 × G) {post : Int32 → G → Prop} (H : f_X9_round a1 a2 a3 g = some q) (K : post q.1 q.2) : Y m_X9_round 2 [.ref 159, .int a1, .int a2, .int a3] g post := by
  refine Y_of ok_X9_round pn_9 rfl (by decide) (Or.inr (Or.inl rfl)) (List.forall_mem_cons.mpr ⟨rfl, (List.forall_mem_cons.mpr ⟨rfl, (List.forall_mem_cons.mpr ⟨rfl, (List.forall_mem_cons.mpr ⟨rfl, (fun _ h => absurd h List.not_mem_nil)⟩)⟩)⟩)⟩) (Nat.le_of_ble_eq_true rfl) ?_
  show u_V m_X9_round 2 post 0 [some (.ref 159), some (.int a1), some (.int a2), some (.int a3), none] [] g
  unfold f_X9_round at H
  refine am_aload_n rfl rfl ?_
  refine am_iload_n rfl rfl ?_
  obtain ⟨r1, g2, H1, H⟩ := bd2_some H
  refine cv1i v_9_144 rfl rfl (Nat.le_of_ble_eq_true rfl) rfl (Nat.le_of_ble_eq_true rfl) (fun _ _ => Nat.le_of_ble_eq_true rfl) (y_X9_isTournament a1 g _ H1 ?_)
  refine am_if_eq rfl (fun c3 => ?_) (fun c3 => ?_)
  · have H := it_pos c3 H
    refine x_bipush (v := (-2 : Int32)) rfl (by decide) ?_
    have H := Option.some.inj H
    subst H
    exact u_iret rfl rfl K
  · have H := it_neg c3 H
    refine am_iload_n rfl rfl ?_
    refine x_iconst (v := (0 : Int32)) rfl (by decide) ?_
    refine x_iconst (v := (3 : Int32)) rfl (by decide) ?_
    obtain ⟨r4, g5, H1, H⟩ := bd2_some H
    refine cs3i s_9_101 rfl rfl (Nat.le_of_ble_eq_true rfl) (fun _ _ => Nat.le_of_ble_eq_true rfl) (y_X9_in a3 (0 : Int32) (3 : Int32) g2 _ H1 ?_)
    refine am_if_ne rfl (fun c6 => ?_) (fun c6 => ?_)
    · have H := it_neg c6 H
      refine am_aload_n rfl rfl ?_
      refine am_iload_n rfl rfl ?_
      refine am_iload_n rfl rfl ?_
      refine x_iconst (v := (0 : Int32)) rfl (by decide) ?_
      obtain ⟨r7, g8, H1, H⟩ := bd2_some H
      refine cv3i v_9_234 rfl rfl (Nat.le_of_ble_eq_true rfl) rfl (Nat.le_of_ble_eq_true rfl) (fun _ _ => Nat.le_of_ble_eq_true rfl) (y_X9_against a1 a2 (0 : Int32) g5 _ H1 ?_)
      refine am_istore rfl (Nat.le_of_ble_eq_true rfl) ?_
      refine am_iload rfl rfl ?_
      refine am_if_le rfl (fun c9 => ?_) (fun c9 => ?_)
      · have H := it_pos c9 H
        refine am_aload_n rfl rfl ?_
        refine am_iload_n rfl rfl ?_
        refine am_iload_n rfl rfl ?_
        obtain ⟨s17, H1, H⟩ := bd_some H
        have K : (fun (s11 : Int32) => u_V m_X9_round 2 post 76 [none, none, some (.int a2), none, none] [.int s11, .int a1, .ref 159] g8) s17 := by
          clear H1
          obtain ⟨x10, e_x10⟩ : ∃ z, z = s17 := ⟨_, rfl⟩
          subst e_x10
          (try dsimp only at H); (try dsimp only)
          refine am_iload_n rfl rfl ?_
          refine am_iadd rfl ?_
          obtain ⟨r12, g13, H1, H⟩ := bd2_some H
          refine cv2i v_9_140 rfl rfl (Nat.le_of_ble_eq_true rfl) rfl (Nat.le_of_ble_eq_true rfl) (fun _ _ => Nat.le_of_ble_eq_true rfl) (y_X9_cell a1 (x10 + a2) g8 _ H1 ?_)
          have H := Option.some.inj H
          subst H
          exact u_iret rfl rfl K
        have H := H1
        clear H1
        refine am_if_ne rfl (fun c14 => ?_) (fun c14 => ?_)
        · have H := it_neg c14 H
          refine am_iload_n rfl rfl ?_
          refine x_iconst (v := (1 : Int32)) rfl (by decide) ?_
          refine am_icmp_ne rfl (fun c15 => ?_) (fun c15 => ?_)
          · have H := it_neg c15 H
            refine am_iload_n rfl rfl ?_
            refine x_iconst (v := (2 : Int32)) rfl (by decide) ?_
            refine am_icmp_ne rfl (fun c16 => ?_) (fun c16 => ?_)
            · have H := it_neg c16 H
              refine x_bipush (v := (44 : Int32)) rfl (by decide) ?_
              have H := Option.some.inj H
              subst H
              exact am_drop (L' := [none, none, some (.int a2), none, none]) (And.intro rfl trivial) K
            · have H := it_pos c16 H
              refine x_bipush (v := (38 : Int32)) rfl (by decide) ?_
              refine am_goto rfl ?_
              have H := Option.some.inj H
              subst H
              exact am_drop (L' := [none, none, some (.int a2), none, none]) (And.intro rfl trivial) K
          · have H := it_pos c15 H
            refine x_bipush (v := (32 : Int32)) rfl (by decide) ?_
            refine am_goto rfl ?_
            have H := Option.some.inj H
            subst H
            exact am_drop (L' := [none, none, some (.int a2), none, none]) (And.intro rfl trivial) K
        · have H := it_pos c14 H
          refine x_bipush (v := (26 : Int32)) rfl (by decide) ?_
          refine am_goto rfl ?_
          have H := Option.some.inj H
          subst H
          exact am_drop (L' := [none, none, some (.int a2), none, none]) (And.intro rfl trivial) K
      · have H := it_neg c9 H
        refine am_aload_n rfl rfl ?_
        refine am_iload rfl rfl ?_
        obtain ⟨r18, g19, H1, H⟩ := bd2_some H
        refine cv1i v_9_112 rfl rfl (Nat.le_of_ble_eq_true rfl) rfl (Nat.le_of_ble_eq_true rfl) (fun _ _ => Nat.le_of_ble_eq_true rfl) (y_X9_meets r7 g8 _ H1 ?_)
        refine am_goto rfl ?_
        have H := Option.some.inj H
        subst H
        exact u_iret rfl rfl K
    · have H := it_pos c6 H
      refine x_bipush (v := (-2 : Int32)) rfl (by decide) ?_
      have H := Option.some.inj H
      subst H
      exact u_iret rfl rfl K
def f_X9_tell (a1 : Int32) (a2 : Int32) (a3 : Int32) (a4 : Int32) (a5 : Int32) (a6 : Int32) (g : G) : Option (Int32 × G) := bd2 (f_X9_isTournament a1 g) fun r1 g2 => if r1 = 0 then some (((-2 : Int32), g2)) else bd2 (f_X9_in a4 (0 : Int32) (6 : Int32) g2) fun r4 g5 => if r4 = 0 then some (((-2 : Int32), g5)) else if a5 < 0 then some (((-2 : Int32), g5)) else if 0 ≤ a6 then bd2 (f_X9_against a1 a2 a3 g5) fun r9 g10 => if r9 ≤ 0 then bd2 (f_X9_isWithNobody a1 (((5 : Int32) * a2) + a3) g10) fun r12 g13 => if r12 = 0 then bd2 (f_X9_cell a1 (110 : Int32) g13) fun r15 g16 => if r15 = (60 : Int32) then some (((-4 : Int32), g16)) else bd2 (f_X9_lay a1 ((111 : Int32) + r15) (((5 : Int32) * a2) + a3) g16) fun r18 g19 => bd2 (f_X9_lay a1 ((171 : Int32) + r15) a4 g19) fun r20 g21 => bd2 (f_X9_lay a1 ((231 : Int32) + r15) a5 g21) fun r22 g23 => bd2 (f_X9_lay a1 ((291 : Int32) + r15) a6 g23) fun r24 g25 => bd2 (f_X9_lay a1 (110 : Int32) (r15 + (1 : Int32)) g25) fun r26 g27 => some ((r15, g27)) else some (((-3 : Int32), g13)) else bd2 (f_X9_meets r9 g10) fun r28 g29 => some ((r28, g29)) else some (((-2 : Int32), g5))
set_option maxHeartbeats 4000000 in
set_option maxRecDepth 100000 in
theorem y_X9_tell (a1 : Int32) (a2 : Int32) (a3 : Int32) (a4 : Int32) (a5 : Int32) (a6 : Int32)  (g : G) (q : Int32 × G) {post : Int32 → G → Prop} (H : f_X9_tell a1 a2 a3 a4 a5 a6 g = some q) (K : post q.1 q.2) : Y m_X9_tell 2 [.ref 159, .int a1, .int a2, .int a3, .int a4, .int a5, .int a6] g post := by
  refine Y_of ok_X9_tell pn_9 rfl (by decide) (Or.inr (Or.inl rfl)) (List.forall_mem_cons.mpr ⟨rfl, (List.forall_mem_cons.mpr ⟨rfl, (List.forall_mem_cons.mpr ⟨rfl, (List.forall_mem_cons.mpr ⟨rfl, (List.forall_mem_cons.mpr ⟨rfl, (List.forall_mem_cons.mpr ⟨rfl, (List.forall_mem_cons.mpr ⟨rfl, (fun _ h => absurd h List.not_mem_nil)⟩)⟩)⟩)⟩)⟩)⟩)⟩) (Nat.le_of_ble_eq_true rfl) ?_
  show u_V m_X9_tell 2 post 0 [some (.ref 159), some (.int a1), some (.int a2), some (.int a3), some (.int a4), some (.int a5), some (.int a6), none, none] [] g
  unfold f_X9_tell at H
  refine am_aload_n rfl rfl ?_
  refine am_iload_n rfl rfl ?_
  obtain ⟨r1, g2, H1, H⟩ := bd2_some H
  refine cv1i v_9_144 rfl rfl (Nat.le_of_ble_eq_true rfl) rfl (Nat.le_of_ble_eq_true rfl) (fun _ _ => Nat.le_of_ble_eq_true rfl) (y_X9_isTournament a1 g _ H1 ?_)
  refine am_if_eq rfl (fun c3 => ?_) (fun c3 => ?_)
  · have H := it_pos c3 H
    refine x_bipush (v := (-2 : Int32)) rfl (by decide) ?_
    have H := Option.some.inj H
    subst H
    exact u_iret rfl rfl K
  · have H := it_neg c3 H
    refine am_iload rfl rfl ?_
    refine x_iconst (v := (0 : Int32)) rfl (by decide) ?_
    refine x_bipush (v := (6 : Int32)) rfl (by decide) ?_
    obtain ⟨r4, g5, H1, H⟩ := bd2_some H
    refine cs3i s_9_101 rfl rfl (Nat.le_of_ble_eq_true rfl) (fun _ _ => Nat.le_of_ble_eq_true rfl) (y_X9_in a4 (0 : Int32) (6 : Int32) g2 _ H1 ?_)
    refine am_if_eq rfl (fun c6 => ?_) (fun c6 => ?_)
    · have H := it_pos c6 H
      refine x_bipush (v := (-2 : Int32)) rfl (by decide) ?_
      have H := Option.some.inj H
      subst H
      exact u_iret rfl rfl K
    · have H := it_neg c6 H
      refine am_iload rfl rfl ?_
      refine am_if_lt rfl (fun c7 => ?_) (fun c7 => ?_)
      · have H := it_pos c7 H
        refine x_bipush (v := (-2 : Int32)) rfl (by decide) ?_
        have H := Option.some.inj H
        subst H
        exact u_iret rfl rfl K
      · have H := it_neg c7 H
        refine am_iload rfl rfl ?_
        refine am_if_ge rfl (fun c8 => ?_) (fun c8 => ?_)
        · have H := it_pos c8 H
          refine am_aload_n rfl rfl ?_
          refine am_iload_n rfl rfl ?_
          refine am_iload_n rfl rfl ?_
          refine am_iload_n rfl rfl ?_
          obtain ⟨r9, g10, H1, H⟩ := bd2_some H
          refine cv3i v_9_234 rfl rfl (Nat.le_of_ble_eq_true rfl) rfl (Nat.le_of_ble_eq_true rfl) (fun _ _ => Nat.le_of_ble_eq_true rfl) (y_X9_against a1 a2 a3 g5 _ H1 ?_)
          refine am_istore rfl (Nat.le_of_ble_eq_true rfl) ?_
          refine am_iload rfl rfl ?_
          refine am_if_le rfl (fun c11 => ?_) (fun c11 => ?_)
          · have H := it_pos c11 H
            refine am_aload_n rfl rfl ?_
            refine am_iload_n rfl rfl ?_
            refine x_iconst (v := (5 : Int32)) rfl (by decide) ?_
            refine am_iload_n rfl rfl ?_
            refine am_imul rfl ?_
            refine am_iload_n rfl rfl ?_
            refine am_iadd rfl ?_
            obtain ⟨r12, g13, H1, H⟩ := bd2_some H
            refine cv2i v_9_161 rfl rfl (Nat.le_of_ble_eq_true rfl) rfl (Nat.le_of_ble_eq_true rfl) (fun _ _ => Nat.le_of_ble_eq_true rfl) (y_X9_isWithNobody a1 (((5 : Int32) * a2) + a3) g10 _ H1 ?_)
            refine am_if_eq rfl (fun c14 => ?_) (fun c14 => ?_)
            · have H := it_pos c14 H
              refine am_aload_n rfl rfl ?_
              refine am_iload_n rfl rfl ?_
              refine x_bipush (v := (110 : Int32)) rfl (by decide) ?_
              obtain ⟨r15, g16, H1, H⟩ := bd2_some H
              refine cv2i v_9_140 rfl rfl (Nat.le_of_ble_eq_true rfl) rfl (Nat.le_of_ble_eq_true rfl) (fun _ _ => Nat.le_of_ble_eq_true rfl) (y_X9_cell a1 (110 : Int32) g13 _ H1 ?_)
              refine am_istore rfl (Nat.le_of_ble_eq_true rfl) ?_
              refine am_iload rfl rfl ?_
              refine x_bipush (v := (60 : Int32)) rfl (by decide) ?_
              refine am_icmp_ne rfl (fun c17 => ?_) (fun c17 => ?_)
              · have H := it_neg c17 H
                refine am_aload_n rfl rfl ?_
                refine am_iload_n rfl rfl ?_
                refine x_bipush (v := (111 : Int32)) rfl (by decide) ?_
                refine am_iload rfl rfl ?_
                refine am_iadd rfl ?_
                refine x_iconst (v := (5 : Int32)) rfl (by decide) ?_
                refine am_iload_n rfl rfl ?_
                refine am_imul rfl ?_
                refine am_iload_n rfl rfl ?_
                refine am_iadd rfl ?_
                obtain ⟨r18, g19, H1, H⟩ := bd2_some H
                refine cv3v v_9_129 rfl rfl (Nat.le_of_ble_eq_true rfl) rfl (Nat.le_of_ble_eq_true rfl) (fun _ _ => Nat.le_of_ble_eq_true rfl) (y_X9_lay a1 ((111 : Int32) + r15) (((5 : Int32) * a2) + a3) g16 _ H1 ?_)
                refine am_aload_n rfl rfl ?_
                refine am_iload_n rfl rfl ?_
                refine x_sipush (v := (171 : Int32)) rfl (by decide) ?_
                refine am_iload rfl rfl ?_
                refine am_iadd rfl ?_
                refine am_iload rfl rfl ?_
                obtain ⟨r20, g21, H1, H⟩ := bd2_some H
                refine cv3v v_9_129 rfl rfl (Nat.le_of_ble_eq_true rfl) rfl (Nat.le_of_ble_eq_true rfl) (fun _ _ => Nat.le_of_ble_eq_true rfl) (y_X9_lay a1 ((171 : Int32) + r15) a4 g19 _ H1 ?_)
                refine am_aload_n rfl rfl ?_
                refine am_iload_n rfl rfl ?_
                refine x_sipush (v := (231 : Int32)) rfl (by decide) ?_
                refine am_iload rfl rfl ?_
                refine am_iadd rfl ?_
                refine am_iload rfl rfl ?_
                obtain ⟨r22, g23, H1, H⟩ := bd2_some H
                refine cv3v v_9_129 rfl rfl (Nat.le_of_ble_eq_true rfl) rfl (Nat.le_of_ble_eq_true rfl) (fun _ _ => Nat.le_of_ble_eq_true rfl) (y_X9_lay a1 ((231 : Int32) + r15) a5 g21 _ H1 ?_)
                refine am_aload_n rfl rfl ?_
                refine am_iload_n rfl rfl ?_
                refine x_sipush (v := (291 : Int32)) rfl (by decide) ?_
                refine am_iload rfl rfl ?_
                refine am_iadd rfl ?_
                refine am_iload rfl rfl ?_
                obtain ⟨r24, g25, H1, H⟩ := bd2_some H
                refine cv3v v_9_129 rfl rfl (Nat.le_of_ble_eq_true rfl) rfl (Nat.le_of_ble_eq_true rfl) (fun _ _ => Nat.le_of_ble_eq_true rfl) (y_X9_lay a1 ((291 : Int32) + r15) a6 g23 _ H1 ?_)
                refine am_aload_n rfl rfl ?_
                refine am_iload_n rfl rfl ?_
                refine x_bipush (v := (110 : Int32)) rfl (by decide) ?_
                refine am_iload rfl rfl ?_
                refine x_iconst (v := (1 : Int32)) rfl (by decide) ?_
                refine am_iadd rfl ?_
                obtain ⟨r26, g27, H1, H⟩ := bd2_some H
                refine cv3v v_9_129 rfl rfl (Nat.le_of_ble_eq_true rfl) rfl (Nat.le_of_ble_eq_true rfl) (fun _ _ => Nat.le_of_ble_eq_true rfl) (y_X9_lay a1 (110 : Int32) (r15 + (1 : Int32)) g25 _ H1 ?_)
                refine am_iload rfl rfl ?_
                have H := Option.some.inj H
                subst H
                exact u_iret rfl rfl K
              · have H := it_pos c17 H
                refine x_bipush (v := (-4 : Int32)) rfl (by decide) ?_
                have H := Option.some.inj H
                subst H
                exact u_iret rfl rfl K
            · have H := it_neg c14 H
              refine x_bipush (v := (-3 : Int32)) rfl (by decide) ?_
              have H := Option.some.inj H
              subst H
              exact u_iret rfl rfl K
          · have H := it_neg c11 H
            refine am_aload_n rfl rfl ?_
            refine am_iload rfl rfl ?_
            obtain ⟨r28, g29, H1, H⟩ := bd2_some H
            refine cv1i v_9_112 rfl rfl (Nat.le_of_ble_eq_true rfl) rfl (Nat.le_of_ble_eq_true rfl) (fun _ _ => Nat.le_of_ble_eq_true rfl) (y_X9_meets r9 g10 _ H1 ?_)
            have H := Option.some.inj H
            subst H
            exact u_iret rfl rfl K
        · have H := it_neg c8 H
          refine x_bipush (v := (-2 : Int32)) rfl (by decide) ?_
          have H := Option.some.inj H
          subst H
          exact u_iret rfl rfl K
def f_X9_takeBack (a1 : Int32) (a2 : Int32) (a3 : Int32) (g : G) : Option (Int32 × G) := bd2 (f_X9_isTournament a1 g) fun r1 g2 => if r1 = 0 then some (((-2 : Int32), g2)) else bd2 (f_X9_cell a1 (110 : Int32) g2) fun r4 g5 => bd2 (f_X9_in a2 (0 : Int32) (r4 - (1 : Int32)) g5) fun r6 g7 => if r6 = 0 then some (((-2 : Int32), g7)) else if a3 < 0 then some (((-2 : Int32), g7)) else bd2 (f_X9_cell a1 ((291 : Int32) + a2) g7) fun r10 g11 => if r10 ≤ a3 then bd2 (f_X9_cell a1 ((351 : Int32) + a2) g11) fun r13 g14 => if r13 = 0 then bd2 (f_X9_lay a1 ((351 : Int32) + a2) (a3 + (1 : Int32)) g14) fun r16 g17 => some (((1 : Int32), g17)) else some (((-3 : Int32), g14)) else some (((-2 : Int32), g11))
set_option maxHeartbeats 4000000 in
set_option maxRecDepth 100000 in
theorem y_X9_takeBack (a1 : Int32) (a2 : Int32) (a3 : Int32)  (g : G) (q : Int32 × G) {post : Int32 → G → Prop} (H : f_X9_takeBack a1 a2 a3 g = some q) (K : post q.1 q.2) : Y m_X9_takeBack 2 [.ref 159, .int a1, .int a2, .int a3] g post := by
  refine Y_of ok_X9_takeBack pn_9 rfl (by decide) (Or.inr (Or.inl rfl)) (List.forall_mem_cons.mpr ⟨rfl, (List.forall_mem_cons.mpr ⟨rfl, (List.forall_mem_cons.mpr ⟨rfl, (List.forall_mem_cons.mpr ⟨rfl, (fun _ h => absurd h List.not_mem_nil)⟩)⟩)⟩)⟩) (Nat.le_of_ble_eq_true rfl) ?_
  show u_V m_X9_takeBack 2 post 0 [some (.ref 159), some (.int a1), some (.int a2), some (.int a3)] [] g
  unfold f_X9_takeBack at H
  refine am_aload_n rfl rfl ?_
  refine am_iload_n rfl rfl ?_
  obtain ⟨r1, g2, H1, H⟩ := bd2_some H
  refine cv1i v_9_144 rfl rfl (Nat.le_of_ble_eq_true rfl) rfl (Nat.le_of_ble_eq_true rfl) (fun _ _ => Nat.le_of_ble_eq_true rfl) (y_X9_isTournament a1 g _ H1 ?_)
  refine am_if_eq rfl (fun c3 => ?_) (fun c3 => ?_)
  · have H := it_pos c3 H
    refine x_bipush (v := (-2 : Int32)) rfl (by decide) ?_
    have H := Option.some.inj H
    subst H
    exact u_iret rfl rfl K
  · have H := it_neg c3 H
    refine am_iload_n rfl rfl ?_
    refine x_iconst (v := (0 : Int32)) rfl (by decide) ?_
    refine am_aload_n rfl rfl ?_
    refine am_iload_n rfl rfl ?_
    refine x_bipush (v := (110 : Int32)) rfl (by decide) ?_
    obtain ⟨r4, g5, H1, H⟩ := bd2_some H
    refine cv2i v_9_140 rfl rfl (Nat.le_of_ble_eq_true rfl) rfl (Nat.le_of_ble_eq_true rfl) (fun _ _ => Nat.le_of_ble_eq_true rfl) (y_X9_cell a1 (110 : Int32) g2 _ H1 ?_)
    refine x_iconst (v := (1 : Int32)) rfl (by decide) ?_
    refine am_isub rfl ?_
    obtain ⟨r6, g7, H1, H⟩ := bd2_some H
    refine cs3i s_9_101 rfl rfl (Nat.le_of_ble_eq_true rfl) (fun _ _ => Nat.le_of_ble_eq_true rfl) (y_X9_in a2 (0 : Int32) (r4 - (1 : Int32)) g5 _ H1 ?_)
    refine am_if_eq rfl (fun c8 => ?_) (fun c8 => ?_)
    · have H := it_pos c8 H
      refine x_bipush (v := (-2 : Int32)) rfl (by decide) ?_
      have H := Option.some.inj H
      subst H
      exact u_iret rfl rfl K
    · have H := it_neg c8 H
      refine am_iload_n rfl rfl ?_
      refine am_if_lt rfl (fun c9 => ?_) (fun c9 => ?_)
      · have H := it_pos c9 H
        refine x_bipush (v := (-2 : Int32)) rfl (by decide) ?_
        have H := Option.some.inj H
        subst H
        exact u_iret rfl rfl K
      · have H := it_neg c9 H
        refine am_iload_n rfl rfl ?_
        refine am_aload_n rfl rfl ?_
        refine am_iload_n rfl rfl ?_
        refine x_sipush (v := (291 : Int32)) rfl (by decide) ?_
        refine am_iload_n rfl rfl ?_
        refine am_iadd rfl ?_
        obtain ⟨r10, g11, H1, H⟩ := bd2_some H
        refine cv2i v_9_140 rfl rfl (Nat.le_of_ble_eq_true rfl) rfl (Nat.le_of_ble_eq_true rfl) (fun _ _ => Nat.le_of_ble_eq_true rfl) (y_X9_cell a1 ((291 : Int32) + a2) g7 _ H1 ?_)
        refine am_icmp_ge rfl (fun c12 => ?_) (fun c12 => ?_)
        · have H := it_pos c12 H
          refine am_aload_n rfl rfl ?_
          refine am_iload_n rfl rfl ?_
          refine x_sipush (v := (351 : Int32)) rfl (by decide) ?_
          refine am_iload_n rfl rfl ?_
          refine am_iadd rfl ?_
          obtain ⟨r13, g14, H1, H⟩ := bd2_some H
          refine cv2i v_9_140 rfl rfl (Nat.le_of_ble_eq_true rfl) rfl (Nat.le_of_ble_eq_true rfl) (fun _ _ => Nat.le_of_ble_eq_true rfl) (y_X9_cell a1 ((351 : Int32) + a2) g11 _ H1 ?_)
          refine am_if_eq rfl (fun c15 => ?_) (fun c15 => ?_)
          · have H := it_pos c15 H
            refine am_aload_n rfl rfl ?_
            refine am_iload_n rfl rfl ?_
            refine x_sipush (v := (351 : Int32)) rfl (by decide) ?_
            refine am_iload_n rfl rfl ?_
            refine am_iadd rfl ?_
            refine am_iload_n rfl rfl ?_
            refine x_iconst (v := (1 : Int32)) rfl (by decide) ?_
            refine am_iadd rfl ?_
            obtain ⟨r16, g17, H1, H⟩ := bd2_some H
            refine cv3v v_9_129 rfl rfl (Nat.le_of_ble_eq_true rfl) rfl (Nat.le_of_ble_eq_true rfl) (fun _ _ => Nat.le_of_ble_eq_true rfl) (y_X9_lay a1 ((351 : Int32) + a2) (a3 + (1 : Int32)) g14 _ H1 ?_)
            refine x_iconst (v := (1 : Int32)) rfl (by decide) ?_
            have H := Option.some.inj H
            subst H
            exact u_iret rfl rfl K
          · have H := it_neg c15 H
            refine x_bipush (v := (-3 : Int32)) rfl (by decide) ?_
            have H := Option.some.inj H
            subst H
            exact u_iret rfl rfl K
        · have H := it_neg c12 H
          refine x_bipush (v := (-2 : Int32)) rfl (by decide) ?_
          have H := Option.some.inj H
          subst H
          exact u_iret rfl rfl K
def f_X9_counts (a1 : Int32) (a2 : Int32) (a3 : Int32) (a4 : Int32) (g : G) : Option (Int32 × G) := bd2 (f_X9_isTournament a1 g) fun r1 g2 => if r1 = 0 then some (((-2 : Int32), g2)) else if 0 ≤ a4 then bd2 (f_X9_against a1 a2 a3 g2) fun r5 g6 => if r5 ≤ 0 then bd2 (f_X9_entryOf a1 (((5 : Int32) * a2) + a3) a4 g6) fun r8 g9 => some ((r8, g9)) else bd2 (f_X9_meets r5 g6) fun r10 g11 => some ((r10, g11)) else some (((-2 : Int32), g2))
set_option maxHeartbeats 4000000 in
set_option maxRecDepth 100000 in
theorem y_X9_counts (a1 : Int32) (a2 : Int32) (a3 : Int32) (a4 : Int32)  (g : G) (q : Int32 × G) {post : Int32 → G → Prop} (H : f_X9_counts a1 a2 a3 a4 g = some q) (K : post q.1 q.2) : Y m_X9_counts 2 [.ref 159, .int a1, .int a2, .int a3, .int a4] g post := by
  refine Y_of ok_X9_counts pn_9 rfl (by decide) (Or.inr (Or.inl rfl)) (List.forall_mem_cons.mpr ⟨rfl, (List.forall_mem_cons.mpr ⟨rfl, (List.forall_mem_cons.mpr ⟨rfl, (List.forall_mem_cons.mpr ⟨rfl, (List.forall_mem_cons.mpr ⟨rfl, (fun _ h => absurd h List.not_mem_nil)⟩)⟩)⟩)⟩)⟩) (Nat.le_of_ble_eq_true rfl) ?_
  show u_V m_X9_counts 2 post 0 [some (.ref 159), some (.int a1), some (.int a2), some (.int a3), some (.int a4), none] [] g
  unfold f_X9_counts at H
  refine am_aload_n rfl rfl ?_
  refine am_iload_n rfl rfl ?_
  obtain ⟨r1, g2, H1, H⟩ := bd2_some H
  refine cv1i v_9_144 rfl rfl (Nat.le_of_ble_eq_true rfl) rfl (Nat.le_of_ble_eq_true rfl) (fun _ _ => Nat.le_of_ble_eq_true rfl) (y_X9_isTournament a1 g _ H1 ?_)
  refine am_if_eq rfl (fun c3 => ?_) (fun c3 => ?_)
  · have H := it_pos c3 H
    refine x_bipush (v := (-2 : Int32)) rfl (by decide) ?_
    have H := Option.some.inj H
    subst H
    exact u_iret rfl rfl K
  · have H := it_neg c3 H
    refine am_iload rfl rfl ?_
    refine am_if_ge rfl (fun c4 => ?_) (fun c4 => ?_)
    · have H := it_pos c4 H
      refine am_aload_n rfl rfl ?_
      refine am_iload_n rfl rfl ?_
      refine am_iload_n rfl rfl ?_
      refine am_iload_n rfl rfl ?_
      obtain ⟨r5, g6, H1, H⟩ := bd2_some H
      refine cv3i v_9_234 rfl rfl (Nat.le_of_ble_eq_true rfl) rfl (Nat.le_of_ble_eq_true rfl) (fun _ _ => Nat.le_of_ble_eq_true rfl) (y_X9_against a1 a2 a3 g2 _ H1 ?_)
      refine am_istore rfl (Nat.le_of_ble_eq_true rfl) ?_
      refine am_iload rfl rfl ?_
      refine am_if_le rfl (fun c7 => ?_) (fun c7 => ?_)
      · have H := it_pos c7 H
        refine am_aload_n rfl rfl ?_
        refine am_iload_n rfl rfl ?_
        refine x_iconst (v := (5 : Int32)) rfl (by decide) ?_
        refine am_iload_n rfl rfl ?_
        refine am_imul rfl ?_
        refine am_iload_n rfl rfl ?_
        refine am_iadd rfl ?_
        refine am_iload rfl rfl ?_
        obtain ⟨r8, g9, H1, H⟩ := bd2_some H
        refine cv3i v_9_154 rfl rfl (Nat.le_of_ble_eq_true rfl) rfl (Nat.le_of_ble_eq_true rfl) (fun _ _ => Nat.le_of_ble_eq_true rfl) (y_X9_entryOf a1 (((5 : Int32) * a2) + a3) a4 g6 _ H1 ?_)
        have H := Option.some.inj H
        subst H
        exact u_iret rfl rfl K
      · have H := it_neg c7 H
        refine am_aload_n rfl rfl ?_
        refine am_iload rfl rfl ?_
        obtain ⟨r10, g11, H1, H⟩ := bd2_some H
        refine cv1i v_9_112 rfl rfl (Nat.le_of_ble_eq_true rfl) rfl (Nat.le_of_ble_eq_true rfl) (fun _ _ => Nat.le_of_ble_eq_true rfl) (y_X9_meets r5 g6 _ H1 ?_)
        refine am_goto rfl ?_
        have H := Option.some.inj H
        subst H
        exact u_iret rfl rfl K
    · have H := it_neg c4 H
      refine x_bipush (v := (-2 : Int32)) rfl (by decide) ?_
      have H := Option.some.inj H
      subst H
      exact u_iret rfl rfl K
def f_X9_refused (a1 : Int32) (a2 : Int32) (a3 : Int32) (a4 : Int32) (g : G) : Option (Int32 × G) := bd2 (f_X9_isTournament a1 g) fun r1 g2 => if r1 = 0 then some (((-2 : Int32), g2)) else bd2 (f_X9_isPlayer a2 g2) fun r4 g5 => if r4 = 0 then some (((-2 : Int32), g5)) else if a3 < 0 then some (((-2 : Int32), g5)) else if 0 ≤ a4 then bd2 (f_X9_placeOf a1 a2 g5) fun r9 g10 => if r9 = (-1 : Int32) then some (((-3 : Int32), g10)) else some (((0 : Int32), g10)) else some (((-2 : Int32), g5))
set_option maxHeartbeats 4000000 in
set_option maxRecDepth 100000 in
theorem y_X9_refused (a1 : Int32) (a2 : Int32) (a3 : Int32) (a4 : Int32)  (g : G) (q : Int32 × G) {post : Int32 → G → Prop} (H : f_X9_refused a1 a2 a3 a4 g = some q) (K : post q.1 q.2) : Y m_X9_refused 2 [.ref 159, .int a1, .int a2, .int a3, .int a4] g post := by
  refine Y_of ok_X9_refused pn_9 rfl (by decide) (Or.inr (Or.inl rfl)) (List.forall_mem_cons.mpr ⟨rfl, (List.forall_mem_cons.mpr ⟨rfl, (List.forall_mem_cons.mpr ⟨rfl, (List.forall_mem_cons.mpr ⟨rfl, (List.forall_mem_cons.mpr ⟨rfl, (fun _ h => absurd h List.not_mem_nil)⟩)⟩)⟩)⟩)⟩) (Nat.le_of_ble_eq_true rfl) ?_
  show u_V m_X9_refused 2 post 0 [some (.ref 159), some (.int a1), some (.int a2), some (.int a3), some (.int a4)] [] g
  unfold f_X9_refused at H
  refine am_aload_n rfl rfl ?_
  refine am_iload_n rfl rfl ?_
  obtain ⟨r1, g2, H1, H⟩ := bd2_some H
  refine cv1i v_9_144 rfl rfl (Nat.le_of_ble_eq_true rfl) rfl (Nat.le_of_ble_eq_true rfl) (fun _ _ => Nat.le_of_ble_eq_true rfl) (y_X9_isTournament a1 g _ H1 ?_)
  refine am_if_eq rfl (fun c3 => ?_) (fun c3 => ?_)
  · have H := it_pos c3 H
    refine x_bipush (v := (-2 : Int32)) rfl (by decide) ?_
    refine am_goto rfl ?_
    have H := Option.some.inj H
    subst H
    exact u_iret rfl rfl K
  · have H := it_neg c3 H
    refine am_aload_n rfl rfl ?_
    refine am_iload_n rfl rfl ?_
    obtain ⟨r4, g5, H1, H⟩ := bd2_some H
    refine cv1i v_9_108 rfl rfl (Nat.le_of_ble_eq_true rfl) rfl (Nat.le_of_ble_eq_true rfl) (fun _ _ => Nat.le_of_ble_eq_true rfl) (y_X9_isPlayer a2 g2 _ H1 ?_)
    refine am_if_eq rfl (fun c6 => ?_) (fun c6 => ?_)
    · have H := it_pos c6 H
      refine x_bipush (v := (-2 : Int32)) rfl (by decide) ?_
      refine am_goto rfl ?_
      have H := Option.some.inj H
      subst H
      exact u_iret rfl rfl K
    · have H := it_neg c6 H
      refine am_iload_n rfl rfl ?_
      refine am_if_lt rfl (fun c7 => ?_) (fun c7 => ?_)
      · have H := it_pos c7 H
        refine x_bipush (v := (-2 : Int32)) rfl (by decide) ?_
        refine am_goto rfl ?_
        have H := Option.some.inj H
        subst H
        exact u_iret rfl rfl K
      · have H := it_neg c7 H
        refine am_iload rfl rfl ?_
        refine am_if_ge rfl (fun c8 => ?_) (fun c8 => ?_)
        · have H := it_pos c8 H
          refine am_aload_n rfl rfl ?_
          refine am_iload_n rfl rfl ?_
          refine am_iload_n rfl rfl ?_
          obtain ⟨r9, g10, H1, H⟩ := bd2_some H
          refine cv2i v_9_147 rfl rfl (Nat.le_of_ble_eq_true rfl) rfl (Nat.le_of_ble_eq_true rfl) (fun _ _ => Nat.le_of_ble_eq_true rfl) (y_X9_placeOf a1 a2 g5 _ H1 ?_)
          refine x_iconst (v := (-1 : Int32)) rfl (by decide) ?_
          refine am_icmp_ne rfl (fun c11 => ?_) (fun c11 => ?_)
          · have H := it_neg c11 H
            refine x_iconst (v := (0 : Int32)) rfl (by decide) ?_
            have H := Option.some.inj H
            subst H
            exact u_iret rfl rfl K
          · have H := it_pos c11 H
            refine x_bipush (v := (-3 : Int32)) rfl (by decide) ?_
            refine am_goto rfl ?_
            have H := Option.some.inj H
            subst H
            exact u_iret rfl rfl K
        · have H := it_neg c8 H
          refine x_bipush (v := (-2 : Int32)) rfl (by decide) ?_
          refine am_goto rfl ?_
          have H := Option.some.inj H
          subst H
          exact u_iret rfl rfl K
def f_X9_points (a1 : Int32) (a2 : Int32) (a3 : Int32) (a4 : Int32) (g : G) : Option (Int32 × G) := bd2 (f_X9_refused a1 a2 a3 a4 g) fun r1 g2 => if r1 = 0 then bd2 (f_X9_pointsOf a1 a2 a3 a4 g2) fun r4 g5 => some ((r4, g5)) else some ((r1, g2))
set_option maxHeartbeats 4000000 in
set_option maxRecDepth 100000 in
theorem y_X9_points (a1 : Int32) (a2 : Int32) (a3 : Int32) (a4 : Int32)  (g : G) (q : Int32 × G) {post : Int32 → G → Prop} (H : f_X9_points a1 a2 a3 a4 g = some q) (K : post q.1 q.2) : Y m_X9_points 4 [.ref 159, .int a1, .int a2, .int a3, .int a4] g post := by
  refine Y_of ok_X9_points pn_9 rfl (by decide) (Or.inr (Or.inl rfl)) (List.forall_mem_cons.mpr ⟨rfl, (List.forall_mem_cons.mpr ⟨rfl, (List.forall_mem_cons.mpr ⟨rfl, (List.forall_mem_cons.mpr ⟨rfl, (List.forall_mem_cons.mpr ⟨rfl, (fun _ h => absurd h List.not_mem_nil)⟩)⟩)⟩)⟩)⟩) (Nat.le_of_ble_eq_true rfl) ?_
  show u_V m_X9_points 4 post 0 [some (.ref 159), some (.int a1), some (.int a2), some (.int a3), some (.int a4), none] [] g
  unfold f_X9_points at H
  refine am_aload_n rfl rfl ?_
  refine am_iload_n rfl rfl ?_
  refine am_iload_n rfl rfl ?_
  refine am_iload_n rfl rfl ?_
  refine am_iload rfl rfl ?_
  obtain ⟨r1, g2, H1, H⟩ := bd2_some H
  refine cv4i v_9_237 rfl rfl (Nat.le_of_ble_eq_true rfl) rfl (Nat.le_of_ble_eq_true rfl) (fun _ _ => Nat.le_of_ble_eq_true rfl) (y_X9_refused a1 a2 a3 a4 g _ H1 ?_)
  refine am_istore rfl (Nat.le_of_ble_eq_true rfl) ?_
  refine am_iload rfl rfl ?_
  refine am_if_eq rfl (fun c3 => ?_) (fun c3 => ?_)
  · have H := it_pos c3 H
    refine am_aload_n rfl rfl ?_
    refine am_iload_n rfl rfl ?_
    refine am_iload_n rfl rfl ?_
    refine am_iload_n rfl rfl ?_
    refine am_iload rfl rfl ?_
    obtain ⟨r4, g5, H1, H⟩ := bd2_some H
    refine cv4i v_9_173 rfl rfl (Nat.le_of_ble_eq_true rfl) rfl (Nat.le_of_ble_eq_true rfl) (fun _ _ => Nat.le_of_ble_eq_true rfl) (y_X9_pointsOf a1 a2 a3 a4 g2 _ H1 ?_)
    have H := Option.some.inj H
    subst H
    exact u_iret rfl rfl K
  · have H := it_neg c3 H
    refine am_iload rfl rfl ?_
    refine am_goto rfl ?_
    have H := Option.some.inj H
    subst H
    exact u_iret rfl rfl K
def f_X9_sum (a1 : Int32) (a2 : Int32) (a3 : Int32) (a4 : Int32) (a5 : Int32) (g : G) : Option (Int32 × G) := bd2 (f_X9_refused a1 a2 a4 a5 g) fun r1 g2 => if r1 = (-2 : Int32) then some (((-2 : Int32), g2)) else bd2 (f_X9_in a3 (1 : Int32) (5 : Int32) g2) fun r4 g5 => if r4 = 0 then some (((-2 : Int32), g5)) else if r1 = 0 then bd2 (f_X9_sumOf a1 a2 a3 a4 a5 g5) fun r8 g9 => some ((r8, g9)) else some ((r1, g5))
set_option maxHeartbeats 4000000 in
set_option maxRecDepth 100000 in
theorem y_X9_sum (a1 : Int32) (a2 : Int32) (a3 : Int32) (a4 : Int32) (a5 : Int32)  (g : G) (q : Int32 × G) {post : Int32 → G → Prop} (H : f_X9_sum a1 a2 a3 a4 a5 g = some q) (K : post q.1 q.2) : Y m_X9_sum 5 [.ref 159, .int a1, .int a2, .int a3, .int a4, .int a5] g post := by
  refine Y_of ok_X9_sum pn_9 rfl (by decide) (Or.inr (Or.inl rfl)) (List.forall_mem_cons.mpr ⟨rfl, (List.forall_mem_cons.mpr ⟨rfl, (List.forall_mem_cons.mpr ⟨rfl, (List.forall_mem_cons.mpr ⟨rfl, (List.forall_mem_cons.mpr ⟨rfl, (List.forall_mem_cons.mpr ⟨rfl, (fun _ h => absurd h List.not_mem_nil)⟩)⟩)⟩)⟩)⟩)⟩) (Nat.le_of_ble_eq_true rfl) ?_
  show u_V m_X9_sum 5 post 0 [some (.ref 159), some (.int a1), some (.int a2), some (.int a3), some (.int a4), some (.int a5), none] [] g
  unfold f_X9_sum at H
  refine am_aload_n rfl rfl ?_
  refine am_iload_n rfl rfl ?_
  refine am_iload_n rfl rfl ?_
  refine am_iload rfl rfl ?_
  refine am_iload rfl rfl ?_
  obtain ⟨r1, g2, H1, H⟩ := bd2_some H
  refine cv4i v_9_237 rfl rfl (Nat.le_of_ble_eq_true rfl) rfl (Nat.le_of_ble_eq_true rfl) (fun _ _ => Nat.le_of_ble_eq_true rfl) (y_X9_refused a1 a2 a4 a5 g _ H1 ?_)
  refine am_istore rfl (Nat.le_of_ble_eq_true rfl) ?_
  refine am_iload rfl rfl ?_
  refine x_bipush (v := (-2 : Int32)) rfl (by decide) ?_
  refine am_icmp_eq rfl (fun c3 => ?_) (fun c3 => ?_)
  · have H := it_pos c3 H
    refine x_bipush (v := (-2 : Int32)) rfl (by decide) ?_
    refine am_goto rfl ?_
    have H := Option.some.inj H
    subst H
    exact u_iret rfl rfl K
  · have H := it_neg c3 H
    refine am_iload_n rfl rfl ?_
    refine x_iconst (v := (1 : Int32)) rfl (by decide) ?_
    refine x_iconst (v := (5 : Int32)) rfl (by decide) ?_
    obtain ⟨r4, g5, H1, H⟩ := bd2_some H
    refine cs3i s_9_101 rfl rfl (Nat.le_of_ble_eq_true rfl) (fun _ _ => Nat.le_of_ble_eq_true rfl) (y_X9_in a3 (1 : Int32) (5 : Int32) g2 _ H1 ?_)
    refine am_if_ne rfl (fun c6 => ?_) (fun c6 => ?_)
    · have H := it_neg c6 H
      refine am_iload rfl rfl ?_
      refine am_if_eq rfl (fun c7 => ?_) (fun c7 => ?_)
      · have H := it_pos c7 H
        refine am_aload_n rfl rfl ?_
        refine am_iload_n rfl rfl ?_
        refine am_iload_n rfl rfl ?_
        refine am_iload_n rfl rfl ?_
        refine am_iload rfl rfl ?_
        refine am_iload rfl rfl ?_
        obtain ⟨r8, g9, H1, H⟩ := bd2_some H
        refine cv5i v_9_179 rfl rfl (Nat.le_of_ble_eq_true rfl) rfl (Nat.le_of_ble_eq_true rfl) (fun _ _ => Nat.le_of_ble_eq_true rfl) (y_X9_sumOf a1 a2 a3 a4 a5 g5 _ H1 ?_)
        have H := Option.some.inj H
        subst H
        exact u_iret rfl rfl K
      · have H := it_neg c7 H
        refine am_iload rfl rfl ?_
        refine am_goto rfl ?_
        have H := Option.some.inj H
        subst H
        exact u_iret rfl rfl K
    · have H := it_pos c6 H
      refine x_bipush (v := (-2 : Int32)) rfl (by decide) ?_
      refine am_goto rfl ?_
      have H := Option.some.inj H
      subst H
      exact u_iret rfl rfl K
def f_X9_ahead (a1 : Int32) (a2 : Int32) (a3 : Int32) (a4 : Int32) (g : G) : Option (Int32 × G) := bd (lp (fun (s4 : Int32 × Int32 × G) => (bd2 (f_X9_cell a1 (0 : Int32) s4.2.2) fun r8 g9 => if r8 ≤ s4.2.1 then some (.inr (s4.1, g9)) else bd2 (f_X9_cell a1 ((1 : Int32) + s4.2.1) g9) fun r11 g12 => bd2 (f_X9_parting a1 r11 a2 a3 a4 g12) fun r13 g14 => bd ((if (r13 - r13 / (10 : Int32) * (10 : Int32)) = (1 : Int32) then some ((1 : Int32)) else some ((0 : Int32)) : Option (Int32))) fun (s16 : Int32) => some (.inl ((s4.1 + s16), (s4.2.1 + (1 : Int32)), g14)) : Option ((Int32 × Int32 × G) ⊕ (Int32 × G)))) 2000 ((0 : Int32), (0 : Int32), g)) fun (s7 : Int32 × G) => some ((s7.1, s7.2))
set_option maxHeartbeats 4000000 in
set_option maxRecDepth 100000 in
theorem y_X9_ahead (a1 : Int32) (a2 : Int32) (a3 : Int32) (a4 : Int32)  (g : G) (q : Int32 × G) {post : Int32 → G → Prop} (H : f_X9_ahead a1 a2 a3 a4 g = some q) (K : post q.1 q.2) : Y m_X9_ahead 6 [.ref 159, .int a1, .int a2, .int a3, .int a4] g post := by
  refine Y_of ok_X9_ahead pn_9 rfl (by decide) (Or.inr (Or.inl rfl)) (List.forall_mem_cons.mpr ⟨rfl, (List.forall_mem_cons.mpr ⟨rfl, (List.forall_mem_cons.mpr ⟨rfl, (List.forall_mem_cons.mpr ⟨rfl, (List.forall_mem_cons.mpr ⟨rfl, (fun _ h => absurd h List.not_mem_nil)⟩)⟩)⟩)⟩)⟩) (Nat.le_of_ble_eq_true rfl) ?_
  show u_V m_X9_ahead 6 post 0 [some (.ref 159), some (.int a1), some (.int a2), some (.int a3), some (.int a4), none, none] [] g
  unfold f_X9_ahead at H
  refine x_iconst (v := (0 : Int32)) rfl (by decide) ?_
  refine am_istore rfl (Nat.le_of_ble_eq_true rfl) ?_
  refine x_iconst (v := (0 : Int32)) rfl (by decide) ?_
  refine am_istore rfl (Nat.le_of_ble_eq_true rfl) ?_
  obtain ⟨s19, H1, H⟩ := bd_some H
  have K2 : (fun (s7 : Int32 × G) => u_V m_X9_ahead 6 post 58 [none, none, none, none, none, some (.int s7.1), none] [] s7.2) s19 := by
    clear H1
    obtain ⟨x5, g6⟩ := s19
    (try dsimp only at H); (try dsimp only)
    refine am_iload rfl rfl ?_
    have H := Option.some.inj H
    subst H
    exact u_iret rfl rfl K
  refine am_drop (L' := [some (.ref 159), some (.int a1), some (.int a2), some (.int a3), some (.int a4), some (.int (0 : Int32)), some (.int (0 : Int32))]) (And.intro rfl (And.intro rfl (And.intro rfl (And.intro rfl (And.intro rfl (And.intro rfl (And.intro rfl trivial))))))) ?_
  refine lp_ind (P := (fun (s4 : Int32 × Int32 × G) => u_V m_X9_ahead 6 post 6 [some (.ref 159), some (.int a1), some (.int a2), some (.int a3), some (.int a4), some (.int s4.1), some (.int s4.2.1)] [] s4.2.2)) (Q := (fun (s7 : Int32 × G) => u_V m_X9_ahead 6 post 58 [none, none, none, none, none, some (.int s7.1), none] [] s7.2)) ?_ 2000 ((0 : Int32), (0 : Int32), g) s19 H1 K2
  clear H1 H K
  intro s4 s19b H K
  obtain ⟨x1, x2, g3⟩ := s4
  (try dsimp only at H); (try dsimp only)
  refine am_iload rfl rfl ?_
  refine am_aload_n rfl rfl ?_
  refine am_iload_n rfl rfl ?_
  refine x_iconst (v := (0 : Int32)) rfl (by decide) ?_
  obtain ⟨r8, g9, H1, H⟩ := bd2_some H
  refine cv2i v_9_140 rfl rfl (Nat.le_of_ble_eq_true rfl) rfl (Nat.le_of_ble_eq_true rfl) (fun _ _ => Nat.le_of_ble_eq_true rfl) (y_X9_cell a1 (0 : Int32) g3 _ H1 ?_)
  refine am_icmp_ge rfl (fun c10 => ?_) (fun c10 => ?_)
  · have H := it_pos c10 H
    have H := Option.some.inj H
    subst H
    exact am_drop (L' := [none, none, none, none, none, some (.int x1), none]) (And.intro rfl trivial) K
  · have H := it_neg c10 H
    refine am_iload rfl rfl ?_
    refine am_aload_n rfl rfl ?_
    refine am_iload_n rfl rfl ?_
    refine am_aload_n rfl rfl ?_
    refine am_iload_n rfl rfl ?_
    refine x_iconst (v := (1 : Int32)) rfl (by decide) ?_
    refine am_iload rfl rfl ?_
    refine am_iadd rfl ?_
    obtain ⟨r11, g12, H1, H⟩ := bd2_some H
    refine cv2i v_9_140 rfl rfl (Nat.le_of_ble_eq_true rfl) rfl (Nat.le_of_ble_eq_true rfl) (fun _ _ => Nat.le_of_ble_eq_true rfl) (y_X9_cell a1 ((1 : Int32) + x2) g9 _ H1 ?_)
    refine am_iload_n rfl rfl ?_
    refine am_iload_n rfl rfl ?_
    refine am_iload rfl rfl ?_
    obtain ⟨r13, g14, H1, H⟩ := bd2_some H
    refine cv5i v_9_240 rfl rfl (Nat.le_of_ble_eq_true rfl) rfl (Nat.le_of_ble_eq_true rfl) (fun _ _ => Nat.le_of_ble_eq_true rfl) (y_X9_parting a1 r11 a2 a3 a4 g12 _ H1 ?_)
    refine x_bipush (v := (10 : Int32)) rfl (by decide) ?_
    refine am_irem rfl (by decide) ?_
    refine x_iconst (v := (1 : Int32)) rfl (by decide) ?_
    obtain ⟨s18, H1, H⟩ := bd_some H
    have K : (fun (s16 : Int32) => u_V m_X9_ahead 6 post 49 [some (.ref 159), some (.int a1), some (.int a2), some (.int a3), some (.int a4), none, some (.int x2)] [.int s16, .int x1] g14) s18 := by
      clear H1
      obtain ⟨x15, e_x15⟩ : ∃ z, z = s18 := ⟨_, rfl⟩
      subst e_x15
      (try dsimp only at H); (try dsimp only)
      refine am_iadd rfl ?_
      refine am_istore rfl (Nat.le_of_ble_eq_true rfl) ?_
      refine x_iinc (v := (x2 + (1 : Int32))) rfl rfl (Nat.le_of_ble_eq_true rfl) rfl ?_
      refine am_goto rfl ?_
      have H := Option.some.inj H
      subst H
      exact am_drop (L' := [some (.ref 159), some (.int a1), some (.int a2), some (.int a3), some (.int a4), some (.int (x1 + x15)), some (.int (x2 + (1 : Int32)))]) (And.intro rfl (And.intro rfl (And.intro rfl (And.intro rfl (And.intro rfl (And.intro rfl (And.intro rfl trivial))))))) K
    have H := H1
    clear H1
    refine am_icmp_ne rfl (fun c17 => ?_) (fun c17 => ?_)
    · have H := it_neg c17 H
      refine x_iconst (v := (0 : Int32)) rfl (by decide) ?_
      have H := Option.some.inj H
      subst H
      exact am_drop (L' := [some (.ref 159), some (.int a1), some (.int a2), some (.int a3), some (.int a4), none, some (.int x2)]) (And.intro rfl (And.intro rfl (And.intro rfl (And.intro rfl (And.intro rfl (And.intro rfl trivial)))))) K
    · have H := it_pos c17 H
      refine x_iconst (v := (1 : Int32)) rfl (by decide) ?_
      refine am_goto rfl ?_
      have H := Option.some.inj H
      subst H
      exact am_drop (L' := [some (.ref 159), some (.int a1), some (.int a2), some (.int a3), some (.int a4), none, some (.int x2)]) (And.intro rfl (And.intro rfl (And.intro rfl (And.intro rfl (And.intro rfl (And.intro rfl trivial)))))) K
def f_X9_place (a1 : Int32) (a2 : Int32) (a3 : Int32) (a4 : Int32) (g : G) : Option (Int32 × G) := bd2 (f_X9_refused a1 a2 a3 a4 g) fun r1 g2 => if r1 = 0 then bd2 (f_X9_ahead a1 a2 a3 a4 g2) fun r4 g5 => some (((r4 + (1 : Int32)), g5)) else some ((r1, g2))
set_option maxHeartbeats 4000000 in
set_option maxRecDepth 100000 in
theorem y_X9_place (a1 : Int32) (a2 : Int32) (a3 : Int32) (a4 : Int32)  (g : G) (q : Int32 × G) {post : Int32 → G → Prop} (H : f_X9_place a1 a2 a3 a4 g = some q) (K : post q.1 q.2) : Y m_X9_place 7 [.ref 159, .int a1, .int a2, .int a3, .int a4] g post := by
  refine Y_of ok_X9_place pn_9 rfl (by decide) (Or.inr (Or.inl rfl)) (List.forall_mem_cons.mpr ⟨rfl, (List.forall_mem_cons.mpr ⟨rfl, (List.forall_mem_cons.mpr ⟨rfl, (List.forall_mem_cons.mpr ⟨rfl, (List.forall_mem_cons.mpr ⟨rfl, (fun _ h => absurd h List.not_mem_nil)⟩)⟩)⟩)⟩)⟩) (Nat.le_of_ble_eq_true rfl) ?_
  show u_V m_X9_place 7 post 0 [some (.ref 159), some (.int a1), some (.int a2), some (.int a3), some (.int a4), none] [] g
  unfold f_X9_place at H
  refine am_aload_n rfl rfl ?_
  refine am_iload_n rfl rfl ?_
  refine am_iload_n rfl rfl ?_
  refine am_iload_n rfl rfl ?_
  refine am_iload rfl rfl ?_
  obtain ⟨r1, g2, H1, H⟩ := bd2_some H
  refine cv4i v_9_237 rfl rfl (Nat.le_of_ble_eq_true rfl) rfl (Nat.le_of_ble_eq_true rfl) (fun _ _ => Nat.le_of_ble_eq_true rfl) (y_X9_refused a1 a2 a3 a4 g _ H1 ?_)
  refine am_istore rfl (Nat.le_of_ble_eq_true rfl) ?_
  refine am_iload rfl rfl ?_
  refine am_if_eq rfl (fun c3 => ?_) (fun c3 => ?_)
  · have H := it_pos c3 H
    refine am_aload_n rfl rfl ?_
    refine am_iload_n rfl rfl ?_
    refine am_iload_n rfl rfl ?_
    refine am_iload_n rfl rfl ?_
    refine am_iload rfl rfl ?_
    obtain ⟨r4, g5, H1, H⟩ := bd2_some H
    refine cv4i v_9_243 rfl rfl (Nat.le_of_ble_eq_true rfl) rfl (Nat.le_of_ble_eq_true rfl) (fun _ _ => Nat.le_of_ble_eq_true rfl) (y_X9_ahead a1 a2 a3 a4 g2 _ H1 ?_)
    refine x_iconst (v := (1 : Int32)) rfl (by decide) ?_
    refine am_iadd rfl ?_
    have H := Option.some.inj H
    subst H
    exact u_iret rfl rfl K
  · have H := it_neg c3 H
    refine am_iload rfl rfl ?_
    refine am_goto rfl ?_
    have H := Option.some.inj H
    subst H
    exact u_iret rfl rfl K
def f_X9_standing (a1 : Int32) (a2 : Int32) (a3 : Int32) (a4 : Int32) (g : G) : Option (Int32 × G) := bd2 (f_X9_isTournament a1 g) fun r1 g2 => if r1 = 0 then some (((-2 : Int32), g2)) else if a3 < 0 then some (((-2 : Int32), g2)) else if 0 ≤ a4 then bd (lp (fun (s8 : Int32 × G) => (bd2 (f_X9_cell a1 (0 : Int32) s8.2) fun r11 g12 => if r11 ≤ s8.1 then some (.inr (.inl (g12))) else bd2 (f_X9_cell a1 ((1 : Int32) + s8.1) g12) fun r14 g15 => bd2 (f_X9_ahead a1 r14 a3 a4 g15) fun r16 g17 => bd (lp (fun (s21 : Int32 × Int32 × G) => (bd2 (f_X9_cell a1 (0 : Int32) s21.2.2) fun r25 g26 => if r25 ≤ s21.2.1 then some (.inr (s21.1, g26)) else bd2 (f_X9_cell a1 ((1 : Int32) + s21.2.1) g26) fun r28 g29 => bd ((if r14 ≤ r28 then some (.inl (s21.2.1, g29)) else bd2 (f_X9_parting a1 r28 r14 a3 a4 g29) fun r34 g35 => if r34 = 0 then some (.inr (.inl ((s21.1 + (1 : Int32)), (s21.2.1 + (1 : Int32)), g35))) else some (.inl (s21.2.1, g35)) : Option ((Int32 × G) ⊕ ((Int32 × Int32 × G) ⊕ (Int32 × G))))) fun s37m => (match s37m with | .inl s32 => (some (.inl ((s21.1 + (0 : Int32)), (s32.1 + (1 : Int32)), s32.2))) | .inr y => some y) : Option ((Int32 × Int32 × G) ⊕ (Int32 × G)))) 2000 (r16, (0 : Int32), g17)) fun (s24 : Int32 × G) => if s24.1 = a2 then some (.inr (.inr ((r14, s24.2)))) else some (.inl ((s8.1 + (1 : Int32)), s24.2)) : Option ((Int32 × G) ⊕ ((G) ⊕ (Int32 × G))))) 2000 ((0 : Int32), g2)) fun s40m => (match s40m with | .inl s10 => (some (((-1 : Int32), s10))) | .inr y => some y) else some (((-2 : Int32), g2))
set_option maxHeartbeats 4000000 in
set_option maxRecDepth 100000 in
theorem y_X9_standing (a1 : Int32) (a2 : Int32) (a3 : Int32) (a4 : Int32)  (g : G) (q : Int32 × G) {post : Int32 → G → Prop} (H : f_X9_standing a1 a2 a3 a4 g = some q) (K : post q.1 q.2) : Y m_X9_standing 7 [.ref 159, .int a1, .int a2, .int a3, .int a4] g post := by
  refine Y_of ok_X9_standing pn_9 rfl (by decide) (Or.inr (Or.inl rfl)) (List.forall_mem_cons.mpr ⟨rfl, (List.forall_mem_cons.mpr ⟨rfl, (List.forall_mem_cons.mpr ⟨rfl, (List.forall_mem_cons.mpr ⟨rfl, (List.forall_mem_cons.mpr ⟨rfl, (fun _ h => absurd h List.not_mem_nil)⟩)⟩)⟩)⟩)⟩) (Nat.le_of_ble_eq_true rfl) ?_
  show u_V m_X9_standing 7 post 0 [some (.ref 159), some (.int a1), some (.int a2), some (.int a3), some (.int a4), none, none, none, none, none] [] g
  unfold f_X9_standing at H
  refine am_aload_n rfl rfl ?_
  refine am_iload_n rfl rfl ?_
  obtain ⟨r1, g2, H1, H⟩ := bd2_some H
  refine cv1i v_9_144 rfl rfl (Nat.le_of_ble_eq_true rfl) rfl (Nat.le_of_ble_eq_true rfl) (fun _ _ => Nat.le_of_ble_eq_true rfl) (y_X9_isTournament a1 g _ H1 ?_)
  refine am_if_eq rfl (fun c3 => ?_) (fun c3 => ?_)
  · have H := it_pos c3 H
    refine x_bipush (v := (-2 : Int32)) rfl (by decide) ?_
    have H := Option.some.inj H
    subst H
    exact u_iret rfl rfl K
  · have H := it_neg c3 H
    refine am_iload_n rfl rfl ?_
    refine am_if_lt rfl (fun c4 => ?_) (fun c4 => ?_)
    · have H := it_pos c4 H
      refine x_bipush (v := (-2 : Int32)) rfl (by decide) ?_
      have H := Option.some.inj H
      subst H
      exact u_iret rfl rfl K
    · have H := it_neg c4 H
      refine am_iload rfl rfl ?_
      refine am_if_ge rfl (fun c5 => ?_) (fun c5 => ?_)
      · have H := it_pos c5 H
        refine x_iconst (v := (0 : Int32)) rfl (by decide) ?_
        refine am_istore rfl (Nat.le_of_ble_eq_true rfl) ?_
        obtain ⟨s40, H1, H⟩ := bd_some H
        have K2 : (Sum.elim (fun (s10 : G) => u_V m_X9_standing 7 post 135 [none, none, none, none, none, none, none, none, none, none] [] s10) (fun (q : Int32 × G) => post q.1 q.2)) s40 := by
          clear H1
          cases s40 with
          | inl s10 =>
            obtain ⟨g9, e_g9⟩ : ∃ z, z = s10 := ⟨_, rfl⟩
            subst e_g9
            (try dsimp only at H); (try dsimp only)
            refine x_iconst (v := (-1 : Int32)) rfl (by decide) ?_
            have H := Option.some.inj H
            subst H
            exact u_iret rfl rfl K
          | inr y =>
            have H := Option.some.inj H
            subst H
            exact K
        refine am_drop (L' := [some (.ref 159), some (.int a1), some (.int a2), some (.int a3), some (.int a4), some (.int (0 : Int32)), none, none, none, none]) (And.intro rfl (And.intro rfl (And.intro rfl (And.intro rfl (And.intro rfl (And.intro rfl trivial)))))) ?_
        refine lp_ind (P := (fun (s8 : Int32 × G) => u_V m_X9_standing 7 post 23 [some (.ref 159), some (.int a1), some (.int a2), some (.int a3), some (.int a4), some (.int s8.1), none, none, none, none] [] s8.2)) (Q := (Sum.elim (fun (s10 : G) => u_V m_X9_standing 7 post 135 [none, none, none, none, none, none, none, none, none, none] [] s10) (fun (q : Int32 × G) => post q.1 q.2))) ?_ 2000 ((0 : Int32), g2) s40 H1 K2
        clear H1 H K
        intro s8 s40b H K
        obtain ⟨x6, g7⟩ := s8
        (try dsimp only at H); (try dsimp only)
        refine am_iload rfl rfl ?_
        refine am_aload_n rfl rfl ?_
        refine am_iload_n rfl rfl ?_
        refine x_iconst (v := (0 : Int32)) rfl (by decide) ?_
        obtain ⟨r11, g12, H1, H⟩ := bd2_some H
        refine cv2i v_9_140 rfl rfl (Nat.le_of_ble_eq_true rfl) rfl (Nat.le_of_ble_eq_true rfl) (fun _ _ => Nat.le_of_ble_eq_true rfl) (y_X9_cell a1 (0 : Int32) g7 _ H1 ?_)
        refine am_icmp_ge rfl (fun c13 => ?_) (fun c13 => ?_)
        · have H := it_pos c13 H
          have H := Option.some.inj H
          subst H
          exact am_drop (L' := [none, none, none, none, none, none, none, none, none, none]) trivial K
        · have H := it_neg c13 H
          refine am_aload_n rfl rfl ?_
          refine am_iload_n rfl rfl ?_
          refine x_iconst (v := (1 : Int32)) rfl (by decide) ?_
          refine am_iload rfl rfl ?_
          refine am_iadd rfl ?_
          obtain ⟨r14, g15, H1, H⟩ := bd2_some H
          refine cv2i v_9_140 rfl rfl (Nat.le_of_ble_eq_true rfl) rfl (Nat.le_of_ble_eq_true rfl) (fun _ _ => Nat.le_of_ble_eq_true rfl) (y_X9_cell a1 ((1 : Int32) + x6) g12 _ H1 ?_)
          refine am_istore rfl (Nat.le_of_ble_eq_true rfl) ?_
          refine am_aload_n rfl rfl ?_
          refine am_iload_n rfl rfl ?_
          refine am_iload rfl rfl ?_
          refine am_iload_n rfl rfl ?_
          refine am_iload rfl rfl ?_
          obtain ⟨r16, g17, H1, H⟩ := bd2_some H
          refine cv4i v_9_243 rfl rfl (Nat.le_of_ble_eq_true rfl) rfl (Nat.le_of_ble_eq_true rfl) (fun _ _ => Nat.le_of_ble_eq_true rfl) (y_X9_ahead a1 r14 a3 a4 g15 _ H1 ?_)
          refine am_istore rfl (Nat.le_of_ble_eq_true rfl) ?_
          refine x_iconst (v := (0 : Int32)) rfl (by decide) ?_
          refine am_istore rfl (Nat.le_of_ble_eq_true rfl) ?_
          obtain ⟨s38, H1, H⟩ := bd_some H
          have K2 : (fun (s24 : Int32 × G) => u_V m_X9_standing 7 post 120 [some (.ref 159), some (.int a1), some (.int a2), some (.int a3), some (.int a4), some (.int x6), some (.int r14), some (.int s24.1), none, none] [] s24.2) s38 := by
            clear H1
            obtain ⟨x22, g23⟩ := s38
            (try dsimp only at H); (try dsimp only)
            refine am_iload rfl rfl ?_
            refine am_iload_n rfl rfl ?_
            refine am_icmp_ne rfl (fun c39 => ?_) (fun c39 => ?_)
            · have H := it_neg c39 H
              refine x_iinc (v := (x6 + (1 : Int32))) rfl rfl (Nat.le_of_ble_eq_true rfl) rfl ?_
              refine am_goto rfl ?_
              have H := Option.some.inj H
              subst H
              exact am_drop (L' := [some (.ref 159), some (.int a1), some (.int a2), some (.int a3), some (.int a4), some (.int (x6 + (1 : Int32))), none, none, none, none]) (And.intro rfl (And.intro rfl (And.intro rfl (And.intro rfl (And.intro rfl (And.intro rfl trivial)))))) K
            · have H := it_pos c39 H
              refine am_iload rfl rfl ?_
              have H := Option.some.inj H
              subst H
              exact u_iret rfl rfl K
          refine am_drop (L' := [some (.ref 159), some (.int a1), some (.int a2), some (.int a3), some (.int a4), some (.int x6), some (.int r14), some (.int r16), some (.int (0 : Int32)), none]) (And.intro rfl (And.intro rfl (And.intro rfl (And.intro rfl (And.intro rfl (And.intro rfl (And.intro rfl (And.intro rfl (And.intro rfl trivial))))))))) ?_
          refine lp_ind (P := (fun (s21 : Int32 × Int32 × G) => u_V m_X9_standing 7 post 60 [some (.ref 159), some (.int a1), some (.int a2), some (.int a3), some (.int a4), some (.int x6), some (.int r14), some (.int s21.1), some (.int s21.2.1), none] [] s21.2.2)) (Q := (fun (s24 : Int32 × G) => u_V m_X9_standing 7 post 120 [some (.ref 159), some (.int a1), some (.int a2), some (.int a3), some (.int a4), some (.int x6), some (.int r14), some (.int s24.1), none, none] [] s24.2)) ?_ 2000 (r16, (0 : Int32), g17) s38 H1 K2
          clear H1 H K
          intro s21 s38b H K
          obtain ⟨x18, x19, g20⟩ := s21
          (try dsimp only at H); (try dsimp only)
          refine am_iload rfl rfl ?_
          refine am_aload_n rfl rfl ?_
          refine am_iload_n rfl rfl ?_
          refine x_iconst (v := (0 : Int32)) rfl (by decide) ?_
          obtain ⟨r25, g26, H1, H⟩ := bd2_some H
          refine cv2i v_9_140 rfl rfl (Nat.le_of_ble_eq_true rfl) rfl (Nat.le_of_ble_eq_true rfl) (fun _ _ => Nat.le_of_ble_eq_true rfl) (y_X9_cell a1 (0 : Int32) g20 _ H1 ?_)
          refine am_icmp_ge rfl (fun c27 => ?_) (fun c27 => ?_)
          · have H := it_pos c27 H
            have H := Option.some.inj H
            subst H
            exact am_drop (L' := [some (.ref 159), some (.int a1), some (.int a2), some (.int a3), some (.int a4), some (.int x6), some (.int r14), some (.int x18), none, none]) (And.intro rfl (And.intro rfl (And.intro rfl (And.intro rfl (And.intro rfl (And.intro rfl (And.intro rfl (And.intro rfl trivial)))))))) K
          · have H := it_neg c27 H
            refine am_aload_n rfl rfl ?_
            refine am_iload_n rfl rfl ?_
            refine x_iconst (v := (1 : Int32)) rfl (by decide) ?_
            refine am_iload rfl rfl ?_
            refine am_iadd rfl ?_
            obtain ⟨r28, g29, H1, H⟩ := bd2_some H
            refine cv2i v_9_140 rfl rfl (Nat.le_of_ble_eq_true rfl) rfl (Nat.le_of_ble_eq_true rfl) (fun _ _ => Nat.le_of_ble_eq_true rfl) (y_X9_cell a1 ((1 : Int32) + x19) g26 _ H1 ?_)
            refine am_istore rfl (Nat.le_of_ble_eq_true rfl) ?_
            refine am_iload rfl rfl ?_
            refine am_iload rfl rfl ?_
            refine am_iload rfl rfl ?_
            obtain ⟨s37, H1, H⟩ := bd_some H
            have K : (Sum.elim (fun (s32 : Int32 × G) => u_V m_X9_standing 7 post 110 [some (.ref 159), some (.int a1), some (.int a2), some (.int a3), some (.int a4), some (.int x6), some (.int r14), none, some (.int s32.1), none] [.int x18] s32.2) (Sum.elim (fun (s21 : Int32 × Int32 × G) => u_V m_X9_standing 7 post 60 [some (.ref 159), some (.int a1), some (.int a2), some (.int a3), some (.int a4), some (.int x6), some (.int r14), some (.int s21.1), some (.int s21.2.1), none] [] s21.2.2) (fun (s24 : Int32 × G) => u_V m_X9_standing 7 post 120 [some (.ref 159), some (.int a1), some (.int a2), some (.int a3), some (.int a4), some (.int x6), some (.int r14), some (.int s24.1), none, none] [] s24.2))) s37 := by
              clear H1
              cases s37 with
              | inl s32 =>
                obtain ⟨x30, g31⟩ := s32
                (try dsimp only at H); (try dsimp only)
                refine x_iconst (v := (0 : Int32)) rfl (by decide) ?_
                refine am_iadd rfl ?_
                refine am_istore rfl (Nat.le_of_ble_eq_true rfl) ?_
                refine x_iinc (v := (x30 + (1 : Int32))) rfl rfl (Nat.le_of_ble_eq_true rfl) rfl ?_
                refine am_goto rfl ?_
                have H := Option.some.inj H
                subst H
                exact am_drop (L' := [some (.ref 159), some (.int a1), some (.int a2), some (.int a3), some (.int a4), some (.int x6), some (.int r14), some (.int (x18 + (0 : Int32))), some (.int (x30 + (1 : Int32))), none]) (And.intro rfl (And.intro rfl (And.intro rfl (And.intro rfl (And.intro rfl (And.intro rfl (And.intro rfl (And.intro rfl (And.intro rfl trivial))))))))) K
              | inr y =>
                have H := Option.some.inj H
                subst H
                exact K
            have H := H1
            clear H1
            refine am_icmp_ge rfl (fun c33 => ?_) (fun c33 => ?_)
            · have H := it_pos c33 H
              have H := Option.some.inj H
              subst H
              exact am_drop (L' := [some (.ref 159), some (.int a1), some (.int a2), some (.int a3), some (.int a4), some (.int x6), some (.int r14), none, some (.int x19), none]) (And.intro rfl (And.intro rfl (And.intro rfl (And.intro rfl (And.intro rfl (And.intro rfl (And.intro rfl (And.intro rfl trivial)))))))) K
            · have H := it_neg c33 H
              refine am_aload_n rfl rfl ?_
              refine am_iload_n rfl rfl ?_
              refine am_iload rfl rfl ?_
              refine am_iload rfl rfl ?_
              refine am_iload_n rfl rfl ?_
              refine am_iload rfl rfl ?_
              obtain ⟨r34, g35, H1, H⟩ := bd2_some H
              refine cv5i v_9_240 rfl rfl (Nat.le_of_ble_eq_true rfl) rfl (Nat.le_of_ble_eq_true rfl) (fun _ _ => Nat.le_of_ble_eq_true rfl) (y_X9_parting a1 r28 r14 a3 a4 g29 _ H1 ?_)
              refine am_if_ne rfl (fun c36 => ?_) (fun c36 => ?_)
              · have H := it_neg c36 H
                have H := Option.some.inj H
                subst H
                exact am_drop (L' := [some (.ref 159), some (.int a1), some (.int a2), some (.int a3), some (.int a4), some (.int x6), some (.int r14), none, some (.int x19), none]) (And.intro rfl (And.intro rfl (And.intro rfl (And.intro rfl (And.intro rfl (And.intro rfl (And.intro rfl (And.intro rfl trivial)))))))) K
              · have H := it_pos c36 H
                refine x_iconst (v := (1 : Int32)) rfl (by decide) ?_
                refine am_goto rfl ?_
                refine am_iadd rfl ?_
                refine am_istore rfl (Nat.le_of_ble_eq_true rfl) ?_
                refine x_iinc (v := (x19 + (1 : Int32))) rfl rfl (Nat.le_of_ble_eq_true rfl) rfl ?_
                refine am_goto rfl ?_
                have H := Option.some.inj H
                subst H
                exact am_drop (L' := [some (.ref 159), some (.int a1), some (.int a2), some (.int a3), some (.int a4), some (.int x6), some (.int r14), some (.int (x18 + (1 : Int32))), some (.int (x19 + (1 : Int32))), none]) (And.intro rfl (And.intro rfl (And.intro rfl (And.intro rfl (And.intro rfl (And.intro rfl (And.intro rfl (And.intro rfl (And.intro rfl trivial))))))))) K
      · have H := it_neg c5 H
        refine x_bipush (v := (-2 : Int32)) rfl (by decide) ?_
        have H := Option.some.inj H
        subst H
        exact u_iret rfl rfl K
def f_X9_why (a1 : Int32) (a2 : Int32) (a3 : Int32) (a4 : Int32) (a5 : Int32) (g : G) : Option (Int32 × G) := bd2 (f_X9_refused a1 a2 a4 a5 g) fun r1 g2 => bd2 (f_X9_refused a1 a3 a4 a5 g2) fun r3 g4 => if r1 = (-2 : Int32) then some (((-2 : Int32), g4)) else if r3 = (-2 : Int32) then some (((-2 : Int32), g4)) else if r1 = 0 then if r3 = 0 then bd2 (f_X9_parting a1 a2 a3 a4 a5 g4) fun r9 g10 => some ((r9, g10)) else some (((-3 : Int32), g4)) else some (((-3 : Int32), g4))
set_option maxHeartbeats 4000000 in
set_option maxRecDepth 100000 in
theorem y_X9_why (a1 : Int32) (a2 : Int32) (a3 : Int32) (a4 : Int32) (a5 : Int32)  (g : G) (q : Int32 × G) {post : Int32 → G → Prop} (H : f_X9_why a1 a2 a3 a4 a5 g = some q) (K : post q.1 q.2) : Y m_X9_why 6 [.ref 159, .int a1, .int a2, .int a3, .int a4, .int a5] g post := by
  refine Y_of ok_X9_why pn_9 rfl (by decide) (Or.inr (Or.inl rfl)) (List.forall_mem_cons.mpr ⟨rfl, (List.forall_mem_cons.mpr ⟨rfl, (List.forall_mem_cons.mpr ⟨rfl, (List.forall_mem_cons.mpr ⟨rfl, (List.forall_mem_cons.mpr ⟨rfl, (List.forall_mem_cons.mpr ⟨rfl, (fun _ h => absurd h List.not_mem_nil)⟩)⟩)⟩)⟩)⟩)⟩) (Nat.le_of_ble_eq_true rfl) ?_
  show u_V m_X9_why 6 post 0 [some (.ref 159), some (.int a1), some (.int a2), some (.int a3), some (.int a4), some (.int a5), none, none] [] g
  unfold f_X9_why at H
  refine am_aload_n rfl rfl ?_
  refine am_iload_n rfl rfl ?_
  refine am_iload_n rfl rfl ?_
  refine am_iload rfl rfl ?_
  refine am_iload rfl rfl ?_
  obtain ⟨r1, g2, H1, H⟩ := bd2_some H
  refine cv4i v_9_237 rfl rfl (Nat.le_of_ble_eq_true rfl) rfl (Nat.le_of_ble_eq_true rfl) (fun _ _ => Nat.le_of_ble_eq_true rfl) (y_X9_refused a1 a2 a4 a5 g _ H1 ?_)
  refine am_istore rfl (Nat.le_of_ble_eq_true rfl) ?_
  refine am_aload_n rfl rfl ?_
  refine am_iload_n rfl rfl ?_
  refine am_iload_n rfl rfl ?_
  refine am_iload rfl rfl ?_
  refine am_iload rfl rfl ?_
  obtain ⟨r3, g4, H1, H⟩ := bd2_some H
  refine cv4i v_9_237 rfl rfl (Nat.le_of_ble_eq_true rfl) rfl (Nat.le_of_ble_eq_true rfl) (fun _ _ => Nat.le_of_ble_eq_true rfl) (y_X9_refused a1 a3 a4 a5 g2 _ H1 ?_)
  refine am_istore rfl (Nat.le_of_ble_eq_true rfl) ?_
  refine am_iload rfl rfl ?_
  refine x_bipush (v := (-2 : Int32)) rfl (by decide) ?_
  refine am_icmp_eq rfl (fun c5 => ?_) (fun c5 => ?_)
  · have H := it_pos c5 H
    refine x_bipush (v := (-2 : Int32)) rfl (by decide) ?_
    refine am_goto rfl ?_
    have H := Option.some.inj H
    subst H
    exact u_iret rfl rfl K
  · have H := it_neg c5 H
    refine am_iload rfl rfl ?_
    refine x_bipush (v := (-2 : Int32)) rfl (by decide) ?_
    refine am_icmp_ne rfl (fun c6 => ?_) (fun c6 => ?_)
    · have H := it_neg c6 H
      refine am_iload rfl rfl ?_
      refine am_if_ne rfl (fun c7 => ?_) (fun c7 => ?_)
      · have H := it_neg c7 H
        refine x_bipush (v := (-3 : Int32)) rfl (by decide) ?_
        refine am_goto rfl ?_
        have H := Option.some.inj H
        subst H
        exact u_iret rfl rfl K
      · have H := it_pos c7 H
        refine am_iload rfl rfl ?_
        refine am_if_eq rfl (fun c8 => ?_) (fun c8 => ?_)
        · have H := it_pos c8 H
          refine am_aload_n rfl rfl ?_
          refine am_iload_n rfl rfl ?_
          refine am_iload_n rfl rfl ?_
          refine am_iload_n rfl rfl ?_
          refine am_iload rfl rfl ?_
          refine am_iload rfl rfl ?_
          obtain ⟨r9, g10, H1, H⟩ := bd2_some H
          refine cv5i v_9_240 rfl rfl (Nat.le_of_ble_eq_true rfl) rfl (Nat.le_of_ble_eq_true rfl) (fun _ _ => Nat.le_of_ble_eq_true rfl) (y_X9_parting a1 a2 a3 a4 a5 g4 _ H1 ?_)
          have H := Option.some.inj H
          subst H
          exact u_iret rfl rfl K
        · have H := it_neg c8 H
          refine x_bipush (v := (-3 : Int32)) rfl (by decide) ?_
          refine am_goto rfl ?_
          have H := Option.some.inj H
          subst H
          exact u_iret rfl rfl K
    · have H := it_pos c6 H
      refine x_bipush (v := (-2 : Int32)) rfl (by decide) ?_
      refine am_goto rfl ?_
      have H := Option.some.inj H
      subst H
      exact u_iret rfl rfl K
def f_X9_rounded (a0 : Int32) (g : G) : Option (Int32 × G) := bd2 (f_J9_floorDiv_7cf53 a0 (1000 : Int32) g) fun r1 g2 => bd ((if (500 : Int32) < (a0 - ((1000 : Int32) * r1)) then some (.inl ()) else if (a0 - ((1000 : Int32) * r1)) = (500 : Int32) then if (r1 &&& (1 : Int32)) = (1 : Int32) then some (.inl ()) else some (.inr ((r1, g2))) else some (.inr ((r1, g2))) : Option ((Unit) ⊕ (Int32 × G)))) fun s7m => (match s7m with | .inl _ => (some (((r1 + (1 : Int32)), g2))) | .inr y => some y)
set_option maxHeartbeats 4000000 in
set_option maxRecDepth 100000 in
theorem y_X9_rounded (a0 : Int32)  (g : G) (q : Int32 × G) {post : Int32 → G → Prop} (H : f_X9_rounded a0 g = some q) (K : post q.1 q.2) : Y m_X9_rounded 1 [.int a0] g post := by
  refine Y_of ok_X9_rounded pn_9 rfl (by decide) (Or.inr (Or.inl rfl)) (List.forall_mem_cons.mpr ⟨rfl, (fun _ h => absurd h List.not_mem_nil)⟩) (Nat.le_of_ble_eq_true rfl) ?_
  show u_V m_X9_rounded 1 post 0 [some (.int a0), none, none] [] g
  unfold f_X9_rounded at H
  refine am_iload_n rfl rfl ?_
  refine x_sipush (v := (1000 : Int32)) rfl (by decide) ?_
  obtain ⟨r1, g2, H1, H⟩ := bd2_some H
  refine cs2i s_9_245 rfl rfl (Nat.le_of_ble_eq_true rfl) (fun _ _ => Nat.le_of_ble_eq_true rfl) (y_J9_floorDiv_7cf53 a0 (1000 : Int32) g _ H1 ?_)
  refine am_istore_n rfl (Nat.le_of_ble_eq_true rfl) ?_
  refine am_iload_n rfl rfl ?_
  refine x_sipush (v := (1000 : Int32)) rfl (by decide) ?_
  refine am_iload_n rfl rfl ?_
  refine am_imul rfl ?_
  refine am_isub rfl ?_
  refine am_istore_n rfl (Nat.le_of_ble_eq_true rfl) ?_
  refine am_iload_n rfl rfl ?_
  refine x_sipush (v := (500 : Int32)) rfl (by decide) ?_
  obtain ⟨s7, H1, H⟩ := bd_some H
  have K : (Sum.elim (fun (_ : Unit) => u_V m_X9_rounded 1 post 37 [none, some (.int r1), none] [] g2) (fun (q : Int32 × G) => post q.1 q.2)) s7 := by
    clear H1
    cases s7 with
    | inl s3 =>
      (try dsimp only at H); (try dsimp only)
      refine am_iload_n rfl rfl ?_
      refine x_iconst (v := (1 : Int32)) rfl (by decide) ?_
      refine am_iadd rfl ?_
      refine am_goto rfl ?_
      have H := Option.some.inj H
      subst H
      exact u_iret rfl rfl K
    | inr y =>
      have H := Option.some.inj H
      subst H
      exact K
  have H := H1
  clear H1
  refine am_icmp_gt rfl (fun c4 => ?_) (fun c4 => ?_)
  · have H := it_pos c4 H
    have H := Option.some.inj H
    subst H
    exact am_drop (L' := [none, some (.int r1), none]) (And.intro rfl trivial) K
  · have H := it_neg c4 H
    refine am_iload_n rfl rfl ?_
    refine x_sipush (v := (500 : Int32)) rfl (by decide) ?_
    refine am_icmp_ne rfl (fun c5 => ?_) (fun c5 => ?_)
    · have H := it_neg c5 H
      refine am_iload_n rfl rfl ?_
      have H := Option.some.inj H
      subst H
      exact u_iret rfl rfl K
    · have H := it_pos c5 H
      refine am_iload_n rfl rfl ?_
      refine x_iconst (v := (1 : Int32)) rfl (by decide) ?_
      refine am_iand rfl ?_
      refine x_iconst (v := (1 : Int32)) rfl (by decide) ?_
      refine am_icmp_ne rfl (fun c6 => ?_) (fun c6 => ?_)
      · have H := it_neg c6 H
        refine am_iload_n rfl rfl ?_
        have H := Option.some.inj H
        subst H
        exact u_iret rfl rfl K
      · have H := it_pos c6 H
        have H := Option.some.inj H
        subst H
        exact am_drop (L' := [none, some (.int r1), none]) (And.intro rfl trivial) K
def f_X9_rate (a1 : Int32) (a2 : Int32) (a3 : Int32) (a4 : Int32) (g : G) : Option (Int32 × G) := ck a1 24 fun j1 => ck a2 24 fun j2 => bd ((if ((g 182 j1) - (g 182 j2)) ≤ (400 : Int32) then if (-400 : Int32) ≤ ((g 182 j1) - (g 182 j2)) then some (((g 182 j1) - (g 182 j2))) else some ((-400 : Int32)) else some ((400 : Int32)) : Option (Int32))) fun (s4 : Int32) => ck a1 24 fun j5 => bd2 (f_X9_rounded (a3 * (((500 : Int32) * a4) - ((500 : Int32) + (((5 : Int32) * s4) / (4 : Int32))))) g) fun r6 g7 => ck a1 24 fun j8 => wr (up2 g7 181 j8 ((g 182 j5) + r6)) fun g9 => some (((0 : Int32), g9))
set_option maxHeartbeats 4000000 in
set_option maxRecDepth 100000 in
theorem y_X9_rate (a1 : Int32) (a2 : Int32) (a3 : Int32) (a4 : Int32)  (g : G) (q : Int32 × G) {post : Int32 → G → Prop} (H : f_X9_rate a1 a2 a3 a4 g = some q) (K : post q.1 q.2) : Y m_X9_rate 2 [.ref 159, .int a1, .int a2, .int a3, .int a4] g post := by
  refine Y_of ok_X9_rate pn_9 rfl (by decide) (Or.inl rfl) (List.forall_mem_cons.mpr ⟨rfl, (List.forall_mem_cons.mpr ⟨rfl, (List.forall_mem_cons.mpr ⟨rfl, (List.forall_mem_cons.mpr ⟨rfl, (List.forall_mem_cons.mpr ⟨rfl, (fun _ h => absurd h List.not_mem_nil)⟩)⟩)⟩)⟩)⟩) (Nat.le_of_ble_eq_true rfl) ?_
  show u_V m_X9_rate 2 post 0 [some (.ref 159), some (.int a1), some (.int a2), some (.int a3), some (.int a4), none] [] g
  unfold f_X9_rate at H
  refine am_aload_n rfl rfl ?_
  refine u_getR f_9_83 rfl (Nat.le_of_ble_eq_true rfl) rfl rfl ?_
  refine am_iload_n rfl rfl ?_
  obtain ⟨j1, ej1, hj1, H⟩ := ck_some H
  refine x_iald rfl (Nat.le_of_ble_eq_true rfl) rfl hj1 ej1 ?_
  refine am_aload_n rfl rfl ?_
  refine u_getR f_9_83 rfl (Nat.le_of_ble_eq_true rfl) rfl rfl ?_
  refine am_iload_n rfl rfl ?_
  obtain ⟨j2, ej2, hj2, H⟩ := ck_some H
  refine x_iald rfl (Nat.le_of_ble_eq_true rfl) rfl hj2 ej2 ?_
  refine am_isub rfl ?_
  refine am_istore rfl (Nat.le_of_ble_eq_true rfl) ?_
  refine am_iload rfl rfl ?_
  refine x_sipush (v := (400 : Int32)) rfl (by decide) ?_
  obtain ⟨s12, H1, H⟩ := bd_some H
  have K : (fun (s4 : Int32) => u_V m_X9_rate 2 post 45 [some (.ref 159), some (.int a1), none, some (.int a3), some (.int a4), none] [.int s4] g) s12 := by
    clear H1
    obtain ⟨x3, e_x3⟩ : ∃ z, z = s12 := ⟨_, rfl⟩
    subst e_x3
    (try dsimp only at H); (try dsimp only)
    refine am_istore rfl (Nat.le_of_ble_eq_true rfl) ?_
    refine am_aload_n rfl rfl ?_
    refine u_getR f_9_80 rfl (Nat.le_of_ble_eq_true rfl) rfl rfl ?_
    refine am_iload_n rfl rfl ?_
    refine am_aload_n rfl rfl ?_
    refine u_getR f_9_83 rfl (Nat.le_of_ble_eq_true rfl) rfl rfl ?_
    refine am_iload_n rfl rfl ?_
    obtain ⟨j5, ej5, hj5, H⟩ := ck_some H
    refine x_iald rfl (Nat.le_of_ble_eq_true rfl) rfl hj5 ej5 ?_
    refine am_iload_n rfl rfl ?_
    refine x_sipush (v := (500 : Int32)) rfl (by decide) ?_
    refine am_iload rfl rfl ?_
    refine am_imul rfl ?_
    refine x_sipush (v := (500 : Int32)) rfl (by decide) ?_
    refine x_iconst (v := (5 : Int32)) rfl (by decide) ?_
    refine am_iload rfl rfl ?_
    refine am_imul rfl ?_
    refine x_iconst (v := (4 : Int32)) rfl (by decide) ?_
    refine am_idiv rfl (by decide) ?_
    refine am_iadd rfl ?_
    refine am_isub rfl ?_
    refine am_imul rfl ?_
    obtain ⟨r6, g7, H1, H⟩ := bd2_some H
    refine cs1i s_9_250 rfl rfl (Nat.le_of_ble_eq_true rfl) (fun _ _ => Nat.le_of_ble_eq_true rfl) (y_X9_rounded (a3 * (((500 : Int32) * a4) - ((500 : Int32) + (((5 : Int32) * x3) / (4 : Int32))))) g _ H1 ?_)
    refine am_iadd rfl ?_
    obtain ⟨j8, ej8, hj8, H⟩ := ck_some H
    obtain ⟨g9, eg9, H⟩ := wr_some H
    refine x_iast rfl (Nat.le_of_ble_eq_true rfl) rfl hj8 ej8 eg9 ?_
    have H := Option.some.inj H
    subst H
    exact u_vret rfl rfl K
  have H := H1
  clear H1
  refine am_icmp_le rfl (fun c10 => ?_) (fun c10 => ?_)
  · have H := it_pos c10 H
    refine am_iload rfl rfl ?_
    refine x_sipush (v := (-400 : Int32)) rfl (by decide) ?_
    refine am_icmp_ge rfl (fun c11 => ?_) (fun c11 => ?_)
    · have H := it_pos c11 H
      refine am_iload rfl rfl ?_
      have H := Option.some.inj H
      subst H
      exact am_drop (L' := [some (.ref 159), some (.int a1), none, some (.int a3), some (.int a4), none]) (And.intro rfl (And.intro rfl (And.intro rfl (And.intro rfl trivial)))) K
    · have H := it_neg c11 H
      refine x_sipush (v := (-400 : Int32)) rfl (by decide) ?_
      refine am_goto rfl ?_
      have H := Option.some.inj H
      subst H
      exact am_drop (L' := [some (.ref 159), some (.int a1), none, some (.int a3), some (.int a4), none]) (And.intro rfl (And.intro rfl (And.intro rfl (And.intro rfl trivial)))) K
  · have H := it_neg c10 H
    refine x_sipush (v := (400 : Int32)) rfl (by decide) ?_
    refine am_goto rfl ?_
    have H := Option.some.inj H
    subst H
    exact am_drop (L' := [some (.ref 159), some (.int a1), none, some (.int a3), some (.int a4), none]) (And.intro rfl (And.intro rfl (And.intro rfl (And.intro rfl trivial)))) K
def f_X9_rated (a1 : Int32) (a2 : Int32) (a3 : Int32) (a4 : Int32) (g : G) : Option (Int32 × G) := wr (up2 g 159 2 (0 : Int32)) fun g1 => bd2 (f_X9_isTournament a1 g1) fun r2 g3 => if r2 = 0 then some (((-2 : Int32), g3)) else bd2 (f_X9_isPlayer a2 g3) fun r5 g6 => if r5 = 0 then some (((-2 : Int32), g6)) else bd2 (f_X9_in a3 (-1 : Int32) (5 : Int32) g6) fun r8 g9 => if r8 = 0 then some (((-2 : Int32), g9)) else if 0 ≤ a4 then bd2 (f_X9_placeOf a1 a2 g9) fun r12 g13 => if r12 = (-1 : Int32) then some (((-3 : Int32), g13)) else bd2 (f_X9_gather a1 (1 : Int32) g13) fun r15 g16 => bd2 (f_X9_askWorths  g16) fun r17 g18 => if r17 = (-5 : Int32) then some (((-5 : Int32), g18)) else bd (lp (fun (s22 : Int32 × G) => (if (s22.2 159 30) ≤ s22.1 then some (.inr (s22.2)) else ck s22.1 10 fun j26 => ck s22.1 10 fun j27 => ck (s22.2 175 j26) 24 fun j28 => wr (up2 s22.2 181 j28 (s22.2 176 j27)) fun g29 => some (.inl ((s22.1 + (1 : Int32)), g29)) : Option ((Int32 × G) ⊕ (G)))) 2000 ((0 : Int32), g18)) fun (s24 : G) => bd (lp (fun (s33 : Int32 × G) => (if a3 < s33.1 then some (.inr (.inl (s33.2))) else bd2 (f_X9_cell a1 (25 : Int32) s33.2) fun r37 g38 => if s33.1 < r37 then bd (lp (fun (s42 : Int32 × G) => (if (24 : Int32) ≤ s42.1 then some (.inr (s42.2)) else ck s42.1 24 fun j46 => ck s42.1 24 fun j47 => wr (up2 s42.2 182 j47 (s42.2 181 j46)) fun g48 => some (.inl ((s42.1 + (1 : Int32)), g48)) : Option ((Int32 × G) ⊕ (G)))) 2000 ((0 : Int32), g38)) fun (s44 : G) => bd (lp (fun (s52 : Int32 × G) => (bd2 (f_X9_cell a1 ((32 : Int32) + s33.1) s52.2) fun r55 g56 => if r55 ≤ s52.1 then some (.inr (g56)) else bd2 (f_X9_isWithNobody a1 (((5 : Int32) * s33.1) + s52.1) g56) fun r58 g59 => bd ((if r58 = 0 then bd2 (f_X9_outcomeOf a1 (((5 : Int32) * s33.1) + s52.1) (2147483647 : Int32) a4 g59) fun r86 g87 => some ((r86, g87)) else some (((-1 : Int32), g59)) : Option (Int32 × G))) fun (s62 : Int32 × G) => bd2 (f_X9_in s62.1 (0 : Int32) (2 : Int32) s62.2) fun r63 g64 => bd ((if r63 = 0 then some (g64) else bd2 (f_X9_cell a1 ((50 : Int32) + (((5 : Int32) * s33.1) + s52.1)) g64) fun r68 g69 => bd2 (f_X9_cell a1 ((80 : Int32) + (((5 : Int32) * s33.1) + s52.1)) g69) fun r70 g71 => bd2 (f_X9_stepFor r68 g71) fun r72 g73 => bd2 (f_X9_stepFor r70 g73) fun r74 g75 => bd2 (f_X9_halves s62.1 (1 : Int32) g75) fun r76 g77 => bd2 (f_X9_rate r68 r70 r72 r76 g77) fun r78 g79 => bd2 (f_X9_halves s62.1 (0 : Int32) g79) fun r80 g81 => bd2 (f_X9_rate r70 r68 r74 r80 g81) fun r82 g83 => some (g83) : Option (G))) fun (s66 : G) => some (.inl ((s52.1 + (1 : Int32)), s66)) : Option ((Int32 × G) ⊕ (G)))) 2000 ((0 : Int32), s44)) fun (s54 : G) => some (.inl ((s33.1 + (1 : Int32)), s54)) else bd2 (f_X9_meets (1 : Int32) g38) fun r90 g91 => some (.inr (.inr ((r90, g91)))) : Option ((Int32 × G) ⊕ ((G) ⊕ (Int32 × G))))) 2000 ((0 : Int32), s24)) fun s92m => (match s92m with | .inl s35 => (ck a2 24 fun j93 => some (((s35 181 j93), s35))) | .inr y => some y) else some (((-2 : Int32), g9))
set_option maxHeartbeats 4000000 in
set_option maxRecDepth 100000 in
theorem y_X9_rated (a1 : Int32) (a2 : Int32) (a3 : Int32) (a4 : Int32)  (g : G) (q : Int32 × G) {post : Int32 → G → Prop} (H : f_X9_rated a1 a2 a3 a4 g = some q) (K : post q.1 q.2) : Y m_X9_rated 4 [.ref 159, .int a1, .int a2, .int a3, .int a4] g post := by
  refine Y_of ok_X9_rated pn_9 rfl (by decide) (Or.inr (Or.inl rfl)) (List.forall_mem_cons.mpr ⟨rfl, (List.forall_mem_cons.mpr ⟨rfl, (List.forall_mem_cons.mpr ⟨rfl, (List.forall_mem_cons.mpr ⟨rfl, (List.forall_mem_cons.mpr ⟨rfl, (fun _ h => absurd h List.not_mem_nil)⟩)⟩)⟩)⟩)⟩) (Nat.le_of_ble_eq_true rfl) ?_
  show u_V m_X9_rated 4 post 0 [some (.ref 159), some (.int a1), some (.int a2), some (.int a3), some (.int a4), none, none, none, none, none, none, none, none] [] g
  unfold f_X9_rated at H
  refine am_aload_n rfl rfl ?_
  refine x_iconst (v := (0 : Int32)) rfl (by decide) ?_
  obtain ⟨g1, eg1, H⟩ := wr_some H
  refine x_putI f_9_95 rfl rfl (Nat.le_of_ble_eq_true rfl) rfl rfl (fun _ _ => ⟨rfl, rfl⟩) eg1 ?_
  refine am_aload_n rfl rfl ?_
  refine am_iload_n rfl rfl ?_
  obtain ⟨r2, g3, H1, H⟩ := bd2_some H
  refine cv1i v_9_144 rfl rfl (Nat.le_of_ble_eq_true rfl) rfl (Nat.le_of_ble_eq_true rfl) (fun _ _ => Nat.le_of_ble_eq_true rfl) (y_X9_isTournament a1 g1 _ H1 ?_)
  refine am_if_eq rfl (fun c4 => ?_) (fun c4 => ?_)
  · have H := it_pos c4 H
    refine x_bipush (v := (-2 : Int32)) rfl (by decide) ?_
    have H := Option.some.inj H
    subst H
    exact u_iret rfl rfl K
  · have H := it_neg c4 H
    refine am_aload_n rfl rfl ?_
    refine am_iload_n rfl rfl ?_
    obtain ⟨r5, g6, H1, H⟩ := bd2_some H
    refine cv1i v_9_108 rfl rfl (Nat.le_of_ble_eq_true rfl) rfl (Nat.le_of_ble_eq_true rfl) (fun _ _ => Nat.le_of_ble_eq_true rfl) (y_X9_isPlayer a2 g3 _ H1 ?_)
    refine am_if_eq rfl (fun c7 => ?_) (fun c7 => ?_)
    · have H := it_pos c7 H
      refine x_bipush (v := (-2 : Int32)) rfl (by decide) ?_
      have H := Option.some.inj H
      subst H
      exact u_iret rfl rfl K
    · have H := it_neg c7 H
      refine am_iload_n rfl rfl ?_
      refine x_iconst (v := (-1 : Int32)) rfl (by decide) ?_
      refine x_iconst (v := (5 : Int32)) rfl (by decide) ?_
      obtain ⟨r8, g9, H1, H⟩ := bd2_some H
      refine cs3i s_9_101 rfl rfl (Nat.le_of_ble_eq_true rfl) (fun _ _ => Nat.le_of_ble_eq_true rfl) (y_X9_in a3 (-1 : Int32) (5 : Int32) g6 _ H1 ?_)
      refine am_if_eq rfl (fun c10 => ?_) (fun c10 => ?_)
      · have H := it_pos c10 H
        refine x_bipush (v := (-2 : Int32)) rfl (by decide) ?_
        have H := Option.some.inj H
        subst H
        exact u_iret rfl rfl K
      · have H := it_neg c10 H
        refine am_iload rfl rfl ?_
        refine am_if_ge rfl (fun c11 => ?_) (fun c11 => ?_)
        · have H := it_pos c11 H
          refine am_aload_n rfl rfl ?_
          refine am_iload_n rfl rfl ?_
          refine am_iload_n rfl rfl ?_
          obtain ⟨r12, g13, H1, H⟩ := bd2_some H
          refine cv2i v_9_147 rfl rfl (Nat.le_of_ble_eq_true rfl) rfl (Nat.le_of_ble_eq_true rfl) (fun _ _ => Nat.le_of_ble_eq_true rfl) (y_X9_placeOf a1 a2 g9 _ H1 ?_)
          refine x_iconst (v := (-1 : Int32)) rfl (by decide) ?_
          refine am_icmp_ne rfl (fun c14 => ?_) (fun c14 => ?_)
          · have H := it_neg c14 H
            refine am_aload_n rfl rfl ?_
            refine am_iload_n rfl rfl ?_
            refine x_iconst (v := (1 : Int32)) rfl (by decide) ?_
            obtain ⟨r15, g16, H1, H⟩ := bd2_some H
            refine cv2v v_9_218 rfl rfl (Nat.le_of_ble_eq_true rfl) rfl (Nat.le_of_ble_eq_true rfl) (fun _ _ => Nat.le_of_ble_eq_true rfl) (y_X9_gather a1 (1 : Int32) g13 _ H1 ?_)
            refine am_aload_n rfl rfl ?_
            obtain ⟨r17, g18, H1, H⟩ := bd2_some H
            refine cv0i v_9_222 rfl rfl (Nat.le_of_ble_eq_true rfl) rfl (Nat.le_of_ble_eq_true rfl) (fun _ _ => Nat.le_of_ble_eq_true rfl) (y_X9_askWorths  g16 _ H1 ?_)
            refine x_bipush (v := (-5 : Int32)) rfl (by decide) ?_
            refine am_icmp_ne rfl (fun c19 => ?_) (fun c19 => ?_)
            · have H := it_neg c19 H
              refine x_iconst (v := (0 : Int32)) rfl (by decide) ?_
              refine am_istore rfl (Nat.le_of_ble_eq_true rfl) ?_
              obtain ⟨s30, H1, H⟩ := bd_some H
              have K2 : (fun (s24 : G) => u_V m_X9_rated 4 post 106 [some (.ref 159), some (.int a1), some (.int a2), some (.int a3), some (.int a4), none, none, none, none, none, none, none, none] [] s24) s30 := by
                clear H1
                obtain ⟨g23, e_g23⟩ : ∃ z, z = s30 := ⟨_, rfl⟩
                subst e_g23
                (try dsimp only at H); (try dsimp only)
                refine x_iconst (v := (0 : Int32)) rfl (by decide) ?_
                refine am_istore rfl (Nat.le_of_ble_eq_true rfl) ?_
                obtain ⟨s92, H1, H⟩ := bd_some H
                have K2 : (Sum.elim (fun (s35 : G) => u_V m_X9_rated 4 post 311 [some (.ref 159), none, some (.int a2), none, none, none, none, none, none, none, none, none, none] [] s35) (fun (q : Int32 × G) => post q.1 q.2)) s92 := by
                  clear H1
                  cases s92 with
                  | inl s35 =>
                    obtain ⟨g34, e_g34⟩ : ∃ z, z = s35 := ⟨_, rfl⟩
                    subst e_g34
                    (try dsimp only at H); (try dsimp only)
                    refine am_aload_n rfl rfl ?_
                    refine u_getR f_9_80 rfl (Nat.le_of_ble_eq_true rfl) rfl rfl ?_
                    refine am_iload_n rfl rfl ?_
                    obtain ⟨j93, ej93, hj93, H⟩ := ck_some H
                    refine x_iald rfl (Nat.le_of_ble_eq_true rfl) rfl hj93 ej93 ?_
                    have H := Option.some.inj H
                    subst H
                    exact u_iret rfl rfl K
                  | inr y =>
                    have H := Option.some.inj H
                    subst H
                    exact K
                refine am_drop (L' := [some (.ref 159), some (.int a1), some (.int a2), some (.int a3), some (.int a4), some (.int (0 : Int32)), none, none, none, none, none, none, none]) (And.intro rfl (And.intro rfl (And.intro rfl (And.intro rfl (And.intro rfl (And.intro rfl trivial)))))) ?_
                refine lp_ind (P := (fun (s33 : Int32 × G) => u_V m_X9_rated 4 post 109 [some (.ref 159), some (.int a1), some (.int a2), some (.int a3), some (.int a4), some (.int s33.1), none, none, none, none, none, none, none] [] s33.2)) (Q := (Sum.elim (fun (s35 : G) => u_V m_X9_rated 4 post 311 [some (.ref 159), none, some (.int a2), none, none, none, none, none, none, none, none, none, none] [] s35) (fun (q : Int32 × G) => post q.1 q.2))) ?_ 2000 ((0 : Int32), g23) s92 H1 K2
                clear H1 H K
                intro s33 s92b H K
                obtain ⟨x31, g32⟩ := s33
                (try dsimp only at H); (try dsimp only)
                refine am_iload rfl rfl ?_
                refine am_iload_n rfl rfl ?_
                refine am_icmp_gt rfl (fun c36 => ?_) (fun c36 => ?_)
                · have H := it_pos c36 H
                  have H := Option.some.inj H
                  subst H
                  exact am_drop (L' := [some (.ref 159), none, some (.int a2), none, none, none, none, none, none, none, none, none, none]) (And.intro rfl (And.intro rfl trivial)) K
                · have H := it_neg c36 H
                  refine am_iload rfl rfl ?_
                  refine am_aload_n rfl rfl ?_
                  refine am_iload_n rfl rfl ?_
                  refine x_bipush (v := (25 : Int32)) rfl (by decide) ?_
                  obtain ⟨r37, g38, H1, H⟩ := bd2_some H
                  refine cv2i v_9_140 rfl rfl (Nat.le_of_ble_eq_true rfl) rfl (Nat.le_of_ble_eq_true rfl) (fun _ _ => Nat.le_of_ble_eq_true rfl) (y_X9_cell a1 (25 : Int32) g32 _ H1 ?_)
                  refine am_icmp_lt rfl (fun c39 => ?_) (fun c39 => ?_)
                  · have H := it_pos c39 H
                    refine x_iconst (v := (0 : Int32)) rfl (by decide) ?_
                    refine am_istore rfl (Nat.le_of_ble_eq_true rfl) ?_
                    obtain ⟨s49, H1, H⟩ := bd_some H
                    have K2 : (fun (s44 : G) => u_V m_X9_rated 4 post 163 [some (.ref 159), some (.int a1), some (.int a2), some (.int a3), some (.int a4), some (.int x31), none, none, none, none, none, none, none] [] s44) s49 := by
                      clear H1
                      obtain ⟨g43, e_g43⟩ : ∃ z, z = s49 := ⟨_, rfl⟩
                      subst e_g43
                      (try dsimp only at H); (try dsimp only)
                      refine x_iconst (v := (0 : Int32)) rfl (by decide) ?_
                      refine am_istore rfl (Nat.le_of_ble_eq_true rfl) ?_
                      obtain ⟨s89, H1, H⟩ := bd_some H
                      have K2 : (fun (s54 : G) => u_V m_X9_rated 4 post 305 [some (.ref 159), some (.int a1), some (.int a2), some (.int a3), some (.int a4), some (.int x31), none, none, none, none, none, none, none] [] s54) s89 := by
                        clear H1
                        obtain ⟨g53, e_g53⟩ : ∃ z, z = s89 := ⟨_, rfl⟩
                        subst e_g53
                        (try dsimp only at H); (try dsimp only)
                        refine x_iinc (v := (x31 + (1 : Int32))) rfl rfl (Nat.le_of_ble_eq_true rfl) rfl ?_
                        refine am_goto rfl ?_
                        have H := Option.some.inj H
                        subst H
                        exact am_drop (L' := [some (.ref 159), some (.int a1), some (.int a2), some (.int a3), some (.int a4), some (.int (x31 + (1 : Int32))), none, none, none, none, none, none, none]) (And.intro rfl (And.intro rfl (And.intro rfl (And.intro rfl (And.intro rfl (And.intro rfl trivial)))))) K
                      refine am_drop (L' := [some (.ref 159), some (.int a1), some (.int a2), some (.int a3), some (.int a4), some (.int x31), some (.int (0 : Int32)), none, none, none, none, none, none]) (And.intro rfl (And.intro rfl (And.intro rfl (And.intro rfl (And.intro rfl (And.intro rfl (And.intro rfl trivial))))))) ?_
                      refine lp_ind (P := (fun (s52 : Int32 × G) => u_V m_X9_rated 4 post 166 [some (.ref 159), some (.int a1), some (.int a2), some (.int a3), some (.int a4), some (.int x31), some (.int s52.1), none, none, none, none, none, none] [] s52.2)) (Q := (fun (s54 : G) => u_V m_X9_rated 4 post 305 [some (.ref 159), some (.int a1), some (.int a2), some (.int a3), some (.int a4), some (.int x31), none, none, none, none, none, none, none] [] s54)) ?_ 2000 ((0 : Int32), g43) s89 H1 K2
                      clear H1 H K
                      intro s52 s89b H K
                      obtain ⟨x50, g51⟩ := s52
                      (try dsimp only at H); (try dsimp only)
                      refine am_iload rfl rfl ?_
                      refine am_aload_n rfl rfl ?_
                      refine am_iload_n rfl rfl ?_
                      refine x_bipush (v := (32 : Int32)) rfl (by decide) ?_
                      refine am_iload rfl rfl ?_
                      refine am_iadd rfl ?_
                      obtain ⟨r55, g56, H1, H⟩ := bd2_some H
                      refine cv2i v_9_140 rfl rfl (Nat.le_of_ble_eq_true rfl) rfl (Nat.le_of_ble_eq_true rfl) (fun _ _ => Nat.le_of_ble_eq_true rfl) (y_X9_cell a1 ((32 : Int32) + x31) g51 _ H1 ?_)
                      refine am_icmp_ge rfl (fun c57 => ?_) (fun c57 => ?_)
                      · have H := it_pos c57 H
                        have H := Option.some.inj H
                        subst H
                        exact am_drop (L' := [some (.ref 159), some (.int a1), some (.int a2), some (.int a3), some (.int a4), some (.int x31), none, none, none, none, none, none, none]) (And.intro rfl (And.intro rfl (And.intro rfl (And.intro rfl (And.intro rfl (And.intro rfl trivial)))))) K
                      · have H := it_neg c57 H
                        refine x_iconst (v := (5 : Int32)) rfl (by decide) ?_
                        refine am_iload rfl rfl ?_
                        refine am_imul rfl ?_
                        refine am_iload rfl rfl ?_
                        refine am_iadd rfl ?_
                        refine am_istore rfl (Nat.le_of_ble_eq_true rfl) ?_
                        refine am_aload_n rfl rfl ?_
                        refine am_iload_n rfl rfl ?_
                        refine am_iload rfl rfl ?_
                        obtain ⟨r58, g59, H1, H⟩ := bd2_some H
                        refine cv2i v_9_161 rfl rfl (Nat.le_of_ble_eq_true rfl) rfl (Nat.le_of_ble_eq_true rfl) (fun _ _ => Nat.le_of_ble_eq_true rfl) (y_X9_isWithNobody a1 (((5 : Int32) * x31) + x50) g56 _ H1 ?_)
                        obtain ⟨s88, H1, H⟩ := bd_some H
                        have K : (fun (s62 : Int32 × G) => u_V m_X9_rated 4 post 215 [some (.ref 159), some (.int a1), some (.int a2), some (.int a3), some (.int a4), some (.int x31), some (.int x50), some (.int (((5 : Int32) * x31) + x50)), none, none, none, none, none] [.int s62.1] s62.2) s88 := by
                          clear H1
                          obtain ⟨x60, g61⟩ := s88
                          (try dsimp only at H); (try dsimp only)
                          refine am_istore rfl (Nat.le_of_ble_eq_true rfl) ?_
                          refine am_iload rfl rfl ?_
                          refine x_iconst (v := (0 : Int32)) rfl (by decide) ?_
                          refine x_iconst (v := (2 : Int32)) rfl (by decide) ?_
                          obtain ⟨r63, g64, H1, H⟩ := bd2_some H
                          refine cs3i s_9_101 rfl rfl (Nat.le_of_ble_eq_true rfl) (fun _ _ => Nat.le_of_ble_eq_true rfl) (y_X9_in x60 (0 : Int32) (2 : Int32) g61 _ H1 ?_)
                          obtain ⟨s84, H1, H⟩ := bd_some H
                          have K : (fun (s66 : G) => u_V m_X9_rated 4 post 299 [some (.ref 159), some (.int a1), some (.int a2), some (.int a3), some (.int a4), some (.int x31), some (.int x50), none, none, none, none, none, none] [] s66) s84 := by
                            clear H1
                            obtain ⟨g65, e_g65⟩ : ∃ z, z = s84 := ⟨_, rfl⟩
                            subst e_g65
                            (try dsimp only at H); (try dsimp only)
                            refine x_iinc (v := (x50 + (1 : Int32))) rfl rfl (Nat.le_of_ble_eq_true rfl) rfl ?_
                            refine am_goto rfl ?_
                            have H := Option.some.inj H
                            subst H
                            exact am_drop (L' := [some (.ref 159), some (.int a1), some (.int a2), some (.int a3), some (.int a4), some (.int x31), some (.int (x50 + (1 : Int32))), none, none, none, none, none, none]) (And.intro rfl (And.intro rfl (And.intro rfl (And.intro rfl (And.intro rfl (And.intro rfl (And.intro rfl trivial))))))) K
                          have H := H1
                          clear H1
                          refine am_if_eq rfl (fun c67 => ?_) (fun c67 => ?_)
                          · have H := it_pos c67 H
                            have H := Option.some.inj H
                            subst H
                            exact am_drop (L' := [some (.ref 159), some (.int a1), some (.int a2), some (.int a3), some (.int a4), some (.int x31), some (.int x50), none, none, none, none, none, none]) (And.intro rfl (And.intro rfl (And.intro rfl (And.intro rfl (And.intro rfl (And.intro rfl (And.intro rfl trivial))))))) K
                          · have H := it_neg c67 H
                            refine am_aload_n rfl rfl ?_
                            refine am_iload_n rfl rfl ?_
                            refine x_bipush (v := (50 : Int32)) rfl (by decide) ?_
                            refine am_iload rfl rfl ?_
                            refine am_iadd rfl ?_
                            obtain ⟨r68, g69, H1, H⟩ := bd2_some H
                            refine cv2i v_9_140 rfl rfl (Nat.le_of_ble_eq_true rfl) rfl (Nat.le_of_ble_eq_true rfl) (fun _ _ => Nat.le_of_ble_eq_true rfl) (y_X9_cell a1 ((50 : Int32) + (((5 : Int32) * x31) + x50)) g64 _ H1 ?_)
                            refine am_istore rfl (Nat.le_of_ble_eq_true rfl) ?_
                            refine am_aload_n rfl rfl ?_
                            refine am_iload_n rfl rfl ?_
                            refine x_bipush (v := (80 : Int32)) rfl (by decide) ?_
                            refine am_iload rfl rfl ?_
                            refine am_iadd rfl ?_
                            obtain ⟨r70, g71, H1, H⟩ := bd2_some H
                            refine cv2i v_9_140 rfl rfl (Nat.le_of_ble_eq_true rfl) rfl (Nat.le_of_ble_eq_true rfl) (fun _ _ => Nat.le_of_ble_eq_true rfl) (y_X9_cell a1 ((80 : Int32) + (((5 : Int32) * x31) + x50)) g69 _ H1 ?_)
                            refine am_istore rfl (Nat.le_of_ble_eq_true rfl) ?_
                            refine am_aload_n rfl rfl ?_
                            refine am_iload rfl rfl ?_
                            obtain ⟨r72, g73, H1, H⟩ := bd2_some H
                            refine cv1i v_9_126 rfl rfl (Nat.le_of_ble_eq_true rfl) rfl (Nat.le_of_ble_eq_true rfl) (fun _ _ => Nat.le_of_ble_eq_true rfl) (y_X9_stepFor r68 g71 _ H1 ?_)
                            refine am_istore rfl (Nat.le_of_ble_eq_true rfl) ?_
                            refine am_aload_n rfl rfl ?_
                            refine am_iload rfl rfl ?_
                            obtain ⟨r74, g75, H1, H⟩ := bd2_some H
                            refine cv1i v_9_126 rfl rfl (Nat.le_of_ble_eq_true rfl) rfl (Nat.le_of_ble_eq_true rfl) (fun _ _ => Nat.le_of_ble_eq_true rfl) (y_X9_stepFor r70 g73 _ H1 ?_)
                            refine am_istore rfl (Nat.le_of_ble_eq_true rfl) ?_
                            refine am_aload_n rfl rfl ?_
                            refine am_iload rfl rfl ?_
                            refine am_iload rfl rfl ?_
                            refine am_iload rfl rfl ?_
                            refine am_iload rfl rfl ?_
                            refine x_iconst (v := (1 : Int32)) rfl (by decide) ?_
                            obtain ⟨r76, g77, H1, H⟩ := bd2_some H
                            refine cs2i s_9_169 rfl rfl (Nat.le_of_ble_eq_true rfl) (fun _ _ => Nat.le_of_ble_eq_true rfl) (y_X9_halves x60 (1 : Int32) g75 _ H1 ?_)
                            obtain ⟨r78, g79, H1, H⟩ := bd2_some H
                            refine cv4v v_9_253 rfl rfl (Nat.le_of_ble_eq_true rfl) rfl (Nat.le_of_ble_eq_true rfl) (fun _ _ => Nat.le_of_ble_eq_true rfl) (y_X9_rate r68 r70 r72 r76 g77 _ H1 ?_)
                            refine am_aload_n rfl rfl ?_
                            refine am_iload rfl rfl ?_
                            refine am_iload rfl rfl ?_
                            refine am_iload rfl rfl ?_
                            refine am_iload rfl rfl ?_
                            refine x_iconst (v := (0 : Int32)) rfl (by decide) ?_
                            obtain ⟨r80, g81, H1, H⟩ := bd2_some H
                            refine cs2i s_9_169 rfl rfl (Nat.le_of_ble_eq_true rfl) (fun _ _ => Nat.le_of_ble_eq_true rfl) (y_X9_halves x60 (0 : Int32) g79 _ H1 ?_)
                            obtain ⟨r82, g83, H1, H⟩ := bd2_some H
                            refine cv4v v_9_253 rfl rfl (Nat.le_of_ble_eq_true rfl) rfl (Nat.le_of_ble_eq_true rfl) (fun _ _ => Nat.le_of_ble_eq_true rfl) (y_X9_rate r70 r68 r74 r80 g81 _ H1 ?_)
                            have H := Option.some.inj H
                            subst H
                            exact am_drop (L' := [some (.ref 159), some (.int a1), some (.int a2), some (.int a3), some (.int a4), some (.int x31), some (.int x50), none, none, none, none, none, none]) (And.intro rfl (And.intro rfl (And.intro rfl (And.intro rfl (And.intro rfl (And.intro rfl (And.intro rfl trivial))))))) K
                        have H := H1
                        clear H1
                        refine am_if_eq rfl (fun c85 => ?_) (fun c85 => ?_)
                        · have H := it_pos c85 H
                          refine am_aload_n rfl rfl ?_
                          refine am_iload_n rfl rfl ?_
                          refine am_iload rfl rfl ?_
                          refine am_ldc (v := (2147483647 : Int32)) c_9_214 rfl ?_
                          refine am_iload rfl rfl ?_
                          obtain ⟨r86, g87, H1, H⟩ := bd2_some H
                          refine cv4i v_9_165 rfl rfl (Nat.le_of_ble_eq_true rfl) rfl (Nat.le_of_ble_eq_true rfl) (fun _ _ => Nat.le_of_ble_eq_true rfl) (y_X9_outcomeOf a1 (((5 : Int32) * x31) + x50) (2147483647 : Int32) a4 g59 _ H1 ?_)
                          have H := Option.some.inj H
                          subst H
                          exact am_drop (L' := [some (.ref 159), some (.int a1), some (.int a2), some (.int a3), some (.int a4), some (.int x31), some (.int x50), some (.int (((5 : Int32) * x31) + x50)), none, none, none, none, none]) (And.intro rfl (And.intro rfl (And.intro rfl (And.intro rfl (And.intro rfl (And.intro rfl (And.intro rfl (And.intro rfl trivial)))))))) K
                        · have H := it_neg c85 H
                          refine x_iconst (v := (-1 : Int32)) rfl (by decide) ?_
                          refine am_goto rfl ?_
                          have H := Option.some.inj H
                          subst H
                          exact am_drop (L' := [some (.ref 159), some (.int a1), some (.int a2), some (.int a3), some (.int a4), some (.int x31), some (.int x50), some (.int (((5 : Int32) * x31) + x50)), none, none, none, none, none]) (And.intro rfl (And.intro rfl (And.intro rfl (And.intro rfl (And.intro rfl (And.intro rfl (And.intro rfl (And.intro rfl trivial)))))))) K
                    refine am_drop (L' := [some (.ref 159), some (.int a1), some (.int a2), some (.int a3), some (.int a4), some (.int x31), some (.int (0 : Int32)), none, none, none, none, none, none]) (And.intro rfl (And.intro rfl (And.intro rfl (And.intro rfl (And.intro rfl (And.intro rfl (And.intro rfl trivial))))))) ?_
                    refine lp_ind (P := (fun (s42 : Int32 × G) => u_V m_X9_rated 4 post 136 [some (.ref 159), some (.int a1), some (.int a2), some (.int a3), some (.int a4), some (.int x31), some (.int s42.1), none, none, none, none, none, none] [] s42.2)) (Q := (fun (s44 : G) => u_V m_X9_rated 4 post 163 [some (.ref 159), some (.int a1), some (.int a2), some (.int a3), some (.int a4), some (.int x31), none, none, none, none, none, none, none] [] s44)) ?_ 2000 ((0 : Int32), g38) s49 H1 K2
                    clear H1 H K
                    intro s42 s49b H K
                    obtain ⟨x40, g41⟩ := s42
                    (try dsimp only at H); (try dsimp only)
                    refine am_iload rfl rfl ?_
                    refine x_bipush (v := (24 : Int32)) rfl (by decide) ?_
                    refine am_icmp_ge rfl (fun c45 => ?_) (fun c45 => ?_)
                    · have H := it_pos c45 H
                      have H := Option.some.inj H
                      subst H
                      exact am_drop (L' := [some (.ref 159), some (.int a1), some (.int a2), some (.int a3), some (.int a4), some (.int x31), none, none, none, none, none, none, none]) (And.intro rfl (And.intro rfl (And.intro rfl (And.intro rfl (And.intro rfl (And.intro rfl trivial)))))) K
                    · have H := it_neg c45 H
                      refine am_aload_n rfl rfl ?_
                      refine u_getR f_9_83 rfl (Nat.le_of_ble_eq_true rfl) rfl rfl ?_
                      refine am_iload rfl rfl ?_
                      refine am_aload_n rfl rfl ?_
                      refine u_getR f_9_80 rfl (Nat.le_of_ble_eq_true rfl) rfl rfl ?_
                      refine am_iload rfl rfl ?_
                      obtain ⟨j46, ej46, hj46, H⟩ := ck_some H
                      refine x_iald rfl (Nat.le_of_ble_eq_true rfl) rfl hj46 ej46 ?_
                      obtain ⟨j47, ej47, hj47, H⟩ := ck_some H
                      obtain ⟨g48, eg48, H⟩ := wr_some H
                      refine x_iast rfl (Nat.le_of_ble_eq_true rfl) rfl hj47 ej47 eg48 ?_
                      refine x_iinc (v := (x40 + (1 : Int32))) rfl rfl (Nat.le_of_ble_eq_true rfl) rfl ?_
                      refine am_goto rfl ?_
                      have H := Option.some.inj H
                      subst H
                      exact am_drop (L' := [some (.ref 159), some (.int a1), some (.int a2), some (.int a3), some (.int a4), some (.int x31), some (.int (x40 + (1 : Int32))), none, none, none, none, none, none]) (And.intro rfl (And.intro rfl (And.intro rfl (And.intro rfl (And.intro rfl (And.intro rfl (And.intro rfl trivial))))))) K
                  · have H := it_neg c39 H
                    refine am_aload_n rfl rfl ?_
                    refine x_iconst (v := (1 : Int32)) rfl (by decide) ?_
                    obtain ⟨r90, g91, H1, H⟩ := bd2_some H
                    refine cv1i v_9_112 rfl rfl (Nat.le_of_ble_eq_true rfl) rfl (Nat.le_of_ble_eq_true rfl) (fun _ _ => Nat.le_of_ble_eq_true rfl) (y_X9_meets (1 : Int32) g38 _ H1 ?_)
                    have H := Option.some.inj H
                    subst H
                    exact u_iret rfl rfl K
              refine am_drop (L' := [some (.ref 159), some (.int a1), some (.int a2), some (.int a3), some (.int a4), some (.int (0 : Int32)), none, none, none, none, none, none, none]) (And.intro rfl (And.intro rfl (And.intro rfl (And.intro rfl (And.intro rfl (And.intro rfl trivial)))))) ?_
              refine lp_ind (P := (fun (s22 : Int32 × G) => u_V m_X9_rated 4 post 72 [some (.ref 159), some (.int a1), some (.int a2), some (.int a3), some (.int a4), some (.int s22.1), none, none, none, none, none, none, none] [] s22.2)) (Q := (fun (s24 : G) => u_V m_X9_rated 4 post 106 [some (.ref 159), some (.int a1), some (.int a2), some (.int a3), some (.int a4), none, none, none, none, none, none, none, none] [] s24)) ?_ 2000 ((0 : Int32), g18) s30 H1 K2
              clear H1 H K
              intro s22 s30b H K
              obtain ⟨x20, g21⟩ := s22
              (try dsimp only at H); (try dsimp only)
              refine am_iload rfl rfl ?_
              refine am_aload_n rfl rfl ?_
              refine u_getI f_9_197 rfl (Nat.le_of_ble_eq_true rfl) rfl rfl ?_
              refine am_icmp_ge rfl (fun c25 => ?_) (fun c25 => ?_)
              · have H := it_pos c25 H
                have H := Option.some.inj H
                subst H
                exact am_drop (L' := [some (.ref 159), some (.int a1), some (.int a2), some (.int a3), some (.int a4), none, none, none, none, none, none, none, none]) (And.intro rfl (And.intro rfl (And.intro rfl (And.intro rfl (And.intro rfl trivial))))) K
              · have H := it_neg c25 H
                refine am_aload_n rfl rfl ?_
                refine u_getR f_9_80 rfl (Nat.le_of_ble_eq_true rfl) rfl rfl ?_
                refine am_aload_n rfl rfl ?_
                refine u_getR f_9_62 rfl (Nat.le_of_ble_eq_true rfl) rfl rfl ?_
                refine am_iload rfl rfl ?_
                obtain ⟨j26, ej26, hj26, H⟩ := ck_some H
                refine x_iald rfl (Nat.le_of_ble_eq_true rfl) rfl hj26 ej26 ?_
                refine am_aload_n rfl rfl ?_
                refine u_getR f_9_65 rfl (Nat.le_of_ble_eq_true rfl) rfl rfl ?_
                refine am_iload rfl rfl ?_
                obtain ⟨j27, ej27, hj27, H⟩ := ck_some H
                refine x_iald rfl (Nat.le_of_ble_eq_true rfl) rfl hj27 ej27 ?_
                obtain ⟨j28, ej28, hj28, H⟩ := ck_some H
                obtain ⟨g29, eg29, H⟩ := wr_some H
                refine x_iast rfl (Nat.le_of_ble_eq_true rfl) rfl hj28 ej28 eg29 ?_
                refine x_iinc (v := (x20 + (1 : Int32))) rfl rfl (Nat.le_of_ble_eq_true rfl) rfl ?_
                refine am_goto rfl ?_
                have H := Option.some.inj H
                subst H
                exact am_drop (L' := [some (.ref 159), some (.int a1), some (.int a2), some (.int a3), some (.int a4), some (.int (x20 + (1 : Int32))), none, none, none, none, none, none, none]) (And.intro rfl (And.intro rfl (And.intro rfl (And.intro rfl (And.intro rfl (And.intro rfl trivial)))))) K
            · have H := it_pos c19 H
              refine x_bipush (v := (-5 : Int32)) rfl (by decide) ?_
              have H := Option.some.inj H
              subst H
              exact u_iret rfl rfl K
          · have H := it_pos c14 H
            refine x_bipush (v := (-3 : Int32)) rfl (by decide) ?_
            have H := Option.some.inj H
            subst H
            exact u_iret rfl rfl K
        · have H := it_neg c11 H
          refine x_bipush (v := (-2 : Int32)) rfl (by decide) ?_
          have H := Option.some.inj H
          subst H
          exact u_iret rfl rfl K
def f_X9_mean (a1 : Int32) (g : G) : Option (Int32 × G) := wr (up2 g 159 2 (0 : Int32)) fun g1 => bd2 (f_X9_isTournament a1 g1) fun r2 g3 => if r2 = 0 then some (((-2 : Int32), g3)) else bd2 (f_X9_gather a1 (1 : Int32) g3) fun r5 g6 => bd2 (f_X9_askWorths  g6) fun r7 g8 => if r7 = (-5 : Int32) then some (((-5 : Int32), g8)) else bd (lp (fun (s12 : Int32 × Int32) => (if (g8 159 30) ≤ s12.2 then some (.inr (s12.1)) else ck s12.2 10 fun j16 => some (.inl ((s12.1 + (g8 176 j16)), (s12.2 + (1 : Int32)))) : Option ((Int32 × Int32) ⊕ (Int32)))) 2000 ((0 : Int32), (0 : Int32))) fun (s14 : Int32) => if (g8 159 30) = 0 then bd2 (f_X9_meets (4 : Int32) g8) fun r20 g21 => some ((r20, g21)) else dz (g8 159 30) (some (((s14 / (g8 159 30)), g8)))
set_option maxHeartbeats 4000000 in
set_option maxRecDepth 100000 in
theorem y_X9_mean (a1 : Int32)  (g : G) (q : Int32 × G) {post : Int32 → G → Prop} (H : f_X9_mean a1 g = some q) (K : post q.1 q.2) : Y m_X9_mean 4 [.ref 159, .int a1] g post := by
  refine Y_of ok_X9_mean pn_9 rfl (by decide) (Or.inr (Or.inl rfl)) (List.forall_mem_cons.mpr ⟨rfl, (List.forall_mem_cons.mpr ⟨rfl, (fun _ h => absurd h List.not_mem_nil)⟩)⟩) (Nat.le_of_ble_eq_true rfl) ?_
  show u_V m_X9_mean 4 post 0 [some (.ref 159), some (.int a1), none, none] [] g
  unfold f_X9_mean at H
  refine am_aload_n rfl rfl ?_
  refine x_iconst (v := (0 : Int32)) rfl (by decide) ?_
  obtain ⟨g1, eg1, H⟩ := wr_some H
  refine x_putI f_9_95 rfl rfl (Nat.le_of_ble_eq_true rfl) rfl rfl (fun _ _ => ⟨rfl, rfl⟩) eg1 ?_
  refine am_aload_n rfl rfl ?_
  refine am_iload_n rfl rfl ?_
  obtain ⟨r2, g3, H1, H⟩ := bd2_some H
  refine cv1i v_9_144 rfl rfl (Nat.le_of_ble_eq_true rfl) rfl (Nat.le_of_ble_eq_true rfl) (fun _ _ => Nat.le_of_ble_eq_true rfl) (y_X9_isTournament a1 g1 _ H1 ?_)
  refine am_if_ne rfl (fun c4 => ?_) (fun c4 => ?_)
  · have H := it_neg c4 H
    refine am_aload_n rfl rfl ?_
    refine am_iload_n rfl rfl ?_
    refine x_iconst (v := (1 : Int32)) rfl (by decide) ?_
    obtain ⟨r5, g6, H1, H⟩ := bd2_some H
    refine cv2v v_9_218 rfl rfl (Nat.le_of_ble_eq_true rfl) rfl (Nat.le_of_ble_eq_true rfl) (fun _ _ => Nat.le_of_ble_eq_true rfl) (y_X9_gather a1 (1 : Int32) g3 _ H1 ?_)
    refine am_aload_n rfl rfl ?_
    obtain ⟨r7, g8, H1, H⟩ := bd2_some H
    refine cv0i v_9_222 rfl rfl (Nat.le_of_ble_eq_true rfl) rfl (Nat.le_of_ble_eq_true rfl) (fun _ _ => Nat.le_of_ble_eq_true rfl) (y_X9_askWorths  g6 _ H1 ?_)
    refine x_bipush (v := (-5 : Int32)) rfl (by decide) ?_
    refine am_icmp_ne rfl (fun c9 => ?_) (fun c9 => ?_)
    · have H := it_neg c9 H
      refine x_iconst (v := (0 : Int32)) rfl (by decide) ?_
      refine am_istore_n rfl (Nat.le_of_ble_eq_true rfl) ?_
      refine x_iconst (v := (0 : Int32)) rfl (by decide) ?_
      refine am_istore_n rfl (Nat.le_of_ble_eq_true rfl) ?_
      obtain ⟨s17, H1, H⟩ := bd_some H
      have K2 : (fun (s14 : Int32) => u_V m_X9_mean 4 post 61 [some (.ref 159), none, some (.int s14), none] [] g8) s17 := by
        clear H1
        obtain ⟨x13, e_x13⟩ : ∃ z, z = s17 := ⟨_, rfl⟩
        subst e_x13
        (try dsimp only at H); (try dsimp only)
        refine am_aload_n rfl rfl ?_
        refine u_getI f_9_197 rfl (Nat.le_of_ble_eq_true rfl) rfl rfl ?_
        refine am_if_ne rfl (fun c18 => ?_) (fun c18 => ?_)
        · have H := it_neg c18 H
          refine am_iload_n rfl rfl ?_
          refine am_aload_n rfl rfl ?_
          refine u_getI f_9_197 rfl (Nat.le_of_ble_eq_true rfl) rfl rfl ?_
          obtain ⟨hz19, H⟩ := dz_some H
          refine am_idiv rfl hz19 ?_
          have H := Option.some.inj H
          subst H
          exact u_iret rfl rfl K
        · have H := it_pos c18 H
          refine am_aload_n rfl rfl ?_
          refine x_iconst (v := (4 : Int32)) rfl (by decide) ?_
          obtain ⟨r20, g21, H1, H⟩ := bd2_some H
          refine cv1i v_9_112 rfl rfl (Nat.le_of_ble_eq_true rfl) rfl (Nat.le_of_ble_eq_true rfl) (fun _ _ => Nat.le_of_ble_eq_true rfl) (y_X9_meets (4 : Int32) g8 _ H1 ?_)
          refine am_goto rfl ?_
          have H := Option.some.inj H
          subst H
          exact u_iret rfl rfl K
      refine am_drop (L' := [some (.ref 159), none, some (.int (0 : Int32)), some (.int (0 : Int32))]) (And.intro rfl (And.intro rfl (And.intro rfl trivial))) ?_
      refine lp_ind (P := (fun (s12 : Int32 × Int32) => u_V m_X9_mean 4 post 38 [some (.ref 159), none, some (.int s12.1), some (.int s12.2)] [] g8)) (Q := (fun (s14 : Int32) => u_V m_X9_mean 4 post 61 [some (.ref 159), none, some (.int s14), none] [] g8)) ?_ 2000 ((0 : Int32), (0 : Int32)) s17 H1 K2
      clear H1 H K
      intro s12 s17b H K
      obtain ⟨x10, x11⟩ := s12
      (try dsimp only at H); (try dsimp only)
      refine am_iload_n rfl rfl ?_
      refine am_aload_n rfl rfl ?_
      refine u_getI f_9_197 rfl (Nat.le_of_ble_eq_true rfl) rfl rfl ?_
      refine am_icmp_ge rfl (fun c15 => ?_) (fun c15 => ?_)
      · have H := it_pos c15 H
        have H := Option.some.inj H
        subst H
        exact am_drop (L' := [some (.ref 159), none, some (.int x10), none]) (And.intro rfl (And.intro rfl trivial)) K
      · have H := it_neg c15 H
        refine am_iload_n rfl rfl ?_
        refine am_aload_n rfl rfl ?_
        refine u_getR f_9_65 rfl (Nat.le_of_ble_eq_true rfl) rfl rfl ?_
        refine am_iload_n rfl rfl ?_
        obtain ⟨j16, ej16, hj16, H⟩ := ck_some H
        refine x_iald rfl (Nat.le_of_ble_eq_true rfl) rfl hj16 ej16 ?_
        refine am_iadd rfl ?_
        refine am_istore_n rfl (Nat.le_of_ble_eq_true rfl) ?_
        refine x_iinc (v := (x11 + (1 : Int32))) rfl rfl (Nat.le_of_ble_eq_true rfl) rfl ?_
        refine am_goto rfl ?_
        have H := Option.some.inj H
        subst H
        exact am_drop (L' := [some (.ref 159), none, some (.int (x10 + (g8 176 j16))), some (.int (x11 + (1 : Int32)))]) (And.intro rfl (And.intro rfl (And.intro rfl trivial))) K
    · have H := it_pos c9 H
      refine x_bipush (v := (-5 : Int32)) rfl (by decide) ?_
      have H := Option.some.inj H
      subst H
      exact u_iret rfl rfl K
  · have H := it_pos c4 H
    refine x_bipush (v := (-2 : Int32)) rfl (by decide) ?_
    have H := Option.some.inj H
    subst H
    exact u_iret rfl rfl K
def f_X9_isFirst (a1 : Int32) (a2 : Int32) (a3 : Int32) (a4 : Int32) (g : G) : Option (Int32 × G) := bd (lp (fun (s4 : Int32 × Int32 × G) => (bd2 (f_X9_cell a1 (0 : Int32) s4.2.2) fun r8 g9 => if r8 ≤ s4.2.1 then some (.inr (s4.1, g9)) else bd2 (f_X9_cell a1 ((1 : Int32) + s4.2.1) g9) fun r11 g12 => bd ((if r11 = a2 then some (((2 : Int32), g12)) else bd2 (f_X9_parting a1 r11 a2 (2147483647 : Int32) a4 g12) fun r26 g27 => some (((r26 - r26 / (10 : Int32) * (10 : Int32)), g27)) : Option (Int32 × G))) fun (s15 : Int32 × G) => bd ((if s4.1 = 0 then some (.inl (s4.2.1)) else if s15.1 = (1 : Int32) then some (.inl (s4.2.1)) else bd ((if a3 = 0 then some (.inl ()) else if s15.1 = 0 then some (.inr (.inl (s4.2.1))) else some (.inl ()) : Option ((Unit) ⊕ ((Int32) ⊕ ((Int32 × Int32 × G) ⊕ (Int32 × G)))))) fun s23m => (match s23m with | .inl _ => (some (.inr (.inl ((1 : Int32), (s4.2.1 + (1 : Int32)), s15.2)))) | .inr y => some y) : Option ((Int32) ⊕ ((Int32 × Int32 × G) ⊕ (Int32 × G))))) fun s24m => (match s24m with | .inl s17 => (some (.inl ((0 : Int32), (s17 + (1 : Int32)), s15.2))) | .inr y => some y) : Option ((Int32 × Int32 × G) ⊕ (Int32 × G)))) 2000 ((1 : Int32), (0 : Int32), g)) fun (s7 : Int32 × G) => bz s7.1 (some ((s7.1, s7.2)))
set_option maxHeartbeats 4000000 in
set_option maxRecDepth 100000 in
theorem y_X9_isFirst (a1 : Int32) (a2 : Int32) (a3 : Int32) (a4 : Int32)  (g : G) (q : Int32 × G) {post : Int32 → G → Prop} (H : f_X9_isFirst a1 a2 a3 a4 g = some q) (K : post q.1 q.2) : Y m_X9_isFirst 6 [.ref 159, .int a1, .int a2, .int a3, .int a4] g post := by
  refine Y_of ok_X9_isFirst pn_9 rfl (by decide) (Or.inr (Or.inr rfl)) (List.forall_mem_cons.mpr ⟨rfl, (List.forall_mem_cons.mpr ⟨rfl, (List.forall_mem_cons.mpr ⟨rfl, (List.forall_mem_cons.mpr ⟨rfl, (List.forall_mem_cons.mpr ⟨rfl, (fun _ h => absurd h List.not_mem_nil)⟩)⟩)⟩)⟩)⟩) (Nat.le_of_ble_eq_true rfl) ?_
  show u_V m_X9_isFirst 6 post 0 [some (.ref 159), some (.int a1), some (.int a2), some (.int a3), some (.int a4), none, none, none, none] [] g
  unfold f_X9_isFirst at H
  refine x_iconst (v := (1 : Int32)) rfl (by decide) ?_
  refine am_istore rfl (Nat.le_of_ble_eq_true rfl) ?_
  refine x_iconst (v := (0 : Int32)) rfl (by decide) ?_
  refine am_istore rfl (Nat.le_of_ble_eq_true rfl) ?_
  obtain ⟨s29, H1, H⟩ := bd_some H
  have K2 : (fun (s7 : Int32 × G) => u_V m_X9_isFirst 6 post 88 [none, none, none, none, none, some (.int s7.1), none, none, none] [] s7.2) s29 := by
    clear H1
    obtain ⟨x5, g6⟩ := s29
    (try dsimp only at H); (try dsimp only)
    refine am_iload rfl rfl ?_
    obtain ⟨hb30, H⟩ := bz_some H
    have H := Option.some.inj H
    subst H
    exact u_zret rfl rfl hb30 K
  refine am_drop (L' := [some (.ref 159), some (.int a1), some (.int a2), some (.int a3), some (.int a4), some (.int (1 : Int32)), some (.int (0 : Int32)), none, none]) (And.intro rfl (And.intro rfl (And.intro rfl (And.intro rfl (And.intro rfl (And.intro rfl (And.intro rfl trivial))))))) ?_
  refine lp_ind (P := (fun (s4 : Int32 × Int32 × G) => u_V m_X9_isFirst 6 post 6 [some (.ref 159), some (.int a1), some (.int a2), some (.int a3), some (.int a4), some (.int s4.1), some (.int s4.2.1), none, none] [] s4.2.2)) (Q := (fun (s7 : Int32 × G) => u_V m_X9_isFirst 6 post 88 [none, none, none, none, none, some (.int s7.1), none, none, none] [] s7.2)) ?_ 2000 ((1 : Int32), (0 : Int32), g) s29 H1 K2
  clear H1 H K
  intro s4 s29b H K
  obtain ⟨x1, x2, g3⟩ := s4
  (try dsimp only at H); (try dsimp only)
  refine am_iload rfl rfl ?_
  refine am_aload_n rfl rfl ?_
  refine am_iload_n rfl rfl ?_
  refine x_iconst (v := (0 : Int32)) rfl (by decide) ?_
  obtain ⟨r8, g9, H1, H⟩ := bd2_some H
  refine cv2i v_9_140 rfl rfl (Nat.le_of_ble_eq_true rfl) rfl (Nat.le_of_ble_eq_true rfl) (fun _ _ => Nat.le_of_ble_eq_true rfl) (y_X9_cell a1 (0 : Int32) g3 _ H1 ?_)
  refine am_icmp_ge rfl (fun c10 => ?_) (fun c10 => ?_)
  · have H := it_pos c10 H
    have H := Option.some.inj H
    subst H
    exact am_drop (L' := [none, none, none, none, none, some (.int x1), none, none, none]) (And.intro rfl trivial) K
  · have H := it_neg c10 H
    refine am_aload_n rfl rfl ?_
    refine am_iload_n rfl rfl ?_
    refine x_iconst (v := (1 : Int32)) rfl (by decide) ?_
    refine am_iload rfl rfl ?_
    refine am_iadd rfl ?_
    obtain ⟨r11, g12, H1, H⟩ := bd2_some H
    refine cv2i v_9_140 rfl rfl (Nat.le_of_ble_eq_true rfl) rfl (Nat.le_of_ble_eq_true rfl) (fun _ _ => Nat.le_of_ble_eq_true rfl) (y_X9_cell a1 ((1 : Int32) + x2) g9 _ H1 ?_)
    refine am_istore rfl (Nat.le_of_ble_eq_true rfl) ?_
    refine am_iload rfl rfl ?_
    refine am_iload_n rfl rfl ?_
    obtain ⟨s28, H1, H⟩ := bd_some H
    have K : (fun (s15 : Int32 × G) => u_V m_X9_isFirst 6 post 53 [some (.ref 159), some (.int a1), some (.int a2), some (.int a3), some (.int a4), some (.int x1), some (.int x2), none, none] [.int s15.1] s15.2) s28 := by
      clear H1
      obtain ⟨x13, g14⟩ := s28
      (try dsimp only at H); (try dsimp only)
      refine am_istore rfl (Nat.le_of_ble_eq_true rfl) ?_
      refine am_iload rfl rfl ?_
      obtain ⟨s24, H1, H⟩ := bd_some H
      have K : (Sum.elim (fun (s17 : Int32) => u_V m_X9_isFirst 6 post 79 [some (.ref 159), some (.int a1), some (.int a2), some (.int a3), some (.int a4), none, some (.int s17), none, none] [] g14) (Sum.elim (fun (s4 : Int32 × Int32 × G) => u_V m_X9_isFirst 6 post 6 [some (.ref 159), some (.int a1), some (.int a2), some (.int a3), some (.int a4), some (.int s4.1), some (.int s4.2.1), none, none] [] s4.2.2) (fun (s7 : Int32 × G) => u_V m_X9_isFirst 6 post 88 [none, none, none, none, none, some (.int s7.1), none, none, none] [] s7.2))) s24 := by
        clear H1
        cases s24 with
        | inl s17 =>
          obtain ⟨x16, e_x16⟩ : ∃ z, z = s17 := ⟨_, rfl⟩
          subst e_x16
          (try dsimp only at H); (try dsimp only)
          refine x_iconst (v := (0 : Int32)) rfl (by decide) ?_
          refine am_istore rfl (Nat.le_of_ble_eq_true rfl) ?_
          refine x_iinc (v := (x16 + (1 : Int32))) rfl rfl (Nat.le_of_ble_eq_true rfl) rfl ?_
          refine am_goto rfl ?_
          have H := Option.some.inj H
          subst H
          exact am_drop (L' := [some (.ref 159), some (.int a1), some (.int a2), some (.int a3), some (.int a4), some (.int (0 : Int32)), some (.int (x16 + (1 : Int32))), none, none]) (And.intro rfl (And.intro rfl (And.intro rfl (And.intro rfl (And.intro rfl (And.intro rfl (And.intro rfl trivial))))))) K
        | inr y =>
          have H := Option.some.inj H
          subst H
          exact K
      have H := H1
      clear H1
      refine am_if_eq rfl (fun c18 => ?_) (fun c18 => ?_)
      · have H := it_pos c18 H
        have H := Option.some.inj H
        subst H
        exact am_drop (L' := [some (.ref 159), some (.int a1), some (.int a2), some (.int a3), some (.int a4), none, some (.int x2), none, none]) (And.intro rfl (And.intro rfl (And.intro rfl (And.intro rfl (And.intro rfl (And.intro rfl trivial)))))) K
      · have H := it_neg c18 H
        refine am_iload rfl rfl ?_
        refine x_iconst (v := (1 : Int32)) rfl (by decide) ?_
        refine am_icmp_eq rfl (fun c19 => ?_) (fun c19 => ?_)
        · have H := it_pos c19 H
          have H := Option.some.inj H
          subst H
          exact am_drop (L' := [some (.ref 159), some (.int a1), some (.int a2), some (.int a3), some (.int a4), none, some (.int x2), none, none]) (And.intro rfl (And.intro rfl (And.intro rfl (And.intro rfl (And.intro rfl (And.intro rfl trivial)))))) K
        · have H := it_neg c19 H
          refine am_iload_n rfl rfl ?_
          obtain ⟨s23, H1, H⟩ := bd_some H
          have K : (Sum.elim (fun (_ : Unit) => u_V m_X9_isFirst 6 post 75 [some (.ref 159), some (.int a1), some (.int a2), some (.int a3), some (.int a4), none, some (.int x2), none, none] [] g14) (Sum.elim (fun (s17 : Int32) => u_V m_X9_isFirst 6 post 79 [some (.ref 159), some (.int a1), some (.int a2), some (.int a3), some (.int a4), none, some (.int s17), none, none] [] g14) (Sum.elim (fun (s4 : Int32 × Int32 × G) => u_V m_X9_isFirst 6 post 6 [some (.ref 159), some (.int a1), some (.int a2), some (.int a3), some (.int a4), some (.int s4.1), some (.int s4.2.1), none, none] [] s4.2.2) (fun (s7 : Int32 × G) => u_V m_X9_isFirst 6 post 88 [none, none, none, none, none, some (.int s7.1), none, none, none] [] s7.2)))) s23 := by
            clear H1
            cases s23 with
            | inl s20 =>
              (try dsimp only at H); (try dsimp only)
              refine x_iconst (v := (1 : Int32)) rfl (by decide) ?_
              refine am_goto rfl ?_
              refine am_istore rfl (Nat.le_of_ble_eq_true rfl) ?_
              refine x_iinc (v := (x2 + (1 : Int32))) rfl rfl (Nat.le_of_ble_eq_true rfl) rfl ?_
              refine am_goto rfl ?_
              have H := Option.some.inj H
              subst H
              exact am_drop (L' := [some (.ref 159), some (.int a1), some (.int a2), some (.int a3), some (.int a4), some (.int (1 : Int32)), some (.int (x2 + (1 : Int32))), none, none]) (And.intro rfl (And.intro rfl (And.intro rfl (And.intro rfl (And.intro rfl (And.intro rfl (And.intro rfl trivial))))))) K
            | inr y =>
              have H := Option.some.inj H
              subst H
              exact K
          have H := H1
          clear H1
          refine am_if_eq rfl (fun c21 => ?_) (fun c21 => ?_)
          · have H := it_pos c21 H
            have H := Option.some.inj H
            subst H
            exact am_drop (L' := [some (.ref 159), some (.int a1), some (.int a2), some (.int a3), some (.int a4), none, some (.int x2), none, none]) (And.intro rfl (And.intro rfl (And.intro rfl (And.intro rfl (And.intro rfl (And.intro rfl trivial)))))) K
          · have H := it_neg c21 H
            refine am_iload rfl rfl ?_
            refine am_if_eq rfl (fun c22 => ?_) (fun c22 => ?_)
            · have H := it_pos c22 H
              have H := Option.some.inj H
              subst H
              exact am_drop (L' := [some (.ref 159), some (.int a1), some (.int a2), some (.int a3), some (.int a4), none, some (.int x2), none, none]) (And.intro rfl (And.intro rfl (And.intro rfl (And.intro rfl (And.intro rfl (And.intro rfl trivial)))))) K
            · have H := it_neg c22 H
              have H := Option.some.inj H
              subst H
              exact am_drop (L' := [some (.ref 159), some (.int a1), some (.int a2), some (.int a3), some (.int a4), none, some (.int x2), none, none]) (And.intro rfl (And.intro rfl (And.intro rfl (And.intro rfl (And.intro rfl (And.intro rfl trivial)))))) K
    have H := H1
    clear H1
    refine am_icmp_ne rfl (fun c25 => ?_) (fun c25 => ?_)
    · have H := it_neg c25 H
      refine am_aload_n rfl rfl ?_
      refine am_iload_n rfl rfl ?_
      refine am_iload rfl rfl ?_
      refine am_iload_n rfl rfl ?_
      refine am_ldc (v := (2147483647 : Int32)) c_9_214 rfl ?_
      refine am_iload rfl rfl ?_
      obtain ⟨r26, g27, H1, H⟩ := bd2_some H
      refine cv5i v_9_240 rfl rfl (Nat.le_of_ble_eq_true rfl) rfl (Nat.le_of_ble_eq_true rfl) (fun _ _ => Nat.le_of_ble_eq_true rfl) (y_X9_parting a1 r11 a2 (2147483647 : Int32) a4 g12 _ H1 ?_)
      refine x_bipush (v := (10 : Int32)) rfl (by decide) ?_
      refine am_irem rfl (by decide) ?_
      have H := Option.some.inj H
      subst H
      exact am_drop (L' := [some (.ref 159), some (.int a1), some (.int a2), some (.int a3), some (.int a4), some (.int x1), some (.int x2), none, none]) (And.intro rfl (And.intro rfl (And.intro rfl (And.intro rfl (And.intro rfl (And.intro rfl (And.intro rfl trivial))))))) K
    · have H := it_pos c25 H
      refine x_iconst (v := (2 : Int32)) rfl (by decide) ?_
      refine am_goto rfl ?_
      have H := Option.some.inj H
      subst H
      exact am_drop (L' := [some (.ref 159), some (.int a1), some (.int a2), some (.int a3), some (.int a4), some (.int x1), some (.int x2), none, none]) (And.intro rfl (And.intro rfl (And.intro rfl (And.intro rfl (And.intro rfl (And.intro rfl (And.intro rfl trivial))))))) K
def f_X9_could (a1 : Int32) (a2 : Int32) (a3 : Int32) (a4 : Int32) (g : G) : Option (Int32 × G) := bd2 (f_X9_refused a1 a2 (0 : Int32) a4 g) fun r1 g2 => if r1 = (-2 : Int32) then some (((-2 : Int32), g2)) else bd2 (f_X9_in a3 (0 : Int32) (1 : Int32) g2) fun r4 g5 => if r4 = 0 then some (((-2 : Int32), g5)) else bd (lp (fun (s9 : Int32 × G) => (if (30 : Int32) ≤ s9.1 then some (.inr (s9.2)) else ck s9.1 30 fun j13 => wr (up2 s9.2 174 j13 (-1 : Int32)) fun g14 => some (.inl ((s9.1 + (1 : Int32)), g14)) : Option ((Int32 × G) ⊕ (G)))) 2000 ((0 : Int32), g5)) fun (s11 : G) => bd (lp (fun (s19 : Int32 × Int32 × G) => (bd ((if r1 = 0 then bd2 (f_X9_cell a1 (25 : Int32) s19.2.2) fun r59 g60 => some ((r59, g60)) else some (((0 : Int32), s19.2.2)) : Option (Int32 × G))) fun (s25 : Int32 × G) => if s25.1 ≤ s19.2.1 then some (.inr (s19.1, s25.2)) else bd (lp (fun (s30 : Int32 × Int32 × G) => (bd2 (f_X9_cell a1 ((32 : Int32) + s19.2.1) s30.2.2) fun r34 g35 => if r34 ≤ s30.2.1 then some (.inr (s30.1, g35)) else bd2 (f_X9_isWithNobody a1 (((5 : Int32) * s19.2.1) + s30.2.1) g35) fun r37 g38 => bd ((if r37 = 0 then bd2 (f_X9_outcomeOf a1 (((5 : Int32) * s19.2.1) + s30.2.1) (2147483647 : Int32) a4 g38) fun r54 g55 => some ((r54, g55)) else some (((0 : Int32), g38)) : Option (Int32 × G))) fun (s41 : Int32 × G) => bd ((if s41.1 = (-1 : Int32) then some (.inl (s30.2.1)) else if s41.1 = (5 : Int32) then some (.inl (s30.2.1)) else some (.inr (.inl (s30.1, (s30.2.1 + (1 : Int32)), s41.2))) : Option ((Int32) ⊕ ((Int32 × Int32 × G) ⊕ (Int32 × G))))) fun s52m => (match s52m with | .inl s43 => (bd ((if (4 : Int32) ≤ s30.1 then some (s41.2) else ck s30.1 4 fun j47 => wr (up2 s41.2 183 j47 (((5 : Int32) * s19.2.1) + s30.2.1)) fun g48 => some (g48) : Option (G))) fun (s45 : G) => some (.inl ((s30.1 + (1 : Int32)), (s43 + (1 : Int32)), s45))) | .inr y => some y) : Option ((Int32 × Int32 × G) ⊕ (Int32 × G)))) 2000 (s19.1, (0 : Int32), s25.2)) fun (s33 : Int32 × G) => some (.inl (s33.1, (s19.2.1 + (1 : Int32)), s33.2)) : Option ((Int32 × Int32 × G) ⊕ (Int32 × G)))) 2000 ((0 : Int32), (0 : Int32), s11)) fun (s22 : Int32 × G) => if r1 = 0 then if s22.1 ≤ (4 : Int32) then bd (lp (fun (s67 : Int32 × Int32) => (if s22.1 ≤ s67.2 then some (.inr (s67.1)) else some (.inl ((s67.1 * (3 : Int32)), (s67.2 + (1 : Int32)))) : Option ((Int32 × Int32) ⊕ (Int32)))) 2000 ((1 : Int32), (0 : Int32))) fun (s69 : Int32) => bd (lp (fun (s75 : Int32 × Int32 × G) => (if s69 ≤ s75.2.1 then some (.inr (s75.1, s75.2.2)) else if s75.1 = 0 then bd (lp (fun (s84 : Int32 × Int32 × G) => (if s84.2.1 < 0 then some (.inr (s84.2.2)) else ck s84.2.1 4 fun j88 => ck (s84.2.2 183 j88) 30 fun j89 => wr (up2 s84.2.2 174 j89 (s84.1 - s84.1 / (3 : Int32) * (3 : Int32))) fun g90 => some (.inl ((s84.1 / (3 : Int32)), (s84.2.1 + (-1 : Int32)), g90)) : Option ((Int32 × Int32 × G) ⊕ (G)))) 2000 (s75.2.1, (s22.1 - (1 : Int32)), s75.2.2)) fun (s86 : G) => wr (up2 s86 159 25 (1 : Int32)) fun g92 => bd2 (f_X9_isFirst a1 a2 a3 a4 g92) fun r93 g94 => wr (up2 g94 159 25 (0 : Int32)) fun g95 => some (.inl (r93, (s75.2.1 + (1 : Int32)), g95)) else some (.inr (s75.1, s75.2.2)) : Option ((Int32 × Int32 × G) ⊕ (Int32 × G)))) 2000 ((0 : Int32), (0 : Int32), s22.2)) fun (s78 : Int32 × G) => bd ((if s78.1 = 0 then some (s78.2) else wr (up2 s78.2 159 42 s22.1) fun g101 => lp (fun (s104 : Int32 × G) => (if s22.1 ≤ s104.1 then some (.inr (s104.2)) else ck s104.1 4 fun j106 => ck (s104.2 183 j106) 30 fun j107 => ck s104.1 4 fun j108 => wr (up2 s104.2 184 j108 (s104.2 174 j107)) fun g109 => some (.inl ((s104.1 + (1 : Int32)), g109)) : Option ((Int32 × G) ⊕ (G)))) 2000 ((0 : Int32), g101) : Option (G))) fun (s98 : G) => if s78.1 = 0 then some (((0 : Int32), s98)) else some (((1 : Int32), s98)) else some (((-3 : Int32), s22.2)) else some (((-3 : Int32), s22.2))
set_option maxHeartbeats 4000000 in
set_option maxRecDepth 100000 in
theorem y_X9_could (a1 : Int32) (a2 : Int32) (a3 : Int32) (a4 : Int32)  (g : G) (q : Int32 × G) {post : Int32 → G → Prop} (H : f_X9_could a1 a2 a3 a4 g = some q) (K : post q.1 q.2) : Y m_X9_could 7 [.ref 159, .int a1, .int a2, .int a3, .int a4] g post := by
  refine Y_of ok_X9_could pn_9 rfl (by decide) (Or.inr (Or.inl rfl)) (List.forall_mem_cons.mpr ⟨rfl, (List.forall_mem_cons.mpr ⟨rfl, (List.forall_mem_cons.mpr ⟨rfl, (List.forall_mem_cons.mpr ⟨rfl, (List.forall_mem_cons.mpr ⟨rfl, (fun _ h => absurd h List.not_mem_nil)⟩)⟩)⟩)⟩)⟩) (Nat.le_of_ble_eq_true rfl) ?_
  show u_V m_X9_could 7 post 0 [some (.ref 159), some (.int a1), some (.int a2), some (.int a3), some (.int a4), none, none, none, none, none, none, none] [] g
  unfold f_X9_could at H
  refine am_aload_n rfl rfl ?_
  refine am_iload_n rfl rfl ?_
  refine am_iload_n rfl rfl ?_
  refine x_iconst (v := (0 : Int32)) rfl (by decide) ?_
  refine am_iload rfl rfl ?_
  obtain ⟨r1, g2, H1, H⟩ := bd2_some H
  refine cv4i v_9_237 rfl rfl (Nat.le_of_ble_eq_true rfl) rfl (Nat.le_of_ble_eq_true rfl) (fun _ _ => Nat.le_of_ble_eq_true rfl) (y_X9_refused a1 a2 (0 : Int32) a4 g _ H1 ?_)
  refine am_istore rfl (Nat.le_of_ble_eq_true rfl) ?_
  refine am_iload rfl rfl ?_
  refine x_bipush (v := (-2 : Int32)) rfl (by decide) ?_
  refine am_icmp_eq rfl (fun c3 => ?_) (fun c3 => ?_)
  · have H := it_pos c3 H
    refine x_bipush (v := (-2 : Int32)) rfl (by decide) ?_
    have H := Option.some.inj H
    subst H
    exact u_iret rfl rfl K
  · have H := it_neg c3 H
    refine am_iload_n rfl rfl ?_
    refine x_iconst (v := (0 : Int32)) rfl (by decide) ?_
    refine x_iconst (v := (1 : Int32)) rfl (by decide) ?_
    obtain ⟨r4, g5, H1, H⟩ := bd2_some H
    refine cs3i s_9_101 rfl rfl (Nat.le_of_ble_eq_true rfl) (fun _ _ => Nat.le_of_ble_eq_true rfl) (y_X9_in a3 (0 : Int32) (1 : Int32) g2 _ H1 ?_)
    refine am_if_ne rfl (fun c6 => ?_) (fun c6 => ?_)
    · have H := it_neg c6 H
      refine x_iconst (v := (0 : Int32)) rfl (by decide) ?_
      refine am_istore rfl (Nat.le_of_ble_eq_true rfl) ?_
      refine x_iconst (v := (0 : Int32)) rfl (by decide) ?_
      refine am_istore rfl (Nat.le_of_ble_eq_true rfl) ?_
      obtain ⟨s15, H1, H⟩ := bd_some H
      have K2 : (fun (s11 : G) => u_V m_X9_could 7 post 57 [some (.ref 159), some (.int a1), some (.int a2), some (.int a3), some (.int a4), some (.int r1), some (.int (0 : Int32)), none, none, none, none, none] [] s11) s15 := by
        clear H1
        obtain ⟨g10, e_g10⟩ : ∃ z, z = s15 := ⟨_, rfl⟩
        subst e_g10
        (try dsimp only at H); (try dsimp only)
        refine x_iconst (v := (0 : Int32)) rfl (by decide) ?_
        refine am_istore rfl (Nat.le_of_ble_eq_true rfl) ?_
        obtain ⟨s62, H1, H⟩ := bd_some H
        have K2 : (fun (s22 : Int32 × G) => u_V m_X9_could 7 post 177 [some (.ref 159), some (.int a1), some (.int a2), some (.int a3), some (.int a4), some (.int r1), some (.int s22.1), none, none, none, none, none] [] s22.2) s62 := by
          clear H1
          obtain ⟨x20, g21⟩ := s62
          (try dsimp only at H); (try dsimp only)
          refine am_iload rfl rfl ?_
          refine am_if_ne rfl (fun c63 => ?_) (fun c63 => ?_)
          · have H := it_neg c63 H
            refine x_bipush (v := (-3 : Int32)) rfl (by decide) ?_
            have H := Option.some.inj H
            subst H
            exact u_iret rfl rfl K
          · have H := it_pos c63 H
            refine am_iload rfl rfl ?_
            refine x_iconst (v := (4 : Int32)) rfl (by decide) ?_
            refine am_icmp_le rfl (fun c64 => ?_) (fun c64 => ?_)
            · have H := it_pos c64 H
              refine x_iconst (v := (1 : Int32)) rfl (by decide) ?_
              refine am_istore rfl (Nat.le_of_ble_eq_true rfl) ?_
              refine x_iconst (v := (0 : Int32)) rfl (by decide) ?_
              refine am_istore rfl (Nat.le_of_ble_eq_true rfl) ?_
              obtain ⟨s71, H1, H⟩ := bd_some H
              have K2 : (fun (s69 : Int32) => u_V m_X9_could 7 post 216 [some (.ref 159), some (.int a1), some (.int a2), some (.int a3), some (.int a4), none, some (.int x20), some (.int s69), none, none, none, none] [] g21) s71 := by
                clear H1
                obtain ⟨x68, e_x68⟩ : ∃ z, z = s71 := ⟨_, rfl⟩
                subst e_x68
                (try dsimp only at H); (try dsimp only)
                refine x_iconst (v := (0 : Int32)) rfl (by decide) ?_
                refine am_istore rfl (Nat.le_of_ble_eq_true rfl) ?_
                refine x_iconst (v := (0 : Int32)) rfl (by decide) ?_
                refine am_istore rfl (Nat.le_of_ble_eq_true rfl) ?_
                obtain ⟨s96, H1, H⟩ := bd_some H
                have K2 : (fun (s78 : Int32 × G) => u_V m_X9_could 7 post 304 [some (.ref 159), none, none, none, none, none, some (.int x20), none, some (.int s78.1), none, none, none] [] s78.2) s96 := by
                  clear H1
                  obtain ⟨x76, g77⟩ := s96
                  (try dsimp only at H); (try dsimp only)
                  refine am_iload rfl rfl ?_
                  obtain ⟨s111, H1, H⟩ := bd_some H
                  have K : (fun (s98 : G) => u_V m_X9_could 7 post 350 [none, none, none, none, none, none, none, none, some (.int x76), none, none, none] [] s98) s111 := by
                    clear H1
                    obtain ⟨g97, e_g97⟩ : ∃ z, z = s111 := ⟨_, rfl⟩
                    subst e_g97
                    (try dsimp only at H); (try dsimp only)
                    refine am_iload rfl rfl ?_
                    refine am_if_eq rfl (fun c99 => ?_) (fun c99 => ?_)
                    · have H := it_pos c99 H
                      refine x_iconst (v := (0 : Int32)) rfl (by decide) ?_
                      have H := Option.some.inj H
                      subst H
                      exact u_iret rfl rfl K
                    · have H := it_neg c99 H
                      refine x_iconst (v := (1 : Int32)) rfl (by decide) ?_
                      refine am_goto rfl ?_
                      have H := Option.some.inj H
                      subst H
                      exact u_iret rfl rfl K
                  have H := H1
                  clear H1
                  refine am_if_eq rfl (fun c100 => ?_) (fun c100 => ?_)
                  · have H := it_pos c100 H
                    have H := Option.some.inj H
                    subst H
                    exact am_drop (L' := [none, none, none, none, none, none, none, none, some (.int x76), none, none, none]) (And.intro rfl trivial) K
                  · have H := it_neg c100 H
                    refine am_aload_n rfl rfl ?_
                    refine am_iload rfl rfl ?_
                    obtain ⟨g101, eg101, H⟩ := wr_some H
                    refine x_putI f_9_261 rfl rfl (Nat.le_of_ble_eq_true rfl) rfl rfl (fun _ _ => ⟨rfl, rfl⟩) eg101 ?_
                    refine x_iconst (v := (0 : Int32)) rfl (by decide) ?_
                    refine am_istore rfl (Nat.le_of_ble_eq_true rfl) ?_
                    have H1 := H
                    refine am_drop (L' := [some (.ref 159), none, none, none, none, none, some (.int x20), none, some (.int x76), some (.int (0 : Int32)), none, none]) (And.intro rfl (And.intro rfl (And.intro rfl (And.intro rfl trivial)))) ?_
                    refine lp_ind (P := (fun (s104 : Int32 × G) => u_V m_X9_could 7 post 318 [some (.ref 159), none, none, none, none, none, some (.int x20), none, some (.int x76), some (.int s104.1), none, none] [] s104.2)) (Q := (fun (s98 : G) => u_V m_X9_could 7 post 350 [none, none, none, none, none, none, none, none, some (.int x76), none, none, none] [] s98)) ?_ 2000 ((0 : Int32), g101) _ H1 K
                    clear H1 H K
                    intro s104 s110b H K
                    obtain ⟨x102, g103⟩ := s104
                    (try dsimp only at H); (try dsimp only)
                    refine am_iload rfl rfl ?_
                    refine am_iload rfl rfl ?_
                    refine am_icmp_ge rfl (fun c105 => ?_) (fun c105 => ?_)
                    · have H := it_pos c105 H
                      have H := Option.some.inj H
                      subst H
                      exact am_drop (L' := [none, none, none, none, none, none, none, none, some (.int x76), none, none, none]) (And.intro rfl trivial) K
                    · have H := it_neg c105 H
                      refine am_aload_n rfl rfl ?_
                      refine u_getR f_9_89 rfl (Nat.le_of_ble_eq_true rfl) rfl rfl ?_
                      refine am_iload rfl rfl ?_
                      refine am_aload_n rfl rfl ?_
                      refine u_getR f_9_59 rfl (Nat.le_of_ble_eq_true rfl) rfl rfl ?_
                      refine am_aload_n rfl rfl ?_
                      refine u_getR f_9_86 rfl (Nat.le_of_ble_eq_true rfl) rfl rfl ?_
                      refine am_iload rfl rfl ?_
                      obtain ⟨j106, ej106, hj106, H⟩ := ck_some H
                      refine x_iald rfl (Nat.le_of_ble_eq_true rfl) rfl hj106 ej106 ?_
                      obtain ⟨j107, ej107, hj107, H⟩ := ck_some H
                      refine x_iald rfl (Nat.le_of_ble_eq_true rfl) rfl hj107 ej107 ?_
                      obtain ⟨j108, ej108, hj108, H⟩ := ck_some H
                      obtain ⟨g109, eg109, H⟩ := wr_some H
                      refine x_iast rfl (Nat.le_of_ble_eq_true rfl) rfl hj108 ej108 eg109 ?_
                      refine x_iinc (v := (x102 + (1 : Int32))) rfl rfl (Nat.le_of_ble_eq_true rfl) rfl ?_
                      refine am_goto rfl ?_
                      have H := Option.some.inj H
                      subst H
                      exact am_drop (L' := [some (.ref 159), none, none, none, none, none, some (.int x20), none, some (.int x76), some (.int (x102 + (1 : Int32))), none, none]) (And.intro rfl (And.intro rfl (And.intro rfl (And.intro rfl trivial)))) K
                refine am_drop (L' := [some (.ref 159), some (.int a1), some (.int a2), some (.int a3), some (.int a4), none, some (.int x20), some (.int x68), some (.int (0 : Int32)), some (.int (0 : Int32)), none, none]) (And.intro rfl (And.intro rfl (And.intro rfl (And.intro rfl (And.intro rfl (And.intro rfl (And.intro rfl (And.intro rfl (And.intro rfl trivial))))))))) ?_
                refine lp_ind (P := (fun (s75 : Int32 × Int32 × G) => u_V m_X9_could 7 post 222 [some (.ref 159), some (.int a1), some (.int a2), some (.int a3), some (.int a4), none, some (.int x20), some (.int x68), some (.int s75.1), some (.int s75.2.1), none, none] [] s75.2.2)) (Q := (fun (s78 : Int32 × G) => u_V m_X9_could 7 post 304 [some (.ref 159), none, none, none, none, none, some (.int x20), none, some (.int s78.1), none, none, none] [] s78.2)) ?_ 2000 ((0 : Int32), (0 : Int32), g21) s96 H1 K2
                clear H1 H K
                intro s75 s96b H K
                obtain ⟨x72, x73, g74⟩ := s75
                (try dsimp only at H); (try dsimp only)
                refine am_iload rfl rfl ?_
                refine am_iload rfl rfl ?_
                refine am_icmp_ge rfl (fun c79 => ?_) (fun c79 => ?_)
                · have H := it_pos c79 H
                  have H := Option.some.inj H
                  subst H
                  exact am_drop (L' := [some (.ref 159), none, none, none, none, none, some (.int x20), none, some (.int x72), none, none, none]) (And.intro rfl (And.intro rfl (And.intro rfl trivial))) K
                · have H := it_neg c79 H
                  refine am_iload rfl rfl ?_
                  refine am_if_ne rfl (fun c80 => ?_) (fun c80 => ?_)
                  · have H := it_neg c80 H
                    have H := Option.some.inj H
                    subst H
                    exact am_drop (L' := [some (.ref 159), none, none, none, none, none, some (.int x20), none, some (.int x72), none, none, none]) (And.intro rfl (And.intro rfl (And.intro rfl trivial))) K
                  · have H := it_pos c80 H
                    refine am_iload rfl rfl ?_
                    refine am_istore rfl (Nat.le_of_ble_eq_true rfl) ?_
                    refine am_iload rfl rfl ?_
                    refine x_iconst (v := (1 : Int32)) rfl (by decide) ?_
                    refine am_isub rfl ?_
                    refine am_istore rfl (Nat.le_of_ble_eq_true rfl) ?_
                    obtain ⟨s91, H1, H⟩ := bd_some H
                    have K2 : (fun (s86 : G) => u_V m_X9_could 7 post 277 [some (.ref 159), some (.int a1), some (.int a2), some (.int a3), some (.int a4), none, some (.int x20), some (.int x68), none, some (.int x73), none, none] [] s86) s91 := by
                      clear H1
                      obtain ⟨g85, e_g85⟩ : ∃ z, z = s91 := ⟨_, rfl⟩
                      subst e_g85
                      (try dsimp only at H); (try dsimp only)
                      refine am_aload_n rfl rfl ?_
                      refine x_iconst (v := (1 : Int32)) rfl (by decide) ?_
                      obtain ⟨g92, eg92, H⟩ := wr_some H
                      refine x_putI f_9_150 rfl rfl (Nat.le_of_ble_eq_true rfl) rfl rfl (fun _ _ => ⟨rfl, rfl⟩) eg92 ?_
                      refine am_aload_n rfl rfl ?_
                      refine am_iload_n rfl rfl ?_
                      refine am_iload_n rfl rfl ?_
                      refine am_iload_n rfl rfl ?_
                      refine am_iload rfl rfl ?_
                      obtain ⟨r93, g94, H1, H⟩ := bd2_some H
                      refine cv4i v_9_257 rfl rfl (Nat.le_of_ble_eq_true rfl) rfl (Nat.le_of_ble_eq_true rfl) (fun _ _ => Nat.le_of_ble_eq_true rfl) (y_X9_isFirst a1 a2 a3 a4 g92 _ H1 ?_)
                      refine am_istore rfl (Nat.le_of_ble_eq_true rfl) ?_
                      refine am_aload_n rfl rfl ?_
                      refine x_iconst (v := (0 : Int32)) rfl (by decide) ?_
                      obtain ⟨g95, eg95, H⟩ := wr_some H
                      refine x_putI f_9_150 rfl rfl (Nat.le_of_ble_eq_true rfl) rfl rfl (fun _ _ => ⟨rfl, rfl⟩) eg95 ?_
                      refine x_iinc (v := (x73 + (1 : Int32))) rfl rfl (Nat.le_of_ble_eq_true rfl) rfl ?_
                      refine am_goto rfl ?_
                      have H := Option.some.inj H
                      subst H
                      exact am_drop (L' := [some (.ref 159), some (.int a1), some (.int a2), some (.int a3), some (.int a4), none, some (.int x20), some (.int x68), some (.int r93), some (.int (x73 + (1 : Int32))), none, none]) (And.intro rfl (And.intro rfl (And.intro rfl (And.intro rfl (And.intro rfl (And.intro rfl (And.intro rfl (And.intro rfl (And.intro rfl trivial))))))))) K
                    refine am_drop (L' := [some (.ref 159), some (.int a1), some (.int a2), some (.int a3), some (.int a4), none, some (.int x20), some (.int x68), none, some (.int x73), some (.int x73), some (.int (x20 - (1 : Int32)))]) (And.intro rfl (And.intro rfl (And.intro rfl (And.intro rfl (And.intro rfl (And.intro rfl (And.intro rfl (And.intro rfl (And.intro rfl (And.intro rfl trivial)))))))))) ?_
                    refine lp_ind (P := (fun (s84 : Int32 × Int32 × G) => u_V m_X9_could 7 post 244 [some (.ref 159), some (.int a1), some (.int a2), some (.int a3), some (.int a4), none, some (.int x20), some (.int x68), none, some (.int x73), some (.int s84.1), some (.int s84.2.1)] [] s84.2.2)) (Q := (fun (s86 : G) => u_V m_X9_could 7 post 277 [some (.ref 159), some (.int a1), some (.int a2), some (.int a3), some (.int a4), none, some (.int x20), some (.int x68), none, some (.int x73), none, none] [] s86)) ?_ 2000 (x73, (x20 - (1 : Int32)), g74) s91 H1 K2
                    clear H1 H K
                    intro s84 s91b H K
                    obtain ⟨x81, x82, g83⟩ := s84
                    (try dsimp only at H); (try dsimp only)
                    refine am_iload rfl rfl ?_
                    refine am_if_lt rfl (fun c87 => ?_) (fun c87 => ?_)
                    · have H := it_pos c87 H
                      have H := Option.some.inj H
                      subst H
                      exact am_drop (L' := [some (.ref 159), some (.int a1), some (.int a2), some (.int a3), some (.int a4), none, some (.int x20), some (.int x68), none, some (.int x73), none, none]) (And.intro rfl (And.intro rfl (And.intro rfl (And.intro rfl (And.intro rfl (And.intro rfl (And.intro rfl (And.intro rfl trivial)))))))) K
                    · have H := it_neg c87 H
                      refine am_aload_n rfl rfl ?_
                      refine u_getR f_9_59 rfl (Nat.le_of_ble_eq_true rfl) rfl rfl ?_
                      refine am_aload_n rfl rfl ?_
                      refine u_getR f_9_86 rfl (Nat.le_of_ble_eq_true rfl) rfl rfl ?_
                      refine am_iload rfl rfl ?_
                      obtain ⟨j88, ej88, hj88, H⟩ := ck_some H
                      refine x_iald rfl (Nat.le_of_ble_eq_true rfl) rfl hj88 ej88 ?_
                      refine am_iload rfl rfl ?_
                      refine x_iconst (v := (3 : Int32)) rfl (by decide) ?_
                      refine am_irem rfl (by decide) ?_
                      obtain ⟨j89, ej89, hj89, H⟩ := ck_some H
                      obtain ⟨g90, eg90, H⟩ := wr_some H
                      refine x_iast rfl (Nat.le_of_ble_eq_true rfl) rfl hj89 ej89 eg90 ?_
                      refine am_iload rfl rfl ?_
                      refine x_iconst (v := (3 : Int32)) rfl (by decide) ?_
                      refine am_idiv rfl (by decide) ?_
                      refine am_istore rfl (Nat.le_of_ble_eq_true rfl) ?_
                      refine x_iinc (v := (x82 + (-1 : Int32))) rfl rfl (Nat.le_of_ble_eq_true rfl) rfl ?_
                      refine am_goto rfl ?_
                      have H := Option.some.inj H
                      subst H
                      exact am_drop (L' := [some (.ref 159), some (.int a1), some (.int a2), some (.int a3), some (.int a4), none, some (.int x20), some (.int x68), none, some (.int x73), some (.int (x81 / (3 : Int32))), some (.int (x82 + (-1 : Int32)))]) (And.intro rfl (And.intro rfl (And.intro rfl (And.intro rfl (And.intro rfl (And.intro rfl (And.intro rfl (And.intro rfl (And.intro rfl (And.intro rfl trivial)))))))))) K
              refine am_drop (L' := [some (.ref 159), some (.int a1), some (.int a2), some (.int a3), some (.int a4), none, some (.int x20), some (.int (1 : Int32)), some (.int (0 : Int32)), none, none, none]) (And.intro rfl (And.intro rfl (And.intro rfl (And.intro rfl (And.intro rfl (And.intro rfl (And.intro rfl (And.intro rfl trivial)))))))) ?_
              refine lp_ind (P := (fun (s67 : Int32 × Int32) => u_V m_X9_could 7 post 197 [some (.ref 159), some (.int a1), some (.int a2), some (.int a3), some (.int a4), none, some (.int x20), some (.int s67.1), some (.int s67.2), none, none, none] [] g21)) (Q := (fun (s69 : Int32) => u_V m_X9_could 7 post 216 [some (.ref 159), some (.int a1), some (.int a2), some (.int a3), some (.int a4), none, some (.int x20), some (.int s69), none, none, none, none] [] g21)) ?_ 2000 ((1 : Int32), (0 : Int32)) s71 H1 K2
              clear H1 H K
              intro s67 s71b H K
              obtain ⟨x65, x66⟩ := s67
              (try dsimp only at H); (try dsimp only)
              refine am_iload rfl rfl ?_
              refine am_iload rfl rfl ?_
              refine am_icmp_ge rfl (fun c70 => ?_) (fun c70 => ?_)
              · have H := it_pos c70 H
                have H := Option.some.inj H
                subst H
                exact am_drop (L' := [some (.ref 159), some (.int a1), some (.int a2), some (.int a3), some (.int a4), none, some (.int x20), some (.int x65), none, none, none, none]) (And.intro rfl (And.intro rfl (And.intro rfl (And.intro rfl (And.intro rfl (And.intro rfl (And.intro rfl trivial))))))) K
              · have H := it_neg c70 H
                refine am_iload rfl rfl ?_
                refine x_iconst (v := (3 : Int32)) rfl (by decide) ?_
                refine am_imul rfl ?_
                refine am_istore rfl (Nat.le_of_ble_eq_true rfl) ?_
                refine x_iinc (v := (x66 + (1 : Int32))) rfl rfl (Nat.le_of_ble_eq_true rfl) rfl ?_
                refine am_goto rfl ?_
                have H := Option.some.inj H
                subst H
                exact am_drop (L' := [some (.ref 159), some (.int a1), some (.int a2), some (.int a3), some (.int a4), none, some (.int x20), some (.int (x65 * (3 : Int32))), some (.int (x66 + (1 : Int32))), none, none, none]) (And.intro rfl (And.intro rfl (And.intro rfl (And.intro rfl (And.intro rfl (And.intro rfl (And.intro rfl (And.intro rfl trivial)))))))) K
            · have H := it_neg c64 H
              refine x_bipush (v := (-3 : Int32)) rfl (by decide) ?_
              have H := Option.some.inj H
              subst H
              exact u_iret rfl rfl K
        refine am_drop (L' := [some (.ref 159), some (.int a1), some (.int a2), some (.int a3), some (.int a4), some (.int r1), some (.int (0 : Int32)), some (.int (0 : Int32)), none, none, none, none]) (And.intro rfl (And.intro rfl (And.intro rfl (And.intro rfl (And.intro rfl (And.intro rfl (And.intro rfl (And.intro rfl trivial)))))))) ?_
        refine lp_ind (P := (fun (s19 : Int32 × Int32 × G) => u_V m_X9_could 7 post 60 [some (.ref 159), some (.int a1), some (.int a2), some (.int a3), some (.int a4), some (.int r1), some (.int s19.1), some (.int s19.2.1), none, none, none, none] [] s19.2.2)) (Q := (fun (s22 : Int32 × G) => u_V m_X9_could 7 post 177 [some (.ref 159), some (.int a1), some (.int a2), some (.int a3), some (.int a4), some (.int r1), some (.int s22.1), none, none, none, none, none] [] s22.2)) ?_ 2000 ((0 : Int32), (0 : Int32), g10) s62 H1 K2
        clear H1 H K
        intro s19 s62b H K
        obtain ⟨x16, x17, g18⟩ := s19
        (try dsimp only at H); (try dsimp only)
        refine am_iload rfl rfl ?_
        refine am_iload rfl rfl ?_
        obtain ⟨s61, H1, H⟩ := bd_some H
        have K : (fun (s25 : Int32 × G) => u_V m_X9_could 7 post 78 [some (.ref 159), some (.int a1), some (.int a2), some (.int a3), some (.int a4), some (.int r1), some (.int x16), some (.int x17), none, none, none, none] [.int s25.1, .int x17] s25.2) s61 := by
          clear H1
          obtain ⟨x23, g24⟩ := s61
          (try dsimp only at H); (try dsimp only)
          refine am_icmp_ge rfl (fun c26 => ?_) (fun c26 => ?_)
          · have H := it_pos c26 H
            have H := Option.some.inj H
            subst H
            exact am_drop (L' := [some (.ref 159), some (.int a1), some (.int a2), some (.int a3), some (.int a4), some (.int r1), some (.int x16), none, none, none, none, none]) (And.intro rfl (And.intro rfl (And.intro rfl (And.intro rfl (And.intro rfl (And.intro rfl (And.intro rfl trivial))))))) K
          · have H := it_neg c26 H
            refine x_iconst (v := (0 : Int32)) rfl (by decide) ?_
            refine am_istore rfl (Nat.le_of_ble_eq_true rfl) ?_
            obtain ⟨s57, H1, H⟩ := bd_some H
            have K2 : (fun (s33 : Int32 × G) => u_V m_X9_could 7 post 171 [some (.ref 159), some (.int a1), some (.int a2), some (.int a3), some (.int a4), some (.int r1), some (.int s33.1), some (.int x17), none, none, none, none] [] s33.2) s57 := by
              clear H1
              obtain ⟨x31, g32⟩ := s57
              (try dsimp only at H); (try dsimp only)
              refine x_iinc (v := (x17 + (1 : Int32))) rfl rfl (Nat.le_of_ble_eq_true rfl) rfl ?_
              refine am_goto rfl ?_
              have H := Option.some.inj H
              subst H
              exact am_drop (L' := [some (.ref 159), some (.int a1), some (.int a2), some (.int a3), some (.int a4), some (.int r1), some (.int x31), some (.int (x17 + (1 : Int32))), none, none, none, none]) (And.intro rfl (And.intro rfl (And.intro rfl (And.intro rfl (And.intro rfl (And.intro rfl (And.intro rfl (And.intro rfl trivial)))))))) K
            refine am_drop (L' := [some (.ref 159), some (.int a1), some (.int a2), some (.int a3), some (.int a4), some (.int r1), some (.int x16), some (.int x17), some (.int (0 : Int32)), none, none, none]) (And.intro rfl (And.intro rfl (And.intro rfl (And.intro rfl (And.intro rfl (And.intro rfl (And.intro rfl (And.intro rfl (And.intro rfl trivial))))))))) ?_
            refine lp_ind (P := (fun (s30 : Int32 × Int32 × G) => u_V m_X9_could 7 post 84 [some (.ref 159), some (.int a1), some (.int a2), some (.int a3), some (.int a4), some (.int r1), some (.int s30.1), some (.int x17), some (.int s30.2.1), none, none, none] [] s30.2.2)) (Q := (fun (s33 : Int32 × G) => u_V m_X9_could 7 post 171 [some (.ref 159), some (.int a1), some (.int a2), some (.int a3), some (.int a4), some (.int r1), some (.int s33.1), some (.int x17), none, none, none, none] [] s33.2)) ?_ 2000 (x16, (0 : Int32), g24) s57 H1 K2
            clear H1 H K
            intro s30 s57b H K
            obtain ⟨x27, x28, g29⟩ := s30
            (try dsimp only at H); (try dsimp only)
            refine am_iload rfl rfl ?_
            refine am_aload_n rfl rfl ?_
            refine am_iload_n rfl rfl ?_
            refine x_bipush (v := (32 : Int32)) rfl (by decide) ?_
            refine am_iload rfl rfl ?_
            refine am_iadd rfl ?_
            obtain ⟨r34, g35, H1, H⟩ := bd2_some H
            refine cv2i v_9_140 rfl rfl (Nat.le_of_ble_eq_true rfl) rfl (Nat.le_of_ble_eq_true rfl) (fun _ _ => Nat.le_of_ble_eq_true rfl) (y_X9_cell a1 ((32 : Int32) + x17) g29 _ H1 ?_)
            refine am_icmp_ge rfl (fun c36 => ?_) (fun c36 => ?_)
            · have H := it_pos c36 H
              have H := Option.some.inj H
              subst H
              exact am_drop (L' := [some (.ref 159), some (.int a1), some (.int a2), some (.int a3), some (.int a4), some (.int r1), some (.int x27), some (.int x17), none, none, none, none]) (And.intro rfl (And.intro rfl (And.intro rfl (And.intro rfl (And.intro rfl (And.intro rfl (And.intro rfl (And.intro rfl trivial)))))))) K
            · have H := it_neg c36 H
              refine x_iconst (v := (5 : Int32)) rfl (by decide) ?_
              refine am_iload rfl rfl ?_
              refine am_imul rfl ?_
              refine am_iload rfl rfl ?_
              refine am_iadd rfl ?_
              refine am_istore rfl (Nat.le_of_ble_eq_true rfl) ?_
              refine am_aload_n rfl rfl ?_
              refine am_iload_n rfl rfl ?_
              refine am_iload rfl rfl ?_
              obtain ⟨r37, g38, H1, H⟩ := bd2_some H
              refine cv2i v_9_161 rfl rfl (Nat.le_of_ble_eq_true rfl) rfl (Nat.le_of_ble_eq_true rfl) (fun _ _ => Nat.le_of_ble_eq_true rfl) (y_X9_isWithNobody a1 (((5 : Int32) * x17) + x28) g35 _ H1 ?_)
              obtain ⟨s56, H1, H⟩ := bd_some H
              have K : (fun (s41 : Int32 × G) => u_V m_X9_could 7 post 133 [some (.ref 159), some (.int a1), some (.int a2), some (.int a3), some (.int a4), some (.int r1), some (.int x27), some (.int x17), some (.int x28), some (.int (((5 : Int32) * x17) + x28)), none, none] [.int s41.1] s41.2) s56 := by
                clear H1
                obtain ⟨x39, g40⟩ := s56
                (try dsimp only at H); (try dsimp only)
                refine am_istore rfl (Nat.le_of_ble_eq_true rfl) ?_
                refine am_iload rfl rfl ?_
                refine x_iconst (v := (-1 : Int32)) rfl (by decide) ?_
                obtain ⟨s52, H1, H⟩ := bd_some H
                have K : (Sum.elim (fun (s43 : Int32) => u_V m_X9_could 7 post 147 [some (.ref 159), some (.int a1), some (.int a2), some (.int a3), some (.int a4), some (.int r1), some (.int x27), some (.int x17), some (.int s43), some (.int (((5 : Int32) * x17) + x28)), none, none] [] g40) (Sum.elim (fun (s30 : Int32 × Int32 × G) => u_V m_X9_could 7 post 84 [some (.ref 159), some (.int a1), some (.int a2), some (.int a3), some (.int a4), some (.int r1), some (.int s30.1), some (.int x17), some (.int s30.2.1), none, none, none] [] s30.2.2) (fun (s33 : Int32 × G) => u_V m_X9_could 7 post 171 [some (.ref 159), some (.int a1), some (.int a2), some (.int a3), some (.int a4), some (.int r1), some (.int s33.1), some (.int x17), none, none, none, none] [] s33.2))) s52 := by
                  clear H1
                  cases s52 with
                  | inl s43 =>
                    obtain ⟨x42, e_x42⟩ : ∃ z, z = s43 := ⟨_, rfl⟩
                    subst e_x42
                    (try dsimp only at H); (try dsimp only)
                    refine am_iload rfl rfl ?_
                    refine x_iconst (v := (4 : Int32)) rfl (by decide) ?_
                    obtain ⟨s49, H1, H⟩ := bd_some H
                    have K : (fun (s45 : G) => u_V m_X9_could 7 post 162 [some (.ref 159), some (.int a1), some (.int a2), some (.int a3), some (.int a4), some (.int r1), some (.int x27), some (.int x17), some (.int x42), none, none, none] [] s45) s49 := by
                      clear H1
                      obtain ⟨g44, e_g44⟩ : ∃ z, z = s49 := ⟨_, rfl⟩
                      subst e_g44
                      (try dsimp only at H); (try dsimp only)
                      refine x_iinc (v := (x27 + (1 : Int32))) rfl rfl (Nat.le_of_ble_eq_true rfl) rfl ?_
                      refine x_iinc (v := (x42 + (1 : Int32))) rfl rfl (Nat.le_of_ble_eq_true rfl) rfl ?_
                      refine am_goto rfl ?_
                      have H := Option.some.inj H
                      subst H
                      exact am_drop (L' := [some (.ref 159), some (.int a1), some (.int a2), some (.int a3), some (.int a4), some (.int r1), some (.int (x27 + (1 : Int32))), some (.int x17), some (.int (x42 + (1 : Int32))), none, none, none]) (And.intro rfl (And.intro rfl (And.intro rfl (And.intro rfl (And.intro rfl (And.intro rfl (And.intro rfl (And.intro rfl (And.intro rfl trivial))))))))) K
                    have H := H1
                    clear H1
                    refine am_icmp_ge rfl (fun c46 => ?_) (fun c46 => ?_)
                    · have H := it_pos c46 H
                      have H := Option.some.inj H
                      subst H
                      exact am_drop (L' := [some (.ref 159), some (.int a1), some (.int a2), some (.int a3), some (.int a4), some (.int r1), some (.int x27), some (.int x17), some (.int x42), none, none, none]) (And.intro rfl (And.intro rfl (And.intro rfl (And.intro rfl (And.intro rfl (And.intro rfl (And.intro rfl (And.intro rfl (And.intro rfl trivial))))))))) K
                    · have H := it_neg c46 H
                      refine am_aload_n rfl rfl ?_
                      refine u_getR f_9_86 rfl (Nat.le_of_ble_eq_true rfl) rfl rfl ?_
                      refine am_iload rfl rfl ?_
                      refine am_iload rfl rfl ?_
                      obtain ⟨j47, ej47, hj47, H⟩ := ck_some H
                      obtain ⟨g48, eg48, H⟩ := wr_some H
                      refine x_iast rfl (Nat.le_of_ble_eq_true rfl) rfl hj47 ej47 eg48 ?_
                      have H := Option.some.inj H
                      subst H
                      exact am_drop (L' := [some (.ref 159), some (.int a1), some (.int a2), some (.int a3), some (.int a4), some (.int r1), some (.int x27), some (.int x17), some (.int x42), none, none, none]) (And.intro rfl (And.intro rfl (And.intro rfl (And.intro rfl (And.intro rfl (And.intro rfl (And.intro rfl (And.intro rfl (And.intro rfl trivial))))))))) K
                  | inr y =>
                    have H := Option.some.inj H
                    subst H
                    exact K
                have H := H1
                clear H1
                refine am_icmp_eq rfl (fun c50 => ?_) (fun c50 => ?_)
                · have H := it_pos c50 H
                  have H := Option.some.inj H
                  subst H
                  exact am_drop (L' := [some (.ref 159), some (.int a1), some (.int a2), some (.int a3), some (.int a4), some (.int r1), some (.int x27), some (.int x17), some (.int x28), some (.int (((5 : Int32) * x17) + x28)), none, none]) (And.intro rfl (And.intro rfl (And.intro rfl (And.intro rfl (And.intro rfl (And.intro rfl (And.intro rfl (And.intro rfl (And.intro rfl (And.intro rfl trivial)))))))))) K
                · have H := it_neg c50 H
                  refine am_iload rfl rfl ?_
                  refine x_iconst (v := (5 : Int32)) rfl (by decide) ?_
                  refine am_icmp_ne rfl (fun c51 => ?_) (fun c51 => ?_)
                  · have H := it_neg c51 H
                    refine x_iinc (v := (x28 + (1 : Int32))) rfl rfl (Nat.le_of_ble_eq_true rfl) rfl ?_
                    refine am_goto rfl ?_
                    have H := Option.some.inj H
                    subst H
                    exact am_drop (L' := [some (.ref 159), some (.int a1), some (.int a2), some (.int a3), some (.int a4), some (.int r1), some (.int x27), some (.int x17), some (.int (x28 + (1 : Int32))), none, none, none]) (And.intro rfl (And.intro rfl (And.intro rfl (And.intro rfl (And.intro rfl (And.intro rfl (And.intro rfl (And.intro rfl (And.intro rfl trivial))))))))) K
                  · have H := it_pos c51 H
                    have H := Option.some.inj H
                    subst H
                    exact am_drop (L' := [some (.ref 159), some (.int a1), some (.int a2), some (.int a3), some (.int a4), some (.int r1), some (.int x27), some (.int x17), some (.int x28), some (.int (((5 : Int32) * x17) + x28)), none, none]) (And.intro rfl (And.intro rfl (And.intro rfl (And.intro rfl (And.intro rfl (And.intro rfl (And.intro rfl (And.intro rfl (And.intro rfl (And.intro rfl trivial)))))))))) K
              have H := H1
              clear H1
              refine am_if_eq rfl (fun c53 => ?_) (fun c53 => ?_)
              · have H := it_pos c53 H
                refine am_aload_n rfl rfl ?_
                refine am_iload_n rfl rfl ?_
                refine am_iload rfl rfl ?_
                refine am_ldc (v := (2147483647 : Int32)) c_9_214 rfl ?_
                refine am_iload rfl rfl ?_
                obtain ⟨r54, g55, H1, H⟩ := bd2_some H
                refine cv4i v_9_165 rfl rfl (Nat.le_of_ble_eq_true rfl) rfl (Nat.le_of_ble_eq_true rfl) (fun _ _ => Nat.le_of_ble_eq_true rfl) (y_X9_outcomeOf a1 (((5 : Int32) * x17) + x28) (2147483647 : Int32) a4 g38 _ H1 ?_)
                have H := Option.some.inj H
                subst H
                exact am_drop (L' := [some (.ref 159), some (.int a1), some (.int a2), some (.int a3), some (.int a4), some (.int r1), some (.int x27), some (.int x17), some (.int x28), some (.int (((5 : Int32) * x17) + x28)), none, none]) (And.intro rfl (And.intro rfl (And.intro rfl (And.intro rfl (And.intro rfl (And.intro rfl (And.intro rfl (And.intro rfl (And.intro rfl (And.intro rfl trivial)))))))))) K
              · have H := it_neg c53 H
                refine x_iconst (v := (0 : Int32)) rfl (by decide) ?_
                refine am_goto rfl ?_
                have H := Option.some.inj H
                subst H
                exact am_drop (L' := [some (.ref 159), some (.int a1), some (.int a2), some (.int a3), some (.int a4), some (.int r1), some (.int x27), some (.int x17), some (.int x28), some (.int (((5 : Int32) * x17) + x28)), none, none]) (And.intro rfl (And.intro rfl (And.intro rfl (And.intro rfl (And.intro rfl (And.intro rfl (And.intro rfl (And.intro rfl (And.intro rfl (And.intro rfl trivial)))))))))) K
        have H := H1
        clear H1
        refine am_if_ne rfl (fun c58 => ?_) (fun c58 => ?_)
        · have H := it_neg c58 H
          refine x_iconst (v := (0 : Int32)) rfl (by decide) ?_
          have H := Option.some.inj H
          subst H
          exact am_drop (L' := [some (.ref 159), some (.int a1), some (.int a2), some (.int a3), some (.int a4), some (.int r1), some (.int x16), some (.int x17), none, none, none, none]) (And.intro rfl (And.intro rfl (And.intro rfl (And.intro rfl (And.intro rfl (And.intro rfl (And.intro rfl (And.intro rfl trivial)))))))) K
        · have H := it_pos c58 H
          refine am_aload_n rfl rfl ?_
          refine am_iload_n rfl rfl ?_
          refine x_bipush (v := (25 : Int32)) rfl (by decide) ?_
          obtain ⟨r59, g60, H1, H⟩ := bd2_some H
          refine cv2i v_9_140 rfl rfl (Nat.le_of_ble_eq_true rfl) rfl (Nat.le_of_ble_eq_true rfl) (fun _ _ => Nat.le_of_ble_eq_true rfl) (y_X9_cell a1 (25 : Int32) g18 _ H1 ?_)
          refine am_goto rfl ?_
          have H := Option.some.inj H
          subst H
          exact am_drop (L' := [some (.ref 159), some (.int a1), some (.int a2), some (.int a3), some (.int a4), some (.int r1), some (.int x16), some (.int x17), none, none, none, none]) (And.intro rfl (And.intro rfl (And.intro rfl (And.intro rfl (And.intro rfl (And.intro rfl (And.intro rfl (And.intro rfl trivial)))))))) K
      refine am_drop (L' := [some (.ref 159), some (.int a1), some (.int a2), some (.int a3), some (.int a4), some (.int r1), some (.int (0 : Int32)), some (.int (0 : Int32)), none, none, none, none]) (And.intro rfl (And.intro rfl (And.intro rfl (And.intro rfl (And.intro rfl (And.intro rfl (And.intro rfl (And.intro rfl trivial)))))))) ?_
      refine lp_ind (P := (fun (s9 : Int32 × G) => u_V m_X9_could 7 post 36 [some (.ref 159), some (.int a1), some (.int a2), some (.int a3), some (.int a4), some (.int r1), some (.int (0 : Int32)), some (.int s9.1), none, none, none, none] [] s9.2)) (Q := (fun (s11 : G) => u_V m_X9_could 7 post 57 [some (.ref 159), some (.int a1), some (.int a2), some (.int a3), some (.int a4), some (.int r1), some (.int (0 : Int32)), none, none, none, none, none] [] s11)) ?_ 2000 ((0 : Int32), g5) s15 H1 K2
      clear H1 H K
      intro s9 s15b H K
      obtain ⟨x7, g8⟩ := s9
      (try dsimp only at H); (try dsimp only)
      refine am_iload rfl rfl ?_
      refine x_bipush (v := (30 : Int32)) rfl (by decide) ?_
      refine am_icmp_ge rfl (fun c12 => ?_) (fun c12 => ?_)
      · have H := it_pos c12 H
        have H := Option.some.inj H
        subst H
        exact am_drop (L' := [some (.ref 159), some (.int a1), some (.int a2), some (.int a3), some (.int a4), some (.int r1), some (.int (0 : Int32)), none, none, none, none, none]) (And.intro rfl (And.intro rfl (And.intro rfl (And.intro rfl (And.intro rfl (And.intro rfl (And.intro rfl trivial))))))) K
      · have H := it_neg c12 H
        refine am_aload_n rfl rfl ?_
        refine u_getR f_9_59 rfl (Nat.le_of_ble_eq_true rfl) rfl rfl ?_
        refine am_iload rfl rfl ?_
        refine x_iconst (v := (-1 : Int32)) rfl (by decide) ?_
        obtain ⟨j13, ej13, hj13, H⟩ := ck_some H
        obtain ⟨g14, eg14, H⟩ := wr_some H
        refine x_iast rfl (Nat.le_of_ble_eq_true rfl) rfl hj13 ej13 eg14 ?_
        refine x_iinc (v := (x7 + (1 : Int32))) rfl rfl (Nat.le_of_ble_eq_true rfl) rfl ?_
        refine am_goto rfl ?_
        have H := Option.some.inj H
        subst H
        exact am_drop (L' := [some (.ref 159), some (.int a1), some (.int a2), some (.int a3), some (.int a4), some (.int r1), some (.int (0 : Int32)), some (.int (x7 + (1 : Int32))), none, none, none, none]) (And.intro rfl (And.intro rfl (And.intro rfl (And.intro rfl (And.intro rfl (And.intro rfl (And.intro rfl (And.intro rfl trivial)))))))) K
    · have H := it_pos c6 H
      refine x_bipush (v := (-2 : Int32)) rfl (by decide) ?_
      have H := Option.some.inj H
      subst H
      exact u_iret rfl rfl K
def f_X9_found (a1 : Int32) (g : G) : Option (Int32 × G) := bd2 (f_X9_in a1 (0 : Int32) ((g 159 42) - (1 : Int32)) g) fun r1 g2 => if r1 = 0 then some (((-1 : Int32), g2)) else ck a1 4 fun j4 => some (((g2 184 j4), g2))
set_option maxHeartbeats 4000000 in
set_option maxRecDepth 100000 in
theorem y_X9_found (a1 : Int32)  (g : G) (q : Int32 × G) {post : Int32 → G → Prop} (H : f_X9_found a1 g = some q) (K : post q.1 q.2) : Y m_X9_found 1 [.ref 159, .int a1] g post := by
  refine Y_of ok_X9_found pn_9 rfl (by decide) (Or.inr (Or.inl rfl)) (List.forall_mem_cons.mpr ⟨rfl, (List.forall_mem_cons.mpr ⟨rfl, (fun _ h => absurd h List.not_mem_nil)⟩)⟩) (Nat.le_of_ble_eq_true rfl) ?_
  show u_V m_X9_found 1 post 0 [some (.ref 159), some (.int a1)] [] g
  unfold f_X9_found at H
  refine am_iload_n rfl rfl ?_
  refine x_iconst (v := (0 : Int32)) rfl (by decide) ?_
  refine am_aload_n rfl rfl ?_
  refine u_getI f_9_261 rfl (Nat.le_of_ble_eq_true rfl) rfl rfl ?_
  refine x_iconst (v := (1 : Int32)) rfl (by decide) ?_
  refine am_isub rfl ?_
  obtain ⟨r1, g2, H1, H⟩ := bd2_some H
  refine cs3i s_9_101 rfl rfl (Nat.le_of_ble_eq_true rfl) (fun _ _ => Nat.le_of_ble_eq_true rfl) (y_X9_in a1 (0 : Int32) ((g 159 42) - (1 : Int32)) g _ H1 ?_)
  refine am_if_eq rfl (fun c3 => ?_) (fun c3 => ?_)
  · have H := it_pos c3 H
    refine x_iconst (v := (-1 : Int32)) rfl (by decide) ?_
    have H := Option.some.inj H
    subst H
    exact u_iret rfl rfl K
  · have H := it_neg c3 H
    refine am_aload_n rfl rfl ?_
    refine u_getR f_9_89 rfl (Nat.le_of_ble_eq_true rfl) rfl rfl ?_
    refine am_iload_n rfl rfl ?_
    obtain ⟨j4, ej4, hj4, H⟩ := ck_some H
    refine x_iald rfl (Nat.le_of_ble_eq_true rfl) rfl hj4 ej4 ?_
    refine am_goto rfl ?_
    have H := Option.some.inj H
    subst H
    exact u_iret rfl rfl K
def f_X9_step (a1 : Int32) (a2 : Int32) (a3 : Int32) (a4 : Int32) (a5 : Int32) (a6 : Int32) (g : G) : Option (Int32 × G) := bd2 (f_X9_in a1 (0 : Int32) (3 : Int32) g) fun r1 g2 => if r1 = 0 then some (((-2 : Int32), g2)) else bd2 (f_X9_in a2 (0 : Int32) (11 : Int32) g2) fun r4 g5 => if r4 = 0 then some (((-2 : Int32), g5)) else ck a1 4 fun j7 => if (g5 172 j7) = (10 : Int32) then some (((-4 : Int32), g5)) else ck a1 4 fun j9 => ck (((50 : Int32) * a1) + ((5 : Int32) * (g5 172 j9))) 200 fun j10 => wr (up2 g5 171 j10 a2) fun g11 => ck ((((50 : Int32) * a1) + ((5 : Int32) * (g5 172 j9))) + (1 : Int32)) 200 fun j12 => wr (up2 g11 171 j12 a3) fun g13 => ck ((((50 : Int32) * a1) + ((5 : Int32) * (g5 172 j9))) + (2 : Int32)) 200 fun j14 => wr (up2 g13 171 j14 a4) fun g15 => ck ((((50 : Int32) * a1) + ((5 : Int32) * (g5 172 j9))) + (3 : Int32)) 200 fun j16 => wr (up2 g15 171 j16 a5) fun g17 => ck ((((50 : Int32) * a1) + ((5 : Int32) * (g5 172 j9))) + (4 : Int32)) 200 fun j18 => wr (up2 g17 171 j18 a6) fun g19 => ck a1 4 fun j20 => ck a1 4 fun j21 => wr (up2 g19 172 j21 ((g19 172 j20) + (1 : Int32))) fun g22 => ck a1 4 fun j23 => some (((g22 172 j23), g22))
set_option maxHeartbeats 4000000 in
set_option maxRecDepth 100000 in
theorem y_X9_step (a1 : Int32) (a2 : Int32) (a3 : Int32) (a4 : Int32) (a5 : Int32) (a6 : Int32)  (g : G) (q : Int32 × G) {post : Int32 → G → Prop} (H : f_X9_step a1 a2 a3 a4 a5 a6 g = some q) (K : post q.1 q.2) : Y m_X9_step 1 [.ref 159, .int a1, .int a2, .int a3, .int a4, .int a5, .int a6] g post := by
  refine Y_of ok_X9_step pn_9 rfl (by decide) (Or.inr (Or.inl rfl)) (List.forall_mem_cons.mpr ⟨rfl, (List.forall_mem_cons.mpr ⟨rfl, (List.forall_mem_cons.mpr ⟨rfl, (List.forall_mem_cons.mpr ⟨rfl, (List.forall_mem_cons.mpr ⟨rfl, (List.forall_mem_cons.mpr ⟨rfl, (List.forall_mem_cons.mpr ⟨rfl, (fun _ h => absurd h List.not_mem_nil)⟩)⟩)⟩)⟩)⟩)⟩)⟩) (Nat.le_of_ble_eq_true rfl) ?_
  show u_V m_X9_step 1 post 0 [some (.ref 159), some (.int a1), some (.int a2), some (.int a3), some (.int a4), some (.int a5), some (.int a6), none] [] g
  unfold f_X9_step at H
  refine am_iload_n rfl rfl ?_
  refine x_iconst (v := (0 : Int32)) rfl (by decide) ?_
  refine x_iconst (v := (3 : Int32)) rfl (by decide) ?_
  obtain ⟨r1, g2, H1, H⟩ := bd2_some H
  refine cs3i s_9_101 rfl rfl (Nat.le_of_ble_eq_true rfl) (fun _ _ => Nat.le_of_ble_eq_true rfl) (y_X9_in a1 (0 : Int32) (3 : Int32) g _ H1 ?_)
  refine am_if_eq rfl (fun c3 => ?_) (fun c3 => ?_)
  · have H := it_pos c3 H
    refine x_bipush (v := (-2 : Int32)) rfl (by decide) ?_
    have H := Option.some.inj H
    subst H
    exact u_iret rfl rfl K
  · have H := it_neg c3 H
    refine am_iload_n rfl rfl ?_
    refine x_iconst (v := (0 : Int32)) rfl (by decide) ?_
    refine x_bipush (v := (11 : Int32)) rfl (by decide) ?_
    obtain ⟨r4, g5, H1, H⟩ := bd2_some H
    refine cs3i s_9_101 rfl rfl (Nat.le_of_ble_eq_true rfl) (fun _ _ => Nat.le_of_ble_eq_true rfl) (y_X9_in a2 (0 : Int32) (11 : Int32) g2 _ H1 ?_)
    refine am_if_ne rfl (fun c6 => ?_) (fun c6 => ?_)
    · have H := it_neg c6 H
      refine am_aload_n rfl rfl ?_
      refine u_getR f_9_46 rfl (Nat.le_of_ble_eq_true rfl) rfl rfl ?_
      refine am_iload_n rfl rfl ?_
      obtain ⟨j7, ej7, hj7, H⟩ := ck_some H
      refine x_iald rfl (Nat.le_of_ble_eq_true rfl) rfl hj7 ej7 ?_
      refine x_bipush (v := (10 : Int32)) rfl (by decide) ?_
      refine am_icmp_ne rfl (fun c8 => ?_) (fun c8 => ?_)
      · have H := it_neg c8 H
        refine x_bipush (v := (50 : Int32)) rfl (by decide) ?_
        refine am_iload_n rfl rfl ?_
        refine am_imul rfl ?_
        refine x_iconst (v := (5 : Int32)) rfl (by decide) ?_
        refine am_aload_n rfl rfl ?_
        refine u_getR f_9_46 rfl (Nat.le_of_ble_eq_true rfl) rfl rfl ?_
        refine am_iload_n rfl rfl ?_
        obtain ⟨j9, ej9, hj9, H⟩ := ck_some H
        refine x_iald rfl (Nat.le_of_ble_eq_true rfl) rfl hj9 ej9 ?_
        refine am_imul rfl ?_
        refine am_iadd rfl ?_
        refine am_istore rfl (Nat.le_of_ble_eq_true rfl) ?_
        refine am_aload_n rfl rfl ?_
        refine u_getR f_9_43 rfl (Nat.le_of_ble_eq_true rfl) rfl rfl ?_
        refine am_iload rfl rfl ?_
        refine am_iload_n rfl rfl ?_
        obtain ⟨j10, ej10, hj10, H⟩ := ck_some H
        obtain ⟨g11, eg11, H⟩ := wr_some H
        refine x_iast rfl (Nat.le_of_ble_eq_true rfl) rfl hj10 ej10 eg11 ?_
        refine am_aload_n rfl rfl ?_
        refine u_getR f_9_43 rfl (Nat.le_of_ble_eq_true rfl) rfl rfl ?_
        refine am_iload rfl rfl ?_
        refine x_iconst (v := (1 : Int32)) rfl (by decide) ?_
        refine am_iadd rfl ?_
        refine am_iload_n rfl rfl ?_
        obtain ⟨j12, ej12, hj12, H⟩ := ck_some H
        obtain ⟨g13, eg13, H⟩ := wr_some H
        refine x_iast rfl (Nat.le_of_ble_eq_true rfl) rfl hj12 ej12 eg13 ?_
        refine am_aload_n rfl rfl ?_
        refine u_getR f_9_43 rfl (Nat.le_of_ble_eq_true rfl) rfl rfl ?_
        refine am_iload rfl rfl ?_
        refine x_iconst (v := (2 : Int32)) rfl (by decide) ?_
        refine am_iadd rfl ?_
        refine am_iload rfl rfl ?_
        obtain ⟨j14, ej14, hj14, H⟩ := ck_some H
        obtain ⟨g15, eg15, H⟩ := wr_some H
        refine x_iast rfl (Nat.le_of_ble_eq_true rfl) rfl hj14 ej14 eg15 ?_
        refine am_aload_n rfl rfl ?_
        refine u_getR f_9_43 rfl (Nat.le_of_ble_eq_true rfl) rfl rfl ?_
        refine am_iload rfl rfl ?_
        refine x_iconst (v := (3 : Int32)) rfl (by decide) ?_
        refine am_iadd rfl ?_
        refine am_iload rfl rfl ?_
        obtain ⟨j16, ej16, hj16, H⟩ := ck_some H
        obtain ⟨g17, eg17, H⟩ := wr_some H
        refine x_iast rfl (Nat.le_of_ble_eq_true rfl) rfl hj16 ej16 eg17 ?_
        refine am_aload_n rfl rfl ?_
        refine u_getR f_9_43 rfl (Nat.le_of_ble_eq_true rfl) rfl rfl ?_
        refine am_iload rfl rfl ?_
        refine x_iconst (v := (4 : Int32)) rfl (by decide) ?_
        refine am_iadd rfl ?_
        refine am_iload rfl rfl ?_
        obtain ⟨j18, ej18, hj18, H⟩ := ck_some H
        obtain ⟨g19, eg19, H⟩ := wr_some H
        refine x_iast rfl (Nat.le_of_ble_eq_true rfl) rfl hj18 ej18 eg19 ?_
        refine am_aload_n rfl rfl ?_
        refine u_getR f_9_46 rfl (Nat.le_of_ble_eq_true rfl) rfl rfl ?_
        refine am_iload_n rfl rfl ?_
        refine am_dup2 rfl rfl rfl ?_
        obtain ⟨j20, ej20, hj20, H⟩ := ck_some H
        refine x_iald rfl (Nat.le_of_ble_eq_true rfl) rfl hj20 ej20 ?_
        refine x_iconst (v := (1 : Int32)) rfl (by decide) ?_
        refine am_iadd rfl ?_
        obtain ⟨j21, ej21, hj21, H⟩ := ck_some H
        obtain ⟨g22, eg22, H⟩ := wr_some H
        refine x_iast rfl (Nat.le_of_ble_eq_true rfl) rfl hj21 ej21 eg22 ?_
        refine am_aload_n rfl rfl ?_
        refine u_getR f_9_46 rfl (Nat.le_of_ble_eq_true rfl) rfl rfl ?_
        refine am_iload_n rfl rfl ?_
        obtain ⟨j23, ej23, hj23, H⟩ := ck_some H
        refine x_iald rfl (Nat.le_of_ble_eq_true rfl) rfl hj23 ej23 ?_
        have H := Option.some.inj H
        subst H
        exact u_iret rfl rfl K
      · have H := it_pos c8 H
        refine x_bipush (v := (-4 : Int32)) rfl (by decide) ?_
        have H := Option.some.inj H
        subst H
        exact u_iret rfl rfl K
    · have H := it_pos c6 H
      refine x_bipush (v := (-2 : Int32)) rfl (by decide) ?_
      have H := Option.some.inj H
      subst H
      exact u_iret rfl rfl K
def f_X9_empty (a1 : Int32) (g : G) : Option (Int32 × G) := bd2 (f_X9_in a1 (0 : Int32) (3 : Int32) g) fun r1 g2 => if r1 = 0 then some (((-2 : Int32), g2)) else ck a1 4 fun j4 => ck a1 4 fun j5 => wr (up2 g2 172 j5 (0 : Int32)) fun g6 => some (((g2 172 j4), g6))
set_option maxHeartbeats 4000000 in
set_option maxRecDepth 100000 in
theorem y_X9_empty (a1 : Int32)  (g : G) (q : Int32 × G) {post : Int32 → G → Prop} (H : f_X9_empty a1 g = some q) (K : post q.1 q.2) : Y m_X9_empty 1 [.ref 159, .int a1] g post := by
  refine Y_of ok_X9_empty pn_9 rfl (by decide) (Or.inr (Or.inl rfl)) (List.forall_mem_cons.mpr ⟨rfl, (List.forall_mem_cons.mpr ⟨rfl, (fun _ h => absurd h List.not_mem_nil)⟩)⟩) (Nat.le_of_ble_eq_true rfl) ?_
  show u_V m_X9_empty 1 post 0 [some (.ref 159), some (.int a1), none] [] g
  unfold f_X9_empty at H
  refine am_iload_n rfl rfl ?_
  refine x_iconst (v := (0 : Int32)) rfl (by decide) ?_
  refine x_iconst (v := (3 : Int32)) rfl (by decide) ?_
  obtain ⟨r1, g2, H1, H⟩ := bd2_some H
  refine cs3i s_9_101 rfl rfl (Nat.le_of_ble_eq_true rfl) (fun _ _ => Nat.le_of_ble_eq_true rfl) (y_X9_in a1 (0 : Int32) (3 : Int32) g _ H1 ?_)
  refine am_if_ne rfl (fun c3 => ?_) (fun c3 => ?_)
  · have H := it_neg c3 H
    refine am_aload_n rfl rfl ?_
    refine u_getR f_9_46 rfl (Nat.le_of_ble_eq_true rfl) rfl rfl ?_
    refine am_iload_n rfl rfl ?_
    obtain ⟨j4, ej4, hj4, H⟩ := ck_some H
    refine x_iald rfl (Nat.le_of_ble_eq_true rfl) rfl hj4 ej4 ?_
    refine am_istore_n rfl (Nat.le_of_ble_eq_true rfl) ?_
    refine am_aload_n rfl rfl ?_
    refine u_getR f_9_46 rfl (Nat.le_of_ble_eq_true rfl) rfl rfl ?_
    refine am_iload_n rfl rfl ?_
    refine x_iconst (v := (0 : Int32)) rfl (by decide) ?_
    obtain ⟨j5, ej5, hj5, H⟩ := ck_some H
    obtain ⟨g6, eg6, H⟩ := wr_some H
    refine x_iast rfl (Nat.le_of_ble_eq_true rfl) rfl hj5 ej5 eg6 ?_
    refine am_iload_n rfl rfl ?_
    have H := Option.some.inj H
    subst H
    exact u_iret rfl rfl K
  · have H := it_pos c3 H
    refine x_bipush (v := (-2 : Int32)) rfl (by decide) ?_
    have H := Option.some.inj H
    subst H
    exact u_iret rfl rfl K
def f_X9_need (a1 : Int32) (a2 : Int32) (a3 : Int32) (a4 : Int32) (g : G) : Option (Int32 × G) := bd2 (f_X9_points a1 a2 a3 a3 g) fun r1 g2 => if 0 ≤ r1 then if a4 ≤ r1 then some ((r1, g2)) else bd2 (f_X9_meets (6 : Int32) g2) fun r5 g6 => some ((r5, g6)) else some ((r1, g2))
set_option maxHeartbeats 4000000 in
set_option maxRecDepth 100000 in
theorem y_X9_need (a1 : Int32) (a2 : Int32) (a3 : Int32) (a4 : Int32)  (g : G) (q : Int32 × G) {post : Int32 → G → Prop} (H : f_X9_need a1 a2 a3 a4 g = some q) (K : post q.1 q.2) : Y m_X9_need 5 [.ref 159, .int a1, .int a2, .int a3, .int a4] g post := by
  refine Y_of ok_X9_need pn_9 rfl (by decide) (Or.inr (Or.inl rfl)) (List.forall_mem_cons.mpr ⟨rfl, (List.forall_mem_cons.mpr ⟨rfl, (List.forall_mem_cons.mpr ⟨rfl, (List.forall_mem_cons.mpr ⟨rfl, (List.forall_mem_cons.mpr ⟨rfl, (fun _ h => absurd h List.not_mem_nil)⟩)⟩)⟩)⟩)⟩) (Nat.le_of_ble_eq_true rfl) ?_
  show u_V m_X9_need 5 post 0 [some (.ref 159), some (.int a1), some (.int a2), some (.int a3), some (.int a4), none] [] g
  unfold f_X9_need at H
  refine am_aload_n rfl rfl ?_
  refine am_iload_n rfl rfl ?_
  refine am_iload_n rfl rfl ?_
  refine am_iload_n rfl rfl ?_
  refine am_iload_n rfl rfl ?_
  obtain ⟨r1, g2, H1, H⟩ := bd2_some H
  refine cv4i v_9_264 rfl rfl (Nat.le_of_ble_eq_true rfl) rfl (Nat.le_of_ble_eq_true rfl) (fun _ _ => Nat.le_of_ble_eq_true rfl) (y_X9_points a1 a2 a3 a3 g _ H1 ?_)
  refine am_istore rfl (Nat.le_of_ble_eq_true rfl) ?_
  refine am_iload rfl rfl ?_
  refine am_if_ge rfl (fun c3 => ?_) (fun c3 => ?_)
  · have H := it_pos c3 H
    refine am_iload rfl rfl ?_
    refine am_iload rfl rfl ?_
    refine am_icmp_ge rfl (fun c4 => ?_) (fun c4 => ?_)
    · have H := it_pos c4 H
      refine am_iload rfl rfl ?_
      have H := Option.some.inj H
      subst H
      exact u_iret rfl rfl K
    · have H := it_neg c4 H
      refine am_aload_n rfl rfl ?_
      refine x_bipush (v := (6 : Int32)) rfl (by decide) ?_
      obtain ⟨r5, g6, H1, H⟩ := bd2_some H
      refine cv1i v_9_112 rfl rfl (Nat.le_of_ble_eq_true rfl) rfl (Nat.le_of_ble_eq_true rfl) (fun _ _ => Nat.le_of_ble_eq_true rfl) (y_X9_meets (6 : Int32) g2 _ H1 ?_)
      refine am_goto rfl ?_
      have H := Option.some.inj H
      subst H
      exact u_iret rfl rfl K
  · have H := it_neg c3 H
    refine am_iload rfl rfl ?_
    refine am_goto rfl ?_
    have H := Option.some.inj H
    subst H
    exact u_iret rfl rfl K
def f_X9_answer (a1 : Int32) (g : G) : Option (Int32 × G) := ck (a1 + (1 : Int32)) 200 fun j1 => ck (a1 + (2 : Int32)) 200 fun j2 => ck (a1 + (3 : Int32)) 200 fun j3 => ck (a1 + (4 : Int32)) 200 fun j4 => ck a1 200 fun j5 => if (g 171 j5) = (0 : Int32) then bd2 (f_X9_player (g 171 j1) (g 171 j2) g) fun r7 g8 => some ((r7, g8)) else if (g 171 j5) = (1 : Int32) then bd2 (f_X9_places (g 171 j1) (g 171 j2) g) fun r10 g11 => some ((r10, g11)) else if (g 171 j5) = (2 : Int32) then bd2 (f_X9_seat (g 171 j1) (g 171 j2) (g 171 j3) g) fun r13 g14 => some ((r13, g14)) else if (g 171 j5) = (3 : Int32) then bd2 (f_X9_tournament  g) fun r16 g17 => some ((r16, g17)) else if (g 171 j5) = (4 : Int32) then bd2 (f_X9_enter (g 171 j1) (g 171 j2) g) fun r19 g20 => some ((r19, g20)) else if (g 171 j5) = (5 : Int32) then bd2 (f_X9_withdraw (g 171 j1) (g 171 j2) g) fun r22 g23 => some ((r22, g23)) else if (g 171 j5) = (6 : Int32) then bd2 (f_X9_drawOf (g 171 j1) (g 171 j2) g) fun r25 g26 => some ((r25, g26)) else if (g 171 j5) = (7 : Int32) then bd2 (f_X9_tell (g 171 j1) ((g 171 j2) / (10 : Int32)) ((g 171 j2) - (g 171 j2) / (10 : Int32) * (10 : Int32)) (g 171 j3) (g 171 j4) (g 171 j4) g) fun r28 g29 => some ((r28, g29)) else if (g 171 j5) = (8 : Int32) then bd2 (f_X9_takeBack (g 171 j1) (g 171 j2) (g 171 j3) g) fun r31 g32 => some ((r31, g32)) else if (g 171 j5) = (9 : Int32) then bd2 (f_X9_isPlayer (g 171 j1) g) fun r34 g35 => if r34 = 0 then some (((-2 : Int32), g35)) else bd2 (f_X9_worthOf (g 171 j1) g35) fun r37 g38 => some ((r37, g38)) else bd2 (f_X9_need (g 171 j1) (g 171 j2) (g 171 j3) (g 171 j4) g) fun r39 g40 => some ((r39, g40))
set_option maxHeartbeats 4000000 in
set_option maxRecDepth 100000 in
theorem y_X9_answer (a1 : Int32)  (g : G) (q : Int32 × G) {post : Int32 → G → Prop} (H : f_X9_answer a1 g = some q) (K : post q.1 q.2) : Y m_X9_answer 7 [.ref 159, .int a1] g post := by
  refine Y_of ok_X9_answer pn_9 rfl (by decide) (Or.inr (Or.inl rfl)) (List.forall_mem_cons.mpr ⟨rfl, (List.forall_mem_cons.mpr ⟨rfl, (fun _ h => absurd h List.not_mem_nil)⟩)⟩) (Nat.le_of_ble_eq_true rfl) ?_
  show u_V m_X9_answer 7 post 0 [some (.ref 159), some (.int a1), none, none, none, none] [] g
  unfold f_X9_answer at H
  refine am_aload_n rfl rfl ?_
  refine u_getR f_9_43 rfl (Nat.le_of_ble_eq_true rfl) rfl rfl ?_
  refine am_iload_n rfl rfl ?_
  refine x_iconst (v := (1 : Int32)) rfl (by decide) ?_
  refine am_iadd rfl ?_
  obtain ⟨j1, ej1, hj1, H⟩ := ck_some H
  refine x_iald rfl (Nat.le_of_ble_eq_true rfl) rfl hj1 ej1 ?_
  refine am_istore_n rfl (Nat.le_of_ble_eq_true rfl) ?_
  refine am_aload_n rfl rfl ?_
  refine u_getR f_9_43 rfl (Nat.le_of_ble_eq_true rfl) rfl rfl ?_
  refine am_iload_n rfl rfl ?_
  refine x_iconst (v := (2 : Int32)) rfl (by decide) ?_
  refine am_iadd rfl ?_
  obtain ⟨j2, ej2, hj2, H⟩ := ck_some H
  refine x_iald rfl (Nat.le_of_ble_eq_true rfl) rfl hj2 ej2 ?_
  refine am_istore_n rfl (Nat.le_of_ble_eq_true rfl) ?_
  refine am_aload_n rfl rfl ?_
  refine u_getR f_9_43 rfl (Nat.le_of_ble_eq_true rfl) rfl rfl ?_
  refine am_iload_n rfl rfl ?_
  refine x_iconst (v := (3 : Int32)) rfl (by decide) ?_
  refine am_iadd rfl ?_
  obtain ⟨j3, ej3, hj3, H⟩ := ck_some H
  refine x_iald rfl (Nat.le_of_ble_eq_true rfl) rfl hj3 ej3 ?_
  refine am_istore rfl (Nat.le_of_ble_eq_true rfl) ?_
  refine am_aload_n rfl rfl ?_
  refine u_getR f_9_43 rfl (Nat.le_of_ble_eq_true rfl) rfl rfl ?_
  refine am_iload_n rfl rfl ?_
  refine x_iconst (v := (4 : Int32)) rfl (by decide) ?_
  refine am_iadd rfl ?_
  obtain ⟨j4, ej4, hj4, H⟩ := ck_some H
  refine x_iald rfl (Nat.le_of_ble_eq_true rfl) rfl hj4 ej4 ?_
  refine am_istore rfl (Nat.le_of_ble_eq_true rfl) ?_
  refine am_aload_n rfl rfl ?_
  refine u_getR f_9_43 rfl (Nat.le_of_ble_eq_true rfl) rfl rfl ?_
  refine am_iload_n rfl rfl ?_
  obtain ⟨j5, ej5, hj5, H⟩ := ck_some H
  refine x_iald rfl (Nat.le_of_ble_eq_true rfl) rfl hj5 ej5 ?_
  by_cases c6 : (g 171 j5) = (0 : Int32)
  · have H := it_pos c6 H
    refine am_tsw1 (j := 0) rfl c6 (by decide +kernel) rfl rfl ?_
    refine am_aload_n rfl rfl ?_
    refine am_iload_n rfl rfl ?_
    refine am_iload_n rfl rfl ?_
    obtain ⟨r7, g8, H1, H⟩ := bd2_some H
    refine cv2i v_9_266 rfl rfl (Nat.le_of_ble_eq_true rfl) rfl (Nat.le_of_ble_eq_true rfl) (fun _ _ => Nat.le_of_ble_eq_true rfl) (y_X9_player (g 171 j1) (g 171 j2) g _ H1 ?_)
    have H := Option.some.inj H
    subst H
    exact u_iret rfl rfl K
  have H := it_neg c6 H
  by_cases c9 : (g 171 j5) = (1 : Int32)
  · have H := it_pos c9 H
    refine am_tsw1 (j := 1) rfl c9 (by decide +kernel) rfl rfl ?_
    refine am_aload_n rfl rfl ?_
    refine am_iload_n rfl rfl ?_
    refine am_iload_n rfl rfl ?_
    obtain ⟨r10, g11, H1, H⟩ := bd2_some H
    refine cv2i v_9_269 rfl rfl (Nat.le_of_ble_eq_true rfl) rfl (Nat.le_of_ble_eq_true rfl) (fun _ _ => Nat.le_of_ble_eq_true rfl) (y_X9_places (g 171 j1) (g 171 j2) g _ H1 ?_)
    have H := Option.some.inj H
    subst H
    exact u_iret rfl rfl K
  have H := it_neg c9 H
  by_cases c12 : (g 171 j5) = (2 : Int32)
  · have H := it_pos c12 H
    refine am_tsw1 (j := 2) rfl c12 (by decide +kernel) rfl rfl ?_
    refine am_aload_n rfl rfl ?_
    refine am_iload_n rfl rfl ?_
    refine am_iload_n rfl rfl ?_
    refine am_iload rfl rfl ?_
    obtain ⟨r13, g14, H1, H⟩ := bd2_some H
    refine cv3i v_9_271 rfl rfl (Nat.le_of_ble_eq_true rfl) rfl (Nat.le_of_ble_eq_true rfl) (fun _ _ => Nat.le_of_ble_eq_true rfl) (y_X9_seat (g 171 j1) (g 171 j2) (g 171 j3) g _ H1 ?_)
    have H := Option.some.inj H
    subst H
    exact u_iret rfl rfl K
  have H := it_neg c12 H
  by_cases c15 : (g 171 j5) = (3 : Int32)
  · have H := it_pos c15 H
    refine am_tsw1 (j := 3) rfl c15 (by decide +kernel) rfl rfl ?_
    refine am_aload_n rfl rfl ?_
    obtain ⟨r16, g17, H1, H⟩ := bd2_some H
    refine cv0i v_9_274 rfl rfl (Nat.le_of_ble_eq_true rfl) rfl (Nat.le_of_ble_eq_true rfl) (fun _ _ => Nat.le_of_ble_eq_true rfl) (y_X9_tournament  g _ H1 ?_)
    have H := Option.some.inj H
    subst H
    exact u_iret rfl rfl K
  have H := it_neg c15 H
  by_cases c18 : (g 171 j5) = (4 : Int32)
  · have H := it_pos c18 H
    refine am_tsw1 (j := 4) rfl c18 (by decide +kernel) rfl rfl ?_
    refine am_aload_n rfl rfl ?_
    refine am_iload_n rfl rfl ?_
    refine am_iload_n rfl rfl ?_
    obtain ⟨r19, g20, H1, H⟩ := bd2_some H
    refine cv2i v_9_277 rfl rfl (Nat.le_of_ble_eq_true rfl) rfl (Nat.le_of_ble_eq_true rfl) (fun _ _ => Nat.le_of_ble_eq_true rfl) (y_X9_enter (g 171 j1) (g 171 j2) g _ H1 ?_)
    have H := Option.some.inj H
    subst H
    exact u_iret rfl rfl K
  have H := it_neg c18 H
  by_cases c21 : (g 171 j5) = (5 : Int32)
  · have H := it_pos c21 H
    refine am_tsw1 (j := 5) rfl c21 (by decide +kernel) rfl rfl ?_
    refine am_aload_n rfl rfl ?_
    refine am_iload_n rfl rfl ?_
    refine am_iload_n rfl rfl ?_
    obtain ⟨r22, g23, H1, H⟩ := bd2_some H
    refine cv2i v_9_280 rfl rfl (Nat.le_of_ble_eq_true rfl) rfl (Nat.le_of_ble_eq_true rfl) (fun _ _ => Nat.le_of_ble_eq_true rfl) (y_X9_withdraw (g 171 j1) (g 171 j2) g _ H1 ?_)
    have H := Option.some.inj H
    subst H
    exact u_iret rfl rfl K
  have H := it_neg c21 H
  by_cases c24 : (g 171 j5) = (6 : Int32)
  · have H := it_pos c24 H
    refine am_tsw1 (j := 6) rfl c24 (by decide +kernel) rfl rfl ?_
    refine am_aload_n rfl rfl ?_
    refine am_iload_n rfl rfl ?_
    refine am_iload_n rfl rfl ?_
    obtain ⟨r25, g26, H1, H⟩ := bd2_some H
    refine cv2i v_9_231 rfl rfl (Nat.le_of_ble_eq_true rfl) rfl (Nat.le_of_ble_eq_true rfl) (fun _ _ => Nat.le_of_ble_eq_true rfl) (y_X9_drawOf (g 171 j1) (g 171 j2) g _ H1 ?_)
    have H := Option.some.inj H
    subst H
    exact u_iret rfl rfl K
  have H := it_neg c24 H
  by_cases c27 : (g 171 j5) = (7 : Int32)
  · have H := it_pos c27 H
    refine am_tsw1 (j := 7) rfl c27 (by decide +kernel) rfl rfl ?_
    refine am_aload_n rfl rfl ?_
    refine am_iload_n rfl rfl ?_
    refine am_iload_n rfl rfl ?_
    refine x_bipush (v := (10 : Int32)) rfl (by decide) ?_
    refine am_idiv rfl (by decide) ?_
    refine am_iload_n rfl rfl ?_
    refine x_bipush (v := (10 : Int32)) rfl (by decide) ?_
    refine am_irem rfl (by decide) ?_
    refine am_iload rfl rfl ?_
    refine am_iload rfl rfl ?_
    refine am_iload rfl rfl ?_
    obtain ⟨r28, g29, H1, H⟩ := bd2_some H
    refine cv6i v_9_283 rfl rfl (Nat.le_of_ble_eq_true rfl) rfl (Nat.le_of_ble_eq_true rfl) (fun _ _ => Nat.le_of_ble_eq_true rfl) (y_X9_tell (g 171 j1) ((g 171 j2) / (10 : Int32)) ((g 171 j2) - (g 171 j2) / (10 : Int32) * (10 : Int32)) (g 171 j3) (g 171 j4) (g 171 j4) g _ H1 ?_)
    have H := Option.some.inj H
    subst H
    exact u_iret rfl rfl K
  have H := it_neg c27 H
  by_cases c30 : (g 171 j5) = (8 : Int32)
  · have H := it_pos c30 H
    refine am_tsw1 (j := 8) rfl c30 (by decide +kernel) rfl rfl ?_
    refine am_aload_n rfl rfl ?_
    refine am_iload_n rfl rfl ?_
    refine am_iload_n rfl rfl ?_
    refine am_iload rfl rfl ?_
    obtain ⟨r31, g32, H1, H⟩ := bd2_some H
    refine cv3i v_9_287 rfl rfl (Nat.le_of_ble_eq_true rfl) rfl (Nat.le_of_ble_eq_true rfl) (fun _ _ => Nat.le_of_ble_eq_true rfl) (y_X9_takeBack (g 171 j1) (g 171 j2) (g 171 j3) g _ H1 ?_)
    have H := Option.some.inj H
    subst H
    exact u_iret rfl rfl K
  have H := it_neg c30 H
  by_cases c33 : (g 171 j5) = (9 : Int32)
  · have H := it_pos c33 H
    refine am_tsw1 (j := 9) rfl c33 (by decide +kernel) rfl rfl ?_
    refine am_aload_n rfl rfl ?_
    refine am_iload_n rfl rfl ?_
    obtain ⟨r34, g35, H1, H⟩ := bd2_some H
    refine cv1i v_9_108 rfl rfl (Nat.le_of_ble_eq_true rfl) rfl (Nat.le_of_ble_eq_true rfl) (fun _ _ => Nat.le_of_ble_eq_true rfl) (y_X9_isPlayer (g 171 j1) g _ H1 ?_)
    refine am_if_eq rfl (fun c36 => ?_) (fun c36 => ?_)
    · have H := it_pos c36 H
      refine x_bipush (v := (-2 : Int32)) rfl (by decide) ?_
      have H := Option.some.inj H
      subst H
      exact u_iret rfl rfl K
    · have H := it_neg c36 H
      refine am_aload_n rfl rfl ?_
      refine am_iload_n rfl rfl ?_
      obtain ⟨r37, g38, H1, H⟩ := bd2_some H
      refine cv1i v_9_123 rfl rfl (Nat.le_of_ble_eq_true rfl) rfl (Nat.le_of_ble_eq_true rfl) (fun _ _ => Nat.le_of_ble_eq_true rfl) (y_X9_worthOf (g 171 j1) g35 _ H1 ?_)
      refine am_goto rfl ?_
      have H := Option.some.inj H
      subst H
      exact u_iret rfl rfl K
  have H := it_neg c33 H
  refine am_tswD rfl rfl (am_out (lo := 0) 10 (And.intro c33 (And.intro c30 (And.intro c27 (And.intro c24 (And.intro c21 (And.intro c18 (And.intro c15 (And.intro c12 (And.intro c9 (And.intro c6 trivial))))))))))) ?_
  refine am_aload_n rfl rfl ?_
  refine am_iload_n rfl rfl ?_
  refine am_iload_n rfl rfl ?_
  refine am_iload rfl rfl ?_
  refine am_iload rfl rfl ?_
  obtain ⟨r39, g40, H1, H⟩ := bd2_some H
  refine cv4i v_9_290 rfl rfl (Nat.le_of_ble_eq_true rfl) rfl (Nat.le_of_ble_eq_true rfl) (fun _ _ => Nat.le_of_ble_eq_true rfl) (y_X9_need (g 171 j1) (g 171 j2) (g 171 j3) (g 171 j4) g _ H1 ?_)
  have H := Option.some.inj H
  subst H
  exact u_iret rfl rfl K
def f_X9_fails (a1 : Int32) (a2 : Int32) (a3 : Int32) (g : G) : Option (Int32 × G) := wr (up2 g 159 21 a1) fun g1 => wr (up2 g1 159 22 a2) fun g2 => wr (up2 g2 159 23 a3) fun g3 => some (((0 : Int32), g3))
set_option maxHeartbeats 4000000 in
set_option maxRecDepth 100000 in
theorem y_X9_fails (a1 : Int32) (a2 : Int32) (a3 : Int32)  (g : G) (q : Int32 × G) {post : Int32 → G → Prop} (H : f_X9_fails a1 a2 a3 g = some q) (K : post q.1 q.2) : Y m_X9_fails 0 [.ref 159, .int a1, .int a2, .int a3] g post := by
  refine Y_of ok_X9_fails pn_9 rfl (by decide) (Or.inl rfl) (List.forall_mem_cons.mpr ⟨rfl, (List.forall_mem_cons.mpr ⟨rfl, (List.forall_mem_cons.mpr ⟨rfl, (List.forall_mem_cons.mpr ⟨rfl, (fun _ h => absurd h List.not_mem_nil)⟩)⟩)⟩)⟩) (Nat.le_of_ble_eq_true rfl) ?_
  show u_V m_X9_fails 0 post 0 [some (.ref 159), some (.int a1), some (.int a2), some (.int a3)] [] g
  unfold f_X9_fails at H
  refine am_aload_n rfl rfl ?_
  refine am_iload_n rfl rfl ?_
  obtain ⟨g1, eg1, H⟩ := wr_some H
  refine x_putI f_9_293 rfl rfl (Nat.le_of_ble_eq_true rfl) rfl rfl (fun _ _ => ⟨rfl, rfl⟩) eg1 ?_
  refine am_aload_n rfl rfl ?_
  refine am_iload_n rfl rfl ?_
  obtain ⟨g2, eg2, H⟩ := wr_some H
  refine x_putI f_9_52 rfl rfl (Nat.le_of_ble_eq_true rfl) rfl rfl (fun _ _ => ⟨rfl, rfl⟩) eg2 ?_
  refine am_aload_n rfl rfl ?_
  refine am_iload_n rfl rfl ?_
  obtain ⟨g3, eg3, H⟩ := wr_some H
  refine x_putI f_9_56 rfl rfl (Nat.le_of_ble_eq_true rfl) rfl rfl (fun _ _ => ⟨rfl, rfl⟩) eg3 ?_
  have H := Option.some.inj H
  subst H
  exact u_vret rfl rfl K
def f_X9_goes : Nat → Int32 → G → Option (Int32 × G)
  | 0, _, _ => none
  | n + 1, a1, g => ck a1 4 fun j1 => ck a1 4 fun j2 => wr (up2 g 173 j2 ((g 173 j1) + (1 : Int32))) fun g3 => bd (lp (fun (s6 : Int32 × G) => (ck a1 4 fun j9 => if (s6.2 172 j9) ≤ s6.1 then some (.inr (.inl (s6.2))) else ck (((50 : Int32) * a1) + ((5 : Int32) * s6.1)) 200 fun j11 => bd ((if (s6.2 171 j11) = (11 : Int32) then ck ((((50 : Int32) * a1) + ((5 : Int32) * s6.1)) + (1 : Int32)) 200 fun j26 => bd2 (f_X9_in (s6.2 171 j26) (0 : Int32) (a1 - (1 : Int32)) s6.2) fun r27 g28 => if r27 = 0 then bd2 (f_X9_fails (-2 : Int32) a1 s6.1 g28) fun r34 g35 => some (.inr (.inr (.inr (((0 : Int32), g35))))) else ck ((((50 : Int32) * a1) + ((5 : Int32) * s6.1)) + (1 : Int32)) 200 fun j30 => bd2 (f_X9_goes n (g28 171 j30) g28) fun r31 g32 => if r31 = 0 then some (.inr (.inr (.inr (((0 : Int32), g32))))) else some (.inl (g32)) else bd ((if (s6.2 159 24) = (60 : Int32) then some (((-4 : Int32), s6.2)) else bd2 (f_X9_answer (((50 : Int32) * a1) + ((5 : Int32) * s6.1)) s6.2) fun r23 g24 => some ((r23, g24)) : Option (Int32 × G))) fun (s17 : Int32 × G) => if (-1 : Int32) ≤ s17.1 then wr (up2 s17.2 159 24 ((s17.2 159 24) + (1 : Int32))) fun g19 => some (.inl (g19)) else bd2 (f_X9_fails s17.1 a1 s6.1 s17.2) fun r20 g21 => some (.inr (.inr (.inr (((0 : Int32), g21))))) : Option ((G) ⊕ ((Int32 × G) ⊕ ((G) ⊕ (Int32 × G)))))) fun s36m => (match s36m with | .inl s13 => (some (.inl ((s6.1 + (1 : Int32)), s13))) | .inr y => some y) : Option ((Int32 × G) ⊕ ((G) ⊕ (Int32 × G))))) 2000 ((0 : Int32), g3)) fun s37m => (match s37m with | .inl s8 => (some (((1 : Int32), s8))) | .inr y => some y)
set_option maxHeartbeats 4000000 in
set_option maxRecDepth 100000 in
theorem y_X9_goes : ∀ (n : Nat) (a1 : Int32)  (g : G) (q : Int32 × G) {post : Int32 → G → Prop} (H : f_X9_goes n a1 g = some q) (K : post q.1 q.2), Y m_X9_goes (8 + n) [.ref 159, .int a1] g post := by
  intro n
  induction n with
  | zero =>
    intro a1 g q post H K
    cases H
  | succ n ih =>
    intro a1 g q post H K
    refine Y_of ok_X9_goes pn_9 rfl (by decide) (Or.inr (Or.inr rfl)) (List.forall_mem_cons.mpr ⟨rfl, (List.forall_mem_cons.mpr ⟨rfl, (fun _ h => absurd h List.not_mem_nil)⟩)⟩) (Nat.le_of_ble_eq_true rfl) ?_
    show u_V m_X9_goes (8 + n + 1) post 0 [some (.ref 159), some (.int a1), none, none, none] [] g
    rw [f_X9_goes] at H
    refine am_aload_n rfl rfl ?_
    refine u_getR f_9_49 rfl (Nat.le_of_ble_eq_true rfl) rfl rfl ?_
    refine am_iload_n rfl rfl ?_
    refine am_dup2 rfl rfl rfl ?_
    obtain ⟨j1, ej1, hj1, H⟩ := ck_some H
    refine x_iald rfl (Nat.le_of_ble_eq_true rfl) rfl hj1 ej1 ?_
    refine x_iconst (v := (1 : Int32)) rfl (by decide) ?_
    refine am_iadd rfl ?_
    obtain ⟨j2, ej2, hj2, H⟩ := ck_some H
    obtain ⟨g3, eg3, H⟩ := wr_some H
    refine x_iast rfl (Nat.le_of_ble_eq_true rfl) rfl hj2 ej2 eg3 ?_
    refine x_iconst (v := (0 : Int32)) rfl (by decide) ?_
    refine am_istore_n rfl (Nat.le_of_ble_eq_true rfl) ?_
    obtain ⟨s37, H1, H⟩ := bd_some H
    have K2 : (Sum.elim (fun (s8 : G) => u_V m_X9_goes (8 + n + 1) post 140 [none, none, none, none, none] [] s8) (fun (q : Int32 × G) => post q.1 q.2)) s37 := by
      clear H1
      cases s37 with
      | inl s8 =>
        obtain ⟨g7, e_g7⟩ : ∃ z, z = s8 := ⟨_, rfl⟩
        subst e_g7
        (try dsimp only at H); (try dsimp only)
        refine x_iconst (v := (1 : Int32)) rfl (by decide) ?_
        have H := Option.some.inj H
        subst H
        exact u_zret rfl rfl (Or.inr rfl) K
      | inr y =>
        have H := Option.some.inj H
        subst H
        exact K
    refine am_drop (L' := [some (.ref 159), some (.int a1), some (.int (0 : Int32)), none, none]) (And.intro rfl (And.intro rfl (And.intro rfl trivial))) ?_
    refine lp_ind (P := (fun (s6 : Int32 × G) => u_V m_X9_goes (8 + n + 1) post 12 [some (.ref 159), some (.int a1), some (.int s6.1), none, none] [] s6.2)) (Q := (Sum.elim (fun (s8 : G) => u_V m_X9_goes (8 + n + 1) post 140 [none, none, none, none, none] [] s8) (fun (q : Int32 × G) => post q.1 q.2))) ?_ 2000 ((0 : Int32), g3) s37 H1 K2
    clear H1 H K
    intro s6 s37b H K
    obtain ⟨x4, g5⟩ := s6
    (try dsimp only at H); (try dsimp only)
    refine am_iload_n rfl rfl ?_
    refine am_aload_n rfl rfl ?_
    refine u_getR f_9_46 rfl (Nat.le_of_ble_eq_true rfl) rfl rfl ?_
    refine am_iload_n rfl rfl ?_
    obtain ⟨j9, ej9, hj9, H⟩ := ck_some H
    refine x_iald rfl (Nat.le_of_ble_eq_true rfl) rfl hj9 ej9 ?_
    refine am_icmp_ge rfl (fun c10 => ?_) (fun c10 => ?_)
    · have H := it_pos c10 H
      have H := Option.some.inj H
      subst H
      exact am_drop (L' := [none, none, none, none, none]) trivial K
    · have H := it_neg c10 H
      refine x_bipush (v := (50 : Int32)) rfl (by decide) ?_
      refine am_iload_n rfl rfl ?_
      refine am_imul rfl ?_
      refine x_iconst (v := (5 : Int32)) rfl (by decide) ?_
      refine am_iload_n rfl rfl ?_
      refine am_imul rfl ?_
      refine am_iadd rfl ?_
      refine am_istore_n rfl (Nat.le_of_ble_eq_true rfl) ?_
      refine am_aload_n rfl rfl ?_
      refine u_getR f_9_43 rfl (Nat.le_of_ble_eq_true rfl) rfl rfl ?_
      refine am_iload_n rfl rfl ?_
      obtain ⟨j11, ej11, hj11, H⟩ := ck_some H
      refine x_iald rfl (Nat.le_of_ble_eq_true rfl) rfl hj11 ej11 ?_
      refine x_bipush (v := (11 : Int32)) rfl (by decide) ?_
      obtain ⟨s36, H1, H⟩ := bd_some H
      have K : (Sum.elim (fun (s13 : G) => u_V m_X9_goes (8 + n + 1) post 134 [some (.ref 159), some (.int a1), some (.int x4), none, none] [] s13) (Sum.elim (fun (s6 : Int32 × G) => u_V m_X9_goes (8 + n + 1) post 12 [some (.ref 159), some (.int a1), some (.int s6.1), none, none] [] s6.2) (Sum.elim (fun (s8 : G) => u_V m_X9_goes (8 + n + 1) post 140 [none, none, none, none, none] [] s8) (fun (q : Int32 × G) => post q.1 q.2)))) s36 := by
        clear H1
        cases s36 with
        | inl s13 =>
          obtain ⟨g12, e_g12⟩ : ∃ z, z = s13 := ⟨_, rfl⟩
          subst e_g12
          (try dsimp only at H); (try dsimp only)
          refine x_iinc (v := (x4 + (1 : Int32))) rfl rfl (Nat.le_of_ble_eq_true rfl) rfl ?_
          refine am_goto rfl ?_
          have H := Option.some.inj H
          subst H
          exact am_drop (L' := [some (.ref 159), some (.int a1), some (.int (x4 + (1 : Int32))), none, none]) (And.intro rfl (And.intro rfl (And.intro rfl trivial))) K
        | inr y =>
          have H := Option.some.inj H
          subst H
          exact K
      have H := H1
      clear H1
      refine am_icmp_ne rfl (fun c14 => ?_) (fun c14 => ?_)
      · have H := it_neg c14 H
        refine am_aload_n rfl rfl ?_
        refine u_getI f_9_302 rfl (Nat.le_of_ble_eq_true rfl) rfl rfl ?_
        refine x_bipush (v := (60 : Int32)) rfl (by decide) ?_
        obtain ⟨s25, H1, H⟩ := bd_some H
        have K : (fun (s17 : Int32 × G) => u_V m_X9_goes (8 + n + 1) post 106 [some (.ref 159), some (.int a1), some (.int x4), none, none] [.int s17.1] s17.2) s25 := by
          clear H1
          obtain ⟨x15, g16⟩ := s25
          (try dsimp only at H); (try dsimp only)
          refine am_istore rfl (Nat.le_of_ble_eq_true rfl) ?_
          refine am_iload rfl rfl ?_
          refine x_iconst (v := (-1 : Int32)) rfl (by decide) ?_
          refine am_icmp_ge rfl (fun c18 => ?_) (fun c18 => ?_)
          · have H := it_pos c18 H
            refine am_aload_n rfl rfl ?_
            refine am_dup rfl rfl ?_
            refine u_getI f_9_302 rfl (Nat.le_of_ble_eq_true rfl) rfl rfl ?_
            refine x_iconst (v := (1 : Int32)) rfl (by decide) ?_
            refine am_iadd rfl ?_
            obtain ⟨g19, eg19, H⟩ := wr_some H
            refine x_putI f_9_302 rfl rfl (Nat.le_of_ble_eq_true rfl) rfl rfl (fun _ _ => ⟨rfl, rfl⟩) eg19 ?_
            have H := Option.some.inj H
            subst H
            exact am_drop (L' := [some (.ref 159), some (.int a1), some (.int x4), none, none]) (And.intro rfl (And.intro rfl (And.intro rfl trivial))) K
          · have H := it_neg c18 H
            refine am_aload_n rfl rfl ?_
            refine am_iload rfl rfl ?_
            refine am_iload_n rfl rfl ?_
            refine am_iload_n rfl rfl ?_
            obtain ⟨r20, g21, H1, H⟩ := bd2_some H
            refine cv3v v_9_296 rfl rfl (Nat.le_of_ble_eq_true rfl) rfl (by omega) (fun _ _ => Nat.le_of_ble_eq_true rfl) (y_X9_fails x15 a1 x4 g16 _ H1 ?_)
            refine x_iconst (v := (0 : Int32)) rfl (by decide) ?_
            have H := Option.some.inj H
            subst H
            exact u_zret rfl rfl (Or.inl rfl) K
        have H := H1
        clear H1
        refine am_icmp_ne rfl (fun c22 => ?_) (fun c22 => ?_)
        · have H := it_neg c22 H
          refine am_aload_n rfl rfl ?_
          refine am_iload_n rfl rfl ?_
          obtain ⟨r23, g24, H1, H⟩ := bd2_some H
          refine cv1i v_9_305 rfl rfl (Nat.le_of_ble_eq_true rfl) rfl (by omega) (fun _ _ => Nat.le_of_ble_eq_true rfl) (y_X9_answer (((50 : Int32) * a1) + ((5 : Int32) * x4)) g5 _ H1 ?_)
          have H := Option.some.inj H
          subst H
          exact am_drop (L' := [some (.ref 159), some (.int a1), some (.int x4), none, none]) (And.intro rfl (And.intro rfl (And.intro rfl trivial))) K
        · have H := it_pos c22 H
          refine x_bipush (v := (-4 : Int32)) rfl (by decide) ?_
          refine am_goto rfl ?_
          have H := Option.some.inj H
          subst H
          exact am_drop (L' := [some (.ref 159), some (.int a1), some (.int x4), none, none]) (And.intro rfl (And.intro rfl (And.intro rfl trivial))) K
      · have H := it_pos c14 H
        refine am_aload_n rfl rfl ?_
        refine u_getR f_9_43 rfl (Nat.le_of_ble_eq_true rfl) rfl rfl ?_
        refine am_iload_n rfl rfl ?_
        refine x_iconst (v := (1 : Int32)) rfl (by decide) ?_
        refine am_iadd rfl ?_
        obtain ⟨j26, ej26, hj26, H⟩ := ck_some H
        refine x_iald rfl (Nat.le_of_ble_eq_true rfl) rfl hj26 ej26 ?_
        refine x_iconst (v := (0 : Int32)) rfl (by decide) ?_
        refine am_iload_n rfl rfl ?_
        refine x_iconst (v := (1 : Int32)) rfl (by decide) ?_
        refine am_isub rfl ?_
        obtain ⟨r27, g28, H1, H⟩ := bd2_some H
        refine cs3i s_9_101 rfl rfl (by omega) (fun _ _ => Nat.le_of_ble_eq_true rfl) (y_X9_in (g5 171 j26) (0 : Int32) (a1 - (1 : Int32)) g5 _ H1 ?_)
        refine am_if_ne rfl (fun c29 => ?_) (fun c29 => ?_)
        · have H := it_neg c29 H
          refine am_aload_n rfl rfl ?_
          refine am_aload_n rfl rfl ?_
          refine u_getR f_9_43 rfl (Nat.le_of_ble_eq_true rfl) rfl rfl ?_
          refine am_iload_n rfl rfl ?_
          refine x_iconst (v := (1 : Int32)) rfl (by decide) ?_
          refine am_iadd rfl ?_
          obtain ⟨j30, ej30, hj30, H⟩ := ck_some H
          refine x_iald rfl (Nat.le_of_ble_eq_true rfl) rfl hj30 ej30 ?_
          obtain ⟨r31, g32, H1, H⟩ := bd2_some H
          refine cv1i v_9_299 rfl rfl (Nat.le_of_ble_eq_true rfl) rfl (Nat.le_refl _) (fun _ _ => Nat.le_of_ble_eq_true rfl) (ih (g28 171 j30) g28 _ H1 ?_)
          refine am_if_ne rfl (fun c33 => ?_) (fun c33 => ?_)
          · have H := it_neg c33 H
            have H := Option.some.inj H
            subst H
            exact am_drop (L' := [some (.ref 159), some (.int a1), some (.int x4), none, none]) (And.intro rfl (And.intro rfl (And.intro rfl trivial))) K
          · have H := it_pos c33 H
            refine x_iconst (v := (0 : Int32)) rfl (by decide) ?_
            have H := Option.some.inj H
            subst H
            exact u_zret rfl rfl (Or.inl rfl) K
        · have H := it_pos c29 H
          refine am_aload_n rfl rfl ?_
          refine x_bipush (v := (-2 : Int32)) rfl (by decide) ?_
          refine am_iload_n rfl rfl ?_
          refine am_iload_n rfl rfl ?_
          obtain ⟨r34, g35, H1, H⟩ := bd2_some H
          refine cv3v v_9_296 rfl rfl (Nat.le_of_ble_eq_true rfl) rfl (by omega) (fun _ _ => Nat.le_of_ble_eq_true rfl) (y_X9_fails (-2 : Int32) a1 x4 g28 _ H1 ?_)
          refine x_iconst (v := (0 : Int32)) rfl (by decide) ?_
          have H := Option.some.inj H
          subst H
          exact u_zret rfl rfl (Or.inl rfl) K
def f_X9_keep  (g : G) : Option (Int32 × G) := wr (up2 g 159 11 (g 159 3)) fun g1 => wr (up2 g1 159 16 (g1 159 8)) fun g2 => bd (lp (fun (s5 : Int32 × G) => (if (24 : Int32) ≤ s5.1 then some (.inr (s5.2)) else ck s5.1 24 fun j9 => ck s5.1 24 fun j10 => wr (up2 s5.2 166 j10 (s5.2 161 j9)) fun g11 => ck s5.1 24 fun j12 => ck s5.1 24 fun j13 => wr (up2 g11 167 j13 (g11 162 j12)) fun g14 => ck s5.1 24 fun j15 => ck s5.1 24 fun j16 => wr (up2 g14 168 j16 (g14 163 j15)) fun g17 => some (.inl ((s5.1 + (1 : Int32)), g17)) : Option ((Int32 × G) ⊕ (G)))) 2000 ((0 : Int32), g2)) fun (s7 : G) => bd (lp (fun (s21 : Int32 × G) => (if (96 : Int32) ≤ s21.1 then some (.inr (s21.2)) else ck s21.1 96 fun j25 => ck s21.1 96 fun j26 => wr (up2 s21.2 169 j26 (s21.2 164 j25)) fun g27 => some (.inl ((s21.1 + (1 : Int32)), g27)) : Option ((Int32 × G) ⊕ (G)))) 2000 ((0 : Int32), s7)) fun (s23 : G) => bd (lp (fun (s31 : Int32 × G) => (if (1648 : Int32) ≤ s31.1 then some (.inr (s31.2)) else ck s31.1 1648 fun j35 => ck s31.1 1648 fun j36 => wr (up2 s31.2 170 j36 (s31.2 165 j35)) fun g37 => some (.inl ((s31.1 + (1 : Int32)), g37)) : Option ((Int32 × G) ⊕ (G)))) 2000 ((0 : Int32), s23)) fun (s33 : G) => some (((0 : Int32), s33))
set_option maxHeartbeats 4000000 in
set_option maxRecDepth 100000 in
theorem y_X9_keep   (g : G) (q : Int32 × G) {post : Int32 → G → Prop} (H : f_X9_keep  g = some q) (K : post q.1 q.2) : Y m_X9_keep 0 [.ref 159] g post := by
  refine Y_of ok_X9_keep pn_9 rfl (by decide) (Or.inl rfl) (List.forall_mem_cons.mpr ⟨rfl, (fun _ h => absurd h List.not_mem_nil)⟩) (Nat.le_of_ble_eq_true rfl) ?_
  show u_V m_X9_keep 0 post 0 [some (.ref 159), none] [] g
  unfold f_X9_keep at H
  refine am_aload_n rfl rfl ?_
  refine am_aload_n rfl rfl ?_
  refine u_getI f_9_98 rfl (Nat.le_of_ble_eq_true rfl) rfl rfl ?_
  obtain ⟨g1, eg1, H⟩ := wr_some H
  refine x_putI f_9_308 rfl rfl (Nat.le_of_ble_eq_true rfl) rfl rfl (fun _ _ => ⟨rfl, rfl⟩) eg1 ?_
  refine am_aload_n rfl rfl ?_
  refine am_aload_n rfl rfl ?_
  refine u_getI f_9_105 rfl (Nat.le_of_ble_eq_true rfl) rfl rfl ?_
  obtain ⟨g2, eg2, H⟩ := wr_some H
  refine x_putI f_9_311 rfl rfl (Nat.le_of_ble_eq_true rfl) rfl rfl (fun _ _ => ⟨rfl, rfl⟩) eg2 ?_
  refine x_iconst (v := (0 : Int32)) rfl (by decide) ?_
  refine am_istore_n rfl (Nat.le_of_ble_eq_true rfl) ?_
  obtain ⟨s18, H1, H⟩ := bd_some H
  have K2 : (fun (s7 : G) => u_V m_X9_keep 0 post 66 [some (.ref 159), none] [] s7) s18 := by
    clear H1
    obtain ⟨g6, e_g6⟩ : ∃ z, z = s18 := ⟨_, rfl⟩
    subst e_g6
    (try dsimp only at H); (try dsimp only)
    refine x_iconst (v := (0 : Int32)) rfl (by decide) ?_
    refine am_istore_n rfl (Nat.le_of_ble_eq_true rfl) ?_
    obtain ⟨s28, H1, H⟩ := bd_some H
    have K2 : (fun (s23 : G) => u_V m_X9_keep 0 post 92 [some (.ref 159), none] [] s23) s28 := by
      clear H1
      obtain ⟨g22, e_g22⟩ : ∃ z, z = s28 := ⟨_, rfl⟩
      subst e_g22
      (try dsimp only at H); (try dsimp only)
      refine x_iconst (v := (0 : Int32)) rfl (by decide) ?_
      refine am_istore_n rfl (Nat.le_of_ble_eq_true rfl) ?_
      obtain ⟨s38, H1, H⟩ := bd_some H
      have K2 : (fun (s33 : G) => u_V m_X9_keep 0 post 119 [none, none] [] s33) s38 := by
        clear H1
        obtain ⟨g32, e_g32⟩ : ∃ z, z = s38 := ⟨_, rfl⟩
        subst e_g32
        (try dsimp only at H); (try dsimp only)
        have H := Option.some.inj H
        subst H
        exact u_vret rfl rfl K
      refine am_drop (L' := [some (.ref 159), some (.int (0 : Int32))]) (And.intro rfl (And.intro rfl trivial)) ?_
      refine lp_ind (P := (fun (s31 : Int32 × G) => u_V m_X9_keep 0 post 94 [some (.ref 159), some (.int s31.1)] [] s31.2)) (Q := (fun (s33 : G) => u_V m_X9_keep 0 post 119 [none, none] [] s33)) ?_ 2000 ((0 : Int32), g22) s38 H1 K2
      clear H1 H K
      intro s31 s38b H K
      obtain ⟨x29, g30⟩ := s31
      (try dsimp only at H); (try dsimp only)
      refine am_iload_n rfl rfl ?_
      refine x_sipush (v := (1648 : Int32)) rfl (by decide) ?_
      refine am_icmp_ge rfl (fun c34 => ?_) (fun c34 => ?_)
      · have H := it_pos c34 H
        have H := Option.some.inj H
        subst H
        exact am_drop (L' := [none, none]) trivial K
      · have H := it_neg c34 H
        refine am_aload_n rfl rfl ?_
        refine u_getR f_9_40 rfl (Nat.le_of_ble_eq_true rfl) rfl rfl ?_
        refine am_iload_n rfl rfl ?_
        refine am_aload_n rfl rfl ?_
        refine u_getR f_9_25 rfl (Nat.le_of_ble_eq_true rfl) rfl rfl ?_
        refine am_iload_n rfl rfl ?_
        obtain ⟨j35, ej35, hj35, H⟩ := ck_some H
        refine x_iald rfl (Nat.le_of_ble_eq_true rfl) rfl hj35 ej35 ?_
        obtain ⟨j36, ej36, hj36, H⟩ := ck_some H
        obtain ⟨g37, eg37, H⟩ := wr_some H
        refine x_iast rfl (Nat.le_of_ble_eq_true rfl) rfl hj36 ej36 eg37 ?_
        refine x_iinc (v := (x29 + (1 : Int32))) rfl rfl (Nat.le_of_ble_eq_true rfl) rfl ?_
        refine am_goto rfl ?_
        have H := Option.some.inj H
        subst H
        exact am_drop (L' := [some (.ref 159), some (.int (x29 + (1 : Int32)))]) (And.intro rfl (And.intro rfl trivial)) K
    refine am_drop (L' := [some (.ref 159), some (.int (0 : Int32))]) (And.intro rfl (And.intro rfl trivial)) ?_
    refine lp_ind (P := (fun (s21 : Int32 × G) => u_V m_X9_keep 0 post 68 [some (.ref 159), some (.int s21.1)] [] s21.2)) (Q := (fun (s23 : G) => u_V m_X9_keep 0 post 92 [some (.ref 159), none] [] s23)) ?_ 2000 ((0 : Int32), g6) s28 H1 K2
    clear H1 H K
    intro s21 s28b H K
    obtain ⟨x19, g20⟩ := s21
    (try dsimp only at H); (try dsimp only)
    refine am_iload_n rfl rfl ?_
    refine x_bipush (v := (96 : Int32)) rfl (by decide) ?_
    refine am_icmp_ge rfl (fun c24 => ?_) (fun c24 => ?_)
    · have H := it_pos c24 H
      have H := Option.some.inj H
      subst H
      exact am_drop (L' := [some (.ref 159), none]) (And.intro rfl trivial) K
    · have H := it_neg c24 H
      refine am_aload_n rfl rfl ?_
      refine u_getR f_9_37 rfl (Nat.le_of_ble_eq_true rfl) rfl rfl ?_
      refine am_iload_n rfl rfl ?_
      refine am_aload_n rfl rfl ?_
      refine u_getR f_9_22 rfl (Nat.le_of_ble_eq_true rfl) rfl rfl ?_
      refine am_iload_n rfl rfl ?_
      obtain ⟨j25, ej25, hj25, H⟩ := ck_some H
      refine x_iald rfl (Nat.le_of_ble_eq_true rfl) rfl hj25 ej25 ?_
      obtain ⟨j26, ej26, hj26, H⟩ := ck_some H
      obtain ⟨g27, eg27, H⟩ := wr_some H
      refine x_iast rfl (Nat.le_of_ble_eq_true rfl) rfl hj26 ej26 eg27 ?_
      refine x_iinc (v := (x19 + (1 : Int32))) rfl rfl (Nat.le_of_ble_eq_true rfl) rfl ?_
      refine am_goto rfl ?_
      have H := Option.some.inj H
      subst H
      exact am_drop (L' := [some (.ref 159), some (.int (x19 + (1 : Int32)))]) (And.intro rfl (And.intro rfl trivial)) K
  refine am_drop (L' := [some (.ref 159), some (.int (0 : Int32))]) (And.intro rfl (And.intro rfl trivial)) ?_
  refine lp_ind (P := (fun (s5 : Int32 × G) => u_V m_X9_keep 0 post 18 [some (.ref 159), some (.int s5.1)] [] s5.2)) (Q := (fun (s7 : G) => u_V m_X9_keep 0 post 66 [some (.ref 159), none] [] s7)) ?_ 2000 ((0 : Int32), g2) s18 H1 K2
  clear H1 H K
  intro s5 s18b H K
  obtain ⟨x3, g4⟩ := s5
  (try dsimp only at H); (try dsimp only)
  refine am_iload_n rfl rfl ?_
  refine x_bipush (v := (24 : Int32)) rfl (by decide) ?_
  refine am_icmp_ge rfl (fun c8 => ?_) (fun c8 => ?_)
  · have H := it_pos c8 H
    have H := Option.some.inj H
    subst H
    exact am_drop (L' := [some (.ref 159), none]) (And.intro rfl trivial) K
  · have H := it_neg c8 H
    refine am_aload_n rfl rfl ?_
    refine u_getR f_9_28 rfl (Nat.le_of_ble_eq_true rfl) rfl rfl ?_
    refine am_iload_n rfl rfl ?_
    refine am_aload_n rfl rfl ?_
    refine u_getR f_9_13 rfl (Nat.le_of_ble_eq_true rfl) rfl rfl ?_
    refine am_iload_n rfl rfl ?_
    obtain ⟨j9, ej9, hj9, H⟩ := ck_some H
    refine x_iald rfl (Nat.le_of_ble_eq_true rfl) rfl hj9 ej9 ?_
    obtain ⟨j10, ej10, hj10, H⟩ := ck_some H
    obtain ⟨g11, eg11, H⟩ := wr_some H
    refine x_iast rfl (Nat.le_of_ble_eq_true rfl) rfl hj10 ej10 eg11 ?_
    refine am_aload_n rfl rfl ?_
    refine u_getR f_9_31 rfl (Nat.le_of_ble_eq_true rfl) rfl rfl ?_
    refine am_iload_n rfl rfl ?_
    refine am_aload_n rfl rfl ?_
    refine u_getR f_9_16 rfl (Nat.le_of_ble_eq_true rfl) rfl rfl ?_
    refine am_iload_n rfl rfl ?_
    obtain ⟨j12, ej12, hj12, H⟩ := ck_some H
    refine x_iald rfl (Nat.le_of_ble_eq_true rfl) rfl hj12 ej12 ?_
    obtain ⟨j13, ej13, hj13, H⟩ := ck_some H
    obtain ⟨g14, eg14, H⟩ := wr_some H
    refine x_iast rfl (Nat.le_of_ble_eq_true rfl) rfl hj13 ej13 eg14 ?_
    refine am_aload_n rfl rfl ?_
    refine u_getR f_9_34 rfl (Nat.le_of_ble_eq_true rfl) rfl rfl ?_
    refine am_iload_n rfl rfl ?_
    refine am_aload_n rfl rfl ?_
    refine u_getR f_9_19 rfl (Nat.le_of_ble_eq_true rfl) rfl rfl ?_
    refine am_iload_n rfl rfl ?_
    obtain ⟨j15, ej15, hj15, H⟩ := ck_some H
    refine x_iald rfl (Nat.le_of_ble_eq_true rfl) rfl hj15 ej15 ?_
    obtain ⟨j16, ej16, hj16, H⟩ := ck_some H
    obtain ⟨g17, eg17, H⟩ := wr_some H
    refine x_iast rfl (Nat.le_of_ble_eq_true rfl) rfl hj16 ej16 eg17 ?_
    refine x_iinc (v := (x3 + (1 : Int32))) rfl rfl (Nat.le_of_ble_eq_true rfl) rfl ?_
    refine am_goto rfl ?_
    have H := Option.some.inj H
    subst H
    exact am_drop (L' := [some (.ref 159), some (.int (x3 + (1 : Int32)))]) (And.intro rfl (And.intro rfl trivial)) K
def f_X9_back  (g : G) : Option (Int32 × G) := wr (up2 g 159 3 (g 159 11)) fun g1 => wr (up2 g1 159 8 (g1 159 16)) fun g2 => bd (lp (fun (s5 : Int32 × G) => (if (24 : Int32) ≤ s5.1 then some (.inr (s5.2)) else ck s5.1 24 fun j9 => ck s5.1 24 fun j10 => wr (up2 s5.2 161 j10 (s5.2 166 j9)) fun g11 => ck s5.1 24 fun j12 => ck s5.1 24 fun j13 => wr (up2 g11 162 j13 (g11 167 j12)) fun g14 => ck s5.1 24 fun j15 => ck s5.1 24 fun j16 => wr (up2 g14 163 j16 (g14 168 j15)) fun g17 => some (.inl ((s5.1 + (1 : Int32)), g17)) : Option ((Int32 × G) ⊕ (G)))) 2000 ((0 : Int32), g2)) fun (s7 : G) => bd (lp (fun (s21 : Int32 × G) => (if (96 : Int32) ≤ s21.1 then some (.inr (s21.2)) else ck s21.1 96 fun j25 => ck s21.1 96 fun j26 => wr (up2 s21.2 164 j26 (s21.2 169 j25)) fun g27 => some (.inl ((s21.1 + (1 : Int32)), g27)) : Option ((Int32 × G) ⊕ (G)))) 2000 ((0 : Int32), s7)) fun (s23 : G) => bd (lp (fun (s31 : Int32 × G) => (if (1648 : Int32) ≤ s31.1 then some (.inr (s31.2)) else ck s31.1 1648 fun j35 => ck s31.1 1648 fun j36 => wr (up2 s31.2 165 j36 (s31.2 170 j35)) fun g37 => some (.inl ((s31.1 + (1 : Int32)), g37)) : Option ((Int32 × G) ⊕ (G)))) 2000 ((0 : Int32), s23)) fun (s33 : G) => some (((0 : Int32), s33))
set_option maxHeartbeats 4000000 in
set_option maxRecDepth 100000 in
theorem y_X9_back   (g : G) (q : Int32 × G) {post : Int32 → G → Prop} (H : f_X9_back  g = some q) (K : post q.1 q.2) : Y m_X9_back 0 [.ref 159] g post := by
  refine Y_of ok_X9_back pn_9 rfl (by decide) (Or.inl rfl) (List.forall_mem_cons.mpr ⟨rfl, (fun _ h => absurd h List.not_mem_nil)⟩) (Nat.le_of_ble_eq_true rfl) ?_
  show u_V m_X9_back 0 post 0 [some (.ref 159), none] [] g
  unfold f_X9_back at H
  refine am_aload_n rfl rfl ?_
  refine am_aload_n rfl rfl ?_
  refine u_getI f_9_308 rfl (Nat.le_of_ble_eq_true rfl) rfl rfl ?_
  obtain ⟨g1, eg1, H⟩ := wr_some H
  refine x_putI f_9_98 rfl rfl (Nat.le_of_ble_eq_true rfl) rfl rfl (fun _ _ => ⟨rfl, rfl⟩) eg1 ?_
  refine am_aload_n rfl rfl ?_
  refine am_aload_n rfl rfl ?_
  refine u_getI f_9_311 rfl (Nat.le_of_ble_eq_true rfl) rfl rfl ?_
  obtain ⟨g2, eg2, H⟩ := wr_some H
  refine x_putI f_9_105 rfl rfl (Nat.le_of_ble_eq_true rfl) rfl rfl (fun _ _ => ⟨rfl, rfl⟩) eg2 ?_
  refine x_iconst (v := (0 : Int32)) rfl (by decide) ?_
  refine am_istore_n rfl (Nat.le_of_ble_eq_true rfl) ?_
  obtain ⟨s18, H1, H⟩ := bd_some H
  have K2 : (fun (s7 : G) => u_V m_X9_back 0 post 66 [some (.ref 159), none] [] s7) s18 := by
    clear H1
    obtain ⟨g6, e_g6⟩ : ∃ z, z = s18 := ⟨_, rfl⟩
    subst e_g6
    (try dsimp only at H); (try dsimp only)
    refine x_iconst (v := (0 : Int32)) rfl (by decide) ?_
    refine am_istore_n rfl (Nat.le_of_ble_eq_true rfl) ?_
    obtain ⟨s28, H1, H⟩ := bd_some H
    have K2 : (fun (s23 : G) => u_V m_X9_back 0 post 92 [some (.ref 159), none] [] s23) s28 := by
      clear H1
      obtain ⟨g22, e_g22⟩ : ∃ z, z = s28 := ⟨_, rfl⟩
      subst e_g22
      (try dsimp only at H); (try dsimp only)
      refine x_iconst (v := (0 : Int32)) rfl (by decide) ?_
      refine am_istore_n rfl (Nat.le_of_ble_eq_true rfl) ?_
      obtain ⟨s38, H1, H⟩ := bd_some H
      have K2 : (fun (s33 : G) => u_V m_X9_back 0 post 119 [none, none] [] s33) s38 := by
        clear H1
        obtain ⟨g32, e_g32⟩ : ∃ z, z = s38 := ⟨_, rfl⟩
        subst e_g32
        (try dsimp only at H); (try dsimp only)
        have H := Option.some.inj H
        subst H
        exact u_vret rfl rfl K
      refine am_drop (L' := [some (.ref 159), some (.int (0 : Int32))]) (And.intro rfl (And.intro rfl trivial)) ?_
      refine lp_ind (P := (fun (s31 : Int32 × G) => u_V m_X9_back 0 post 94 [some (.ref 159), some (.int s31.1)] [] s31.2)) (Q := (fun (s33 : G) => u_V m_X9_back 0 post 119 [none, none] [] s33)) ?_ 2000 ((0 : Int32), g22) s38 H1 K2
      clear H1 H K
      intro s31 s38b H K
      obtain ⟨x29, g30⟩ := s31
      (try dsimp only at H); (try dsimp only)
      refine am_iload_n rfl rfl ?_
      refine x_sipush (v := (1648 : Int32)) rfl (by decide) ?_
      refine am_icmp_ge rfl (fun c34 => ?_) (fun c34 => ?_)
      · have H := it_pos c34 H
        have H := Option.some.inj H
        subst H
        exact am_drop (L' := [none, none]) trivial K
      · have H := it_neg c34 H
        refine am_aload_n rfl rfl ?_
        refine u_getR f_9_25 rfl (Nat.le_of_ble_eq_true rfl) rfl rfl ?_
        refine am_iload_n rfl rfl ?_
        refine am_aload_n rfl rfl ?_
        refine u_getR f_9_40 rfl (Nat.le_of_ble_eq_true rfl) rfl rfl ?_
        refine am_iload_n rfl rfl ?_
        obtain ⟨j35, ej35, hj35, H⟩ := ck_some H
        refine x_iald rfl (Nat.le_of_ble_eq_true rfl) rfl hj35 ej35 ?_
        obtain ⟨j36, ej36, hj36, H⟩ := ck_some H
        obtain ⟨g37, eg37, H⟩ := wr_some H
        refine x_iast rfl (Nat.le_of_ble_eq_true rfl) rfl hj36 ej36 eg37 ?_
        refine x_iinc (v := (x29 + (1 : Int32))) rfl rfl (Nat.le_of_ble_eq_true rfl) rfl ?_
        refine am_goto rfl ?_
        have H := Option.some.inj H
        subst H
        exact am_drop (L' := [some (.ref 159), some (.int (x29 + (1 : Int32)))]) (And.intro rfl (And.intro rfl trivial)) K
    refine am_drop (L' := [some (.ref 159), some (.int (0 : Int32))]) (And.intro rfl (And.intro rfl trivial)) ?_
    refine lp_ind (P := (fun (s21 : Int32 × G) => u_V m_X9_back 0 post 68 [some (.ref 159), some (.int s21.1)] [] s21.2)) (Q := (fun (s23 : G) => u_V m_X9_back 0 post 92 [some (.ref 159), none] [] s23)) ?_ 2000 ((0 : Int32), g6) s28 H1 K2
    clear H1 H K
    intro s21 s28b H K
    obtain ⟨x19, g20⟩ := s21
    (try dsimp only at H); (try dsimp only)
    refine am_iload_n rfl rfl ?_
    refine x_bipush (v := (96 : Int32)) rfl (by decide) ?_
    refine am_icmp_ge rfl (fun c24 => ?_) (fun c24 => ?_)
    · have H := it_pos c24 H
      have H := Option.some.inj H
      subst H
      exact am_drop (L' := [some (.ref 159), none]) (And.intro rfl trivial) K
    · have H := it_neg c24 H
      refine am_aload_n rfl rfl ?_
      refine u_getR f_9_22 rfl (Nat.le_of_ble_eq_true rfl) rfl rfl ?_
      refine am_iload_n rfl rfl ?_
      refine am_aload_n rfl rfl ?_
      refine u_getR f_9_37 rfl (Nat.le_of_ble_eq_true rfl) rfl rfl ?_
      refine am_iload_n rfl rfl ?_
      obtain ⟨j25, ej25, hj25, H⟩ := ck_some H
      refine x_iald rfl (Nat.le_of_ble_eq_true rfl) rfl hj25 ej25 ?_
      obtain ⟨j26, ej26, hj26, H⟩ := ck_some H
      obtain ⟨g27, eg27, H⟩ := wr_some H
      refine x_iast rfl (Nat.le_of_ble_eq_true rfl) rfl hj26 ej26 eg27 ?_
      refine x_iinc (v := (x19 + (1 : Int32))) rfl rfl (Nat.le_of_ble_eq_true rfl) rfl ?_
      refine am_goto rfl ?_
      have H := Option.some.inj H
      subst H
      exact am_drop (L' := [some (.ref 159), some (.int (x19 + (1 : Int32)))]) (And.intro rfl (And.intro rfl trivial)) K
  refine am_drop (L' := [some (.ref 159), some (.int (0 : Int32))]) (And.intro rfl (And.intro rfl trivial)) ?_
  refine lp_ind (P := (fun (s5 : Int32 × G) => u_V m_X9_back 0 post 18 [some (.ref 159), some (.int s5.1)] [] s5.2)) (Q := (fun (s7 : G) => u_V m_X9_back 0 post 66 [some (.ref 159), none] [] s7)) ?_ 2000 ((0 : Int32), g2) s18 H1 K2
  clear H1 H K
  intro s5 s18b H K
  obtain ⟨x3, g4⟩ := s5
  (try dsimp only at H); (try dsimp only)
  refine am_iload_n rfl rfl ?_
  refine x_bipush (v := (24 : Int32)) rfl (by decide) ?_
  refine am_icmp_ge rfl (fun c8 => ?_) (fun c8 => ?_)
  · have H := it_pos c8 H
    have H := Option.some.inj H
    subst H
    exact am_drop (L' := [some (.ref 159), none]) (And.intro rfl trivial) K
  · have H := it_neg c8 H
    refine am_aload_n rfl rfl ?_
    refine u_getR f_9_13 rfl (Nat.le_of_ble_eq_true rfl) rfl rfl ?_
    refine am_iload_n rfl rfl ?_
    refine am_aload_n rfl rfl ?_
    refine u_getR f_9_28 rfl (Nat.le_of_ble_eq_true rfl) rfl rfl ?_
    refine am_iload_n rfl rfl ?_
    obtain ⟨j9, ej9, hj9, H⟩ := ck_some H
    refine x_iald rfl (Nat.le_of_ble_eq_true rfl) rfl hj9 ej9 ?_
    obtain ⟨j10, ej10, hj10, H⟩ := ck_some H
    obtain ⟨g11, eg11, H⟩ := wr_some H
    refine x_iast rfl (Nat.le_of_ble_eq_true rfl) rfl hj10 ej10 eg11 ?_
    refine am_aload_n rfl rfl ?_
    refine u_getR f_9_16 rfl (Nat.le_of_ble_eq_true rfl) rfl rfl ?_
    refine am_iload_n rfl rfl ?_
    refine am_aload_n rfl rfl ?_
    refine u_getR f_9_31 rfl (Nat.le_of_ble_eq_true rfl) rfl rfl ?_
    refine am_iload_n rfl rfl ?_
    obtain ⟨j12, ej12, hj12, H⟩ := ck_some H
    refine x_iald rfl (Nat.le_of_ble_eq_true rfl) rfl hj12 ej12 ?_
    obtain ⟨j13, ej13, hj13, H⟩ := ck_some H
    obtain ⟨g14, eg14, H⟩ := wr_some H
    refine x_iast rfl (Nat.le_of_ble_eq_true rfl) rfl hj13 ej13 eg14 ?_
    refine am_aload_n rfl rfl ?_
    refine u_getR f_9_19 rfl (Nat.le_of_ble_eq_true rfl) rfl rfl ?_
    refine am_iload_n rfl rfl ?_
    refine am_aload_n rfl rfl ?_
    refine u_getR f_9_34 rfl (Nat.le_of_ble_eq_true rfl) rfl rfl ?_
    refine am_iload_n rfl rfl ?_
    obtain ⟨j15, ej15, hj15, H⟩ := ck_some H
    refine x_iald rfl (Nat.le_of_ble_eq_true rfl) rfl hj15 ej15 ?_
    obtain ⟨j16, ej16, hj16, H⟩ := ck_some H
    obtain ⟨g17, eg17, H⟩ := wr_some H
    refine x_iast rfl (Nat.le_of_ble_eq_true rfl) rfl hj16 ej16 eg17 ?_
    refine x_iinc (v := (x3 + (1 : Int32))) rfl rfl (Nat.le_of_ble_eq_true rfl) rfl ?_
    refine am_goto rfl ?_
    have H := Option.some.inj H
    subst H
    exact am_drop (L' := [some (.ref 159), some (.int (x3 + (1 : Int32)))]) (And.intro rfl (And.intro rfl trivial)) K
def f_X9_run (a1 : Int32) (g : G) : Option (Int32 × G) := wr (up2 g 159 2 (0 : Int32)) fun g1 => bd2 (f_X9_in a1 (0 : Int32) (3 : Int32) g1) fun r2 g3 => if r2 = 0 then some (((-2 : Int32), g3)) else bd2 (f_X9_keep  g3) fun r5 g6 => bd2 (f_X9_fails (0 : Int32) (-1 : Int32) (-1 : Int32) g6) fun r7 g8 => wr (up2 g8 159 24 (0 : Int32)) fun g9 => bd2 (f_X9_goes 12 a1 g9) fun r10 g11 => if r10 = 0 then bd2 (f_X9_back  g11) fun r13 g14 => some (((-6 : Int32), g14)) else some (((1 : Int32), g11))
set_option maxHeartbeats 4000000 in
set_option maxRecDepth 100000 in
theorem y_X9_run (a1 : Int32)  (g : G) (q : Int32 × G) {post : Int32 → G → Prop} (H : f_X9_run a1 g = some q) (K : post q.1 q.2) : Y m_X9_run 21 [.ref 159, .int a1] g post := by
  refine Y_of ok_X9_run pn_9 rfl (by decide) (Or.inr (Or.inl rfl)) (List.forall_mem_cons.mpr ⟨rfl, (List.forall_mem_cons.mpr ⟨rfl, (fun _ h => absurd h List.not_mem_nil)⟩)⟩) (Nat.le_of_ble_eq_true rfl) ?_
  show u_V m_X9_run 21 post 0 [some (.ref 159), some (.int a1)] [] g
  unfold f_X9_run at H
  refine am_aload_n rfl rfl ?_
  refine x_iconst (v := (0 : Int32)) rfl (by decide) ?_
  obtain ⟨g1, eg1, H⟩ := wr_some H
  refine x_putI f_9_95 rfl rfl (Nat.le_of_ble_eq_true rfl) rfl rfl (fun _ _ => ⟨rfl, rfl⟩) eg1 ?_
  refine am_iload_n rfl rfl ?_
  refine x_iconst (v := (0 : Int32)) rfl (by decide) ?_
  refine x_iconst (v := (3 : Int32)) rfl (by decide) ?_
  obtain ⟨r2, g3, H1, H⟩ := bd2_some H
  refine cs3i s_9_101 rfl rfl (Nat.le_of_ble_eq_true rfl) (fun _ _ => Nat.le_of_ble_eq_true rfl) (y_X9_in a1 (0 : Int32) (3 : Int32) g1 _ H1 ?_)
  refine am_if_ne rfl (fun c4 => ?_) (fun c4 => ?_)
  · have H := it_neg c4 H
    refine am_aload_n rfl rfl ?_
    obtain ⟨r5, g6, H1, H⟩ := bd2_some H
    refine cv0v v_9_314 rfl rfl (Nat.le_of_ble_eq_true rfl) rfl (Nat.le_of_ble_eq_true rfl) (fun _ _ => Nat.le_of_ble_eq_true rfl) (y_X9_keep  g3 _ H1 ?_)
    refine am_aload_n rfl rfl ?_
    refine x_iconst (v := (0 : Int32)) rfl (by decide) ?_
    refine x_iconst (v := (-1 : Int32)) rfl (by decide) ?_
    refine x_iconst (v := (-1 : Int32)) rfl (by decide) ?_
    obtain ⟨r7, g8, H1, H⟩ := bd2_some H
    refine cv3v v_9_296 rfl rfl (Nat.le_of_ble_eq_true rfl) rfl (Nat.le_of_ble_eq_true rfl) (fun _ _ => Nat.le_of_ble_eq_true rfl) (y_X9_fails (0 : Int32) (-1 : Int32) (-1 : Int32) g6 _ H1 ?_)
    refine am_aload_n rfl rfl ?_
    refine x_iconst (v := (0 : Int32)) rfl (by decide) ?_
    obtain ⟨g9, eg9, H⟩ := wr_some H
    refine x_putI f_9_302 rfl rfl (Nat.le_of_ble_eq_true rfl) rfl rfl (fun _ _ => ⟨rfl, rfl⟩) eg9 ?_
    refine am_aload_n rfl rfl ?_
    refine am_iload_n rfl rfl ?_
    obtain ⟨r10, g11, H1, H⟩ := bd2_some H
    refine cv1i v_9_299 rfl rfl (Nat.le_of_ble_eq_true rfl) rfl (Nat.le_of_ble_eq_true rfl) (fun _ _ => Nat.le_of_ble_eq_true rfl) (y_X9_goes 12 a1 g9 _ H1 ?_)
    refine am_if_eq rfl (fun c12 => ?_) (fun c12 => ?_)
    · have H := it_pos c12 H
      refine am_aload_n rfl rfl ?_
      obtain ⟨r13, g14, H1, H⟩ := bd2_some H
      refine cv0v v_9_317 rfl rfl (Nat.le_of_ble_eq_true rfl) rfl (Nat.le_of_ble_eq_true rfl) (fun _ _ => Nat.le_of_ble_eq_true rfl) (y_X9_back  g11 _ H1 ?_)
      refine x_bipush (v := (-6 : Int32)) rfl (by decide) ?_
      have H := Option.some.inj H
      subst H
      exact u_iret rfl rfl K
    · have H := it_neg c12 H
      refine x_iconst (v := (1 : Int32)) rfl (by decide) ?_
      have H := Option.some.inj H
      subst H
      exact u_iret rfl rfl K
  · have H := it_pos c4 H
    refine x_bipush (v := (-2 : Int32)) rfl (by decide) ?_
    have H := Option.some.inj H
    subst H
    exact u_iret rfl rfl K
def f_X9_ran (a1 : Int32) (g : G) : Option (Int32 × G) := if a1 = 0 then some (((g 159 21), g)) else if a1 = (1 : Int32) then some (((g 159 22), g)) else if a1 = (2 : Int32) then some (((g 159 23), g)) else if a1 = (3 : Int32) then some (((g 159 24), g)) else some (((-2 : Int32), g))
set_option maxHeartbeats 4000000 in
set_option maxRecDepth 100000 in
theorem y_X9_ran (a1 : Int32)  (g : G) (q : Int32 × G) {post : Int32 → G → Prop} (H : f_X9_ran a1 g = some q) (K : post q.1 q.2) : Y m_X9_ran 0 [.ref 159, .int a1] g post := by
  refine Y_of ok_X9_ran pn_9 rfl (by decide) (Or.inr (Or.inl rfl)) (List.forall_mem_cons.mpr ⟨rfl, (List.forall_mem_cons.mpr ⟨rfl, (fun _ h => absurd h List.not_mem_nil)⟩)⟩) (Nat.le_of_ble_eq_true rfl) ?_
  show u_V m_X9_ran 0 post 0 [some (.ref 159), some (.int a1)] [] g
  unfold f_X9_ran at H
  refine am_iload_n rfl rfl ?_
  refine am_if_ne rfl (fun c1 => ?_) (fun c1 => ?_)
  · have H := it_neg c1 H
    refine am_iload_n rfl rfl ?_
    refine x_iconst (v := (1 : Int32)) rfl (by decide) ?_
    refine am_icmp_ne rfl (fun c2 => ?_) (fun c2 => ?_)
    · have H := it_neg c2 H
      refine am_iload_n rfl rfl ?_
      refine x_iconst (v := (2 : Int32)) rfl (by decide) ?_
      refine am_icmp_ne rfl (fun c3 => ?_) (fun c3 => ?_)
      · have H := it_neg c3 H
        refine am_iload_n rfl rfl ?_
        refine x_iconst (v := (3 : Int32)) rfl (by decide) ?_
        refine am_icmp_ne rfl (fun c4 => ?_) (fun c4 => ?_)
        · have H := it_neg c4 H
          refine x_bipush (v := (-2 : Int32)) rfl (by decide) ?_
          have H := Option.some.inj H
          subst H
          exact u_iret rfl rfl K
        · have H := it_pos c4 H
          refine am_aload_n rfl rfl ?_
          refine u_getI f_9_302 rfl (Nat.le_of_ble_eq_true rfl) rfl rfl ?_
          refine am_goto rfl ?_
          have H := Option.some.inj H
          subst H
          exact u_iret rfl rfl K
      · have H := it_pos c3 H
        refine am_aload_n rfl rfl ?_
        refine u_getI f_9_56 rfl (Nat.le_of_ble_eq_true rfl) rfl rfl ?_
        refine am_goto rfl ?_
        have H := Option.some.inj H
        subst H
        exact u_iret rfl rfl K
    · have H := it_pos c2 H
      refine am_aload_n rfl rfl ?_
      refine u_getI f_9_52 rfl (Nat.le_of_ble_eq_true rfl) rfl rfl ?_
      refine am_goto rfl ?_
      have H := Option.some.inj H
      subst H
      exact u_iret rfl rfl K
  · have H := it_pos c1 H
    refine am_aload_n rfl rfl ?_
    refine u_getI f_9_293 rfl (Nat.le_of_ble_eq_true rfl) rfl rfl ?_
    refine am_goto rfl ?_
    have H := Option.some.inj H
    subst H
    exact u_iret rfl rfl K
def f_X9_copy (a1 : Int32) (g : G) : Option (Int32 × G) := bd2 (f_X9_isTournament a1 g) fun r1 g2 => if r1 = 0 then some (((-2 : Int32), g2)) else if (g2 159 8) = (4 : Int32) then some (((-4 : Int32), g2)) else bd2 (f_X9_another  g2) fun r5 g6 => bd (lp (fun (s9 : Int32 × G) => (if (411 : Int32) ≤ s9.1 then some (.inr (s9.2)) else bd2 (f_X9_cell a1 s9.1 s9.2) fun r13 g14 => bd2 (f_X9_lay r5 s9.1 r13 g14) fun r15 g16 => some (.inl ((s9.1 + (1 : Int32)), g16)) : Option ((Int32 × G) ⊕ (G)))) 2000 ((0 : Int32), g6)) fun (s11 : G) => some ((r5, s11))
set_option maxHeartbeats 4000000 in
set_option maxRecDepth 100000 in
theorem y_X9_copy (a1 : Int32)  (g : G) (q : Int32 × G) {post : Int32 → G → Prop} (H : f_X9_copy a1 g = some q) (K : post q.1 q.2) : Y m_X9_copy 2 [.ref 159, .int a1] g post := by
  refine Y_of ok_X9_copy pn_9 rfl (by decide) (Or.inr (Or.inl rfl)) (List.forall_mem_cons.mpr ⟨rfl, (List.forall_mem_cons.mpr ⟨rfl, (fun _ h => absurd h List.not_mem_nil)⟩)⟩) (Nat.le_of_ble_eq_true rfl) ?_
  show u_V m_X9_copy 2 post 0 [some (.ref 159), some (.int a1), none, none] [] g
  unfold f_X9_copy at H
  refine am_aload_n rfl rfl ?_
  refine am_iload_n rfl rfl ?_
  obtain ⟨r1, g2, H1, H⟩ := bd2_some H
  refine cv1i v_9_144 rfl rfl (Nat.le_of_ble_eq_true rfl) rfl (Nat.le_of_ble_eq_true rfl) (fun _ _ => Nat.le_of_ble_eq_true rfl) (y_X9_isTournament a1 g _ H1 ?_)
  refine am_if_ne rfl (fun c3 => ?_) (fun c3 => ?_)
  · have H := it_neg c3 H
    refine am_aload_n rfl rfl ?_
    refine u_getI f_9_105 rfl (Nat.le_of_ble_eq_true rfl) rfl rfl ?_
    refine x_iconst (v := (4 : Int32)) rfl (by decide) ?_
    refine am_icmp_ne rfl (fun c4 => ?_) (fun c4 => ?_)
    · have H := it_neg c4 H
      refine am_aload_n rfl rfl ?_
      obtain ⟨r5, g6, H1, H⟩ := bd2_some H
      refine cv0i v_9_136 rfl rfl (Nat.le_of_ble_eq_true rfl) rfl (Nat.le_of_ble_eq_true rfl) (fun _ _ => Nat.le_of_ble_eq_true rfl) (y_X9_another  g2 _ H1 ?_)
      refine am_istore_n rfl (Nat.le_of_ble_eq_true rfl) ?_
      refine x_iconst (v := (0 : Int32)) rfl (by decide) ?_
      refine am_istore_n rfl (Nat.le_of_ble_eq_true rfl) ?_
      obtain ⟨s17, H1, H⟩ := bd_some H
      have K2 : (fun (s11 : G) => u_V m_X9_copy 2 post 54 [none, none, some (.int r5), none] [] s11) s17 := by
        clear H1
        obtain ⟨g10, e_g10⟩ : ∃ z, z = s17 := ⟨_, rfl⟩
        subst e_g10
        (try dsimp only at H); (try dsimp only)
        refine am_iload_n rfl rfl ?_
        have H := Option.some.inj H
        subst H
        exact u_iret rfl rfl K
      refine am_drop (L' := [some (.ref 159), some (.int a1), some (.int r5), some (.int (0 : Int32))]) (And.intro rfl (And.intro rfl (And.intro rfl (And.intro rfl trivial)))) ?_
      refine lp_ind (P := (fun (s9 : Int32 × G) => u_V m_X9_copy 2 post 29 [some (.ref 159), some (.int a1), some (.int r5), some (.int s9.1)] [] s9.2)) (Q := (fun (s11 : G) => u_V m_X9_copy 2 post 54 [none, none, some (.int r5), none] [] s11)) ?_ 2000 ((0 : Int32), g6) s17 H1 K2
      clear H1 H K
      intro s9 s17b H K
      obtain ⟨x7, g8⟩ := s9
      (try dsimp only at H); (try dsimp only)
      refine am_iload_n rfl rfl ?_
      refine x_sipush (v := (411 : Int32)) rfl (by decide) ?_
      refine am_icmp_ge rfl (fun c12 => ?_) (fun c12 => ?_)
      · have H := it_pos c12 H
        have H := Option.some.inj H
        subst H
        exact am_drop (L' := [none, none, some (.int r5), none]) (And.intro rfl trivial) K
      · have H := it_neg c12 H
        refine am_aload_n rfl rfl ?_
        refine am_iload_n rfl rfl ?_
        refine am_iload_n rfl rfl ?_
        refine am_aload_n rfl rfl ?_
        refine am_iload_n rfl rfl ?_
        refine am_iload_n rfl rfl ?_
        obtain ⟨r13, g14, H1, H⟩ := bd2_some H
        refine cv2i v_9_140 rfl rfl (Nat.le_of_ble_eq_true rfl) rfl (Nat.le_of_ble_eq_true rfl) (fun _ _ => Nat.le_of_ble_eq_true rfl) (y_X9_cell a1 x7 g8 _ H1 ?_)
        obtain ⟨r15, g16, H1, H⟩ := bd2_some H
        refine cv3v v_9_129 rfl rfl (Nat.le_of_ble_eq_true rfl) rfl (Nat.le_of_ble_eq_true rfl) (fun _ _ => Nat.le_of_ble_eq_true rfl) (y_X9_lay r5 x7 r13 g14 _ H1 ?_)
        refine x_iinc (v := (x7 + (1 : Int32))) rfl rfl (Nat.le_of_ble_eq_true rfl) rfl ?_
        refine am_goto rfl ?_
        have H := Option.some.inj H
        subst H
        exact am_drop (L' := [some (.ref 159), some (.int a1), some (.int r5), some (.int (x7 + (1 : Int32)))]) (And.intro rfl (And.intro rfl (And.intro rfl (And.intro rfl trivial)))) K
    · have H := it_pos c4 H
      refine x_bipush (v := (-4 : Int32)) rfl (by decide) ?_
      have H := Option.some.inj H
      subst H
      exact u_iret rfl rfl K
  · have H := it_pos c3 H
    refine x_bipush (v := (-2 : Int32)) rfl (by decide) ?_
    have H := Option.some.inj H
    subst H
    exact u_iret rfl rfl K
def f_X9_alike (a1 : Int32) (a2 : Int32) (g : G) : Option (Int32 × G) := bd2 (f_X9_isTournament a1 g) fun r1 g2 => if r1 = 0 then some (((-2 : Int32), g2)) else bd2 (f_X9_isTournament a2 g2) fun r4 g5 => if r4 = 0 then some (((-2 : Int32), g5)) else bd (lp (fun (s10 : Int32 × Int32 × G) => (if (411 : Int32) ≤ s10.2.1 then some (.inr (s10.1, s10.2.2)) else bd ((if s10.1 = 0 then some (.inl (s10.2.1, s10.2.2)) else bd2 (f_X9_cell a1 s10.2.1 s10.2.2) fun r19 g20 => bd2 (f_X9_cell a2 s10.2.1 g20) fun r21 g22 => if r19 = r21 then some (.inr (.inl ((1 : Int32), (s10.2.1 + (1 : Int32)), g22))) else some (.inl (s10.2.1, g22)) : Option ((Int32 × G) ⊕ ((Int32 × Int32 × G) ⊕ (Int32 × G))))) fun s24m => (match s24m with | .inl s17 => (some (.inl ((0 : Int32), (s17.1 + (1 : Int32)), s17.2))) | .inr y => some y) : Option ((Int32 × Int32 × G) ⊕ (Int32 × G)))) 2000 ((1 : Int32), (0 : Int32), g5)) fun (s13 : Int32 × G) => if s13.1 = 0 then some (((0 : Int32), s13.2)) else some (((1 : Int32), s13.2))
set_option maxHeartbeats 4000000 in
set_option maxRecDepth 100000 in
theorem y_X9_alike (a1 : Int32) (a2 : Int32)  (g : G) (q : Int32 × G) {post : Int32 → G → Prop} (H : f_X9_alike a1 a2 g = some q) (K : post q.1 q.2) : Y m_X9_alike 2 [.ref 159, .int a1, .int a2] g post := by
  refine Y_of ok_X9_alike pn_9 rfl (by decide) (Or.inr (Or.inl rfl)) (List.forall_mem_cons.mpr ⟨rfl, (List.forall_mem_cons.mpr ⟨rfl, (List.forall_mem_cons.mpr ⟨rfl, (fun _ h => absurd h List.not_mem_nil)⟩)⟩)⟩) (Nat.le_of_ble_eq_true rfl) ?_
  show u_V m_X9_alike 2 post 0 [some (.ref 159), some (.int a1), some (.int a2), none, none] [] g
  unfold f_X9_alike at H
  refine am_aload_n rfl rfl ?_
  refine am_iload_n rfl rfl ?_
  obtain ⟨r1, g2, H1, H⟩ := bd2_some H
  refine cv1i v_9_144 rfl rfl (Nat.le_of_ble_eq_true rfl) rfl (Nat.le_of_ble_eq_true rfl) (fun _ _ => Nat.le_of_ble_eq_true rfl) (y_X9_isTournament a1 g _ H1 ?_)
  refine am_if_eq rfl (fun c3 => ?_) (fun c3 => ?_)
  · have H := it_pos c3 H
    refine x_bipush (v := (-2 : Int32)) rfl (by decide) ?_
    have H := Option.some.inj H
    subst H
    exact u_iret rfl rfl K
  · have H := it_neg c3 H
    refine am_aload_n rfl rfl ?_
    refine am_iload_n rfl rfl ?_
    obtain ⟨r4, g5, H1, H⟩ := bd2_some H
    refine cv1i v_9_144 rfl rfl (Nat.le_of_ble_eq_true rfl) rfl (Nat.le_of_ble_eq_true rfl) (fun _ _ => Nat.le_of_ble_eq_true rfl) (y_X9_isTournament a2 g2 _ H1 ?_)
    refine am_if_ne rfl (fun c6 => ?_) (fun c6 => ?_)
    · have H := it_neg c6 H
      refine x_iconst (v := (1 : Int32)) rfl (by decide) ?_
      refine am_istore_n rfl (Nat.le_of_ble_eq_true rfl) ?_
      refine x_iconst (v := (0 : Int32)) rfl (by decide) ?_
      refine am_istore rfl (Nat.le_of_ble_eq_true rfl) ?_
      obtain ⟨s25, H1, H⟩ := bd_some H
      have K2 : (fun (s13 : Int32 × G) => u_V m_X9_alike 2 post 65 [none, none, none, some (.int s13.1), none] [] s13.2) s25 := by
        clear H1
        obtain ⟨x11, g12⟩ := s25
        (try dsimp only at H); (try dsimp only)
        refine am_iload_n rfl rfl ?_
        refine am_if_eq rfl (fun c26 => ?_) (fun c26 => ?_)
        · have H := it_pos c26 H
          refine x_iconst (v := (0 : Int32)) rfl (by decide) ?_
          have H := Option.some.inj H
          subst H
          exact u_iret rfl rfl K
        · have H := it_neg c26 H
          refine x_iconst (v := (1 : Int32)) rfl (by decide) ?_
          refine am_goto rfl ?_
          have H := Option.some.inj H
          subst H
          exact u_iret rfl rfl K
      refine am_drop (L' := [some (.ref 159), some (.int a1), some (.int a2), some (.int (1 : Int32)), some (.int (0 : Int32))]) (And.intro rfl (And.intro rfl (And.intro rfl (And.intro rfl (And.intro rfl trivial))))) ?_
      refine lp_ind (P := (fun (s10 : Int32 × Int32 × G) => u_V m_X9_alike 2 post 24 [some (.ref 159), some (.int a1), some (.int a2), some (.int s10.1), some (.int s10.2.1)] [] s10.2.2)) (Q := (fun (s13 : Int32 × G) => u_V m_X9_alike 2 post 65 [none, none, none, some (.int s13.1), none] [] s13.2)) ?_ 2000 ((1 : Int32), (0 : Int32), g5) s25 H1 K2
      clear H1 H K
      intro s10 s25b H K
      obtain ⟨x7, x8, g9⟩ := s10
      (try dsimp only at H); (try dsimp only)
      refine am_iload rfl rfl ?_
      refine x_sipush (v := (411 : Int32)) rfl (by decide) ?_
      refine am_icmp_ge rfl (fun c14 => ?_) (fun c14 => ?_)
      · have H := it_pos c14 H
        have H := Option.some.inj H
        subst H
        exact am_drop (L' := [none, none, none, some (.int x7), none]) (And.intro rfl trivial) K
      · have H := it_neg c14 H
        refine am_iload_n rfl rfl ?_
        obtain ⟨s24, H1, H⟩ := bd_some H
        have K : (Sum.elim (fun (s17 : Int32 × G) => u_V m_X9_alike 2 post 57 [some (.ref 159), some (.int a1), some (.int a2), none, some (.int s17.1)] [] s17.2) (Sum.elim (fun (s10 : Int32 × Int32 × G) => u_V m_X9_alike 2 post 24 [some (.ref 159), some (.int a1), some (.int a2), some (.int s10.1), some (.int s10.2.1)] [] s10.2.2) (fun (s13 : Int32 × G) => u_V m_X9_alike 2 post 65 [none, none, none, some (.int s13.1), none] [] s13.2))) s24 := by
          clear H1
          cases s24 with
          | inl s17 =>
            obtain ⟨x15, g16⟩ := s17
            (try dsimp only at H); (try dsimp only)
            refine x_iconst (v := (0 : Int32)) rfl (by decide) ?_
            refine am_istore_n rfl (Nat.le_of_ble_eq_true rfl) ?_
            refine x_iinc (v := (x15 + (1 : Int32))) rfl rfl (Nat.le_of_ble_eq_true rfl) rfl ?_
            refine am_goto rfl ?_
            have H := Option.some.inj H
            subst H
            exact am_drop (L' := [some (.ref 159), some (.int a1), some (.int a2), some (.int (0 : Int32)), some (.int (x15 + (1 : Int32)))]) (And.intro rfl (And.intro rfl (And.intro rfl (And.intro rfl (And.intro rfl trivial))))) K
          | inr y =>
            have H := Option.some.inj H
            subst H
            exact K
        have H := H1
        clear H1
        refine am_if_eq rfl (fun c18 => ?_) (fun c18 => ?_)
        · have H := it_pos c18 H
          have H := Option.some.inj H
          subst H
          exact am_drop (L' := [some (.ref 159), some (.int a1), some (.int a2), none, some (.int x8)]) (And.intro rfl (And.intro rfl (And.intro rfl (And.intro rfl trivial)))) K
        · have H := it_neg c18 H
          refine am_aload_n rfl rfl ?_
          refine am_iload_n rfl rfl ?_
          refine am_iload rfl rfl ?_
          obtain ⟨r19, g20, H1, H⟩ := bd2_some H
          refine cv2i v_9_140 rfl rfl (Nat.le_of_ble_eq_true rfl) rfl (Nat.le_of_ble_eq_true rfl) (fun _ _ => Nat.le_of_ble_eq_true rfl) (y_X9_cell a1 x8 g9 _ H1 ?_)
          refine am_aload_n rfl rfl ?_
          refine am_iload_n rfl rfl ?_
          refine am_iload rfl rfl ?_
          obtain ⟨r21, g22, H1, H⟩ := bd2_some H
          refine cv2i v_9_140 rfl rfl (Nat.le_of_ble_eq_true rfl) rfl (Nat.le_of_ble_eq_true rfl) (fun _ _ => Nat.le_of_ble_eq_true rfl) (y_X9_cell a2 x8 g20 _ H1 ?_)
          refine am_icmp_ne rfl (fun c23 => ?_) (fun c23 => ?_)
          · have H := it_neg c23 H
            have H := Option.some.inj H
            subst H
            exact am_drop (L' := [some (.ref 159), some (.int a1), some (.int a2), none, some (.int x8)]) (And.intro rfl (And.intro rfl (And.intro rfl (And.intro rfl trivial)))) K
          · have H := it_pos c23 H
            refine x_iconst (v := (1 : Int32)) rfl (by decide) ?_
            refine am_goto rfl ?_
            refine am_istore_n rfl (Nat.le_of_ble_eq_true rfl) ?_
            refine x_iinc (v := (x8 + (1 : Int32))) rfl rfl (Nat.le_of_ble_eq_true rfl) rfl ?_
            refine am_goto rfl ?_
            have H := Option.some.inj H
            subst H
            exact am_drop (L' := [some (.ref 159), some (.int a1), some (.int a2), some (.int (1 : Int32)), some (.int (x8 + (1 : Int32)))]) (And.intro rfl (And.intro rfl (And.intro rfl (And.intro rfl (And.intro rfl trivial))))) K
    · have H := it_pos c6 H
      refine x_bipush (v := (-2 : Int32)) rfl (by decide) ?_
      have H := Option.some.inj H
      subst H
      exact u_iret rfl rfl K
def f_X9_finding  (g : G) : Option (Int32 × G) := some (((g 159 0), g))
set_option maxHeartbeats 4000000 in
set_option maxRecDepth 100000 in
theorem y_X9_finding   (g : G) (q : Int32 × G) {post : Int32 → G → Prop} (H : f_X9_finding  g = some q) (K : post q.1 q.2) : Y m_X9_finding 0 [.ref 159] g post := by
  refine Y_of ok_X9_finding pn_9 rfl (by decide) (Or.inr (Or.inl rfl)) (List.forall_mem_cons.mpr ⟨rfl, (fun _ h => absurd h List.not_mem_nil)⟩) (Nat.le_of_ble_eq_true rfl) ?_
  show u_V m_X9_finding 0 post 0 [some (.ref 159)] [] g
  unfold f_X9_finding at H
  refine am_aload_n rfl rfl ?_
  refine u_getI f_9_92 rfl (Nat.le_of_ble_eq_true rfl) rfl rfl ?_
  have H := Option.some.inj H
  subst H
  exact u_iret rfl rfl K
def f_X9_told (a1 : Int32) (g : G) : Option (Int32 × G) := bd2 (f_X9_in a1 (0 : Int32) (3 : Int32) g) fun r1 g2 => if r1 = 0 then bd2 (f_X9_in a1 (10 : Int32) (13 : Int32) g2) fun r4 g5 => if r4 = 0 then bd2 (f_X9_in a1 (20 : Int32) (59 : Int32) g5) fun r7 g8 => if r7 = 0 then some (((-2 : Int32), g8)) else bd2 (f_X9_isTournament (a1 - a1 / (10 : Int32) * (10 : Int32)) g8) fun r10 g11 => if r10 = 0 then some (((-2 : Int32), g11)) else if (30 : Int32) ≤ a1 then if (40 : Int32) ≤ a1 then if (50 : Int32) ≤ a1 then bd2 (f_X9_cell (a1 - a1 / (10 : Int32) * (10 : Int32)) (411 : Int32) g11) fun r16 g17 => some ((r16, g17)) else bd2 (f_X9_cell (a1 - a1 / (10 : Int32) * (10 : Int32)) (110 : Int32) g11) fun r18 g19 => some ((r18, g19)) else bd2 (f_X9_cell (a1 - a1 / (10 : Int32) * (10 : Int32)) (25 : Int32) g11) fun r20 g21 => some ((r20, g21)) else bd2 (f_X9_cell (a1 - a1 / (10 : Int32) * (10 : Int32)) (0 : Int32) g11) fun r22 g23 => some ((r22, g23)) else ck (a1 - (10 : Int32)) 4 fun j24 => some (((g5 173 j24), g5)) else if a1 = 0 then some (((g2 159 3), g2)) else if a1 = (1 : Int32) then some (((g2 159 8), g2)) else if a1 = (2 : Int32) then some (((g2 159 10), g2)) else some (((g2 159 2), g2))
set_option maxHeartbeats 4000000 in
set_option maxRecDepth 100000 in
theorem y_X9_told (a1 : Int32)  (g : G) (q : Int32 × G) {post : Int32 → G → Prop} (H : f_X9_told a1 g = some q) (K : post q.1 q.2) : Y m_X9_told 2 [.ref 159, .int a1] g post := by
  refine Y_of ok_X9_told pn_9 rfl (by decide) (Or.inr (Or.inl rfl)) (List.forall_mem_cons.mpr ⟨rfl, (List.forall_mem_cons.mpr ⟨rfl, (fun _ h => absurd h List.not_mem_nil)⟩)⟩) (Nat.le_of_ble_eq_true rfl) ?_
  show u_V m_X9_told 2 post 0 [some (.ref 159), some (.int a1), none] [] g
  unfold f_X9_told at H
  refine am_iload_n rfl rfl ?_
  refine x_iconst (v := (0 : Int32)) rfl (by decide) ?_
  refine x_iconst (v := (3 : Int32)) rfl (by decide) ?_
  obtain ⟨r1, g2, H1, H⟩ := bd2_some H
  refine cs3i s_9_101 rfl rfl (Nat.le_of_ble_eq_true rfl) (fun _ _ => Nat.le_of_ble_eq_true rfl) (y_X9_in a1 (0 : Int32) (3 : Int32) g _ H1 ?_)
  refine am_if_eq rfl (fun c3 => ?_) (fun c3 => ?_)
  · have H := it_pos c3 H
    refine am_iload_n rfl rfl ?_
    refine x_bipush (v := (10 : Int32)) rfl (by decide) ?_
    refine x_bipush (v := (13 : Int32)) rfl (by decide) ?_
    obtain ⟨r4, g5, H1, H⟩ := bd2_some H
    refine cs3i s_9_101 rfl rfl (Nat.le_of_ble_eq_true rfl) (fun _ _ => Nat.le_of_ble_eq_true rfl) (y_X9_in a1 (10 : Int32) (13 : Int32) g2 _ H1 ?_)
    refine am_if_eq rfl (fun c6 => ?_) (fun c6 => ?_)
    · have H := it_pos c6 H
      refine am_iload_n rfl rfl ?_
      refine x_bipush (v := (10 : Int32)) rfl (by decide) ?_
      refine am_irem rfl (by decide) ?_
      refine am_istore_n rfl (Nat.le_of_ble_eq_true rfl) ?_
      refine am_iload_n rfl rfl ?_
      refine x_bipush (v := (20 : Int32)) rfl (by decide) ?_
      refine x_bipush (v := (59 : Int32)) rfl (by decide) ?_
      obtain ⟨r7, g8, H1, H⟩ := bd2_some H
      refine cs3i s_9_101 rfl rfl (Nat.le_of_ble_eq_true rfl) (fun _ _ => Nat.le_of_ble_eq_true rfl) (y_X9_in a1 (20 : Int32) (59 : Int32) g5 _ H1 ?_)
      refine am_if_eq rfl (fun c9 => ?_) (fun c9 => ?_)
      · have H := it_pos c9 H
        refine x_bipush (v := (-2 : Int32)) rfl (by decide) ?_
        have H := Option.some.inj H
        subst H
        exact u_iret rfl rfl K
      · have H := it_neg c9 H
        refine am_aload_n rfl rfl ?_
        refine am_iload_n rfl rfl ?_
        obtain ⟨r10, g11, H1, H⟩ := bd2_some H
        refine cv1i v_9_144 rfl rfl (Nat.le_of_ble_eq_true rfl) rfl (Nat.le_of_ble_eq_true rfl) (fun _ _ => Nat.le_of_ble_eq_true rfl) (y_X9_isTournament (a1 - a1 / (10 : Int32) * (10 : Int32)) g8 _ H1 ?_)
        refine am_if_ne rfl (fun c12 => ?_) (fun c12 => ?_)
        · have H := it_neg c12 H
          refine am_aload_n rfl rfl ?_
          refine am_iload_n rfl rfl ?_
          refine am_iload_n rfl rfl ?_
          refine x_bipush (v := (30 : Int32)) rfl (by decide) ?_
          refine am_icmp_ge rfl (fun c13 => ?_) (fun c13 => ?_)
          · have H := it_pos c13 H
            refine am_iload_n rfl rfl ?_
            refine x_bipush (v := (40 : Int32)) rfl (by decide) ?_
            refine am_icmp_ge rfl (fun c14 => ?_) (fun c14 => ?_)
            · have H := it_pos c14 H
              refine am_iload_n rfl rfl ?_
              refine x_bipush (v := (50 : Int32)) rfl (by decide) ?_
              refine am_icmp_ge rfl (fun c15 => ?_) (fun c15 => ?_)
              · have H := it_pos c15 H
                refine x_sipush (v := (411 : Int32)) rfl (by decide) ?_
                obtain ⟨r16, g17, H1, H⟩ := bd2_some H
                refine cv2i v_9_140 rfl rfl (Nat.le_of_ble_eq_true rfl) rfl (Nat.le_of_ble_eq_true rfl) (fun _ _ => Nat.le_of_ble_eq_true rfl) (y_X9_cell (a1 - a1 / (10 : Int32) * (10 : Int32)) (411 : Int32) g11 _ H1 ?_)
                have H := Option.some.inj H
                subst H
                exact u_iret rfl rfl K
              · have H := it_neg c15 H
                refine x_bipush (v := (110 : Int32)) rfl (by decide) ?_
                refine am_goto rfl ?_
                obtain ⟨r18, g19, H1, H⟩ := bd2_some H
                refine cv2i v_9_140 rfl rfl (Nat.le_of_ble_eq_true rfl) rfl (Nat.le_of_ble_eq_true rfl) (fun _ _ => Nat.le_of_ble_eq_true rfl) (y_X9_cell (a1 - a1 / (10 : Int32) * (10 : Int32)) (110 : Int32) g11 _ H1 ?_)
                have H := Option.some.inj H
                subst H
                exact u_iret rfl rfl K
            · have H := it_neg c14 H
              refine x_bipush (v := (25 : Int32)) rfl (by decide) ?_
              refine am_goto rfl ?_
              obtain ⟨r20, g21, H1, H⟩ := bd2_some H
              refine cv2i v_9_140 rfl rfl (Nat.le_of_ble_eq_true rfl) rfl (Nat.le_of_ble_eq_true rfl) (fun _ _ => Nat.le_of_ble_eq_true rfl) (y_X9_cell (a1 - a1 / (10 : Int32) * (10 : Int32)) (25 : Int32) g11 _ H1 ?_)
              have H := Option.some.inj H
              subst H
              exact u_iret rfl rfl K
          · have H := it_neg c13 H
            refine x_iconst (v := (0 : Int32)) rfl (by decide) ?_
            refine am_goto rfl ?_
            obtain ⟨r22, g23, H1, H⟩ := bd2_some H
            refine cv2i v_9_140 rfl rfl (Nat.le_of_ble_eq_true rfl) rfl (Nat.le_of_ble_eq_true rfl) (fun _ _ => Nat.le_of_ble_eq_true rfl) (y_X9_cell (a1 - a1 / (10 : Int32) * (10 : Int32)) (0 : Int32) g11 _ H1 ?_)
            have H := Option.some.inj H
            subst H
            exact u_iret rfl rfl K
        · have H := it_pos c12 H
          refine x_bipush (v := (-2 : Int32)) rfl (by decide) ?_
          have H := Option.some.inj H
          subst H
          exact u_iret rfl rfl K
    · have H := it_neg c6 H
      refine am_aload_n rfl rfl ?_
      refine u_getR f_9_49 rfl (Nat.le_of_ble_eq_true rfl) rfl rfl ?_
      refine am_iload_n rfl rfl ?_
      refine x_bipush (v := (10 : Int32)) rfl (by decide) ?_
      refine am_isub rfl ?_
      obtain ⟨j24, ej24, hj24, H⟩ := ck_some H
      refine x_iald rfl (Nat.le_of_ble_eq_true rfl) rfl hj24 ej24 ?_
      have H := Option.some.inj H
      subst H
      exact u_iret rfl rfl K
  · have H := it_neg c3 H
    refine am_iload_n rfl rfl ?_
    refine am_if_ne rfl (fun c25 => ?_) (fun c25 => ?_)
    · have H := it_neg c25 H
      refine am_iload_n rfl rfl ?_
      refine x_iconst (v := (1 : Int32)) rfl (by decide) ?_
      refine am_icmp_ne rfl (fun c26 => ?_) (fun c26 => ?_)
      · have H := it_neg c26 H
        refine am_iload_n rfl rfl ?_
        refine x_iconst (v := (2 : Int32)) rfl (by decide) ?_
        refine am_icmp_ne rfl (fun c27 => ?_) (fun c27 => ?_)
        · have H := it_neg c27 H
          refine am_aload_n rfl rfl ?_
          refine u_getI f_9_95 rfl (Nat.le_of_ble_eq_true rfl) rfl rfl ?_
          have H := Option.some.inj H
          subst H
          exact u_iret rfl rfl K
        · have H := it_pos c27 H
          refine am_aload_n rfl rfl ?_
          refine u_getI f_9_133 rfl (Nat.le_of_ble_eq_true rfl) rfl rfl ?_
          refine am_goto rfl ?_
          have H := Option.some.inj H
          subst H
          exact u_iret rfl rfl K
      · have H := it_pos c26 H
        refine am_aload_n rfl rfl ?_
        refine u_getI f_9_105 rfl (Nat.le_of_ble_eq_true rfl) rfl rfl ?_
        refine am_goto rfl ?_
        have H := Option.some.inj H
        subst H
        exact u_iret rfl rfl K
    · have H := it_pos c25 H
      refine am_aload_n rfl rfl ?_
      refine u_getI f_9_98 rfl (Nat.le_of_ble_eq_true rfl) rfl rfl ?_
      refine am_goto rfl ?_
      have H := Option.some.inj H
      subst H
      exact u_iret rfl rfl K
