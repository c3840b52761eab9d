/-! Methods read off their code. Written by gen/emit.py. -/
def f_X8_player (a1 : Int32) (a2 : Int32) (g : G) : Option (Int32 × G) := if a1 < 0 then some (((-2 : Int32), g)) else if (4 : Int32) < a1 then some (((-2 : Int32), g)) else if a2 < 0 then some (((-2 : Int32), g)) else if a2 ≤ (3000 : Int32) then bd2 (f_X5_add a1 a2 g) fun r5 g6 => some ((r5, g6)) else some (((-2 : Int32), g))
set_option maxHeartbeats 4000000 in
set_option maxRecDepth 100000 in
theorem y_X8_player (a1 : Int32) (a2 : Int32)  (g : G) (q : Int32 × G) {post : Int32 → G → Prop} (H : f_X8_player a1 a2 g = some q) (K : post q.1 q.2) : Y m_X8_player 1 [.ref 0, .int a1, .int a2] g post := by
  refine Y_of ok_X8_player pn_8 rfl (by decide) (Or.inr (Or.inl rfl)) (List.forall_mem_cons.mpr ⟨rfl, (List.forall_mem_cons.mpr ⟨rfl, (List.forall_mem_cons.mpr ⟨rfl, (fun _ h => absurd h List.not_mem_nil)⟩)⟩)⟩) (Nat.le_of_ble_eq_true rfl) ?_
  show u_V m_X8_player 1 post 0 [some (.ref 0), some (.int a1), some (.int a2)] [] g
  unfold f_X8_player at H
  refine am_iload_n rfl rfl ?_
  refine am_if_lt rfl (fun c1 => ?_) (fun c1 => ?_)
  · have H := it_pos c1 H
    refine x_bipush (v := (-2 : Int32)) rfl (by decide) ?_
    have H := Option.some.inj H
    subst H
    exact u_iret rfl rfl K
  · have H := it_neg c1 H
    refine am_iload_n rfl rfl ?_
    refine x_iconst (v := (4 : Int32)) rfl (by decide) ?_
    refine am_icmp_gt rfl (fun c2 => ?_) (fun c2 => ?_)
    · have H := it_pos c2 H
      refine x_bipush (v := (-2 : Int32)) rfl (by decide) ?_
      have H := Option.some.inj H
      subst H
      exact u_iret rfl rfl K
    · have H := it_neg c2 H
      refine am_iload_n rfl rfl ?_
      refine am_if_lt rfl (fun c3 => ?_) (fun c3 => ?_)
      · have H := it_pos c3 H
        refine x_bipush (v := (-2 : Int32)) rfl (by decide) ?_
        have H := Option.some.inj H
        subst H
        exact u_iret rfl rfl K
      · have H := it_neg c3 H
        refine am_iload_n rfl rfl ?_
        refine x_sipush (v := (3000 : Int32)) rfl (by decide) ?_
        refine am_icmp_le rfl (fun c4 => ?_) (fun c4 => ?_)
        · have H := it_pos c4 H
          refine am_aload_n rfl rfl ?_
          refine u_getR f_8_19 rfl (Nat.le_of_ble_eq_true rfl) rfl rfl ?_
          refine am_iload_n rfl rfl ?_
          refine am_iload_n rfl rfl ?_
          obtain ⟨r5, g6, H1, H⟩ := bd2_some H
          refine cv2i v_8_88 rfl rfl (Nat.le_of_ble_eq_true rfl) rfl (Nat.le_of_ble_eq_true rfl) (fun _ _ => Nat.le_of_ble_eq_true rfl) (y_X5_add a1 a2 g _ H1 ?_)
          have H := Option.some.inj H
          subst H
          exact u_iret rfl rfl K
        · have H := it_neg c4 H
          refine x_bipush (v := (-2 : Int32)) rfl (by decide) ?_
          have H := Option.some.inj H
          subst H
          exact u_iret rfl rfl K
def f_X8_places (a1 : Int32) (a2 : Int32) (g : G) : Option (Int32 × G) := bd2 (f_X5_has a1 g) fun r1 g2 => if r1 = 0 then some (((-2 : Int32), g2)) else if a2 ≤ (4 : Int32) then bd2 (f_X5_isTeam a1 g2) fun r5 g6 => if r5 = 0 then bd2 (f_X1_met (3 : Int32) g6) fun r13 g14 => some ((r13, g14)) else if 0 ≤ a2 then bd2 (f_X5_setPlaces a1 a2 g6) fun r9 g10 => some ((a2, g10)) else bd2 (f_X1_met (5 : Int32) g6) fun r11 g12 => some ((r11, g12)) else some (((-2 : Int32), g2))
set_option maxHeartbeats 4000000 in
set_option maxRecDepth 100000 in
theorem y_X8_places (a1 : Int32) (a2 : Int32)  (g : G) (q : Int32 × G) {post : Int32 → G → Prop} (H : f_X8_places a1 a2 g = some q) (K : post q.1 q.2) : Y m_X8_places 1 [.ref 0, .int a1, .int a2] g post := by
  refine Y_of ok_X8_places pn_8 rfl (by decide) (Or.inr (Or.inl rfl)) (List.forall_mem_cons.mpr ⟨rfl, (List.forall_mem_cons.mpr ⟨rfl, (List.forall_mem_cons.mpr ⟨rfl, (fun _ h => absurd h List.not_mem_nil)⟩)⟩)⟩) (Nat.le_of_ble_eq_true rfl) ?_
  show u_V m_X8_places 1 post 0 [some (.ref 0), some (.int a1), some (.int a2)] [] g
  unfold f_X8_places at H
  refine am_aload_n rfl rfl ?_
  refine u_getR f_8_19 rfl (Nat.le_of_ble_eq_true rfl) rfl rfl ?_
  refine am_iload_n rfl rfl ?_
  obtain ⟨r1, g2, H1, H⟩ := bd2_some H
  refine cv1i v_8_92 rfl rfl (Nat.le_of_ble_eq_true rfl) rfl (Nat.le_of_ble_eq_true rfl) (fun _ _ => Nat.le_of_ble_eq_true rfl) (y_X5_has a1 g _ H1 ?_)
  refine am_if_eq rfl (fun c3 => ?_) (fun c3 => ?_)
  · have H := it_pos c3 H
    refine x_bipush (v := (-2 : Int32)) rfl (by decide) ?_
    have H := Option.some.inj H
    subst H
    exact u_iret rfl rfl K
  · have H := it_neg c3 H
    refine am_iload_n rfl rfl ?_
    refine x_iconst (v := (4 : Int32)) rfl (by decide) ?_
    refine am_icmp_le rfl (fun c4 => ?_) (fun c4 => ?_)
    · have H := it_pos c4 H
      refine am_aload_n rfl rfl ?_
      refine u_getR f_8_19 rfl (Nat.le_of_ble_eq_true rfl) rfl rfl ?_
      refine am_iload_n rfl rfl ?_
      obtain ⟨r5, g6, H1, H⟩ := bd2_some H
      refine cv1i v_8_96 rfl rfl (Nat.le_of_ble_eq_true rfl) rfl (Nat.le_of_ble_eq_true rfl) (fun _ _ => Nat.le_of_ble_eq_true rfl) (y_X5_isTeam a1 g2 _ H1 ?_)
      refine am_if_ne rfl (fun c7 => ?_) (fun c7 => ?_)
      · have H := it_neg c7 H
        refine am_iload_n rfl rfl ?_
        refine am_if_ge rfl (fun c8 => ?_) (fun c8 => ?_)
        · have H := it_pos c8 H
          refine am_aload_n rfl rfl ?_
          refine u_getR f_8_19 rfl (Nat.le_of_ble_eq_true rfl) rfl rfl ?_
          refine am_iload_n rfl rfl ?_
          refine am_iload_n rfl rfl ?_
          obtain ⟨r9, g10, H1, H⟩ := bd2_some H
          refine cv2v v_8_103 rfl rfl (Nat.le_of_ble_eq_true rfl) rfl (Nat.le_of_ble_eq_true rfl) (fun _ _ => Nat.le_of_ble_eq_true rfl) (y_X5_setPlaces a1 a2 g6 _ H1 ?_)
          refine am_iload_n rfl rfl ?_
          have H := Option.some.inj H
          subst H
          exact u_iret rfl rfl K
        · have H := it_neg c8 H
          refine am_aload_n rfl rfl ?_
          refine u_getR f_8_10 rfl (Nat.le_of_ble_eq_true rfl) rfl rfl ?_
          refine x_iconst (v := (5 : Int32)) rfl (by decide) ?_
          obtain ⟨r11, g12, H1, H⟩ := bd2_some H
          refine cv1i v_8_99 rfl rfl (Nat.le_of_ble_eq_true rfl) rfl (Nat.le_of_ble_eq_true rfl) (fun _ _ => Nat.le_of_ble_eq_true rfl) (y_X1_met (5 : Int32) g6 _ H1 ?_)
          have H := Option.some.inj H
          subst H
          exact u_iret rfl rfl K
      · have H := it_pos c7 H
        refine am_aload_n rfl rfl ?_
        refine u_getR f_8_10 rfl (Nat.le_of_ble_eq_true rfl) rfl rfl ?_
        refine x_iconst (v := (3 : Int32)) rfl (by decide) ?_
        obtain ⟨r13, g14, H1, H⟩ := bd2_some H
        refine cv1i v_8_99 rfl rfl (Nat.le_of_ble_eq_true rfl) rfl (Nat.le_of_ble_eq_true rfl) (fun _ _ => Nat.le_of_ble_eq_true rfl) (y_X1_met (3 : Int32) g6 _ H1 ?_)
        have H := Option.some.inj H
        subst H
        exact u_iret rfl rfl K
    · have H := it_neg c4 H
      refine x_bipush (v := (-2 : Int32)) rfl (by decide) ?_
      have H := Option.some.inj H
      subst H
      exact u_iret rfl rfl K
def f_X8_seat (a1 : Int32) (a2 : Int32) (a3 : Int32) (g : G) : Option (Int32 × G) := bd2 (f_X5_has a1 g) fun r1 g2 => if r1 = 0 then some (((-2 : Int32), g2)) else bd ((if a3 = (-1 : Int32) then some (.inl (g2)) else bd2 (f_X5_has a3 g2) fun r27 g28 => if r27 = 0 then some (.inr (((-2 : Int32), g28))) else some (.inl (g28)) : Option ((G) ⊕ (Int32 × G)))) fun s30m => (match s30m with | .inl s5 => (bd2 (f_X5_isTeam a1 s5) fun r6 g7 => bd ((if r6 = 0 then some (.inl (g7)) else bd ((if a3 = (-1 : Int32) then some (.inl (g7)) else bd2 (f_X5_isTeam a3 g7) fun r21 g22 => if r21 = 0 then some (.inl (g22)) else some (.inr (.inl (g22))) : Option ((G) ⊕ ((G) ⊕ (Int32 × G))))) fun s24m => (match s24m with | .inl s14 => (bd2 (f_X5_chairOf a1 a2 s14) fun r15 g16 => if 0 ≤ r15 then ck r15 96 fun j18 => wr (up2 g16 7 j18 a3) fun g19 => some (.inr (((1 : Int32), g19))) else some (.inr ((r15, g16)))) | .inr y => some y) : Option ((G) ⊕ (Int32 × G)))) fun s25m => (match s25m with | .inl s9 => (bd2 (f_X1_met (3 : Int32) s9) fun r10 g11 => some ((r10, g11))) | .inr y => some y)) | .inr y => some y)
set_option maxHeartbeats 4000000 in
set_option maxRecDepth 100000 in
theorem y_X8_seat (a1 : Int32) (a2 : Int32) (a3 : Int32)  (g : G) (q : Int32 × G) {post : Int32 → G → Prop} (H : f_X8_seat a1 a2 a3 g = some q) (K : post q.1 q.2) : Y m_X8_seat 2 [.ref 0, .int a1, .int a2, .int a3] g post := by
  refine Y_of ok_X8_seat pn_8 rfl (by decide) (Or.inr (Or.inl rfl)) (List.forall_mem_cons.mpr ⟨rfl, (List.forall_mem_cons.mpr ⟨rfl, (List.forall_mem_cons.mpr ⟨rfl, (List.forall_mem_cons.mpr ⟨rfl, (fun _ h => absurd h List.not_mem_nil)⟩)⟩)⟩)⟩) (Nat.le_of_ble_eq_true rfl) ?_
  show u_V m_X8_seat 2 post 0 [some (.ref 0), some (.int a1), some (.int a2), some (.int a3), none] [] g
  unfold f_X8_seat at H
  refine am_aload_n rfl rfl ?_
  refine u_getR f_8_19 rfl (Nat.le_of_ble_eq_true rfl) rfl rfl ?_
  refine am_iload_n rfl rfl ?_
  obtain ⟨r1, g2, H1, H⟩ := bd2_some H
  refine cv1i v_8_92 rfl rfl (Nat.le_of_ble_eq_true rfl) rfl (Nat.le_of_ble_eq_true rfl) (fun _ _ => Nat.le_of_ble_eq_true rfl) (y_X5_has a1 g _ H1 ?_)
  refine am_if_eq rfl (fun c3 => ?_) (fun c3 => ?_)
  · have H := it_pos c3 H
    refine x_bipush (v := (-2 : Int32)) rfl (by decide) ?_
    have H := Option.some.inj H
    subst H
    exact u_iret rfl rfl K
  · have H := it_neg c3 H
    refine am_iload_n rfl rfl ?_
    refine x_iconst (v := (-1 : Int32)) rfl (by decide) ?_
    obtain ⟨s30, H1, H⟩ := bd_some H
    have K : (Sum.elim (fun (s5 : G) => u_V m_X8_seat 2 post 30 [some (.ref 0), some (.int a1), some (.int a2), some (.int a3), none] [] s5) (fun (q : Int32 × G) => post q.1 q.2)) s30 := by
      clear H1
      cases s30 with
      | inl s5 =>
        obtain ⟨g4, e_g4⟩ : ∃ z, z = s5 := ⟨_, rfl⟩
        subst e_g4
        (try dsimp only at H); (try dsimp only)
        refine am_aload_n rfl rfl ?_
        refine u_getR f_8_19 rfl (Nat.le_of_ble_eq_true rfl) rfl rfl ?_
        refine am_iload_n rfl rfl ?_
        obtain ⟨r6, g7, H1, H⟩ := bd2_some H
        refine cv1i v_8_96 rfl rfl (Nat.le_of_ble_eq_true rfl) rfl (Nat.le_of_ble_eq_true rfl) (fun _ _ => Nat.le_of_ble_eq_true rfl) (y_X5_isTeam a1 g4 _ H1 ?_)
        obtain ⟨s25, H1, H⟩ := bd_some H
        have K : (Sum.elim (fun (s9 : G) => u_V m_X8_seat 2 post 57 [some (.ref 0), none, none, none, none] [] s9) (fun (q : Int32 × G) => post q.1 q.2)) s25 := by
          clear H1
          cases s25 with
          | inl s9 =>
            obtain ⟨g8, e_g8⟩ : ∃ z, z = s9 := ⟨_, rfl⟩
            subst e_g8
            (try dsimp only at H); (try dsimp only)
            refine am_aload_n rfl rfl ?_
            refine u_getR f_8_10 rfl (Nat.le_of_ble_eq_true rfl) rfl rfl ?_
            refine x_iconst (v := (3 : Int32)) rfl (by decide) ?_
            obtain ⟨r10, g11, H1, H⟩ := bd2_some H
            refine cv1i v_8_99 rfl rfl (Nat.le_of_ble_eq_true rfl) rfl (Nat.le_of_ble_eq_true rfl) (fun _ _ => Nat.le_of_ble_eq_true rfl) (y_X1_met (3 : Int32) g8 _ H1 ?_)
            have H := Option.some.inj H
            subst H
            exact u_iret rfl rfl K
          | inr y =>
            have H := Option.some.inj H
            subst H
            exact K
        have H := H1
        clear H1
        refine am_if_eq rfl (fun c12 => ?_) (fun c12 => ?_)
        · have H := it_pos c12 H
          have H := Option.some.inj H
          subst H
          exact am_drop (L' := [some (.ref 0), none, none, none, none]) (And.intro rfl trivial) K
        · have H := it_neg c12 H
          refine am_iload_n rfl rfl ?_
          refine x_iconst (v := (-1 : Int32)) rfl (by decide) ?_
          obtain ⟨s24, H1, H⟩ := bd_some H
          have K : (Sum.elim (fun (s14 : G) => u_V m_X8_seat 2 post 66 [some (.ref 0), some (.int a1), some (.int a2), some (.int a3), none] [] s14) (Sum.elim (fun (s9 : G) => u_V m_X8_seat 2 post 57 [some (.ref 0), none, none, none, none] [] s9) (fun (q : Int32 × G) => post q.1 q.2))) s24 := by
            clear H1
            cases s24 with
            | inl s14 =>
              obtain ⟨g13, e_g13⟩ : ∃ z, z = s14 := ⟨_, rfl⟩
              subst e_g13
              (try dsimp only at H); (try dsimp only)
              refine am_aload_n rfl rfl ?_
              refine u_getR f_8_19 rfl (Nat.le_of_ble_eq_true rfl) rfl rfl ?_
              refine am_iload_n rfl rfl ?_
              refine am_iload_n rfl rfl ?_
              refine am_aload_n rfl rfl ?_
              refine u_getR f_8_10 rfl (Nat.le_of_ble_eq_true rfl) rfl rfl ?_
              obtain ⟨r15, g16, H1, H⟩ := bd2_some H
              refine cv3i v_8_107 rfl rfl (Nat.le_of_ble_eq_true rfl) rfl (Nat.le_of_ble_eq_true rfl) (fun _ _ => Nat.le_of_ble_eq_true rfl) (y_X5_chairOf a1 a2 g13 _ H1 ?_)
              refine am_istore rfl (Nat.le_of_ble_eq_true rfl) ?_
              refine am_iload rfl rfl ?_
              refine am_if_ge rfl (fun c17 => ?_) (fun c17 => ?_)
              · have H := it_pos c17 H
                refine am_aload_n rfl rfl ?_
                refine u_getR f_8_19 rfl (Nat.le_of_ble_eq_true rfl) rfl rfl ?_
                refine u_getR f_8_111 rfl (Nat.le_of_ble_eq_true rfl) rfl rfl ?_
                refine am_iload rfl rfl ?_
                refine am_iload_n rfl rfl ?_
                obtain ⟨j18, ej18, hj18, H⟩ := ck_some H
                obtain ⟨g19, eg19, H⟩ := wr_some H
                refine x_iast rfl (Nat.le_of_ble_eq_true rfl) rfl hj18 ej18 eg19 ?_
                refine x_iconst (v := (1 : Int32)) rfl (by decide) ?_
                have H := Option.some.inj H
                subst H
                exact u_iret rfl rfl K
              · have H := it_neg c17 H
                refine am_iload rfl rfl ?_
                have H := Option.some.inj H
                subst H
                exact u_iret rfl rfl K
            | inr y =>
              have H := Option.some.inj H
              subst H
              exact K
          have H := H1
          clear H1
          refine am_icmp_eq rfl (fun c20 => ?_) (fun c20 => ?_)
          · have H := it_pos c20 H
            have H := Option.some.inj H
            subst H
            exact am_drop (L' := [some (.ref 0), some (.int a1), some (.int a2), some (.int a3), none]) (And.intro rfl (And.intro rfl (And.intro rfl (And.intro rfl trivial)))) K
          · have H := it_neg c20 H
            refine am_aload_n rfl rfl ?_
            refine u_getR f_8_19 rfl (Nat.le_of_ble_eq_true rfl) rfl rfl ?_
            refine am_iload_n rfl rfl ?_
            obtain ⟨r21, g22, H1, H⟩ := bd2_some H
            refine cv1i v_8_96 rfl rfl (Nat.le_of_ble_eq_true rfl) rfl (Nat.le_of_ble_eq_true rfl) (fun _ _ => Nat.le_of_ble_eq_true rfl) (y_X5_isTeam a3 g7 _ H1 ?_)
            refine am_if_eq rfl (fun c23 => ?_) (fun c23 => ?_)
            · have H := it_pos c23 H
              have H := Option.some.inj H
              subst H
              exact am_drop (L' := [some (.ref 0), some (.int a1), some (.int a2), some (.int a3), none]) (And.intro rfl (And.intro rfl (And.intro rfl (And.intro rfl trivial)))) K
            · have H := it_neg c23 H
              have H := Option.some.inj H
              subst H
              exact am_drop (L' := [some (.ref 0), none, none, none, none]) (And.intro rfl trivial) K
      | inr y =>
        have H := Option.some.inj H
        subst H
        exact K
    have H := H1
    clear H1
    refine am_icmp_eq rfl (fun c26 => ?_) (fun c26 => ?_)
    · have H := it_pos c26 H
      have H := Option.some.inj H
      subst H
      exact am_drop (L' := [some (.ref 0), some (.int a1), some (.int a2), some (.int a3), none]) (And.intro rfl (And.intro rfl (And.intro rfl (And.intro rfl trivial)))) K
    · have H := it_neg c26 H
      refine am_aload_n rfl rfl ?_
      refine u_getR f_8_19 rfl (Nat.le_of_ble_eq_true rfl) rfl rfl ?_
      refine am_iload_n rfl rfl ?_
      obtain ⟨r27, g28, H1, H⟩ := bd2_some H
      refine cv1i v_8_92 rfl rfl (Nat.le_of_ble_eq_true rfl) rfl (Nat.le_of_ble_eq_true rfl) (fun _ _ => Nat.le_of_ble_eq_true rfl) (y_X5_has a3 g2 _ H1 ?_)
      refine am_if_ne rfl (fun c29 => ?_) (fun c29 => ?_)
      · have H := it_neg c29 H
        have H := Option.some.inj H
        subst H
        exact am_drop (L' := [some (.ref 0), some (.int a1), some (.int a2), some (.int a3), none]) (And.intro rfl (And.intro rfl (And.intro rfl (And.intro rfl trivial)))) K
      · have H := it_pos c29 H
        refine x_bipush (v := (-2 : Int32)) rfl (by decide) ?_
        have H := Option.some.inj H
        subst H
        exact u_iret rfl rfl K
def f_X8_held (a1 : Int32) (a2 : Int32) (g : G) : Option (Int32 × G) := bd2 (f_X5_has a1 g) fun r1 g2 => if r1 = 0 then some (((-2 : Int32), g2)) else bd2 (f_X5_isTeam a1 g2) fun r4 g5 => if r4 = 0 then bd2 (f_X1_met (3 : Int32) g5) fun r11 g12 => some ((r11, g12)) else bd2 (f_X5_chairOf a1 a2 g5) fun r7 g8 => if 0 ≤ r7 then ck r7 96 fun j10 => some (((g8 7 j10), g8)) else some ((r7, g8))
set_option maxHeartbeats 4000000 in
set_option maxRecDepth 100000 in
theorem y_X8_held (a1 : Int32) (a2 : Int32)  (g : G) (q : Int32 × G) {post : Int32 → G → Prop} (H : f_X8_held a1 a2 g = some q) (K : post q.1 q.2) : Y m_X8_held 2 [.ref 0, .int a1, .int a2] g post := by
  refine Y_of ok_X8_held pn_8 rfl (by decide) (Or.inr (Or.inl rfl)) (List.forall_mem_cons.mpr ⟨rfl, (List.forall_mem_cons.mpr ⟨rfl, (List.forall_mem_cons.mpr ⟨rfl, (fun _ h => absurd h List.not_mem_nil)⟩)⟩)⟩) (Nat.le_of_ble_eq_true rfl) ?_
  show u_V m_X8_held 2 post 0 [some (.ref 0), some (.int a1), some (.int a2), none] [] g
  unfold f_X8_held at H
  refine am_aload_n rfl rfl ?_
  refine u_getR f_8_19 rfl (Nat.le_of_ble_eq_true rfl) rfl rfl ?_
  refine am_iload_n rfl rfl ?_
  obtain ⟨r1, g2, H1, H⟩ := bd2_some H
  refine cv1i v_8_92 rfl rfl (Nat.le_of_ble_eq_true rfl) rfl (Nat.le_of_ble_eq_true rfl) (fun _ _ => Nat.le_of_ble_eq_true rfl) (y_X5_has a1 g _ H1 ?_)
  refine am_if_ne rfl (fun c3 => ?_) (fun c3 => ?_)
  · have H := it_neg c3 H
    refine am_aload_n rfl rfl ?_
    refine u_getR f_8_19 rfl (Nat.le_of_ble_eq_true rfl) rfl rfl ?_
    refine am_iload_n rfl rfl ?_
    obtain ⟨r4, g5, H1, H⟩ := bd2_some H
    refine cv1i v_8_96 rfl rfl (Nat.le_of_ble_eq_true rfl) rfl (Nat.le_of_ble_eq_true rfl) (fun _ _ => Nat.le_of_ble_eq_true rfl) (y_X5_isTeam a1 g2 _ H1 ?_)
    refine am_if_ne rfl (fun c6 => ?_) (fun c6 => ?_)
    · have H := it_neg c6 H
      refine am_aload_n rfl rfl ?_
      refine u_getR f_8_19 rfl (Nat.le_of_ble_eq_true rfl) rfl rfl ?_
      refine am_iload_n rfl rfl ?_
      refine am_iload_n rfl rfl ?_
      refine am_aload_n rfl rfl ?_
      refine u_getR f_8_10 rfl (Nat.le_of_ble_eq_true rfl) rfl rfl ?_
      obtain ⟨r7, g8, H1, H⟩ := bd2_some H
      refine cv3i v_8_107 rfl rfl (Nat.le_of_ble_eq_true rfl) rfl (Nat.le_of_ble_eq_true rfl) (fun _ _ => Nat.le_of_ble_eq_true rfl) (y_X5_chairOf a1 a2 g5 _ H1 ?_)
      refine am_istore_n rfl (Nat.le_of_ble_eq_true rfl) ?_
      refine am_iload_n rfl rfl ?_
      refine am_if_ge rfl (fun c9 => ?_) (fun c9 => ?_)
      · have H := it_pos c9 H
        refine am_aload_n rfl rfl ?_
        refine u_getR f_8_19 rfl (Nat.le_of_ble_eq_true rfl) rfl rfl ?_
        refine u_getR f_8_111 rfl (Nat.le_of_ble_eq_true rfl) rfl rfl ?_
        refine am_iload_n rfl rfl ?_
        obtain ⟨j10, ej10, hj10, H⟩ := ck_some H
        refine x_iald rfl (Nat.le_of_ble_eq_true rfl) rfl hj10 ej10 ?_
        have H := Option.some.inj H
        subst H
        exact u_iret rfl rfl K
      · have H := it_neg c9 H
        refine am_iload_n rfl rfl ?_
        refine am_goto rfl ?_
        have H := Option.some.inj H
        subst H
        exact u_iret rfl rfl K
    · have H := it_pos c6 H
      refine am_aload_n rfl rfl ?_
      refine u_getR f_8_10 rfl (Nat.le_of_ble_eq_true rfl) rfl rfl ?_
      refine x_iconst (v := (3 : Int32)) rfl (by decide) ?_
      obtain ⟨r11, g12, H1, H⟩ := bd2_some H
      refine cv1i v_8_99 rfl rfl (Nat.le_of_ble_eq_true rfl) rfl (Nat.le_of_ble_eq_true rfl) (fun _ _ => Nat.le_of_ble_eq_true rfl) (y_X1_met (3 : Int32) g5 _ H1 ?_)
      have H := Option.some.inj H
      subst H
      exact u_iret rfl rfl K
  · have H := it_pos c3 H
    refine x_bipush (v := (-2 : Int32)) rfl (by decide) ?_
    have H := Option.some.inj H
    subst H
    exact u_iret rfl rfl K
def f_X8_askWorth (a1 : Int32) (g : G) : Option (Int32 × G) := bd2 (f_X5_has a1 g) fun r1 g2 => if r1 = 0 then some (((-2 : Int32), g2)) else bd2 (f_X5_worthFor a1 g2) fun r4 g5 => some ((r4, g5))
set_option maxHeartbeats 4000000 in
set_option maxRecDepth 100000 in
theorem y_X8_askWorth (a1 : Int32)  (g : G) (q : Int32 × G) {post : Int32 → G → Prop} (H : f_X8_askWorth a1 g = some q) (K : post q.1 q.2) : Y m_X8_askWorth 3 [.ref 0, .int a1] g post := by
  refine Y_of ok_X8_askWorth pn_8 rfl (by decide) (Or.inr (Or.inl rfl)) (List.forall_mem_cons.mpr ⟨rfl, (List.forall_mem_cons.mpr ⟨rfl, (fun _ h => absurd h List.not_mem_nil)⟩)⟩) (Nat.le_of_ble_eq_true rfl) ?_
  show u_V m_X8_askWorth 3 post 0 [some (.ref 0), some (.int a1)] [] g
  unfold f_X8_askWorth at H
  refine am_aload_n rfl rfl ?_
  refine u_getR f_8_19 rfl (Nat.le_of_ble_eq_true rfl) rfl rfl ?_
  refine am_iload_n rfl rfl ?_
  obtain ⟨r1, g2, H1, H⟩ := bd2_some H
  refine cv1i v_8_92 rfl rfl (Nat.le_of_ble_eq_true rfl) rfl (Nat.le_of_ble_eq_true rfl) (fun _ _ => Nat.le_of_ble_eq_true rfl) (y_X5_has a1 g _ H1 ?_)
  refine am_if_eq rfl (fun c3 => ?_) (fun c3 => ?_)
  · have H := it_pos c3 H
    refine x_bipush (v := (-2 : Int32)) rfl (by decide) ?_
    have H := Option.some.inj H
    subst H
    exact u_iret rfl rfl K
  · have H := it_neg c3 H
    refine am_aload_n rfl rfl ?_
    refine u_getR f_8_19 rfl (Nat.le_of_ble_eq_true rfl) rfl rfl ?_
    refine am_iload_n rfl rfl ?_
    refine am_aload_n rfl rfl ?_
    refine u_getR f_8_10 rfl (Nat.le_of_ble_eq_true rfl) rfl rfl ?_
    obtain ⟨r4, g5, H1, H⟩ := bd2_some H
    refine cv2i v_8_130 rfl rfl (Nat.le_of_ble_eq_true rfl) rfl (Nat.le_of_ble_eq_true rfl) (fun _ _ => Nat.le_of_ble_eq_true rfl) (y_X5_worthFor a1 g2 _ H1 ?_)
    refine am_goto rfl ?_
    have H := Option.some.inj H
    subst H
    exact u_iret rfl rfl K
def f_X8_worth (a1 : Int32) (g : G) : Option (Int32 × G) := bd2 (f_X1_clear  g) fun r1 g2 => bd2 (f_X8_askWorth a1 g2) fun r3 g4 => some ((r3, g4))
set_option maxHeartbeats 4000000 in
set_option maxRecDepth 100000 in
theorem y_X8_worth (a1 : Int32)  (g : G) (q : Int32 × G) {post : Int32 → G → Prop} (H : f_X8_worth a1 g = some q) (K : post q.1 q.2) : Y m_X8_worth 4 [.ref 0, .int a1] g post := by
  refine Y_of ok_X8_worth pn_8 rfl (by decide) (Or.inr (Or.inl rfl)) (List.forall_mem_cons.mpr ⟨rfl, (List.forall_mem_cons.mpr ⟨rfl, (fun _ h => absurd h List.not_mem_nil)⟩)⟩) (Nat.le_of_ble_eq_true rfl) ?_
  show u_V m_X8_worth 4 post 0 [some (.ref 0), some (.int a1)] [] g
  unfold f_X8_worth at H
  refine am_aload_n rfl rfl ?_
  refine u_getR f_8_10 rfl (Nat.le_of_ble_eq_true rfl) rfl rfl ?_
  obtain ⟨r1, g2, H1, H⟩ := bd2_some H
  refine cv0v v_8_114 rfl rfl (Nat.le_of_ble_eq_true rfl) rfl (Nat.le_of_ble_eq_true rfl) (fun _ _ => Nat.le_of_ble_eq_true rfl) (y_X1_clear  g _ H1 ?_)
  refine am_aload_n rfl rfl ?_
  refine am_iload_n rfl rfl ?_
  obtain ⟨r3, g4, H1, H⟩ := bd2_some H
  refine cv1i v_8_117 rfl rfl (Nat.le_of_ble_eq_true rfl) rfl (Nat.le_of_ble_eq_true rfl) (fun _ _ => Nat.le_of_ble_eq_true rfl) (y_X8_askWorth a1 g2 _ H1 ?_)
  have H := Option.some.inj H
  subst H
  exact u_iret rfl rfl K
def f_X8_stepOf (a1 : Int32) (g : G) : Option (Int32 × G) := bd2 (f_X1_clear  g) fun r1 g2 => bd2 (f_X5_has a1 g2) fun r3 g4 => if r3 = 0 then some (((-2 : Int32), g4)) else bd2 (f_X5_stepFor a1 g4) fun r6 g7 => some ((r6, g7))
set_option maxHeartbeats 4000000 in
set_option maxRecDepth 100000 in
theorem y_X8_stepOf (a1 : Int32)  (g : G) (q : Int32 × G) {post : Int32 → G → Prop} (H : f_X8_stepOf a1 g = some q) (K : post q.1 q.2) : Y m_X8_stepOf 2 [.ref 0, .int a1] g post := by
  refine Y_of ok_X8_stepOf pn_8 rfl (by decide) (Or.inr (Or.inl rfl)) (List.forall_mem_cons.mpr ⟨rfl, (List.forall_mem_cons.mpr ⟨rfl, (fun _ h => absurd h List.not_mem_nil)⟩)⟩) (Nat.le_of_ble_eq_true rfl) ?_
  show u_V m_X8_stepOf 2 post 0 [some (.ref 0), some (.int a1)] [] g
  unfold f_X8_stepOf at H
  refine am_aload_n rfl rfl ?_
  refine u_getR f_8_10 rfl (Nat.le_of_ble_eq_true rfl) rfl rfl ?_
  obtain ⟨r1, g2, H1, H⟩ := bd2_some H
  refine cv0v v_8_114 rfl rfl (Nat.le_of_ble_eq_true rfl) rfl (Nat.le_of_ble_eq_true rfl) (fun _ _ => Nat.le_of_ble_eq_true rfl) (y_X1_clear  g _ H1 ?_)
  refine am_aload_n rfl rfl ?_
  refine u_getR f_8_19 rfl (Nat.le_of_ble_eq_true rfl) rfl rfl ?_
  refine am_iload_n rfl rfl ?_
  obtain ⟨r3, g4, H1, H⟩ := bd2_some H
  refine cv1i v_8_92 rfl rfl (Nat.le_of_ble_eq_true rfl) rfl (Nat.le_of_ble_eq_true rfl) (fun _ _ => Nat.le_of_ble_eq_true rfl) (y_X5_has a1 g2 _ H1 ?_)
  refine am_if_eq rfl (fun c5 => ?_) (fun c5 => ?_)
  · have H := it_pos c5 H
    refine x_bipush (v := (-2 : Int32)) rfl (by decide) ?_
    have H := Option.some.inj H
    subst H
    exact u_iret rfl rfl K
  · have H := it_neg c5 H
    refine am_aload_n rfl rfl ?_
    refine u_getR f_8_19 rfl (Nat.le_of_ble_eq_true rfl) rfl rfl ?_
    refine am_iload_n rfl rfl ?_
    refine am_aload_n rfl rfl ?_
    refine u_getR f_8_10 rfl (Nat.le_of_ble_eq_true rfl) rfl rfl ?_
    obtain ⟨r6, g7, H1, H⟩ := bd2_some H
    refine cv2i v_8_120 rfl rfl (Nat.le_of_ble_eq_true rfl) rfl (Nat.le_of_ble_eq_true rfl) (fun _ _ => Nat.le_of_ble_eq_true rfl) (y_X5_stepFor a1 g4 _ H1 ?_)
    refine am_goto rfl ?_
    have H := Option.some.inj H
    subst H
    exact u_iret rfl rfl K
def f_X8_trace (a1 : Int32) (g : G) : Option (Int32 × G) := if a1 < 0 then some (((-1 : Int32), g)) else if (g 1 1) ≤ a1 then some (((-1 : Int32), g)) else ck a1 200 fun j3 => some (((g 2 j3), g))
set_option maxHeartbeats 4000000 in
set_option maxRecDepth 100000 in
theorem y_X8_trace (a1 : Int32)  (g : G) (q : Int32 × G) {post : Int32 → G → Prop} (H : f_X8_trace a1 g = some q) (K : post q.1 q.2) : Y m_X8_trace 0 [.ref 0, .int a1] g post := by
  refine Y_of ok_X8_trace pn_8 rfl (by decide) (Or.inr (Or.inl rfl)) (List.forall_mem_cons.mpr ⟨rfl, (List.forall_mem_cons.mpr ⟨rfl, (fun _ h => absurd h List.not_mem_nil)⟩)⟩) (Nat.le_of_ble_eq_true rfl) ?_
  show u_V m_X8_trace 0 post 0 [some (.ref 0), some (.int a1)] [] g
  unfold f_X8_trace at H
  refine am_iload_n rfl rfl ?_
  refine am_if_lt rfl (fun c1 => ?_) (fun c1 => ?_)
  · have H := it_pos c1 H
    refine x_iconst (v := (-1 : Int32)) rfl (by decide) ?_
    have H := Option.some.inj H
    subst H
    exact u_iret rfl rfl K
  · have H := it_neg c1 H
    refine am_iload_n rfl rfl ?_
    refine am_aload_n rfl rfl ?_
    refine u_getR f_8_10 rfl (Nat.le_of_ble_eq_true rfl) rfl rfl ?_
    refine u_getI f_8_124 rfl (Nat.le_of_ble_eq_true rfl) rfl rfl ?_
    refine am_icmp_ge rfl (fun c2 => ?_) (fun c2 => ?_)
    · have H := it_pos c2 H
      refine x_iconst (v := (-1 : Int32)) rfl (by decide) ?_
      have H := Option.some.inj H
      subst H
      exact u_iret rfl rfl K
    · have H := it_neg c2 H
      refine am_aload_n rfl rfl ?_
      refine u_getR f_8_10 rfl (Nat.le_of_ble_eq_true rfl) rfl rfl ?_
      refine u_getR f_8_127 rfl (Nat.le_of_ble_eq_true rfl) rfl rfl ?_
      refine am_iload_n rfl rfl ?_
      obtain ⟨j3, ej3, hj3, H⟩ := ck_some H
      refine x_iald rfl (Nat.le_of_ble_eq_true rfl) rfl hj3 ej3 ?_
      refine am_goto rfl ?_
      have H := Option.some.inj H
      subst H
      exact u_iret rfl rfl K
def f_X8_openNext  (g : G) : Option (Int32 × G) := wr (up2 g 0 14 ((g 0 14) + (1 : Int32))) fun g1 => ck (g1 0 12) 4 fun j2 => wr (47 + 28 * j2) fun t3 => wr (up2 g1 t3 0 (g1 0 14)) fun g4 => wr (up2 g4 0 12 ((g4 0 12) + (1 : Int32))) fun g5 => some ((((g5 0 12) - (1 : Int32)), g5))
set_option maxHeartbeats 4000000 in
set_option maxRecDepth 100000 in
theorem y_X8_openNext   (g : G) (q : Int32 × G) {post : Int32 → G → Prop} (H : f_X8_openNext  g = some q) (K : post q.1 q.2) : Y m_X8_openNext 0 [.ref 0] g post := by
  refine Y_of ok_X8_openNext pn_8 rfl (by decide) (Or.inr (Or.inl rfl)) (List.forall_mem_cons.mpr ⟨rfl, (fun _ h => absurd h List.not_mem_nil)⟩) (Nat.le_of_ble_eq_true rfl) ?_
  show u_V m_X8_openNext 0 post 0 [some (.ref 0)] [] g
  unfold f_X8_openNext at H
  refine am_aload_n rfl rfl ?_
  refine am_dup rfl rfl ?_
  refine u_getI f_8_84 rfl (Nat.le_of_ble_eq_true rfl) rfl rfl ?_
  refine x_iconst (v := (1 : Int32)) rfl (by decide) ?_
  refine am_iadd rfl ?_
  obtain ⟨g1, eg1, H⟩ := wr_some H
  refine x_putI f_8_84 rfl rfl (Nat.le_of_ble_eq_true rfl) rfl rfl (fun _ _ => ⟨rfl, rfl⟩) eg1 ?_
  refine am_aload_n rfl rfl ?_
  refine u_getR f_8_28 rfl (Nat.le_of_ble_eq_true rfl) rfl rfl ?_
  refine am_aload_n rfl rfl ?_
  refine u_getI f_8_78 rfl (Nat.le_of_ble_eq_true rfl) rfl rfl ?_
  obtain ⟨j2, ej2, hj2, H⟩ := ck_some H
  obtain ⟨t3, et3, H⟩ := wr_some H
  have ht3 : isT t3 := isT_l (vp_lt hj2 ej2) et3
  refine x_aald rfl (Nat.le_of_ble_eq_true rfl) rfl hj2 ej2 (r := t3) (by rw [et3]; exact if_pos (vp_lt hj2 ej2)) ?_
  refine am_aload_n rfl rfl ?_
  refine u_getI f_8_84 rfl (Nat.le_of_ble_eq_true rfl) rfl rfl ?_
  obtain ⟨g4, eg4, H⟩ := wr_some H
  refine x_putI f_8_197 rfl rfl (isT_lt0 ht3) (sk_T ht3) rfl (fun _ _ => ⟨rfl, rfl⟩) eg4 ?_
  refine am_aload_n rfl rfl ?_
  refine am_dup rfl rfl ?_
  refine u_getI f_8_78 rfl (Nat.le_of_ble_eq_true rfl) rfl rfl ?_
  refine x_iconst (v := (1 : Int32)) rfl (by decide) ?_
  refine am_iadd rfl ?_
  obtain ⟨g5, eg5, H⟩ := wr_some H
  refine x_putI f_8_78 rfl rfl (Nat.le_of_ble_eq_true rfl) rfl rfl (fun _ _ => ⟨rfl, rfl⟩) eg5 ?_
  refine am_aload_n rfl rfl ?_
  refine u_getI f_8_78 rfl (Nat.le_of_ble_eq_true rfl) rfl rfl ?_
  refine x_iconst (v := (1 : Int32)) rfl (by decide) ?_
  refine am_isub rfl ?_
  have H := Option.some.inj H
  subst H
  exact u_iret rfl rfl K
def f_X8_tournament  (g : G) : Option (Int32 × G) := if (g 0 12) < (4 : Int32) then ck (g 0 12) 4 fun j2 => wr (47 + 28 * j2) fun t3 => bd2 (f_X7_clear t3 g) fun r4 g5 => bd2 (f_X8_openNext  g5) fun r6 g7 => some ((r6, g7)) else some (((-4 : Int32), g))
set_option maxHeartbeats 4000000 in
set_option maxRecDepth 100000 in
theorem y_X8_tournament   (g : G) (q : Int32 × G) {post : Int32 → G → Prop} (H : f_X8_tournament  g = some q) (K : post q.1 q.2) : Y m_X8_tournament 2 [.ref 0] g post := by
  refine Y_of ok_X8_tournament pn_8 rfl (by decide) (Or.inr (Or.inl rfl)) (List.forall_mem_cons.mpr ⟨rfl, (fun _ h => absurd h List.not_mem_nil)⟩) (Nat.le_of_ble_eq_true rfl) ?_
  show u_V m_X8_tournament 2 post 0 [some (.ref 0)] [] g
  unfold f_X8_tournament at H
  refine am_aload_n rfl rfl ?_
  refine u_getI f_8_78 rfl (Nat.le_of_ble_eq_true rfl) rfl rfl ?_
  refine x_iconst (v := (4 : Int32)) rfl (by decide) ?_
  refine am_icmp_lt rfl (fun c1 => ?_) (fun c1 => ?_)
  · have H := it_pos c1 H
    refine am_aload_n rfl rfl ?_
    refine u_getR f_8_28 rfl (Nat.le_of_ble_eq_true rfl) rfl rfl ?_
    refine am_aload_n rfl rfl ?_
    refine u_getI f_8_78 rfl (Nat.le_of_ble_eq_true rfl) rfl rfl ?_
    obtain ⟨j2, ej2, hj2, H⟩ := ck_some H
    obtain ⟨t3, et3, H⟩ := wr_some H
    have ht3 : isT t3 := isT_l (vp_lt hj2 ej2) et3
    refine x_aald rfl (Nat.le_of_ble_eq_true rfl) rfl hj2 ej2 (r := t3) (by rw [et3]; exact if_pos (vp_lt hj2 ej2)) ?_
    obtain ⟨r4, g5, H1, H⟩ := bd2_some H
    refine cv0v v_8_133 rfl rfl (isT_lt0 ht3) (sk_T ht3) (Nat.le_of_ble_eq_true rfl) (fun _ _ => Nat.le_of_ble_eq_true rfl) (y_X7_clear t3 ht3 g _ H1 ?_)
    refine am_aload_n rfl rfl ?_
    obtain ⟨r6, g7, H1, H⟩ := bd2_some H
    refine cv0i v_8_134 rfl rfl (Nat.le_of_ble_eq_true rfl) rfl (Nat.le_of_ble_eq_true rfl) (fun _ _ => Nat.le_of_ble_eq_true rfl) (y_X8_openNext  g5 _ H1 ?_)
    have H := Option.some.inj H
    subst H
    exact u_iret rfl rfl K
  · have H := it_neg c1 H
    refine x_bipush (v := (-4 : Int32)) rfl (by decide) ?_
    have H := Option.some.inj H
    subst H
    exact u_iret rfl rfl K
def f_X8_isTournament (a1 : Int32) (g : G) : Option (Int32 × G) := if a1 < 0 then some (((0 : Int32), g)) else if (g 0 12) ≤ a1 then some (((0 : Int32), g)) else some (((1 : Int32), g))
set_option maxHeartbeats 4000000 in
set_option maxRecDepth 100000 in
theorem y_X8_isTournament (a1 : Int32)  (g : G) (q : Int32 × G) {post : Int32 → G → Prop} (H : f_X8_isTournament a1 g = some q) (K : post q.1 q.2) : Y m_X8_isTournament 0 [.ref 0, .int a1] g post := by
  refine Y_of ok_X8_isTournament pn_8 rfl (by decide) (Or.inr (Or.inr rfl)) (List.forall_mem_cons.mpr ⟨rfl, (List.forall_mem_cons.mpr ⟨rfl, (fun _ h => absurd h List.not_mem_nil)⟩)⟩) (Nat.le_of_ble_eq_true rfl) ?_
  show u_V m_X8_isTournament 0 post 0 [some (.ref 0), some (.int a1)] [] g
  unfold f_X8_isTournament at H
  refine am_iload_n rfl rfl ?_
  refine am_if_lt rfl (fun c1 => ?_) (fun c1 => ?_)
  · have H := it_pos c1 H
    refine x_iconst (v := (0 : Int32)) rfl (by decide) ?_
    have H := Option.some.inj H
    subst H
    exact u_zret rfl rfl (Or.inl rfl) K
  · have H := it_neg c1 H
    refine am_iload_n rfl rfl ?_
    refine am_aload_n rfl rfl ?_
    refine u_getI f_8_78 rfl (Nat.le_of_ble_eq_true rfl) rfl rfl ?_
    refine am_icmp_ge rfl (fun c2 => ?_) (fun c2 => ?_)
    · have H := it_pos c2 H
      refine x_iconst (v := (0 : Int32)) rfl (by decide) ?_
      have H := Option.some.inj H
      subst H
      exact u_zret rfl rfl (Or.inl rfl) K
    · have H := it_neg c2 H
      refine x_iconst (v := (1 : Int32)) rfl (by decide) ?_
      refine am_goto rfl ?_
      have H := Option.some.inj H
      subst H
      exact u_zret rfl rfl (Or.inr rfl) K
def f_X8_enter (a1 : Int32) (a2 : Int32) (g : G) : Option (Int32 × G) := bd2 (f_X8_isTournament a1 g) fun r1 g2 => if r1 = 0 then some (((-2 : Int32), g2)) else bd2 (f_X5_has a2 g2) fun r4 g5 => if r4 = 0 then some (((-2 : Int32), g5)) else ck a1 4 fun j7 => wr (47 + 28 * j7) fun t8 => bd2 (f_X7_hasIn t8 a2 g5) fun r9 g10 => if r9 = 0 then if (g10 t8 2) ≤ 0 then if (g10 t8 1) < (10 : Int32) then bd2 (f_X5_isRated a2 g10) fun r14 g15 => if r14 = 0 then bd2 (f_X1_met (3 : Int32) g15) fun r19 g20 => some ((r19, g20)) else bd2 (f_X7_letIn t8 a2 g15) fun r17 g18 => some ((r17, g18)) else some (((-4 : Int32), g10)) else some (((-3 : Int32), g10)) else some (((-3 : Int32), g10))
set_option maxHeartbeats 4000000 in
set_option maxRecDepth 100000 in
theorem y_X8_enter (a1 : Int32) (a2 : Int32)  (g : G) (q : Int32 × G) {post : Int32 → G → Prop} (H : f_X8_enter a1 a2 g = some q) (K : post q.1 q.2) : Y m_X8_enter 1 [.ref 0, .int a1, .int a2] g post := by
  refine Y_of ok_X8_enter pn_8 rfl (by decide) (Or.inr (Or.inl rfl)) (List.forall_mem_cons.mpr ⟨rfl, (List.forall_mem_cons.mpr ⟨rfl, (List.forall_mem_cons.mpr ⟨rfl, (fun _ h => absurd h List.not_mem_nil)⟩)⟩)⟩) (Nat.le_of_ble_eq_true rfl) ?_
  show u_V m_X8_enter 1 post 0 [some (.ref 0), some (.int a1), some (.int a2), none] [] g
  unfold f_X8_enter at H
  refine am_aload_n rfl rfl ?_
  refine am_iload_n rfl rfl ?_
  obtain ⟨r1, g2, H1, H⟩ := bd2_some H
  refine cv1i v_8_138 rfl rfl (Nat.le_of_ble_eq_true rfl) rfl (Nat.le_of_ble_eq_true rfl) (fun _ _ => Nat.le_of_ble_eq_true rfl) (y_X8_isTournament a1 g _ H1 ?_)
  refine am_if_eq rfl (fun c3 => ?_) (fun c3 => ?_)
  · have H := it_pos c3 H
    refine x_bipush (v := (-2 : Int32)) rfl (by decide) ?_
    have H := Option.some.inj H
    subst H
    exact u_iret rfl rfl K
  · have H := it_neg c3 H
    refine am_aload_n rfl rfl ?_
    refine u_getR f_8_19 rfl (Nat.le_of_ble_eq_true rfl) rfl rfl ?_
    refine am_iload_n rfl rfl ?_
    obtain ⟨r4, g5, H1, H⟩ := bd2_some H
    refine cv1i v_8_92 rfl rfl (Nat.le_of_ble_eq_true rfl) rfl (Nat.le_of_ble_eq_true rfl) (fun _ _ => Nat.le_of_ble_eq_true rfl) (y_X5_has a2 g2 _ H1 ?_)
    refine am_if_ne rfl (fun c6 => ?_) (fun c6 => ?_)
    · have H := it_neg c6 H
      refine am_aload_n rfl rfl ?_
      refine u_getR f_8_28 rfl (Nat.le_of_ble_eq_true rfl) rfl rfl ?_
      refine am_iload_n rfl rfl ?_
      obtain ⟨j7, ej7, hj7, H⟩ := ck_some H
      obtain ⟨t8, et8, H⟩ := wr_some H
      have ht8 : isT t8 := isT_l (vp_lt hj7 ej7) et8
      refine x_aald rfl (Nat.le_of_ble_eq_true rfl) rfl hj7 ej7 (r := t8) (by rw [et8]; exact if_pos (vp_lt hj7 ej7)) ?_
      refine am_astore_n rfl (Nat.le_of_ble_eq_true rfl) ?_
      refine am_aload_n rfl rfl ?_
      refine am_iload_n rfl rfl ?_
      obtain ⟨r9, g10, H1, H⟩ := bd2_some H
      refine cv1i v_8_141 rfl rfl (isT_lt0 ht8) (sk_T ht8) (Nat.le_of_ble_eq_true rfl) (fun _ _ => Nat.le_of_ble_eq_true rfl) (y_X7_hasIn t8 a2 ht8 g5 _ H1 ?_)
      refine am_if_ne rfl (fun c11 => ?_) (fun c11 => ?_)
      · have H := it_neg c11 H
        refine x_bipush (v := (-3 : Int32)) rfl (by decide) ?_
        have H := Option.some.inj H
        subst H
        exact u_iret rfl rfl K
      · have H := it_pos c11 H
        refine am_aload_n rfl rfl ?_
        refine u_getI f_8_144 rfl (isT_lt0 ht8) (sk_T ht8) rfl ?_
        refine am_if_le rfl (fun c12 => ?_) (fun c12 => ?_)
        · have H := it_pos c12 H
          refine am_aload_n rfl rfl ?_
          refine u_getI f_8_147 rfl (isT_lt0 ht8) (sk_T ht8) rfl ?_
          refine x_bipush (v := (10 : Int32)) rfl (by decide) ?_
          refine am_icmp_lt rfl (fun c13 => ?_) (fun c13 => ?_)
          · have H := it_pos c13 H
            refine am_aload_n rfl rfl ?_
            refine u_getR f_8_19 rfl (Nat.le_of_ble_eq_true rfl) rfl rfl ?_
            refine am_iload_n rfl rfl ?_
            obtain ⟨r14, g15, H1, H⟩ := bd2_some H
            refine cv1i v_8_150 rfl rfl (Nat.le_of_ble_eq_true rfl) rfl (Nat.le_of_ble_eq_true rfl) (fun _ _ => Nat.le_of_ble_eq_true rfl) (y_X5_isRated a2 g10 _ H1 ?_)
            refine am_if_ne rfl (fun c16 => ?_) (fun c16 => ?_)
            · have H := it_neg c16 H
              refine am_aload_n rfl rfl ?_
              refine am_iload_n rfl rfl ?_
              obtain ⟨r17, g18, H1, H⟩ := bd2_some H
              refine cv1i v_8_153 rfl rfl (isT_lt0 ht8) (sk_T ht8) (Nat.le_of_ble_eq_true rfl) (fun _ _ => Nat.le_of_ble_eq_true rfl) (y_X7_letIn t8 a2 ht8 g15 _ H1 ?_)
              have H := Option.some.inj H
              subst H
              exact u_iret rfl rfl K
            · have H := it_pos c16 H
              refine am_aload_n rfl rfl ?_
              refine u_getR f_8_10 rfl (Nat.le_of_ble_eq_true rfl) rfl rfl ?_
              refine x_iconst (v := (3 : Int32)) rfl (by decide) ?_
              obtain ⟨r19, g20, H1, H⟩ := bd2_some H
              refine cv1i v_8_99 rfl rfl (Nat.le_of_ble_eq_true rfl) rfl (Nat.le_of_ble_eq_true rfl) (fun _ _ => Nat.le_of_ble_eq_true rfl) (y_X1_met (3 : Int32) g15 _ H1 ?_)
              have H := Option.some.inj H
              subst H
              exact u_iret rfl rfl K
          · have H := it_neg c13 H
            refine x_bipush (v := (-4 : Int32)) rfl (by decide) ?_
            have H := Option.some.inj H
            subst H
            exact u_iret rfl rfl K
        · have H := it_neg c12 H
          refine x_bipush (v := (-3 : Int32)) rfl (by decide) ?_
          have H := Option.some.inj H
          subst H
          exact u_iret rfl rfl K
    · have H := it_pos c6 H
      refine x_bipush (v := (-2 : Int32)) rfl (by decide) ?_
      have H := Option.some.inj H
      subst H
      exact u_iret rfl rfl K
def f_X8_withdraw (a1 : Int32) (a2 : Int32) (g : G) : Option (Int32 × G) := bd2 (f_X8_isTournament a1 g) fun r1 g2 => if r1 = 0 then some (((-2 : Int32), g2)) else bd2 (f_X5_has a2 g2) fun r4 g5 => if r4 = 0 then some (((-2 : Int32), g5)) else ck a1 4 fun j7 => wr (47 + 28 * j7) fun t8 => ck a2 24 fun j9 => if (g5 (t8 + 2) j9) = (1 : Int32) then ck a2 24 fun j11 => wr (up2 g5 (t8 + 2) j11 (2 : Int32)) fun g12 => some (((1 : Int32), g12)) else some (((-3 : Int32), g5))
set_option maxHeartbeats 4000000 in
set_option maxRecDepth 100000 in
theorem y_X8_withdraw (a1 : Int32) (a2 : Int32)  (g : G) (q : Int32 × G) {post : Int32 → G → Prop} (H : f_X8_withdraw a1 a2 g = some q) (K : post q.1 q.2) : Y m_X8_withdraw 1 [.ref 0, .int a1, .int a2] g post := by
  refine Y_of ok_X8_withdraw pn_8 rfl (by decide) (Or.inr (Or.inl rfl)) (List.forall_mem_cons.mpr ⟨rfl, (List.forall_mem_cons.mpr ⟨rfl, (List.forall_mem_cons.mpr ⟨rfl, (fun _ h => absurd h List.not_mem_nil)⟩)⟩)⟩) (Nat.le_of_ble_eq_true rfl) ?_
  show u_V m_X8_withdraw 1 post 0 [some (.ref 0), some (.int a1), some (.int a2), none] [] g
  unfold f_X8_withdraw at H
  refine am_aload_n rfl rfl ?_
  refine am_iload_n rfl rfl ?_
  obtain ⟨r1, g2, H1, H⟩ := bd2_some H
  refine cv1i v_8_138 rfl rfl (Nat.le_of_ble_eq_true rfl) rfl (Nat.le_of_ble_eq_true rfl) (fun _ _ => Nat.le_of_ble_eq_true rfl) (y_X8_isTournament a1 g _ H1 ?_)
  refine am_if_eq rfl (fun c3 => ?_) (fun c3 => ?_)
  · have H := it_pos c3 H
    refine x_bipush (v := (-2 : Int32)) rfl (by decide) ?_
    have H := Option.some.inj H
    subst H
    exact u_iret rfl rfl K
  · have H := it_neg c3 H
    refine am_aload_n rfl rfl ?_
    refine u_getR f_8_19 rfl (Nat.le_of_ble_eq_true rfl) rfl rfl ?_
    refine am_iload_n rfl rfl ?_
    obtain ⟨r4, g5, H1, H⟩ := bd2_some H
    refine cv1i v_8_92 rfl rfl (Nat.le_of_ble_eq_true rfl) rfl (Nat.le_of_ble_eq_true rfl) (fun _ _ => Nat.le_of_ble_eq_true rfl) (y_X5_has a2 g2 _ H1 ?_)
    refine am_if_ne rfl (fun c6 => ?_) (fun c6 => ?_)
    · have H := it_neg c6 H
      refine am_aload_n rfl rfl ?_
      refine u_getR f_8_28 rfl (Nat.le_of_ble_eq_true rfl) rfl rfl ?_
      refine am_iload_n rfl rfl ?_
      obtain ⟨j7, ej7, hj7, H⟩ := ck_some H
      obtain ⟨t8, et8, H⟩ := wr_some H
      have ht8 : isT t8 := isT_l (vp_lt hj7 ej7) et8
      refine x_aald rfl (Nat.le_of_ble_eq_true rfl) rfl hj7 ej7 (r := t8) (by rw [et8]; exact if_pos (vp_lt hj7 ej7)) ?_
      refine am_astore_n rfl (Nat.le_of_ble_eq_true rfl) ?_
      refine am_aload_n rfl rfl ?_
      refine u_getR f_8_156 rfl (isT_lt0 ht8) (sk_T ht8) rfl ?_
      refine am_iload_n rfl rfl ?_
      obtain ⟨j9, ej9, hj9, H⟩ := ck_some H
      refine x_iald rfl (isT_lt ht8 (Nat.le_of_ble_eq_true rfl)) (sk_A ht8 (Nat.le_of_ble_eq_true rfl) (Nat.le_of_ble_eq_true rfl)) hj9 ej9 ?_
      refine x_iconst (v := (1 : Int32)) rfl (by decide) ?_
      refine am_icmp_eq rfl (fun c10 => ?_) (fun c10 => ?_)
      · have H := it_pos c10 H
        refine am_aload_n rfl rfl ?_
        refine u_getR f_8_156 rfl (isT_lt0 ht8) (sk_T ht8) rfl ?_
        refine am_iload_n rfl rfl ?_
        refine x_iconst (v := (2 : Int32)) rfl (by decide) ?_
        obtain ⟨j11, ej11, hj11, H⟩ := ck_some H
        obtain ⟨g12, eg12, H⟩ := wr_some H
        refine x_iast rfl (isT_lt ht8 (Nat.le_of_ble_eq_true rfl)) (sk_A ht8 (Nat.le_of_ble_eq_true rfl) (Nat.le_of_ble_eq_true rfl)) hj11 ej11 eg12 ?_
        refine x_iconst (v := (1 : Int32)) rfl (by decide) ?_
        have H := Option.some.inj H
        subst H
        exact u_iret rfl rfl K
      · have H := it_neg c10 H
        refine x_bipush (v := (-3 : Int32)) rfl (by decide) ?_
        have H := Option.some.inj H
        subst H
        exact u_iret rfl rfl K
    · have H := it_pos c6 H
      refine x_bipush (v := (-2 : Int32)) rfl (by decide) ?_
      have H := Option.some.inj H
      subst H
      exact u_iret rfl rfl K
def f_X8_rule (a1 : Int32) (a2 : Int32) (a3 : Int32) (g : G) : Option (Int32 × G) := bd2 (f_X8_isTournament a1 g) fun r1 g2 => if r1 = 0 then some (((-2 : Int32), g2)) else if a2 < (1 : Int32) then some (((-2 : Int32), g2)) else if (4 : Int32) < a2 then some (((-2 : Int32), g2)) else if a3 < 0 then some (((-2 : Int32), g2)) else if a3 ≤ (5 : Int32) then ck a1 4 fun j8 => wr (47 + 28 * j8) fun t9 => ck a2 5 fun j10 => ck a2 5 fun j11 => wr (up2 g2 (t9 + 3) j11 a3) fun g12 => some (((g2 (t9 + 3) j10), g12)) else some (((-2 : Int32), g2))
set_option maxHeartbeats 4000000 in
set_option maxRecDepth 100000 in
theorem y_X8_rule (a1 : Int32) (a2 : Int32) (a3 : Int32)  (g : G) (q : Int32 × G) {post : Int32 → G → Prop} (H : f_X8_rule a1 a2 a3 g = some q) (K : post q.1 q.2) : Y m_X8_rule 1 [.ref 0, .int a1, .int a2, .int a3] g post := by
  refine Y_of ok_X8_rule pn_8 rfl (by decide) (Or.inr (Or.inl rfl)) (List.forall_mem_cons.mpr ⟨rfl, (List.forall_mem_cons.mpr ⟨rfl, (List.forall_mem_cons.mpr ⟨rfl, (List.forall_mem_cons.mpr ⟨rfl, (fun _ h => absurd h List.not_mem_nil)⟩)⟩)⟩)⟩) (Nat.le_of_ble_eq_true rfl) ?_
  show u_V m_X8_rule 1 post 0 [some (.ref 0), some (.int a1), some (.int a2), some (.int a3), none, none] [] g
  unfold f_X8_rule at H
  refine am_aload_n rfl rfl ?_
  refine am_iload_n rfl rfl ?_
  obtain ⟨r1, g2, H1, H⟩ := bd2_some H
  refine cv1i v_8_138 rfl rfl (Nat.le_of_ble_eq_true rfl) rfl (Nat.le_of_ble_eq_true rfl) (fun _ _ => Nat.le_of_ble_eq_true rfl) (y_X8_isTournament a1 g _ H1 ?_)
  refine am_if_eq rfl (fun c3 => ?_) (fun c3 => ?_)
  · have H := it_pos c3 H
    refine x_bipush (v := (-2 : Int32)) rfl (by decide) ?_
    have H := Option.some.inj H
    subst H
    exact u_iret rfl rfl K
  · have H := it_neg c3 H
    refine am_iload_n rfl rfl ?_
    refine x_iconst (v := (1 : Int32)) rfl (by decide) ?_
    refine am_icmp_lt rfl (fun c4 => ?_) (fun c4 => ?_)
    · have H := it_pos c4 H
      refine x_bipush (v := (-2 : Int32)) rfl (by decide) ?_
      have H := Option.some.inj H
      subst H
      exact u_iret rfl rfl K
    · have H := it_neg c4 H
      refine am_iload_n rfl rfl ?_
      refine x_iconst (v := (4 : Int32)) rfl (by decide) ?_
      refine am_icmp_gt rfl (fun c5 => ?_) (fun c5 => ?_)
      · have H := it_pos c5 H
        refine x_bipush (v := (-2 : Int32)) rfl (by decide) ?_
        have H := Option.some.inj H
        subst H
        exact u_iret rfl rfl K
      · have H := it_neg c5 H
        refine am_iload_n rfl rfl ?_
        refine am_if_lt rfl (fun c6 => ?_) (fun c6 => ?_)
        · have H := it_pos c6 H
          refine x_bipush (v := (-2 : Int32)) rfl (by decide) ?_
          have H := Option.some.inj H
          subst H
          exact u_iret rfl rfl K
        · have H := it_neg c6 H
          refine am_iload_n rfl rfl ?_
          refine x_iconst (v := (5 : Int32)) rfl (by decide) ?_
          refine am_icmp_le rfl (fun c7 => ?_) (fun c7 => ?_)
          · have H := it_pos c7 H
            refine am_aload_n rfl rfl ?_
            refine u_getR f_8_28 rfl (Nat.le_of_ble_eq_true rfl) rfl rfl ?_
            refine am_iload_n rfl rfl ?_
            obtain ⟨j8, ej8, hj8, H⟩ := ck_some H
            obtain ⟨t9, et9, H⟩ := wr_some H
            have ht9 : isT t9 := isT_l (vp_lt hj8 ej8) et9
            refine x_aald rfl (Nat.le_of_ble_eq_true rfl) rfl hj8 ej8 (r := t9) (by rw [et9]; exact if_pos (vp_lt hj8 ej8)) ?_
            refine u_getR f_8_159 rfl (isT_lt0 ht9) (sk_T ht9) rfl ?_
            refine am_astore rfl (Nat.le_of_ble_eq_true rfl) ?_
            refine am_aload rfl rfl ?_
            refine am_iload_n rfl rfl ?_
            obtain ⟨j10, ej10, hj10, H⟩ := ck_some H
            refine x_iald rfl (isT_lt ht9 (Nat.le_of_ble_eq_true rfl)) (sk_A ht9 (Nat.le_of_ble_eq_true rfl) (Nat.le_of_ble_eq_true rfl)) hj10 ej10 ?_
            refine am_istore rfl (Nat.le_of_ble_eq_true rfl) ?_
            refine am_aload rfl rfl ?_
            refine am_iload_n rfl rfl ?_
            refine am_iload_n rfl rfl ?_
            obtain ⟨j11, ej11, hj11, H⟩ := ck_some H
            obtain ⟨g12, eg12, H⟩ := wr_some H
            refine x_iast rfl (isT_lt ht9 (Nat.le_of_ble_eq_true rfl)) (sk_A ht9 (Nat.le_of_ble_eq_true rfl) (Nat.le_of_ble_eq_true rfl)) hj11 ej11 eg12 ?_
            refine am_iload rfl rfl ?_
            have H := Option.some.inj H
            subst H
            exact u_iret rfl rfl K
          · have H := it_neg c7 H
            refine x_bipush (v := (-2 : Int32)) rfl (by decide) ?_
            have H := Option.some.inj H
            subst H
            exact u_iret rfl rfl K
def f_X8_drawRound (a1 : Int32) (a2 : Int32) (g : G) : Option (Int32 × G) := bd2 (f_X8_isTournament a1 g) fun r1 g2 => if r1 = 0 then some (((-2 : Int32), g2)) else if 0 ≤ a2 then ck a1 4 fun j5 => wr (47 + 28 * j5) fun t6 => bd2 (f_X7_latestDay t6 g2) fun r7 g8 => if r7 ≤ a2 then bd2 (f_X0_gather t6 g8) fun r10 g11 => if (2 : Int32) ≤ r10 then if (g11 t6 2) < (6 : Int32) then bd2 (f_X0_askWorths  g11) fun r14 g15 => if r14 = 0 then some (((-5 : Int32), g15)) else bd2 (f_X6_read t6 a2 a2 g15) fun r17 g18 => bd2 (f_X6_score t6 a2 g18) fun r19 g20 => bd2 (f_X0_recall t6 g20) fun r21 g22 => bd2 (f_X0_priceAll  g22) fun r23 g24 => bd2 (f_X0_findWay  g24) fun r25 g26 => bd2 (f_X0_writeRound t6 a2 g26) fun r27 g28 => some ((r27, g28)) else some (((-4 : Int32), g11)) else some (((-3 : Int32), g11)) else some (((-2 : Int32), g8)) else some (((-2 : Int32), g2))
set_option maxHeartbeats 4000000 in
set_option maxRecDepth 100000 in
theorem y_X8_drawRound (a1 : Int32) (a2 : Int32)  (g : G) (q : Int32 × G) {post : Int32 → G → Prop} (H : f_X8_drawRound a1 a2 g = some q) (K : post q.1 q.2) : Y m_X8_drawRound 15 [.ref 0, .int a1, .int a2] g post := by
  refine Y_of ok_X8_drawRound pn_8 rfl (by decide) (Or.inr (Or.inl rfl)) (List.forall_mem_cons.mpr ⟨rfl, (List.forall_mem_cons.mpr ⟨rfl, (List.forall_mem_cons.mpr ⟨rfl, (fun _ h => absurd h List.not_mem_nil)⟩)⟩)⟩) (Nat.le_of_ble_eq_true rfl) ?_
  show u_V m_X8_drawRound 15 post 0 [some (.ref 0), some (.int a1), some (.int a2), none] [] g
  unfold f_X8_drawRound at H
  refine am_aload_n rfl rfl ?_
  refine am_iload_n rfl rfl ?_
  obtain ⟨r1, g2, H1, H⟩ := bd2_some H
  refine cv1i v_8_138 rfl rfl (Nat.le_of_ble_eq_true rfl) rfl (Nat.le_of_ble_eq_true rfl) (fun _ _ => Nat.le_of_ble_eq_true rfl) (y_X8_isTournament a1 g _ H1 ?_)
  refine am_if_eq rfl (fun c3 => ?_) (fun c3 => ?_)
  · have H := it_pos c3 H
    refine x_bipush (v := (-2 : Int32)) rfl (by decide) ?_
    have H := Option.some.inj H
    subst H
    exact u_iret rfl rfl K
  · have H := it_neg c3 H
    refine am_iload_n rfl rfl ?_
    refine am_if_ge rfl (fun c4 => ?_) (fun c4 => ?_)
    · have H := it_pos c4 H
      refine am_aload_n rfl rfl ?_
      refine u_getR f_8_28 rfl (Nat.le_of_ble_eq_true rfl) rfl rfl ?_
      refine am_iload_n rfl rfl ?_
      obtain ⟨j5, ej5, hj5, H⟩ := ck_some H
      obtain ⟨t6, et6, H⟩ := wr_some H
      have ht6 : isT t6 := isT_l (vp_lt hj5 ej5) et6
      refine x_aald rfl (Nat.le_of_ble_eq_true rfl) rfl hj5 ej5 (r := t6) (by rw [et6]; exact if_pos (vp_lt hj5 ej5)) ?_
      refine am_astore_n rfl (Nat.le_of_ble_eq_true rfl) ?_
      refine am_iload_n rfl rfl ?_
      refine am_aload_n rfl rfl ?_
      obtain ⟨r7, g8, H1, H⟩ := bd2_some H
      refine cv0i v_8_200 rfl rfl (isT_lt0 ht6) (sk_T ht6) (Nat.le_of_ble_eq_true rfl) (fun _ _ => Nat.le_of_ble_eq_true rfl) (y_X7_latestDay t6 ht6 g2 _ H1 ?_)
      refine am_icmp_ge rfl (fun c9 => ?_) (fun c9 => ?_)
      · have H := it_pos c9 H
        refine am_aload_n rfl rfl ?_
        refine u_getR f_8_45 rfl (Nat.le_of_ble_eq_true rfl) rfl rfl ?_
        refine am_aload_n rfl rfl ?_
        obtain ⟨r10, g11, H1, H⟩ := bd2_some H
        refine cv1i v_8_203 rfl rfl (Nat.le_of_ble_eq_true rfl) rfl (Nat.le_of_ble_eq_true rfl) (fun _ _ => Nat.le_of_ble_eq_true rfl) (y_X0_gather t6 ht6 g8 _ H1 ?_)
        refine x_iconst (v := (2 : Int32)) rfl (by decide) ?_
        refine am_icmp_ge rfl (fun c12 => ?_) (fun c12 => ?_)
        · have H := it_pos c12 H
          refine am_aload_n rfl rfl ?_
          refine u_getI f_8_144 rfl (isT_lt0 ht6) (sk_T ht6) rfl ?_
          refine x_bipush (v := (6 : Int32)) rfl (by decide) ?_
          refine am_icmp_lt rfl (fun c13 => ?_) (fun c13 => ?_)
          · have H := it_pos c13 H
            refine am_aload_n rfl rfl ?_
            refine u_getR f_8_45 rfl (Nat.le_of_ble_eq_true rfl) rfl rfl ?_
            refine am_aload_n rfl rfl ?_
            refine u_getR f_8_19 rfl (Nat.le_of_ble_eq_true rfl) rfl rfl ?_
            refine am_aload_n rfl rfl ?_
            refine u_getR f_8_10 rfl (Nat.le_of_ble_eq_true rfl) rfl rfl ?_
            obtain ⟨r14, g15, H1, H⟩ := bd2_some H
            refine cv2i v_8_207 rfl rfl (Nat.le_of_ble_eq_true rfl) rfl (Nat.le_of_ble_eq_true rfl) (fun _ _ => Nat.le_of_ble_eq_true rfl) (y_X0_askWorths  g11 _ H1 ?_)
            refine am_if_ne rfl (fun c16 => ?_) (fun c16 => ?_)
            · have H := it_neg c16 H
              refine am_aload_n rfl rfl ?_
              refine u_getR f_8_38 rfl (Nat.le_of_ble_eq_true rfl) rfl rfl ?_
              refine am_aload_n rfl rfl ?_
              refine am_iload_n rfl rfl ?_
              refine am_iload_n rfl rfl ?_
              obtain ⟨r17, g18, H1, H⟩ := bd2_some H
              refine cv3v v_8_211 rfl rfl (Nat.le_of_ble_eq_true rfl) rfl (Nat.le_of_ble_eq_true rfl) (fun _ _ => Nat.le_of_ble_eq_true rfl) (y_X6_read t6 a2 a2 ht6 g15 _ H1 ?_)
              refine am_aload_n rfl rfl ?_
              refine u_getR f_8_38 rfl (Nat.le_of_ble_eq_true rfl) rfl rfl ?_
              refine am_aload_n rfl rfl ?_
              refine am_iload_n rfl rfl ?_
              obtain ⟨r19, g20, H1, H⟩ := bd2_some H
              refine cv2v v_8_215 rfl rfl (Nat.le_of_ble_eq_true rfl) rfl (Nat.le_of_ble_eq_true rfl) (fun _ _ => Nat.le_of_ble_eq_true rfl) (y_X6_score t6 a2 ht6 g18 _ H1 ?_)
              refine am_aload_n rfl rfl ?_
              refine u_getR f_8_45 rfl (Nat.le_of_ble_eq_true rfl) rfl rfl ?_
              refine am_aload_n rfl rfl ?_
              obtain ⟨r21, g22, H1, H⟩ := bd2_some H
              refine cv1v v_8_219 rfl rfl (Nat.le_of_ble_eq_true rfl) rfl (Nat.le_of_ble_eq_true rfl) (fun _ _ => Nat.le_of_ble_eq_true rfl) (y_X0_recall t6 ht6 g20 _ H1 ?_)
              refine am_aload_n rfl rfl ?_
              refine u_getR f_8_45 rfl (Nat.le_of_ble_eq_true rfl) rfl rfl ?_
              refine am_aload_n rfl rfl ?_
              refine u_getR f_8_38 rfl (Nat.le_of_ble_eq_true rfl) rfl rfl ?_
              refine u_getR f_8_222 rfl (Nat.le_of_ble_eq_true rfl) rfl rfl ?_
              obtain ⟨r23, g24, H1, H⟩ := bd2_some H
              refine cv1v v_8_225 rfl rfl (Nat.le_of_ble_eq_true rfl) rfl (Nat.le_of_ble_eq_true rfl) (fun _ _ => Nat.le_of_ble_eq_true rfl) (y_X0_priceAll  g22 _ H1 ?_)
              refine am_aload_n rfl rfl ?_
              refine u_getR f_8_45 rfl (Nat.le_of_ble_eq_true rfl) rfl rfl ?_
              obtain ⟨r25, g26, H1, H⟩ := bd2_some H
              refine cv0v v_8_229 rfl rfl (Nat.le_of_ble_eq_true rfl) rfl (Nat.le_of_ble_eq_true rfl) (fun _ _ => Nat.le_of_ble_eq_true rfl) (y_X0_findWay  g24 _ H1 ?_)
              refine am_aload_n rfl rfl ?_
              refine u_getR f_8_45 rfl (Nat.le_of_ble_eq_true rfl) rfl rfl ?_
              refine am_aload_n rfl rfl ?_
              refine am_iload_n rfl rfl ?_
              obtain ⟨r27, g28, H1, H⟩ := bd2_some H
              refine cv2i v_8_232 rfl rfl (Nat.le_of_ble_eq_true rfl) rfl (Nat.le_of_ble_eq_true rfl) (fun _ _ => Nat.le_of_ble_eq_true rfl) (y_X0_writeRound t6 a2 ht6 g26 _ H1 ?_)
              have H := Option.some.inj H
              subst H
              exact u_iret rfl rfl K
            · have H := it_pos c16 H
              refine x_bipush (v := (-5 : Int32)) rfl (by decide) ?_
              have H := Option.some.inj H
              subst H
              exact u_iret rfl rfl K
          · have H := it_neg c13 H
            refine x_bipush (v := (-4 : Int32)) rfl (by decide) ?_
            have H := Option.some.inj H
            subst H
            exact u_iret rfl rfl K
        · have H := it_neg c12 H
          refine x_bipush (v := (-3 : Int32)) rfl (by decide) ?_
          have H := Option.some.inj H
          subst H
          exact u_iret rfl rfl K
      · have H := it_neg c9 H
        refine x_bipush (v := (-2 : Int32)) rfl (by decide) ?_
        have H := Option.some.inj H
        subst H
        exact u_iret rfl rfl K
    · have H := it_neg c4 H
      refine x_bipush (v := (-2 : Int32)) rfl (by decide) ?_
      have H := Option.some.inj H
      subst H
      exact u_iret rfl rfl K
def f_X8_draw (a1 : Int32) (a2 : Int32) (g : G) : Option (Int32 × G) := bd2 (f_X1_clear  g) fun r1 g2 => bd2 (f_X8_drawRound a1 a2 g2) fun r3 g4 => some ((r3, g4))
set_option maxHeartbeats 4000000 in
set_option maxRecDepth 100000 in
theorem y_X8_draw (a1 : Int32) (a2 : Int32)  (g : G) (q : Int32 × G) {post : Int32 → G → Prop} (H : f_X8_draw a1 a2 g = some q) (K : post q.1 q.2) : Y m_X8_draw 16 [.ref 0, .int a1, .int a2] g post := by
  refine Y_of ok_X8_draw pn_8 rfl (by decide) (Or.inr (Or.inl rfl)) (List.forall_mem_cons.mpr ⟨rfl, (List.forall_mem_cons.mpr ⟨rfl, (List.forall_mem_cons.mpr ⟨rfl, (fun _ h => absurd h List.not_mem_nil)⟩)⟩)⟩) (Nat.le_of_ble_eq_true rfl) ?_
  show u_V m_X8_draw 16 post 0 [some (.ref 0), some (.int a1), some (.int a2)] [] g
  unfold f_X8_draw at H
  refine am_aload_n rfl rfl ?_
  refine u_getR f_8_10 rfl (Nat.le_of_ble_eq_true rfl) rfl rfl ?_
  obtain ⟨r1, g2, H1, H⟩ := bd2_some H
  refine cv0v v_8_114 rfl rfl (Nat.le_of_ble_eq_true rfl) rfl (Nat.le_of_ble_eq_true rfl) (fun _ _ => Nat.le_of_ble_eq_true rfl) (y_X1_clear  g _ H1 ?_)
  refine am_aload_n rfl rfl ?_
  refine am_iload_n rfl rfl ?_
  refine am_iload_n rfl rfl ?_
  obtain ⟨r3, g4, H1, H⟩ := bd2_some H
  refine cv2i v_8_162 rfl rfl (Nat.le_of_ble_eq_true rfl) rfl (Nat.le_of_ble_eq_true rfl) (fun _ _ => Nat.le_of_ble_eq_true rfl) (y_X8_drawRound a1 a2 g2 _ H1 ?_)
  have H := Option.some.inj H
  subst H
  exact u_iret rfl rfl K
def f_X8_pair (a1 : Int32) (a2 : Int32) (a3 : Int32) (a4 : Int32) (g : G) : Option (Int32 × G) := bd2 (f_X8_isTournament a1 g) fun r1 g2 => if r1 = 0 then some (((-2 : Int32), g2)) else ck a1 4 fun j4 => wr (47 + 28 * j4) fun t5 => bd2 (f_X7_cellOf t5 a2 a3 g2) fun r6 g7 => if 0 ≤ r6 then bd ((if a4 < 0 then some (.inl ()) else if a4 ≤ (1 : Int32) then if a4 = 0 then ck r6 30 fun j16 => some (.inr (((g7 (t5 + 7) j16), g7))) else ck r6 30 fun j15 => some (.inr (((g7 (t5 + 8) j15), g7))) else some (.inl ()) : Option ((Unit) ⊕ (Int32 × G)))) fun s17m => (match s17m with | .inl _ => (bd2 (f_X1_met (2 : Int32) g7) fun r10 g11 => some ((r10, g11))) | .inr y => some y) else some ((r6, g7))
set_option maxHeartbeats 4000000 in
set_option maxRecDepth 100000 in
theorem y_X8_pair (a1 : Int32) (a2 : Int32) (a3 : Int32) (a4 : Int32)  (g : G) (q : Int32 × G) {post : Int32 → G → Prop} (H : f_X8_pair a1 a2 a3 a4 g = some q) (K : post q.1 q.2) : Y m_X8_pair 3 [.ref 0, .int a1, .int a2, .int a3, .int a4] g post := by
  refine Y_of ok_X8_pair pn_8 rfl (by decide) (Or.inr (Or.inl rfl)) (List.forall_mem_cons.mpr ⟨rfl, (List.forall_mem_cons.mpr ⟨rfl, (List.forall_mem_cons.mpr ⟨rfl, (List.forall_mem_cons.mpr ⟨rfl, (List.forall_mem_cons.mpr ⟨rfl, (fun _ h => absurd h List.not_mem_nil)⟩)⟩)⟩)⟩)⟩) (Nat.le_of_ble_eq_true rfl) ?_
  show u_V m_X8_pair 3 post 0 [some (.ref 0), some (.int a1), some (.int a2), some (.int a3), some (.int a4), none, none] [] g
  unfold f_X8_pair at H
  refine am_aload_n rfl rfl ?_
  refine am_iload_n rfl rfl ?_
  obtain ⟨r1, g2, H1, H⟩ := bd2_some H
  refine cv1i v_8_138 rfl rfl (Nat.le_of_ble_eq_true rfl) rfl (Nat.le_of_ble_eq_true rfl) (fun _ _ => Nat.le_of_ble_eq_true rfl) (y_X8_isTournament a1 g _ H1 ?_)
  refine am_if_ne rfl (fun c3 => ?_) (fun c3 => ?_)
  · have H := it_neg c3 H
    refine am_aload_n rfl rfl ?_
    refine u_getR f_8_28 rfl (Nat.le_of_ble_eq_true rfl) rfl rfl ?_
    refine am_iload_n rfl rfl ?_
    obtain ⟨j4, ej4, hj4, H⟩ := ck_some H
    obtain ⟨t5, et5, H⟩ := wr_some H
    have ht5 : isT t5 := isT_l (vp_lt hj4 ej4) et5
    refine x_aald rfl (Nat.le_of_ble_eq_true rfl) rfl hj4 ej4 (r := t5) (by rw [et5]; exact if_pos (vp_lt hj4 ej4)) ?_
    refine am_astore rfl (Nat.le_of_ble_eq_true rfl) ?_
    refine am_aload rfl rfl ?_
    refine am_iload_n rfl rfl ?_
    refine am_iload_n rfl rfl ?_
    refine am_aload_n rfl rfl ?_
    refine u_getR f_8_10 rfl (Nat.le_of_ble_eq_true rfl) rfl rfl ?_
    obtain ⟨r6, g7, H1, H⟩ := bd2_some H
    refine cv3i v_8_165 rfl rfl (isT_lt0 ht5) (sk_T ht5) (Nat.le_of_ble_eq_true rfl) (fun _ _ => Nat.le_of_ble_eq_true rfl) (y_X7_cellOf t5 a2 a3 ht5 g2 _ H1 ?_)
    refine am_istore rfl (Nat.le_of_ble_eq_true rfl) ?_
    refine am_iload rfl rfl ?_
    refine am_if_ge rfl (fun c8 => ?_) (fun c8 => ?_)
    · have H := it_pos c8 H
      refine am_iload rfl rfl ?_
      obtain ⟨s17, H1, H⟩ := bd_some H
      have K : (Sum.elim (fun (_ : Unit) => u_V m_X8_pair 3 post 51 [some (.ref 0), none, none, none, none, none, none] [] g7) (fun (q : Int32 × G) => post q.1 q.2)) s17 := by
        clear H1
        cases s17 with
        | inl s9 =>
          (try dsimp only at H); (try dsimp only)
          refine am_aload_n rfl rfl ?_
          refine u_getR f_8_10 rfl (Nat.le_of_ble_eq_true rfl) rfl rfl ?_
          refine x_iconst (v := (2 : Int32)) rfl (by decide) ?_
          obtain ⟨r10, g11, H1, H⟩ := bd2_some H
          refine cv1i v_8_99 rfl rfl (Nat.le_of_ble_eq_true rfl) rfl (Nat.le_of_ble_eq_true rfl) (fun _ _ => Nat.le_of_ble_eq_true rfl) (y_X1_met (2 : Int32) g7 _ H1 ?_)
          have H := Option.some.inj H
          subst H
          exact u_iret rfl rfl K
        | inr y =>
          have H := Option.some.inj H
          subst H
          exact K
      have H := H1
      clear H1
      refine am_if_lt rfl (fun c12 => ?_) (fun c12 => ?_)
      · have H := it_pos c12 H
        have H := Option.some.inj H
        subst H
        exact am_drop (L' := [some (.ref 0), none, none, none, none, none, none]) (And.intro rfl trivial) K
      · have H := it_neg c12 H
        refine am_iload rfl rfl ?_
        refine x_iconst (v := (1 : Int32)) rfl (by decide) ?_
        refine am_icmp_le rfl (fun c13 => ?_) (fun c13 => ?_)
        · have H := it_pos c13 H
          refine am_iload rfl rfl ?_
          refine am_if_ne rfl (fun c14 => ?_) (fun c14 => ?_)
          · have H := it_neg c14 H
            refine am_aload rfl rfl ?_
            refine u_getR f_8_171 rfl (isT_lt0 ht5) (sk_T ht5) rfl ?_
            refine am_iload rfl rfl ?_
            obtain ⟨j15, ej15, hj15, H⟩ := ck_some H
            refine x_iald rfl (isT_lt ht5 (Nat.le_of_ble_eq_true rfl)) (sk_A ht5 (Nat.le_of_ble_eq_true rfl) (Nat.le_of_ble_eq_true rfl)) hj15 ej15 ?_
            have H := Option.some.inj H
            subst H
            exact u_iret rfl rfl K
          · have H := it_pos c14 H
            refine am_aload rfl rfl ?_
            refine u_getR f_8_168 rfl (isT_lt0 ht5) (sk_T ht5) rfl ?_
            refine am_iload rfl rfl ?_
            obtain ⟨j16, ej16, hj16, H⟩ := ck_some H
            refine x_iald rfl (isT_lt ht5 (Nat.le_of_ble_eq_true rfl)) (sk_A ht5 (Nat.le_of_ble_eq_true rfl) (Nat.le_of_ble_eq_true rfl)) hj16 ej16 ?_
            refine am_goto rfl ?_
            have H := Option.some.inj H
            subst H
            exact u_iret rfl rfl K
        · have H := it_neg c13 H
          have H := Option.some.inj H
          subst H
          exact am_drop (L' := [some (.ref 0), none, none, none, none, none, none]) (And.intro rfl trivial) K
    · have H := it_neg c8 H
      refine am_iload rfl rfl ?_
      have H := Option.some.inj H
      subst H
      exact u_iret rfl rfl K
  · have H := it_pos c3 H
    refine x_bipush (v := (-2 : Int32)) rfl (by decide) ?_
    have H := Option.some.inj H
    subst H
    exact u_iret rfl rfl K
def f_X8_round (a1 : Int32) (a2 : Int32) (a3 : Int32) (g : G) : Option (Int32 × G) := bd2 (f_X8_isTournament a1 g) fun r1 g2 => if r1 = 0 then some (((-2 : Int32), g2)) else if a3 < 0 then some (((-2 : Int32), g2)) else if a3 ≤ (3 : Int32) then ck a1 4 fun j6 => wr (47 + 28 * j6) fun t7 => bd2 (f_X7_roundOf t7 a2 g2) fun r8 g9 => if 0 ≤ r8 then if a3 = (0 : Int32) then ck r8 6 fun j12 => some (((g9 (t7 + 4) j12), g9)) else if a3 = (1 : Int32) then ck r8 6 fun j14 => some (((g9 (t7 + 5) j14), g9)) else if a3 = (2 : Int32) then ck r8 6 fun j16 => some (((g9 (t7 + 6) j16), g9)) else ck r8 6 fun j17 => bd2 (f_X0_brokenIn (g9 (t7 + 6) j17) g9) fun r18 g19 => some ((r18, g19)) else some ((r8, g9)) else some (((-2 : Int32), g2))
set_option maxHeartbeats 4000000 in
set_option maxRecDepth 100000 in
theorem y_X8_round (a1 : Int32) (a2 : Int32) (a3 : Int32)  (g : G) (q : Int32 × G) {post : Int32 → G → Prop} (H : f_X8_round a1 a2 a3 g = some q) (K : post q.1 q.2) : Y m_X8_round 2 [.ref 0, .int a1, .int a2, .int a3] g post := by
  refine Y_of ok_X8_round pn_8 rfl (by decide) (Or.inr (Or.inl rfl)) (List.forall_mem_cons.mpr ⟨rfl, (List.forall_mem_cons.mpr ⟨rfl, (List.forall_mem_cons.mpr ⟨rfl, (List.forall_mem_cons.mpr ⟨rfl, (fun _ h => absurd h List.not_mem_nil)⟩)⟩)⟩)⟩) (Nat.le_of_ble_eq_true rfl) ?_
  show u_V m_X8_round 2 post 0 [some (.ref 0), some (.int a1), some (.int a2), some (.int a3), none, none] [] g
  unfold f_X8_round at H
  refine am_aload_n rfl rfl ?_
  refine am_iload_n rfl rfl ?_
  obtain ⟨r1, g2, H1, H⟩ := bd2_some H
  refine cv1i v_8_138 rfl rfl (Nat.le_of_ble_eq_true rfl) rfl (Nat.le_of_ble_eq_true rfl) (fun _ _ => Nat.le_of_ble_eq_true rfl) (y_X8_isTournament a1 g _ H1 ?_)
  refine am_if_eq rfl (fun c3 => ?_) (fun c3 => ?_)
  · have H := it_pos c3 H
    refine x_bipush (v := (-2 : Int32)) rfl (by decide) ?_
    have H := Option.some.inj H
    subst H
    exact u_iret rfl rfl K
  · have H := it_neg c3 H
    refine am_iload_n rfl rfl ?_
    refine am_if_lt rfl (fun c4 => ?_) (fun c4 => ?_)
    · have H := it_pos c4 H
      refine x_bipush (v := (-2 : Int32)) rfl (by decide) ?_
      have H := Option.some.inj H
      subst H
      exact u_iret rfl rfl K
    · have H := it_neg c4 H
      refine am_iload_n rfl rfl ?_
      refine x_iconst (v := (3 : Int32)) rfl (by decide) ?_
      refine am_icmp_le rfl (fun c5 => ?_) (fun c5 => ?_)
      · have H := it_pos c5 H
        refine am_aload_n rfl rfl ?_
        refine u_getR f_8_28 rfl (Nat.le_of_ble_eq_true rfl) rfl rfl ?_
        refine am_iload_n rfl rfl ?_
        obtain ⟨j6, ej6, hj6, H⟩ := ck_some H
        obtain ⟨t7, et7, H⟩ := wr_some H
        have ht7 : isT t7 := isT_l (vp_lt hj6 ej6) et7
        refine x_aald rfl (Nat.le_of_ble_eq_true rfl) rfl hj6 ej6 (r := t7) (by rw [et7]; exact if_pos (vp_lt hj6 ej6)) ?_
        refine am_astore rfl (Nat.le_of_ble_eq_true rfl) ?_
        refine am_aload rfl rfl ?_
        refine am_iload_n rfl rfl ?_
        refine am_aload_n rfl rfl ?_
        refine u_getR f_8_10 rfl (Nat.le_of_ble_eq_true rfl) rfl rfl ?_
        obtain ⟨r8, g9, H1, H⟩ := bd2_some H
        refine cv2i v_8_174 rfl rfl (isT_lt0 ht7) (sk_T ht7) (Nat.le_of_ble_eq_true rfl) (fun _ _ => Nat.le_of_ble_eq_true rfl) (y_X7_roundOf t7 a2 ht7 g2 _ H1 ?_)
        refine am_istore rfl (Nat.le_of_ble_eq_true rfl) ?_
        refine am_iload rfl rfl ?_
        refine am_if_ge rfl (fun c10 => ?_) (fun c10 => ?_)
        · have H := it_pos c10 H
          refine am_iload_n rfl rfl ?_
          by_cases c11 : a3 = (0 : Int32)
          · have H := it_pos c11 H
            refine am_tsw1 (j := 0) rfl c11 (by decide +kernel) rfl rfl ?_
            refine am_aload rfl rfl ?_
            refine u_getR f_8_177 rfl (isT_lt0 ht7) (sk_T ht7) rfl ?_
            refine am_iload rfl rfl ?_
            obtain ⟨j12, ej12, hj12, H⟩ := ck_some H
            refine x_iald rfl (isT_lt ht7 (Nat.le_of_ble_eq_true rfl)) (sk_A ht7 (Nat.le_of_ble_eq_true rfl) (Nat.le_of_ble_eq_true rfl)) hj12 ej12 ?_
            have H := Option.some.inj H
            subst H
            exact u_iret rfl rfl K
          have H := it_neg c11 H
          by_cases c13 : a3 = (1 : Int32)
          · have H := it_pos c13 H
            refine am_tsw1 (j := 1) rfl c13 (by decide +kernel) rfl rfl ?_
            refine am_aload rfl rfl ?_
            refine u_getR f_8_180 rfl (isT_lt0 ht7) (sk_T ht7) rfl ?_
            refine am_iload rfl rfl ?_
            obtain ⟨j14, ej14, hj14, H⟩ := ck_some H
            refine x_iald rfl (isT_lt ht7 (Nat.le_of_ble_eq_true rfl)) (sk_A ht7 (Nat.le_of_ble_eq_true rfl) (Nat.le_of_ble_eq_true rfl)) hj14 ej14 ?_
            have H := Option.some.inj H
            subst H
            exact u_iret rfl rfl K
          have H := it_neg c13 H
          by_cases c15 : a3 = (2 : Int32)
          · have H := it_pos c15 H
            refine am_tsw1 (j := 2) rfl c15 (by decide +kernel) rfl rfl ?_
            refine am_aload rfl rfl ?_
            refine u_getR f_8_183 rfl (isT_lt0 ht7) (sk_T ht7) rfl ?_
            refine am_iload rfl rfl ?_
            obtain ⟨j16, ej16, hj16, H⟩ := ck_some H
            refine x_iald rfl (isT_lt ht7 (Nat.le_of_ble_eq_true rfl)) (sk_A ht7 (Nat.le_of_ble_eq_true rfl) (Nat.le_of_ble_eq_true rfl)) hj16 ej16 ?_
            have H := Option.some.inj H
            subst H
            exact u_iret rfl rfl K
          have H := it_neg c15 H
          refine am_tswD rfl rfl (am_out (lo := 0) 3 (And.intro c15 (And.intro c13 (And.intro c11 trivial)))) ?_
          refine am_aload rfl rfl ?_
          refine u_getR f_8_183 rfl (isT_lt0 ht7) (sk_T ht7) rfl ?_
          refine am_iload rfl rfl ?_
          obtain ⟨j17, ej17, hj17, H⟩ := ck_some H
          refine x_iald rfl (isT_lt ht7 (Nat.le_of_ble_eq_true rfl)) (sk_A ht7 (Nat.le_of_ble_eq_true rfl) (Nat.le_of_ble_eq_true rfl)) hj17 ej17 ?_
          obtain ⟨r18, g19, H1, H⟩ := bd2_some H
          refine cs1i s_8_186 rfl rfl (Nat.le_of_ble_eq_true rfl) (fun _ _ => Nat.le_of_ble_eq_true rfl) (y_X0_brokenIn (g9 (t7 + 6) j17) g9 _ H1 ?_)
          have H := Option.some.inj H
          subst H
          exact u_iret rfl rfl K
        · have H := it_neg c10 H
          refine am_iload rfl rfl ?_
          have H := Option.some.inj H
          subst H
          exact u_iret rfl rfl K
      · have H := it_neg c5 H
        refine x_bipush (v := (-2 : Int32)) rfl (by decide) ?_
        have H := Option.some.inj H
        subst H
        exact u_iret rfl rfl K
def f_X8_copy (a1 : Int32) (g : G) : Option (Int32 × G) := bd2 (f_X8_isTournament a1 g) fun r1 g2 => if r1 = 0 then some (((-2 : Int32), g2)) else if (g2 0 12) < (4 : Int32) then ck (g2 0 12) 4 fun j5 => wr (47 + 28 * j5) fun t6 => ck a1 4 fun j7 => wr (47 + 28 * j7) fun t8 => bd2 (f_X7_takeOver t6 t8 g2) fun r9 g10 => bd2 (f_X8_openNext  g10) fun r11 g12 => some ((r11, g12)) else some (((-4 : Int32), g2))
set_option maxHeartbeats 4000000 in
set_option maxRecDepth 100000 in
theorem y_X8_copy (a1 : Int32)  (g : G) (q : Int32 × G) {post : Int32 → G → Prop} (H : f_X8_copy a1 g = some q) (K : post q.1 q.2) : Y m_X8_copy 2 [.ref 0, .int a1] g post := by
  refine Y_of ok_X8_copy pn_8 rfl (by decide) (Or.inr (Or.inl rfl)) (List.forall_mem_cons.mpr ⟨rfl, (List.forall_mem_cons.mpr ⟨rfl, (fun _ h => absurd h List.not_mem_nil)⟩)⟩) (Nat.le_of_ble_eq_true rfl) ?_
  show u_V m_X8_copy 2 post 0 [some (.ref 0), some (.int a1)] [] g
  unfold f_X8_copy at H
  refine am_aload_n rfl rfl ?_
  refine am_iload_n rfl rfl ?_
  obtain ⟨r1, g2, H1, H⟩ := bd2_some H
  refine cv1i v_8_138 rfl rfl (Nat.le_of_ble_eq_true rfl) rfl (Nat.le_of_ble_eq_true rfl) (fun _ _ => Nat.le_of_ble_eq_true rfl) (y_X8_isTournament a1 g _ H1 ?_)
  refine am_if_ne rfl (fun c3 => ?_) (fun c3 => ?_)
  · have H := it_neg c3 H
    refine am_aload_n rfl rfl ?_
    refine u_getI f_8_78 rfl (Nat.le_of_ble_eq_true rfl) rfl rfl ?_
    refine x_iconst (v := (4 : Int32)) rfl (by decide) ?_
    refine am_icmp_lt rfl (fun c4 => ?_) (fun c4 => ?_)
    · have H := it_pos c4 H
      refine am_aload_n rfl rfl ?_
      refine u_getR f_8_28 rfl (Nat.le_of_ble_eq_true rfl) rfl rfl ?_
      refine am_aload_n rfl rfl ?_
      refine u_getI f_8_78 rfl (Nat.le_of_ble_eq_true rfl) rfl rfl ?_
      obtain ⟨j5, ej5, hj5, H⟩ := ck_some H
      obtain ⟨t6, et6, H⟩ := wr_some H
      have ht6 : isT t6 := isT_l (vp_lt hj5 ej5) et6
      refine x_aald rfl (Nat.le_of_ble_eq_true rfl) rfl hj5 ej5 (r := t6) (by rw [et6]; exact if_pos (vp_lt hj5 ej5)) ?_
      refine am_aload_n rfl rfl ?_
      refine u_getR f_8_28 rfl (Nat.le_of_ble_eq_true rfl) rfl rfl ?_
      refine am_iload_n rfl rfl ?_
      obtain ⟨j7, ej7, hj7, H⟩ := ck_some H
      obtain ⟨t8, et8, H⟩ := wr_some H
      have ht8 : isT t8 := isT_l (vp_lt hj7 ej7) et8
      refine x_aald rfl (Nat.le_of_ble_eq_true rfl) rfl hj7 ej7 (r := t8) (by rw [et8]; exact if_pos (vp_lt hj7 ej7)) ?_
      obtain ⟨r9, g10, H1, H⟩ := bd2_some H
      refine cv1v v_8_189 rfl rfl (isT_lt0 ht6) (sk_T ht6) (Nat.le_of_ble_eq_true rfl) (fun _ _ => Nat.le_of_ble_eq_true rfl) (y_X7_takeOver t6 t8 ht6 ht8 g2 _ H1 ?_)
      refine am_aload_n rfl rfl ?_
      obtain ⟨r11, g12, H1, H⟩ := bd2_some H
      refine cv0i v_8_134 rfl rfl (Nat.le_of_ble_eq_true rfl) rfl (Nat.le_of_ble_eq_true rfl) (fun _ _ => Nat.le_of_ble_eq_true rfl) (y_X8_openNext  g10 _ H1 ?_)
      have H := Option.some.inj H
      subst H
      exact u_iret rfl rfl K
    · have H := it_neg c4 H
      refine x_bipush (v := (-4 : Int32)) rfl (by decide) ?_
      have H := Option.some.inj H
      subst H
      exact u_iret rfl rfl K
  · have H := it_pos c3 H
    refine x_bipush (v := (-2 : Int32)) rfl (by decide) ?_
    have H := Option.some.inj H
    subst H
    exact u_iret rfl rfl K
def f_X8_alike (a1 : Int32) (a2 : Int32) (g : G) : Option (Int32 × G) := bd2 (f_X8_isTournament a1 g) fun r1 g2 => if r1 = 0 then some (((-2 : Int32), g2)) else bd2 (f_X8_isTournament a2 g2) fun r4 g5 => if r4 = 0 then some (((-2 : Int32), g5)) else ck a1 4 fun j7 => wr (47 + 28 * j7) fun t8 => ck a2 4 fun j9 => wr (47 + 28 * j9) fun t10 => bd2 (f_X7_isLike t8 t10 g5) fun r11 g12 => if r11 = 0 then some (((0 : Int32), g12)) else some (((1 : Int32), g12))
set_option maxHeartbeats 4000000 in
set_option maxRecDepth 100000 in
theorem y_X8_alike (a1 : Int32) (a2 : Int32)  (g : G) (q : Int32 × G) {post : Int32 → G → Prop} (H : f_X8_alike a1 a2 g = some q) (K : post q.1 q.2) : Y m_X8_alike 3 [.ref 0, .int a1, .int a2] g post := by
  refine Y_of ok_X8_alike pn_8 rfl (by decide) (Or.inr (Or.inl rfl)) (List.forall_mem_cons.mpr ⟨rfl, (List.forall_mem_cons.mpr ⟨rfl, (List.forall_mem_cons.mpr ⟨rfl, (fun _ h => absurd h List.not_mem_nil)⟩)⟩)⟩) (Nat.le_of_ble_eq_true rfl) ?_
  show u_V m_X8_alike 3 post 0 [some (.ref 0), some (.int a1), some (.int a2)] [] g
  unfold f_X8_alike at H
  refine am_aload_n rfl rfl ?_
  refine am_iload_n rfl rfl ?_
  obtain ⟨r1, g2, H1, H⟩ := bd2_some H
  refine cv1i v_8_138 rfl rfl (Nat.le_of_ble_eq_true rfl) rfl (Nat.le_of_ble_eq_true rfl) (fun _ _ => Nat.le_of_ble_eq_true rfl) (y_X8_isTournament a1 g _ H1 ?_)
  refine am_if_eq rfl (fun c3 => ?_) (fun c3 => ?_)
  · have H := it_pos c3 H
    refine x_bipush (v := (-2 : Int32)) rfl (by decide) ?_
    have H := Option.some.inj H
    subst H
    exact u_iret rfl rfl K
  · have H := it_neg c3 H
    refine am_aload_n rfl rfl ?_
    refine am_iload_n rfl rfl ?_
    obtain ⟨r4, g5, H1, H⟩ := bd2_some H
    refine cv1i v_8_138 rfl rfl (Nat.le_of_ble_eq_true rfl) rfl (Nat.le_of_ble_eq_true rfl) (fun _ _ => Nat.le_of_ble_eq_true rfl) (y_X8_isTournament a2 g2 _ H1 ?_)
    refine am_if_ne rfl (fun c6 => ?_) (fun c6 => ?_)
    · have H := it_neg c6 H
      refine am_aload_n rfl rfl ?_
      refine u_getR f_8_28 rfl (Nat.le_of_ble_eq_true rfl) rfl rfl ?_
      refine am_iload_n rfl rfl ?_
      obtain ⟨j7, ej7, hj7, H⟩ := ck_some H
      obtain ⟨t8, et8, H⟩ := wr_some H
      have ht8 : isT t8 := isT_l (vp_lt hj7 ej7) et8
      refine x_aald rfl (Nat.le_of_ble_eq_true rfl) rfl hj7 ej7 (r := t8) (by rw [et8]; exact if_pos (vp_lt hj7 ej7)) ?_
      refine am_aload_n rfl rfl ?_
      refine u_getR f_8_28 rfl (Nat.le_of_ble_eq_true rfl) rfl rfl ?_
      refine am_iload_n rfl rfl ?_
      obtain ⟨j9, ej9, hj9, H⟩ := ck_some H
      obtain ⟨t10, et10, H⟩ := wr_some H
      have ht10 : isT t10 := isT_l (vp_lt hj9 ej9) et10
      refine x_aald rfl (Nat.le_of_ble_eq_true rfl) rfl hj9 ej9 (r := t10) (by rw [et10]; exact if_pos (vp_lt hj9 ej9)) ?_
      obtain ⟨r11, g12, H1, H⟩ := bd2_some H
      refine cv1i v_8_193 rfl rfl (isT_lt0 ht8) (sk_T ht8) (Nat.le_of_ble_eq_true rfl) (fun _ _ => Nat.le_of_ble_eq_true rfl) (y_X7_isLike t8 t10 ht8 ht10 g5 _ H1 ?_)
      refine am_if_eq rfl (fun c13 => ?_) (fun c13 => ?_)
      · have H := it_pos c13 H
        refine x_iconst (v := (0 : Int32)) rfl (by decide) ?_
        have H := Option.some.inj H
        subst H
        exact u_iret rfl rfl K
      · have H := it_neg c13 H
        refine x_iconst (v := (1 : Int32)) rfl (by decide) ?_
        refine am_goto rfl ?_
        have H := Option.some.inj H
        subst H
        exact u_iret rfl rfl K
    · have H := it_pos c6 H
      refine x_bipush (v := (-2 : Int32)) rfl (by decide) ?_
      have H := Option.some.inj H
      subst H
      exact u_iret rfl rfl K
def f_X8_tell (a1 : Int32) (a2 : Int32) (a3 : Int32) (a4 : Int32) (a5 : Int32) (a6 : Int32) (g : G) : Option (Int32 × G) := bd2 (f_X8_isTournament a1 g) fun r1 g2 => if r1 = 0 then some (((-2 : Int32), g2)) else if a4 < 0 then some (((-2 : Int32), g2)) else if (6 : Int32) < a4 then some (((-2 : Int32), g2)) else if a5 < 0 then some (((-2 : Int32), g2)) else if 0 ≤ a6 then ck a1 4 fun j8 => wr (47 + 28 * j8) fun t9 => bd2 (f_X7_cellOf t9 a2 a3 g2) fun r10 g11 => if 0 ≤ r10 then ck r10 30 fun j13 => if (g11 (t9 + 8) j13) = (99 : Int32) then some (((-3 : Int32), g11)) else bd2 (f_X7_addEntry t9 r10 a4 a5 a6 g11) fun r15 g16 => some ((r15, g16)) else some ((r10, g11)) else some (((-2 : Int32), g2))
set_option maxHeartbeats 4000000 in
set_option maxRecDepth 100000 in
theorem y_X8_tell (a1 : Int32) (a2 : Int32) (a3 : Int32) (a4 : Int32) (a5 : Int32) (a6 : Int32)  (g : G) (q : Int32 × G) {post : Int32 → G → Prop} (H : f_X8_tell a1 a2 a3 a4 a5 a6 g = some q) (K : post q.1 q.2) : Y m_X8_tell 3 [.ref 0, .int a1, .int a2, .int a3, .int a4, .int a5, .int a6] g post := by
  refine Y_of ok_X8_tell pn_8 rfl (by decide) (Or.inr (Or.inl rfl)) (List.forall_mem_cons.mpr ⟨rfl, (List.forall_mem_cons.mpr ⟨rfl, (List.forall_mem_cons.mpr ⟨rfl, (List.forall_mem_cons.mpr ⟨rfl, (List.forall_mem_cons.mpr ⟨rfl, (List.forall_mem_cons.mpr ⟨rfl, (List.forall_mem_cons.mpr ⟨rfl, (fun _ h => absurd h List.not_mem_nil)⟩)⟩)⟩)⟩)⟩)⟩)⟩) (Nat.le_of_ble_eq_true rfl) ?_
  show u_V m_X8_tell 3 post 0 [some (.ref 0), some (.int a1), some (.int a2), some (.int a3), some (.int a4), some (.int a5), some (.int a6), none, none] [] g
  unfold f_X8_tell at H
  refine am_aload_n rfl rfl ?_
  refine am_iload_n rfl rfl ?_
  obtain ⟨r1, g2, H1, H⟩ := bd2_some H
  refine cv1i v_8_138 rfl rfl (Nat.le_of_ble_eq_true rfl) rfl (Nat.le_of_ble_eq_true rfl) (fun _ _ => Nat.le_of_ble_eq_true rfl) (y_X8_isTournament a1 g _ H1 ?_)
  refine am_if_eq rfl (fun c3 => ?_) (fun c3 => ?_)
  · have H := it_pos c3 H
    refine x_bipush (v := (-2 : Int32)) rfl (by decide) ?_
    have H := Option.some.inj H
    subst H
    exact u_iret rfl rfl K
  · have H := it_neg c3 H
    refine am_iload rfl rfl ?_
    refine am_if_lt rfl (fun c4 => ?_) (fun c4 => ?_)
    · have H := it_pos c4 H
      refine x_bipush (v := (-2 : Int32)) rfl (by decide) ?_
      have H := Option.some.inj H
      subst H
      exact u_iret rfl rfl K
    · have H := it_neg c4 H
      refine am_iload rfl rfl ?_
      refine x_bipush (v := (6 : Int32)) rfl (by decide) ?_
      refine am_icmp_gt rfl (fun c5 => ?_) (fun c5 => ?_)
      · have H := it_pos c5 H
        refine x_bipush (v := (-2 : Int32)) rfl (by decide) ?_
        have H := Option.some.inj H
        subst H
        exact u_iret rfl rfl K
      · have H := it_neg c5 H
        refine am_iload rfl rfl ?_
        refine am_if_lt rfl (fun c6 => ?_) (fun c6 => ?_)
        · have H := it_pos c6 H
          refine x_bipush (v := (-2 : Int32)) rfl (by decide) ?_
          have H := Option.some.inj H
          subst H
          exact u_iret rfl rfl K
        · have H := it_neg c6 H
          refine am_iload rfl rfl ?_
          refine am_if_ge rfl (fun c7 => ?_) (fun c7 => ?_)
          · have H := it_pos c7 H
            refine am_aload_n rfl rfl ?_
            refine u_getR f_8_28 rfl (Nat.le_of_ble_eq_true rfl) rfl rfl ?_
            refine am_iload_n rfl rfl ?_
            obtain ⟨j8, ej8, hj8, H⟩ := ck_some H
            obtain ⟨t9, et9, H⟩ := wr_some H
            have ht9 : isT t9 := isT_l (vp_lt hj8 ej8) et9
            refine x_aald rfl (Nat.le_of_ble_eq_true rfl) rfl hj8 ej8 (r := t9) (by rw [et9]; exact if_pos (vp_lt hj8 ej8)) ?_
            refine am_astore rfl (Nat.le_of_ble_eq_true rfl) ?_
            refine am_aload rfl rfl ?_
            refine am_iload_n rfl rfl ?_
            refine am_iload_n rfl rfl ?_
            refine am_aload_n rfl rfl ?_
            refine u_getR f_8_10 rfl (Nat.le_of_ble_eq_true rfl) rfl rfl ?_
            obtain ⟨r10, g11, H1, H⟩ := bd2_some H
            refine cv3i v_8_165 rfl rfl (isT_lt0 ht9) (sk_T ht9) (Nat.le_of_ble_eq_true rfl) (fun _ _ => Nat.le_of_ble_eq_true rfl) (y_X7_cellOf t9 a2 a3 ht9 g2 _ H1 ?_)
            refine am_istore rfl (Nat.le_of_ble_eq_true rfl) ?_
            refine am_iload rfl rfl ?_
            refine am_if_ge rfl (fun c12 => ?_) (fun c12 => ?_)
            · have H := it_pos c12 H
              refine am_aload rfl rfl ?_
              refine u_getR f_8_171 rfl (isT_lt0 ht9) (sk_T ht9) rfl ?_
              refine am_iload rfl rfl ?_
              obtain ⟨j13, ej13, hj13, H⟩ := ck_some H
              refine x_iald rfl (isT_lt ht9 (Nat.le_of_ble_eq_true rfl)) (sk_A ht9 (Nat.le_of_ble_eq_true rfl) (Nat.le_of_ble_eq_true rfl)) hj13 ej13 ?_
              refine x_bipush (v := (99 : Int32)) rfl (by decide) ?_
              refine am_icmp_ne rfl (fun c14 => ?_) (fun c14 => ?_)
              · have H := it_neg c14 H
                refine am_aload rfl rfl ?_
                refine am_iload rfl rfl ?_
                refine am_iload rfl rfl ?_
                refine am_iload rfl rfl ?_
                refine am_iload rfl rfl ?_
                obtain ⟨r15, g16, H1, H⟩ := bd2_some H
                refine cv4i v_8_236 rfl rfl (isT_lt0 ht9) (sk_T ht9) (Nat.le_of_ble_eq_true rfl) (fun _ _ => Nat.le_of_ble_eq_true rfl) (y_X7_addEntry t9 r10 a4 a5 a6 ht9 g11 _ H1 ?_)
                have H := Option.some.inj H
                subst H
                exact u_iret rfl rfl K
              · have H := it_pos c14 H
                refine x_bipush (v := (-3 : Int32)) rfl (by decide) ?_
                have H := Option.some.inj H
                subst H
                exact u_iret rfl rfl K
            · have H := it_neg c12 H
              refine am_iload rfl rfl ?_
              have H := Option.some.inj H
              subst H
              exact u_iret rfl rfl K
          · have H := it_neg c7 H
            refine x_bipush (v := (-2 : Int32)) rfl (by decide) ?_
            have H := Option.some.inj H
            subst H
            exact u_iret rfl rfl K
def f_X8_takeBack (a1 : Int32) (a2 : Int32) (a3 : Int32) (g : G) : Option (Int32 × G) := bd2 (f_X8_isTournament a1 g) fun r1 g2 => if r1 = 0 then some (((-2 : Int32), g2)) else if 0 ≤ a3 then ck a1 4 fun j5 => wr (47 + 28 * j5) fun t6 => if a2 < 0 then some (((-2 : Int32), g2)) else if (g2 t6 3) ≤ a2 then some (((-2 : Int32), g2)) else ck a2 60 fun j9 => if (g2 (t6 + 12) j9) ≤ a3 then ck a2 60 fun j11 => if (g2 (t6 + 13) j11) = (-1 : Int32) then ck a2 60 fun j13 => wr (up2 g2 (t6 + 13) j13 a3) fun g14 => some (((1 : Int32), g14)) else some (((-3 : Int32), g2)) else some (((-2 : Int32), g2)) else some (((-2 : Int32), g2))
set_option maxHeartbeats 4000000 in
set_option maxRecDepth 100000 in
theorem y_X8_takeBack (a1 : Int32) (a2 : Int32) (a3 : Int32)  (g : G) (q : Int32 × G) {post : Int32 → G → Prop} (H : f_X8_takeBack a1 a2 a3 g = some q) (K : post q.1 q.2) : Y m_X8_takeBack 1 [.ref 0, .int a1, .int a2, .int a3] g post := by
  refine Y_of ok_X8_takeBack pn_8 rfl (by decide) (Or.inr (Or.inl rfl)) (List.forall_mem_cons.mpr ⟨rfl, (List.forall_mem_cons.mpr ⟨rfl, (List.forall_mem_cons.mpr ⟨rfl, (List.forall_mem_cons.mpr ⟨rfl, (fun _ h => absurd h List.not_mem_nil)⟩)⟩)⟩)⟩) (Nat.le_of_ble_eq_true rfl) ?_
  show u_V m_X8_takeBack 1 post 0 [some (.ref 0), some (.int a1), some (.int a2), some (.int a3), none] [] g
  unfold f_X8_takeBack at H
  refine am_aload_n rfl rfl ?_
  refine am_iload_n rfl rfl ?_
  obtain ⟨r1, g2, H1, H⟩ := bd2_some H
  refine cv1i v_8_138 rfl rfl (Nat.le_of_ble_eq_true rfl) rfl (Nat.le_of_ble_eq_true rfl) (fun _ _ => Nat.le_of_ble_eq_true rfl) (y_X8_isTournament a1 g _ H1 ?_)
  refine am_if_eq rfl (fun c3 => ?_) (fun c3 => ?_)
  · have H := it_pos c3 H
    refine x_bipush (v := (-2 : Int32)) rfl (by decide) ?_
    have H := Option.some.inj H
    subst H
    exact u_iret rfl rfl K
  · have H := it_neg c3 H
    refine am_iload_n rfl rfl ?_
    refine am_if_ge rfl (fun c4 => ?_) (fun c4 => ?_)
    · have H := it_pos c4 H
      refine am_aload_n rfl rfl ?_
      refine u_getR f_8_28 rfl (Nat.le_of_ble_eq_true rfl) rfl rfl ?_
      refine am_iload_n rfl rfl ?_
      obtain ⟨j5, ej5, hj5, H⟩ := ck_some H
      obtain ⟨t6, et6, H⟩ := wr_some H
      have ht6 : isT t6 := isT_l (vp_lt hj5 ej5) et6
      refine x_aald rfl (Nat.le_of_ble_eq_true rfl) rfl hj5 ej5 (r := t6) (by rw [et6]; exact if_pos (vp_lt hj5 ej5)) ?_
      refine am_astore rfl (Nat.le_of_ble_eq_true rfl) ?_
      refine am_iload_n rfl rfl ?_
      refine am_if_lt rfl (fun c7 => ?_) (fun c7 => ?_)
      · have H := it_pos c7 H
        refine x_bipush (v := (-2 : Int32)) rfl (by decide) ?_
        have H := Option.some.inj H
        subst H
        exact u_iret rfl rfl K
      · have H := it_neg c7 H
        refine am_iload_n rfl rfl ?_
        refine am_aload rfl rfl ?_
        refine u_getI f_8_240 rfl (isT_lt0 ht6) (sk_T ht6) rfl ?_
        refine am_icmp_ge rfl (fun c8 => ?_) (fun c8 => ?_)
        · have H := it_pos c8 H
          refine x_bipush (v := (-2 : Int32)) rfl (by decide) ?_
          have H := Option.some.inj H
          subst H
          exact u_iret rfl rfl K
        · have H := it_neg c8 H
          refine am_iload_n rfl rfl ?_
          refine am_aload rfl rfl ?_
          refine u_getR f_8_243 rfl (isT_lt0 ht6) (sk_T ht6) rfl ?_
          refine am_iload_n rfl rfl ?_
          obtain ⟨j9, ej9, hj9, H⟩ := ck_some H
          refine x_iald rfl (isT_lt ht6 (Nat.le_of_ble_eq_true rfl)) (sk_A ht6 (Nat.le_of_ble_eq_true rfl) (Nat.le_of_ble_eq_true rfl)) hj9 ej9 ?_
          refine am_icmp_ge rfl (fun c10 => ?_) (fun c10 => ?_)
          · have H := it_pos c10 H
            refine am_aload rfl rfl ?_
            refine u_getR f_8_246 rfl (isT_lt0 ht6) (sk_T ht6) rfl ?_
            refine am_iload_n rfl rfl ?_
            obtain ⟨j11, ej11, hj11, H⟩ := ck_some H
            refine x_iald rfl (isT_lt ht6 (Nat.le_of_ble_eq_true rfl)) (sk_A ht6 (Nat.le_of_ble_eq_true rfl) (Nat.le_of_ble_eq_true rfl)) hj11 ej11 ?_
            refine x_iconst (v := (-1 : Int32)) rfl (by decide) ?_
            refine am_icmp_eq rfl (fun c12 => ?_) (fun c12 => ?_)
            · have H := it_pos c12 H
              refine am_aload rfl rfl ?_
              refine u_getR f_8_246 rfl (isT_lt0 ht6) (sk_T ht6) rfl ?_
              refine am_iload_n rfl rfl ?_
              refine am_iload_n rfl rfl ?_
              obtain ⟨j13, ej13, hj13, H⟩ := ck_some H
              obtain ⟨g14, eg14, H⟩ := wr_some H
              refine x_iast rfl (isT_lt ht6 (Nat.le_of_ble_eq_true rfl)) (sk_A ht6 (Nat.le_of_ble_eq_true rfl) (Nat.le_of_ble_eq_true rfl)) hj13 ej13 eg14 ?_
              refine x_iconst (v := (1 : Int32)) rfl (by decide) ?_
              have H := Option.some.inj H
              subst H
              exact u_iret rfl rfl K
            · have H := it_neg c12 H
              refine x_bipush (v := (-3 : Int32)) rfl (by decide) ?_
              have H := Option.some.inj H
              subst H
              exact u_iret rfl rfl K
          · have H := it_neg c10 H
            refine x_bipush (v := (-2 : Int32)) rfl (by decide) ?_
            have H := Option.some.inj H
            subst H
            exact u_iret rfl rfl K
    · have H := it_neg c4 H
      refine x_bipush (v := (-2 : Int32)) rfl (by decide) ?_
      have H := Option.some.inj H
      subst H
      exact u_iret rfl rfl K
def f_X8_counts (a1 : Int32) (a2 : Int32) (a3 : Int32) (a4 : Int32) (g : G) : Option (Int32 × G) := bd2 (f_X8_isTournament a1 g) fun r1 g2 => if r1 = 0 then some (((-2 : Int32), g2)) else if 0 ≤ a4 then ck a1 4 fun j5 => wr (47 + 28 * j5) fun t6 => bd2 (f_X7_cellOf t6 a2 a3 g2) fun r7 g8 => if 0 ≤ r7 then bd2 (f_X6_read t6 (2147483647 : Int32) a4 g8) fun r10 g11 => ck r7 30 fun j12 => some (((g11 16 j12), g11)) else some ((r7, g8)) else some (((-2 : Int32), g2))
set_option maxHeartbeats 4000000 in
set_option maxRecDepth 100000 in
theorem y_X8_counts (a1 : Int32) (a2 : Int32) (a3 : Int32) (a4 : Int32)  (g : G) (q : Int32 × G) {post : Int32 → G → Prop} (H : f_X8_counts a1 a2 a3 a4 g = some q) (K : post q.1 q.2) : Y m_X8_counts 3 [.ref 0, .int a1, .int a2, .int a3, .int a4] g post := by
  refine Y_of ok_X8_counts pn_8 rfl (by decide) (Or.inr (Or.inl rfl)) (List.forall_mem_cons.mpr ⟨rfl, (List.forall_mem_cons.mpr ⟨rfl, (List.forall_mem_cons.mpr ⟨rfl, (List.forall_mem_cons.mpr ⟨rfl, (List.forall_mem_cons.mpr ⟨rfl, (fun _ h => absurd h List.not_mem_nil)⟩)⟩)⟩)⟩)⟩) (Nat.le_of_ble_eq_true rfl) ?_
  show u_V m_X8_counts 3 post 0 [some (.ref 0), some (.int a1), some (.int a2), some (.int a3), some (.int a4), none, none] [] g
  unfold f_X8_counts at H
  refine am_aload_n rfl rfl ?_
  refine am_iload_n rfl rfl ?_
  obtain ⟨r1, g2, H1, H⟩ := bd2_some H
  refine cv1i v_8_138 rfl rfl (Nat.le_of_ble_eq_true rfl) rfl (Nat.le_of_ble_eq_true rfl) (fun _ _ => Nat.le_of_ble_eq_true rfl) (y_X8_isTournament a1 g _ H1 ?_)
  refine am_if_eq rfl (fun c3 => ?_) (fun c3 => ?_)
  · have H := it_pos c3 H
    refine x_bipush (v := (-2 : Int32)) rfl (by decide) ?_
    have H := Option.some.inj H
    subst H
    exact u_iret rfl rfl K
  · have H := it_neg c3 H
    refine am_iload rfl rfl ?_
    refine am_if_ge rfl (fun c4 => ?_) (fun c4 => ?_)
    · have H := it_pos c4 H
      refine am_aload_n rfl rfl ?_
      refine u_getR f_8_28 rfl (Nat.le_of_ble_eq_true rfl) rfl rfl ?_
      refine am_iload_n rfl rfl ?_
      obtain ⟨j5, ej5, hj5, H⟩ := ck_some H
      obtain ⟨t6, et6, H⟩ := wr_some H
      have ht6 : isT t6 := isT_l (vp_lt hj5 ej5) et6
      refine x_aald rfl (Nat.le_of_ble_eq_true rfl) rfl hj5 ej5 (r := t6) (by rw [et6]; exact if_pos (vp_lt hj5 ej5)) ?_
      refine am_astore rfl (Nat.le_of_ble_eq_true rfl) ?_
      refine am_aload rfl rfl ?_
      refine am_iload_n rfl rfl ?_
      refine am_iload_n rfl rfl ?_
      refine am_aload_n rfl rfl ?_
      refine u_getR f_8_10 rfl (Nat.le_of_ble_eq_true rfl) rfl rfl ?_
      obtain ⟨r7, g8, H1, H⟩ := bd2_some H
      refine cv3i v_8_165 rfl rfl (isT_lt0 ht6) (sk_T ht6) (Nat.le_of_ble_eq_true rfl) (fun _ _ => Nat.le_of_ble_eq_true rfl) (y_X7_cellOf t6 a2 a3 ht6 g2 _ H1 ?_)
      refine am_istore rfl (Nat.le_of_ble_eq_true rfl) ?_
      refine am_iload rfl rfl ?_
      refine am_if_ge rfl (fun c9 => ?_) (fun c9 => ?_)
      · have H := it_pos c9 H
        refine am_aload_n rfl rfl ?_
        refine u_getR f_8_38 rfl (Nat.le_of_ble_eq_true rfl) rfl rfl ?_
        refine am_aload rfl rfl ?_
        refine am_ldc (v := (2147483647 : Int32)) c_8_249 rfl ?_
        refine am_iload rfl rfl ?_
        obtain ⟨r10, g11, H1, H⟩ := bd2_some H
        refine cv3v v_8_211 rfl rfl (Nat.le_of_ble_eq_true rfl) rfl (Nat.le_of_ble_eq_true rfl) (fun _ _ => Nat.le_of_ble_eq_true rfl) (y_X6_read t6 (2147483647 : Int32) a4 ht6 g8 _ H1 ?_)
        refine am_aload_n rfl rfl ?_
        refine u_getR f_8_38 rfl (Nat.le_of_ble_eq_true rfl) rfl rfl ?_
        refine u_getR f_8_250 rfl (Nat.le_of_ble_eq_true rfl) rfl rfl ?_
        refine am_iload rfl rfl ?_
        obtain ⟨j12, ej12, hj12, H⟩ := ck_some H
        refine x_iald rfl (Nat.le_of_ble_eq_true rfl) rfl hj12 ej12 ?_
        have H := Option.some.inj H
        subst H
        exact u_iret rfl rfl K
      · have H := it_neg c9 H
        refine am_iload rfl rfl ?_
        have H := Option.some.inj H
        subst H
        exact u_iret rfl rfl K
    · have H := it_neg c4 H
      refine x_bipush (v := (-2 : Int32)) rfl (by decide) ?_
      have H := Option.some.inj H
      subst H
      exact u_iret rfl rfl K
def f_X8_refuseAsking (a1 : Int32) (a2 : Int32) (a3 : Int32) (a4 : Int32) (g : G) : Option (Int32 × G) := bd2 (f_X8_isTournament a1 g) fun r1 g2 => if r1 = 0 then some (((-2 : Int32), g2)) else bd2 (f_X5_has a2 g2) fun r4 g5 => if r4 = 0 then some (((-2 : Int32), g5)) else if a3 < 0 then some (((-2 : Int32), g5)) else if 0 ≤ a4 then ck a1 4 fun j9 => wr (47 + 28 * j9) fun t10 => bd2 (f_X7_hasIn t10 a2 g5) fun r11 g12 => if r11 = 0 then some (((-3 : Int32), g12)) else some (((0 : Int32), g12)) else some (((-2 : Int32), g5))
set_option maxHeartbeats 4000000 in
set_option maxRecDepth 100000 in
theorem y_X8_refuseAsking (a1 : Int32) (a2 : Int32) (a3 : Int32) (a4 : Int32)  (g : G) (q : Int32 × G) {post : Int32 → G → Prop} (H : f_X8_refuseAsking a1 a2 a3 a4 g = some q) (K : post q.1 q.2) : Y m_X8_refuseAsking 1 [.ref 0, .int a1, .int a2, .int a3, .int a4] g post := by
  refine Y_of ok_X8_refuseAsking pn_8 rfl (by decide) (Or.inr (Or.inl rfl)) (List.forall_mem_cons.mpr ⟨rfl, (List.forall_mem_cons.mpr ⟨rfl, (List.forall_mem_cons.mpr ⟨rfl, (List.forall_mem_cons.mpr ⟨rfl, (List.forall_mem_cons.mpr ⟨rfl, (fun _ h => absurd h List.not_mem_nil)⟩)⟩)⟩)⟩)⟩) (Nat.le_of_ble_eq_true rfl) ?_
  show u_V m_X8_refuseAsking 1 post 0 [some (.ref 0), some (.int a1), some (.int a2), some (.int a3), some (.int a4)] [] g
  unfold f_X8_refuseAsking at H
  refine am_aload_n rfl rfl ?_
  refine am_iload_n rfl rfl ?_
  obtain ⟨r1, g2, H1, H⟩ := bd2_some H
  refine cv1i v_8_138 rfl rfl (Nat.le_of_ble_eq_true rfl) rfl (Nat.le_of_ble_eq_true rfl) (fun _ _ => Nat.le_of_ble_eq_true rfl) (y_X8_isTournament a1 g _ H1 ?_)
  refine am_if_eq rfl (fun c3 => ?_) (fun c3 => ?_)
  · have H := it_pos c3 H
    refine x_bipush (v := (-2 : Int32)) rfl (by decide) ?_
    have H := Option.some.inj H
    subst H
    exact u_iret rfl rfl K
  · have H := it_neg c3 H
    refine am_aload_n rfl rfl ?_
    refine u_getR f_8_19 rfl (Nat.le_of_ble_eq_true rfl) rfl rfl ?_
    refine am_iload_n rfl rfl ?_
    obtain ⟨r4, g5, H1, H⟩ := bd2_some H
    refine cv1i v_8_92 rfl rfl (Nat.le_of_ble_eq_true rfl) rfl (Nat.le_of_ble_eq_true rfl) (fun _ _ => Nat.le_of_ble_eq_true rfl) (y_X5_has a2 g2 _ H1 ?_)
    refine am_if_eq rfl (fun c6 => ?_) (fun c6 => ?_)
    · have H := it_pos c6 H
      refine x_bipush (v := (-2 : Int32)) rfl (by decide) ?_
      have H := Option.some.inj H
      subst H
      exact u_iret rfl rfl K
    · have H := it_neg c6 H
      refine am_iload_n rfl rfl ?_
      refine am_if_lt rfl (fun c7 => ?_) (fun c7 => ?_)
      · have H := it_pos c7 H
        refine x_bipush (v := (-2 : Int32)) rfl (by decide) ?_
        have H := Option.some.inj H
        subst H
        exact u_iret rfl rfl K
      · have H := it_neg c7 H
        refine am_iload rfl rfl ?_
        refine am_if_ge rfl (fun c8 => ?_) (fun c8 => ?_)
        · have H := it_pos c8 H
          refine am_aload_n rfl rfl ?_
          refine u_getR f_8_28 rfl (Nat.le_of_ble_eq_true rfl) rfl rfl ?_
          refine am_iload_n rfl rfl ?_
          obtain ⟨j9, ej9, hj9, H⟩ := ck_some H
          obtain ⟨t10, et10, H⟩ := wr_some H
          have ht10 : isT t10 := isT_l (vp_lt hj9 ej9) et10
          refine x_aald rfl (Nat.le_of_ble_eq_true rfl) rfl hj9 ej9 (r := t10) (by rw [et10]; exact if_pos (vp_lt hj9 ej9)) ?_
          refine am_iload_n rfl rfl ?_
          obtain ⟨r11, g12, H1, H⟩ := bd2_some H
          refine cv1i v_8_141 rfl rfl (isT_lt0 ht10) (sk_T ht10) (Nat.le_of_ble_eq_true rfl) (fun _ _ => Nat.le_of_ble_eq_true rfl) (y_X7_hasIn t10 a2 ht10 g5 _ H1 ?_)
          refine am_if_eq rfl (fun c13 => ?_) (fun c13 => ?_)
          · have H := it_pos c13 H
            refine x_bipush (v := (-3 : Int32)) rfl (by decide) ?_
            have H := Option.some.inj H
            subst H
            exact u_iret rfl rfl K
          · have H := it_neg c13 H
            refine x_iconst (v := (0 : Int32)) rfl (by decide) ?_
            refine am_goto rfl ?_
            have H := Option.some.inj H
            subst H
            exact u_iret rfl rfl K
        · have H := it_neg c8 H
          refine x_bipush (v := (-2 : Int32)) rfl (by decide) ?_
          have H := Option.some.inj H
          subst H
          exact u_iret rfl rfl K
def f_X8_points (a1 : Int32) (a2 : Int32) (a3 : Int32) (a4 : Int32) (g : G) : Option (Int32 × G) := bd2 (f_X8_refuseAsking a1 a2 a3 a4 g) fun r1 g2 => if r1 = 0 then ck a1 4 fun j4 => wr (47 + 28 * j4) fun t5 => bd2 (f_X6_read t5 a3 a4 g2) fun r6 g7 => bd2 (f_X6_score t5 a3 g7) fun r8 g9 => ck a2 24 fun j10 => some (((g9 19 j10), g9)) else some ((r1, g2))
set_option maxHeartbeats 4000000 in
set_option maxRecDepth 100000 in
theorem y_X8_points (a1 : Int32) (a2 : Int32) (a3 : Int32) (a4 : Int32)  (g : G) (q : Int32 × G) {post : Int32 → G → Prop} (H : f_X8_points a1 a2 a3 a4 g = some q) (K : post q.1 q.2) : Y m_X8_points 2 [.ref 0, .int a1, .int a2, .int a3, .int a4] g post := by
  refine Y_of ok_X8_points pn_8 rfl (by decide) (Or.inr (Or.inl rfl)) (List.forall_mem_cons.mpr ⟨rfl, (List.forall_mem_cons.mpr ⟨rfl, (List.forall_mem_cons.mpr ⟨rfl, (List.forall_mem_cons.mpr ⟨rfl, (List.forall_mem_cons.mpr ⟨rfl, (fun _ h => absurd h List.not_mem_nil)⟩)⟩)⟩)⟩)⟩) (Nat.le_of_ble_eq_true rfl) ?_
  show u_V m_X8_points 2 post 0 [some (.ref 0), some (.int a1), some (.int a2), some (.int a3), some (.int a4), none, none] [] g
  unfold f_X8_points at H
  refine am_aload_n rfl rfl ?_
  refine am_iload_n rfl rfl ?_
  refine am_iload_n rfl rfl ?_
  refine am_iload_n rfl rfl ?_
  refine am_iload rfl rfl ?_
  obtain ⟨r1, g2, H1, H⟩ := bd2_some H
  refine cv4i v_8_253 rfl rfl (Nat.le_of_ble_eq_true rfl) rfl (Nat.le_of_ble_eq_true rfl) (fun _ _ => Nat.le_of_ble_eq_true rfl) (y_X8_refuseAsking a1 a2 a3 a4 g _ H1 ?_)
  refine am_istore rfl (Nat.le_of_ble_eq_true rfl) ?_
  refine am_iload rfl rfl ?_
  refine am_if_eq rfl (fun c3 => ?_) (fun c3 => ?_)
  · have H := it_pos c3 H
    refine am_aload_n rfl rfl ?_
    refine u_getR f_8_28 rfl (Nat.le_of_ble_eq_true rfl) rfl rfl ?_
    refine am_iload_n rfl rfl ?_
    obtain ⟨j4, ej4, hj4, H⟩ := ck_some H
    obtain ⟨t5, et5, H⟩ := wr_some H
    have ht5 : isT t5 := isT_l (vp_lt hj4 ej4) et5
    refine x_aald rfl (Nat.le_of_ble_eq_true rfl) rfl hj4 ej4 (r := t5) (by rw [et5]; exact if_pos (vp_lt hj4 ej4)) ?_
    refine am_astore rfl (Nat.le_of_ble_eq_true rfl) ?_
    refine am_aload_n rfl rfl ?_
    refine u_getR f_8_38 rfl (Nat.le_of_ble_eq_true rfl) rfl rfl ?_
    refine am_aload rfl rfl ?_
    refine am_iload_n rfl rfl ?_
    refine am_iload rfl rfl ?_
    obtain ⟨r6, g7, H1, H⟩ := bd2_some H
    refine cv3v v_8_211 rfl rfl (Nat.le_of_ble_eq_true rfl) rfl (Nat.le_of_ble_eq_true rfl) (fun _ _ => Nat.le_of_ble_eq_true rfl) (y_X6_read t5 a3 a4 ht5 g2 _ H1 ?_)
    refine am_aload_n rfl rfl ?_
    refine u_getR f_8_38 rfl (Nat.le_of_ble_eq_true rfl) rfl rfl ?_
    refine am_aload rfl rfl ?_
    refine am_iload_n rfl rfl ?_
    obtain ⟨r8, g9, H1, H⟩ := bd2_some H
    refine cv2v v_8_215 rfl rfl (Nat.le_of_ble_eq_true rfl) rfl (Nat.le_of_ble_eq_true rfl) (fun _ _ => Nat.le_of_ble_eq_true rfl) (y_X6_score t5 a3 ht5 g7 _ H1 ?_)
    refine am_aload_n rfl rfl ?_
    refine u_getR f_8_38 rfl (Nat.le_of_ble_eq_true rfl) rfl rfl ?_
    refine u_getR f_8_222 rfl (Nat.le_of_ble_eq_true rfl) rfl rfl ?_
    refine am_iload_n rfl rfl ?_
    obtain ⟨j10, ej10, hj10, H⟩ := ck_some H
    refine x_iald rfl (Nat.le_of_ble_eq_true rfl) rfl hj10 ej10 ?_
    have H := Option.some.inj H
    subst H
    exact u_iret rfl rfl K
  · have H := it_neg c3 H
    refine am_iload rfl rfl ?_
    have H := Option.some.inj H
    subst H
    exact u_iret rfl rfl K
def f_X8_makeTable (a1 : Int32) (a2 : Int32) (a3 : Int32) (g : G) : Option (Int32 × G) := ck a1 4 fun j1 => wr (47 + 28 * j1) fun t2 => bd2 (f_X6_read t2 a2 a3 g) fun r3 g4 => bd2 (f_X6_score t2 a2 g4) fun r5 g6 => bd2 (f_X6_tally t2 g6) fun r7 g8 => some (((0 : Int32), g8))
set_option maxHeartbeats 4000000 in
set_option maxRecDepth 100000 in
theorem y_X8_makeTable (a1 : Int32) (a2 : Int32) (a3 : Int32)  (g : G) (q : Int32 × G) {post : Int32 → G → Prop} (H : f_X8_makeTable a1 a2 a3 g = some q) (K : post q.1 q.2) : Y m_X8_makeTable 4 [.ref 0, .int a1, .int a2, .int a3] g post := by
  refine Y_of ok_X8_makeTable pn_8 rfl (by decide) (Or.inl rfl) (List.forall_mem_cons.mpr ⟨rfl, (List.forall_mem_cons.mpr ⟨rfl, (List.forall_mem_cons.mpr ⟨rfl, (List.forall_mem_cons.mpr ⟨rfl, (fun _ h => absurd h List.not_mem_nil)⟩)⟩)⟩)⟩) (Nat.le_of_ble_eq_true rfl) ?_
  show u_V m_X8_makeTable 4 post 0 [some (.ref 0), some (.int a1), some (.int a2), some (.int a3), none] [] g
  unfold f_X8_makeTable at H
  refine am_aload_n rfl rfl ?_
  refine u_getR f_8_28 rfl (Nat.le_of_ble_eq_true rfl) rfl rfl ?_
  refine am_iload_n rfl rfl ?_
  obtain ⟨j1, ej1, hj1, H⟩ := ck_some H
  obtain ⟨t2, et2, H⟩ := wr_some H
  have ht2 : isT t2 := isT_l (vp_lt hj1 ej1) et2
  refine x_aald rfl (Nat.le_of_ble_eq_true rfl) rfl hj1 ej1 (r := t2) (by rw [et2]; exact if_pos (vp_lt hj1 ej1)) ?_
  refine am_astore rfl (Nat.le_of_ble_eq_true rfl) ?_
  refine am_aload_n rfl rfl ?_
  refine u_getR f_8_38 rfl (Nat.le_of_ble_eq_true rfl) rfl rfl ?_
  refine am_aload rfl rfl ?_
  refine am_iload_n rfl rfl ?_
  refine am_iload_n rfl rfl ?_
  obtain ⟨r3, g4, H1, H⟩ := bd2_some H
  refine cv3v v_8_211 rfl rfl (Nat.le_of_ble_eq_true rfl) rfl (Nat.le_of_ble_eq_true rfl) (fun _ _ => Nat.le_of_ble_eq_true rfl) (y_X6_read t2 a2 a3 ht2 g _ H1 ?_)
  refine am_aload_n rfl rfl ?_
  refine u_getR f_8_38 rfl (Nat.le_of_ble_eq_true rfl) rfl rfl ?_
  refine am_aload rfl rfl ?_
  refine am_iload_n rfl rfl ?_
  obtain ⟨r5, g6, H1, H⟩ := bd2_some H
  refine cv2v v_8_215 rfl rfl (Nat.le_of_ble_eq_true rfl) rfl (Nat.le_of_ble_eq_true rfl) (fun _ _ => Nat.le_of_ble_eq_true rfl) (y_X6_score t2 a2 ht2 g4 _ H1 ?_)
  refine am_aload_n rfl rfl ?_
  refine u_getR f_8_38 rfl (Nat.le_of_ble_eq_true rfl) rfl rfl ?_
  refine am_aload rfl rfl ?_
  obtain ⟨r7, g8, H1, H⟩ := bd2_some H
  refine cv1v v_8_273 rfl rfl (Nat.le_of_ble_eq_true rfl) rfl (Nat.le_of_ble_eq_true rfl) (fun _ _ => Nat.le_of_ble_eq_true rfl) (y_X6_tally t2 ht2 g6 _ H1 ?_)
  have H := Option.some.inj H
  subst H
  exact u_vret rfl rfl K
def f_X8_sum (a1 : Int32) (a2 : Int32) (a3 : Int32) (a4 : Int32) (a5 : Int32) (g : G) : Option (Int32 × G) := if a3 < (1 : Int32) then some (((-2 : Int32), g)) else if a3 ≤ (5 : Int32) then bd2 (f_X8_refuseAsking a1 a2 a4 a5 g) fun r3 g4 => if r3 = 0 then bd2 (f_X8_makeTable a1 a4 a5 g4) fun r6 g7 => bd2 (f_X6_amountOf a3 a2 g7) fun r8 g9 => some ((r8, g9)) else some ((r3, g4)) else some (((-2 : Int32), g))
set_option maxHeartbeats 4000000 in
set_option maxRecDepth 100000 in
theorem y_X8_sum (a1 : Int32) (a2 : Int32) (a3 : Int32) (a4 : Int32) (a5 : Int32)  (g : G) (q : Int32 × G) {post : Int32 → G → Prop} (H : f_X8_sum a1 a2 a3 a4 a5 g = some q) (K : post q.1 q.2) : Y m_X8_sum 5 [.ref 0, .int a1, .int a2, .int a3, .int a4, .int a5] g post := by
  refine Y_of ok_X8_sum pn_8 rfl (by decide) (Or.inr (Or.inl rfl)) (List.forall_mem_cons.mpr ⟨rfl, (List.forall_mem_cons.mpr ⟨rfl, (List.forall_mem_cons.mpr ⟨rfl, (List.forall_mem_cons.mpr ⟨rfl, (List.forall_mem_cons.mpr ⟨rfl, (List.forall_mem_cons.mpr ⟨rfl, (fun _ h => absurd h List.not_mem_nil)⟩)⟩)⟩)⟩)⟩)⟩) (Nat.le_of_ble_eq_true rfl) ?_
  show u_V m_X8_sum 5 post 0 [some (.ref 0), some (.int a1), some (.int a2), some (.int a3), some (.int a4), some (.int a5), none] [] g
  unfold f_X8_sum at H
  refine am_iload_n rfl rfl ?_
  refine x_iconst (v := (1 : Int32)) rfl (by decide) ?_
  refine am_icmp_lt rfl (fun c1 => ?_) (fun c1 => ?_)
  · have H := it_pos c1 H
    refine x_bipush (v := (-2 : Int32)) rfl (by decide) ?_
    have H := Option.some.inj H
    subst H
    exact u_iret rfl rfl K
  · have H := it_neg c1 H
    refine am_iload_n rfl rfl ?_
    refine x_iconst (v := (5 : Int32)) rfl (by decide) ?_
    refine am_icmp_le rfl (fun c2 => ?_) (fun c2 => ?_)
    · have H := it_pos c2 H
      refine am_aload_n rfl rfl ?_
      refine am_iload_n rfl rfl ?_
      refine am_iload_n rfl rfl ?_
      refine am_iload rfl rfl ?_
      refine am_iload rfl rfl ?_
      obtain ⟨r3, g4, H1, H⟩ := bd2_some H
      refine cv4i v_8_253 rfl rfl (Nat.le_of_ble_eq_true rfl) rfl (Nat.le_of_ble_eq_true rfl) (fun _ _ => Nat.le_of_ble_eq_true rfl) (y_X8_refuseAsking a1 a2 a4 a5 g _ H1 ?_)
      refine am_istore rfl (Nat.le_of_ble_eq_true rfl) ?_
      refine am_iload rfl rfl ?_
      refine am_if_eq rfl (fun c5 => ?_) (fun c5 => ?_)
      · have H := it_pos c5 H
        refine am_aload_n rfl rfl ?_
        refine am_iload_n rfl rfl ?_
        refine am_iload rfl rfl ?_
        refine am_iload rfl rfl ?_
        obtain ⟨r6, g7, H1, H⟩ := bd2_some H
        refine cv3v v_8_256 rfl rfl (Nat.le_of_ble_eq_true rfl) rfl (Nat.le_of_ble_eq_true rfl) (fun _ _ => Nat.le_of_ble_eq_true rfl) (y_X8_makeTable a1 a4 a5 g4 _ H1 ?_)
        refine am_aload_n rfl rfl ?_
        refine u_getR f_8_38 rfl (Nat.le_of_ble_eq_true rfl) rfl rfl ?_
        refine am_iload_n rfl rfl ?_
        refine am_iload_n rfl rfl ?_
        obtain ⟨r8, g9, H1, H⟩ := bd2_some H
        refine cv2i v_8_260 rfl rfl (Nat.le_of_ble_eq_true rfl) rfl (Nat.le_of_ble_eq_true rfl) (fun _ _ => Nat.le_of_ble_eq_true rfl) (y_X6_amountOf a3 a2 g7 _ H1 ?_)
        have H := Option.some.inj H
        subst H
        exact u_iret rfl rfl K
      · have H := it_neg c5 H
        refine am_iload rfl rfl ?_
        have H := Option.some.inj H
        subst H
        exact u_iret rfl rfl K
    · have H := it_neg c2 H
      refine x_bipush (v := (-2 : Int32)) rfl (by decide) ?_
      have H := Option.some.inj H
      subst H
      exact u_iret rfl rfl K
def f_X8_place (a1 : Int32) (a2 : Int32) (a3 : Int32) (a4 : Int32) (g : G) : Option (Int32 × G) := bd2 (f_X8_refuseAsking a1 a2 a3 a4 g) fun r1 g2 => if r1 = 0 then bd2 (f_X8_makeTable a1 a3 a4 g2) fun r4 g5 => ck a1 4 fun j6 => wr (47 + 28 * j6) fun t7 => bd2 (f_X6_aheadOf t7 a2 g5) fun r8 g9 => some (((r8 + (1 : Int32)), g9)) else some ((r1, g2))
set_option maxHeartbeats 4000000 in
set_option maxRecDepth 100000 in
theorem y_X8_place (a1 : Int32) (a2 : Int32) (a3 : Int32) (a4 : Int32)  (g : G) (q : Int32 × G) {post : Int32 → G → Prop} (H : f_X8_place a1 a2 a3 a4 g = some q) (K : post q.1 q.2) : Y m_X8_place 5 [.ref 0, .int a1, .int a2, .int a3, .int a4] g post := by
  refine Y_of ok_X8_place pn_8 rfl (by decide) (Or.inr (Or.inl rfl)) (List.forall_mem_cons.mpr ⟨rfl, (List.forall_mem_cons.mpr ⟨rfl, (List.forall_mem_cons.mpr ⟨rfl, (List.forall_mem_cons.mpr ⟨rfl, (List.forall_mem_cons.mpr ⟨rfl, (fun _ h => absurd h List.not_mem_nil)⟩)⟩)⟩)⟩)⟩) (Nat.le_of_ble_eq_true rfl) ?_
  show u_V m_X8_place 5 post 0 [some (.ref 0), some (.int a1), some (.int a2), some (.int a3), some (.int a4), none] [] g
  unfold f_X8_place at H
  refine am_aload_n rfl rfl ?_
  refine am_iload_n rfl rfl ?_
  refine am_iload_n rfl rfl ?_
  refine am_iload_n rfl rfl ?_
  refine am_iload rfl rfl ?_
  obtain ⟨r1, g2, H1, H⟩ := bd2_some H
  refine cv4i v_8_253 rfl rfl (Nat.le_of_ble_eq_true rfl) rfl (Nat.le_of_ble_eq_true rfl) (fun _ _ => Nat.le_of_ble_eq_true rfl) (y_X8_refuseAsking a1 a2 a3 a4 g _ H1 ?_)
  refine am_istore rfl (Nat.le_of_ble_eq_true rfl) ?_
  refine am_iload rfl rfl ?_
  refine am_if_eq rfl (fun c3 => ?_) (fun c3 => ?_)
  · have H := it_pos c3 H
    refine am_aload_n rfl rfl ?_
    refine am_iload_n rfl rfl ?_
    refine am_iload_n rfl rfl ?_
    refine am_iload rfl rfl ?_
    obtain ⟨r4, g5, H1, H⟩ := bd2_some H
    refine cv3v v_8_256 rfl rfl (Nat.le_of_ble_eq_true rfl) rfl (Nat.le_of_ble_eq_true rfl) (fun _ _ => Nat.le_of_ble_eq_true rfl) (y_X8_makeTable a1 a3 a4 g2 _ H1 ?_)
    refine am_aload_n rfl rfl ?_
    refine u_getR f_8_38 rfl (Nat.le_of_ble_eq_true rfl) rfl rfl ?_
    refine am_aload_n rfl rfl ?_
    refine u_getR f_8_28 rfl (Nat.le_of_ble_eq_true rfl) rfl rfl ?_
    refine am_iload_n rfl rfl ?_
    obtain ⟨j6, ej6, hj6, H⟩ := ck_some H
    obtain ⟨t7, et7, H⟩ := wr_some H
    have ht7 : isT t7 := isT_l (vp_lt hj6 ej6) et7
    refine x_aald rfl (Nat.le_of_ble_eq_true rfl) rfl hj6 ej6 (r := t7) (by rw [et7]; exact if_pos (vp_lt hj6 ej6)) ?_
    refine am_iload_n rfl rfl ?_
    obtain ⟨r8, g9, H1, H⟩ := bd2_some H
    refine cv2i v_8_263 rfl rfl (Nat.le_of_ble_eq_true rfl) rfl (Nat.le_of_ble_eq_true rfl) (fun _ _ => Nat.le_of_ble_eq_true rfl) (y_X6_aheadOf t7 a2 ht7 g5 _ H1 ?_)
    refine x_iconst (v := (1 : Int32)) rfl (by decide) ?_
    refine am_iadd rfl ?_
    have H := Option.some.inj H
    subst H
    exact u_iret rfl rfl K
  · have H := it_neg c3 H
    refine am_iload rfl rfl ?_
    have H := Option.some.inj H
    subst H
    exact u_iret rfl rfl K
def f_X8_standing (a1 : Int32) (a2 : Int32) (a3 : Int32) (a4 : Int32) (g : G) : Option (Int32 × G) := bd2 (f_X8_isTournament a1 g) fun r1 g2 => if r1 = 0 then some (((-2 : Int32), g2)) else if a3 < 0 then some (((-2 : Int32), g2)) else if 0 ≤ a4 then bd2 (f_X8_makeTable a1 a3 a4 g2) fun r6 g7 => ck a1 4 fun j8 => wr (47 + 28 * j8) fun t9 => bd2 (f_X6_whoIs t9 a2 g7) fun r10 g11 => some ((r10, g11)) else some (((-2 : Int32), g2))
set_option maxHeartbeats 4000000 in
set_option maxRecDepth 100000 in
theorem y_X8_standing (a1 : Int32) (a2 : Int32) (a3 : Int32) (a4 : Int32)  (g : G) (q : Int32 × G) {post : Int32 → G → Prop} (H : f_X8_standing a1 a2 a3 a4 g = some q) (K : post q.1 q.2) : Y m_X8_standing 5 [.ref 0, .int a1, .int a2, .int a3, .int a4] g post := by
  refine Y_of ok_X8_standing pn_8 rfl (by decide) (Or.inr (Or.inl rfl)) (List.forall_mem_cons.mpr ⟨rfl, (List.forall_mem_cons.mpr ⟨rfl, (List.forall_mem_cons.mpr ⟨rfl, (List.forall_mem_cons.mpr ⟨rfl, (List.forall_mem_cons.mpr ⟨rfl, (fun _ h => absurd h List.not_mem_nil)⟩)⟩)⟩)⟩)⟩) (Nat.le_of_ble_eq_true rfl) ?_
  show u_V m_X8_standing 5 post 0 [some (.ref 0), some (.int a1), some (.int a2), some (.int a3), some (.int a4)] [] g
  unfold f_X8_standing at H
  refine am_aload_n rfl rfl ?_
  refine am_iload_n rfl rfl ?_
  obtain ⟨r1, g2, H1, H⟩ := bd2_some H
  refine cv1i v_8_138 rfl rfl (Nat.le_of_ble_eq_true rfl) rfl (Nat.le_of_ble_eq_true rfl) (fun _ _ => Nat.le_of_ble_eq_true rfl) (y_X8_isTournament a1 g _ H1 ?_)
  refine am_if_eq rfl (fun c3 => ?_) (fun c3 => ?_)
  · have H := it_pos c3 H
    refine x_bipush (v := (-2 : Int32)) rfl (by decide) ?_
    have H := Option.some.inj H
    subst H
    exact u_iret rfl rfl K
  · have H := it_neg c3 H
    refine am_iload_n rfl rfl ?_
    refine am_if_lt rfl (fun c4 => ?_) (fun c4 => ?_)
    · have H := it_pos c4 H
      refine x_bipush (v := (-2 : Int32)) rfl (by decide) ?_
      have H := Option.some.inj H
      subst H
      exact u_iret rfl rfl K
    · have H := it_neg c4 H
      refine am_iload rfl rfl ?_
      refine am_if_ge rfl (fun c5 => ?_) (fun c5 => ?_)
      · have H := it_pos c5 H
        refine am_aload_n rfl rfl ?_
        refine am_iload_n rfl rfl ?_
        refine am_iload_n rfl rfl ?_
        refine am_iload rfl rfl ?_
        obtain ⟨r6, g7, H1, H⟩ := bd2_some H
        refine cv3v v_8_256 rfl rfl (Nat.le_of_ble_eq_true rfl) rfl (Nat.le_of_ble_eq_true rfl) (fun _ _ => Nat.le_of_ble_eq_true rfl) (y_X8_makeTable a1 a3 a4 g2 _ H1 ?_)
        refine am_aload_n rfl rfl ?_
        refine u_getR f_8_38 rfl (Nat.le_of_ble_eq_true rfl) rfl rfl ?_
        refine am_aload_n rfl rfl ?_
        refine u_getR f_8_28 rfl (Nat.le_of_ble_eq_true rfl) rfl rfl ?_
        refine am_iload_n rfl rfl ?_
        obtain ⟨j8, ej8, hj8, H⟩ := ck_some H
        obtain ⟨t9, et9, H⟩ := wr_some H
        have ht9 : isT t9 := isT_l (vp_lt hj8 ej8) et9
        refine x_aald rfl (Nat.le_of_ble_eq_true rfl) rfl hj8 ej8 (r := t9) (by rw [et9]; exact if_pos (vp_lt hj8 ej8)) ?_
        refine am_iload_n rfl rfl ?_
        obtain ⟨r10, g11, H1, H⟩ := bd2_some H
        refine cv2i v_8_266 rfl rfl (Nat.le_of_ble_eq_true rfl) rfl (Nat.le_of_ble_eq_true rfl) (fun _ _ => Nat.le_of_ble_eq_true rfl) (y_X6_whoIs t9 a2 ht9 g7 _ H1 ?_)
        have H := Option.some.inj H
        subst H
        exact u_iret rfl rfl K
      · have H := it_neg c5 H
        refine x_bipush (v := (-2 : Int32)) rfl (by decide) ?_
        have H := Option.some.inj H
        subst H
        exact u_iret rfl rfl K
def f_X8_why (a1 : Int32) (a2 : Int32) (a3 : Int32) (a4 : Int32) (a5 : Int32) (g : G) : Option (Int32 × G) := bd2 (f_X8_refuseAsking a1 a2 a4 a5 g) fun r1 g2 => bd2 (f_X8_refuseAsking a1 a3 a4 a5 g2) fun r3 g4 => if r1 = (-2 : Int32) then some (((-2 : Int32), g4)) else if r3 = (-2 : Int32) then some (((-2 : Int32), g4)) else if r1 = 0 then if r3 = 0 then bd2 (f_X8_makeTable a1 a4 a5 g4) fun r9 g10 => ck a1 4 fun j11 => wr (47 + 28 * j11) fun t12 => bd2 (f_X6_parting t12 a2 a3 g10) fun r13 g14 => some ((r13, g14)) else some (((-3 : Int32), g4)) else some (((-3 : Int32), g4))
set_option maxHeartbeats 4000000 in
set_option maxRecDepth 100000 in
theorem y_X8_why (a1 : Int32) (a2 : Int32) (a3 : Int32) (a4 : Int32) (a5 : Int32)  (g : G) (q : Int32 × G) {post : Int32 → G → Prop} (H : f_X8_why a1 a2 a3 a4 a5 g = some q) (K : post q.1 q.2) : Y m_X8_why 5 [.ref 0, .int a1, .int a2, .int a3, .int a4, .int a5] g post := by
  refine Y_of ok_X8_why pn_8 rfl (by decide) (Or.inr (Or.inl rfl)) (List.forall_mem_cons.mpr ⟨rfl, (List.forall_mem_cons.mpr ⟨rfl, (List.forall_mem_cons.mpr ⟨rfl, (List.forall_mem_cons.mpr ⟨rfl, (List.forall_mem_cons.mpr ⟨rfl, (List.forall_mem_cons.mpr ⟨rfl, (fun _ h => absurd h List.not_mem_nil)⟩)⟩)⟩)⟩)⟩)⟩) (Nat.le_of_ble_eq_true rfl) ?_
  show u_V m_X8_why 5 post 0 [some (.ref 0), some (.int a1), some (.int a2), some (.int a3), some (.int a4), some (.int a5), none, none] [] g
  unfold f_X8_why at H
  refine am_aload_n rfl rfl ?_
  refine am_iload_n rfl rfl ?_
  refine am_iload_n rfl rfl ?_
  refine am_iload rfl rfl ?_
  refine am_iload rfl rfl ?_
  obtain ⟨r1, g2, H1, H⟩ := bd2_some H
  refine cv4i v_8_253 rfl rfl (Nat.le_of_ble_eq_true rfl) rfl (Nat.le_of_ble_eq_true rfl) (fun _ _ => Nat.le_of_ble_eq_true rfl) (y_X8_refuseAsking a1 a2 a4 a5 g _ H1 ?_)
  refine am_istore rfl (Nat.le_of_ble_eq_true rfl) ?_
  refine am_aload_n rfl rfl ?_
  refine am_iload_n rfl rfl ?_
  refine am_iload_n rfl rfl ?_
  refine am_iload rfl rfl ?_
  refine am_iload rfl rfl ?_
  obtain ⟨r3, g4, H1, H⟩ := bd2_some H
  refine cv4i v_8_253 rfl rfl (Nat.le_of_ble_eq_true rfl) rfl (Nat.le_of_ble_eq_true rfl) (fun _ _ => Nat.le_of_ble_eq_true rfl) (y_X8_refuseAsking a1 a3 a4 a5 g2 _ H1 ?_)
  refine am_istore rfl (Nat.le_of_ble_eq_true rfl) ?_
  refine am_iload rfl rfl ?_
  refine x_bipush (v := (-2 : Int32)) rfl (by decide) ?_
  refine am_icmp_eq rfl (fun c5 => ?_) (fun c5 => ?_)
  · have H := it_pos c5 H
    refine x_bipush (v := (-2 : Int32)) rfl (by decide) ?_
    have H := Option.some.inj H
    subst H
    exact u_iret rfl rfl K
  · have H := it_neg c5 H
    refine am_iload rfl rfl ?_
    refine x_bipush (v := (-2 : Int32)) rfl (by decide) ?_
    refine am_icmp_ne rfl (fun c6 => ?_) (fun c6 => ?_)
    · have H := it_neg c6 H
      refine am_iload rfl rfl ?_
      refine am_if_ne rfl (fun c7 => ?_) (fun c7 => ?_)
      · have H := it_neg c7 H
        refine x_bipush (v := (-3 : Int32)) rfl (by decide) ?_
        have H := Option.some.inj H
        subst H
        exact u_iret rfl rfl K
      · have H := it_pos c7 H
        refine am_iload rfl rfl ?_
        refine am_if_eq rfl (fun c8 => ?_) (fun c8 => ?_)
        · have H := it_pos c8 H
          refine am_aload_n rfl rfl ?_
          refine am_iload_n rfl rfl ?_
          refine am_iload rfl rfl ?_
          refine am_iload rfl rfl ?_
          obtain ⟨r9, g10, H1, H⟩ := bd2_some H
          refine cv3v v_8_256 rfl rfl (Nat.le_of_ble_eq_true rfl) rfl (Nat.le_of_ble_eq_true rfl) (fun _ _ => Nat.le_of_ble_eq_true rfl) (y_X8_makeTable a1 a4 a5 g4 _ H1 ?_)
          refine am_aload_n rfl rfl ?_
          refine u_getR f_8_38 rfl (Nat.le_of_ble_eq_true rfl) rfl rfl ?_
          refine am_aload_n rfl rfl ?_
          refine u_getR f_8_28 rfl (Nat.le_of_ble_eq_true rfl) rfl rfl ?_
          refine am_iload_n rfl rfl ?_
          obtain ⟨j11, ej11, hj11, H⟩ := ck_some H
          obtain ⟨t12, et12, H⟩ := wr_some H
          have ht12 : isT t12 := isT_l (vp_lt hj11 ej11) et12
          refine x_aald rfl (Nat.le_of_ble_eq_true rfl) rfl hj11 ej11 (r := t12) (by rw [et12]; exact if_pos (vp_lt hj11 ej11)) ?_
          refine am_iload_n rfl rfl ?_
          refine am_iload_n rfl rfl ?_
          obtain ⟨r13, g14, H1, H⟩ := bd2_some H
          refine cv3i v_8_269 rfl rfl (Nat.le_of_ble_eq_true rfl) rfl (Nat.le_of_ble_eq_true rfl) (fun _ _ => Nat.le_of_ble_eq_true rfl) (y_X6_parting t12 a2 a3 ht12 g10 _ H1 ?_)
          have H := Option.some.inj H
          subst H
          exact u_iret rfl rfl K
        · have H := it_neg c8 H
          refine x_bipush (v := (-3 : Int32)) rfl (by decide) ?_
          have H := Option.some.inj H
          subst H
          exact u_iret rfl rfl K
    · have H := it_pos c6 H
      refine x_bipush (v := (-2 : Int32)) rfl (by decide) ?_
      have H := Option.some.inj H
      subst H
      exact u_iret rfl rfl K
def f_X8_rated (a1 : Int32) (a2 : Int32) (a3 : Int32) (a4 : Int32) (g : G) : Option (Int32 × G) := bd2 (f_X1_clear  g) fun r1 g2 => if a3 < (-1 : Int32) then some (((-2 : Int32), g2)) else if a3 < (6 : Int32) then bd2 (f_X8_refuseAsking a1 a2 (2147483647 : Int32) a4 g2) fun r5 g6 => if r5 = 0 then ck a1 4 fun j8 => wr (47 + 28 * j8) fun t9 => bd2 (f_X3_begin t9 g6) fun r10 g11 => if r10 = 0 then some (((-5 : Int32), g11)) else bd2 (f_X6_read t9 (2147483647 : Int32) a4 g11) fun r13 g14 => bd (lp (fun (s17 : Int32 × G) => (if a3 < s17.1 then some (.inr (.inl (s17.2))) else if s17.1 < (s17.2 t9 2) then bd2 (f_X3_goThrough t9 s17.1 s17.2) fun r22 g23 => some (.inl ((s17.1 + (1 : Int32)), g23)) else bd2 (f_X1_met (1 : Int32) s17.2) fun r24 g25 => some (.inr (.inr ((r24, g25)))) : Option ((Int32 × G) ⊕ ((G) ⊕ (Int32 × G))))) 2000 ((0 : Int32), g14)) fun s26m => (match s26m with | .inl s19 => (ck a2 24 fun j27 => some (((s19 40 j27), s19))) | .inr y => some y) else some ((r5, g6)) else some (((-2 : Int32), g2))
set_option maxHeartbeats 4000000 in
set_option maxRecDepth 100000 in
theorem y_X8_rated (a1 : Int32) (a2 : Int32) (a3 : Int32) (a4 : Int32)  (g : G) (q : Int32 × G) {post : Int32 → G → Prop} (H : f_X8_rated a1 a2 a3 a4 g = some q) (K : post q.1 q.2) : Y m_X8_rated 4 [.ref 0, .int a1, .int a2, .int a3, .int a4] g post := by
  refine Y_of ok_X8_rated pn_8 rfl (by decide) (Or.inr (Or.inl rfl)) (List.forall_mem_cons.mpr ⟨rfl, (List.forall_mem_cons.mpr ⟨rfl, (List.forall_mem_cons.mpr ⟨rfl, (List.forall_mem_cons.mpr ⟨rfl, (List.forall_mem_cons.mpr ⟨rfl, (fun _ h => absurd h List.not_mem_nil)⟩)⟩)⟩)⟩)⟩) (Nat.le_of_ble_eq_true rfl) ?_
  show u_V m_X8_rated 4 post 0 [some (.ref 0), some (.int a1), some (.int a2), some (.int a3), some (.int a4), none, none, none] [] g
  unfold f_X8_rated at H
  refine am_aload_n rfl rfl ?_
  refine u_getR f_8_10 rfl (Nat.le_of_ble_eq_true rfl) rfl rfl ?_
  obtain ⟨r1, g2, H1, H⟩ := bd2_some H
  refine cv0v v_8_114 rfl rfl (Nat.le_of_ble_eq_true rfl) rfl (Nat.le_of_ble_eq_true rfl) (fun _ _ => Nat.le_of_ble_eq_true rfl) (y_X1_clear  g _ H1 ?_)
  refine am_iload_n rfl rfl ?_
  refine x_iconst (v := (-1 : Int32)) rfl (by decide) ?_
  refine am_icmp_lt rfl (fun c3 => ?_) (fun c3 => ?_)
  · have H := it_pos c3 H
    refine x_bipush (v := (-2 : Int32)) rfl (by decide) ?_
    have H := Option.some.inj H
    subst H
    exact u_iret rfl rfl K
  · have H := it_neg c3 H
    refine am_iload_n rfl rfl ?_
    refine x_bipush (v := (6 : Int32)) rfl (by decide) ?_
    refine am_icmp_lt rfl (fun c4 => ?_) (fun c4 => ?_)
    · have H := it_pos c4 H
      refine am_aload_n rfl rfl ?_
      refine am_iload_n rfl rfl ?_
      refine am_iload_n rfl rfl ?_
      refine am_ldc (v := (2147483647 : Int32)) c_8_249 rfl ?_
      refine am_iload rfl rfl ?_
      obtain ⟨r5, g6, H1, H⟩ := bd2_some H
      refine cv4i v_8_253 rfl rfl (Nat.le_of_ble_eq_true rfl) rfl (Nat.le_of_ble_eq_true rfl) (fun _ _ => Nat.le_of_ble_eq_true rfl) (y_X8_refuseAsking a1 a2 (2147483647 : Int32) a4 g2 _ H1 ?_)
      refine am_istore rfl (Nat.le_of_ble_eq_true rfl) ?_
      refine am_iload rfl rfl ?_
      refine am_if_eq rfl (fun c7 => ?_) (fun c7 => ?_)
      · have H := it_pos c7 H
        refine am_aload_n rfl rfl ?_
        refine u_getR f_8_28 rfl (Nat.le_of_ble_eq_true rfl) rfl rfl ?_
        refine am_iload_n rfl rfl ?_
        obtain ⟨j8, ej8, hj8, H⟩ := ck_some H
        obtain ⟨t9, et9, H⟩ := wr_some H
        have ht9 : isT t9 := isT_l (vp_lt hj8 ej8) et9
        refine x_aald rfl (Nat.le_of_ble_eq_true rfl) rfl hj8 ej8 (r := t9) (by rw [et9]; exact if_pos (vp_lt hj8 ej8)) ?_
        refine am_astore rfl (Nat.le_of_ble_eq_true rfl) ?_
        refine am_aload_n rfl rfl ?_
        refine u_getR f_8_52 rfl (Nat.le_of_ble_eq_true rfl) rfl rfl ?_
        refine am_aload rfl rfl ?_
        refine am_aload_n rfl rfl ?_
        refine u_getR f_8_19 rfl (Nat.le_of_ble_eq_true rfl) rfl rfl ?_
        refine am_aload_n rfl rfl ?_
        refine u_getR f_8_10 rfl (Nat.le_of_ble_eq_true rfl) rfl rfl ?_
        obtain ⟨r10, g11, H1, H⟩ := bd2_some H
        refine cv3i v_8_276 rfl rfl (Nat.le_of_ble_eq_true rfl) rfl (Nat.le_of_ble_eq_true rfl) (fun _ _ => Nat.le_of_ble_eq_true rfl) (y_X3_begin t9 ht9 g6 _ H1 ?_)
        refine am_if_ne rfl (fun c12 => ?_) (fun c12 => ?_)
        · have H := it_neg c12 H
          refine am_aload_n rfl rfl ?_
          refine u_getR f_8_38 rfl (Nat.le_of_ble_eq_true rfl) rfl rfl ?_
          refine am_aload rfl rfl ?_
          refine am_ldc (v := (2147483647 : Int32)) c_8_249 rfl ?_
          refine am_iload rfl rfl ?_
          obtain ⟨r13, g14, H1, H⟩ := bd2_some H
          refine cv3v v_8_211 rfl rfl (Nat.le_of_ble_eq_true rfl) rfl (Nat.le_of_ble_eq_true rfl) (fun _ _ => Nat.le_of_ble_eq_true rfl) (y_X6_read t9 (2147483647 : Int32) a4 ht9 g11 _ H1 ?_)
          refine x_iconst (v := (0 : Int32)) rfl (by decide) ?_
          refine am_istore rfl (Nat.le_of_ble_eq_true rfl) ?_
          obtain ⟨s26, H1, H⟩ := bd_some H
          have K2 : (Sum.elim (fun (s19 : G) => u_V m_X8_rated 4 post 145 [some (.ref 0), none, some (.int a2), none, none, none, none, none] [] s19) (fun (q : Int32 × G) => post q.1 q.2)) s26 := by
            clear H1
            cases s26 with
            | inl s19 =>
              obtain ⟨g18, e_g18⟩ : ∃ z, z = s19 := ⟨_, rfl⟩
              subst e_g18
              (try dsimp only at H); (try dsimp only)
              refine am_aload_n rfl rfl ?_
              refine u_getR f_8_52 rfl (Nat.le_of_ble_eq_true rfl) rfl rfl ?_
              refine u_getR f_8_287 rfl (Nat.le_of_ble_eq_true rfl) rfl rfl ?_
              refine am_iload_n rfl rfl ?_
              obtain ⟨j27, ej27, hj27, H⟩ := ck_some H
              refine x_iald rfl (Nat.le_of_ble_eq_true rfl) rfl hj27 ej27 ?_
              have H := Option.some.inj H
              subst H
              exact u_iret rfl rfl K
            | inr y =>
              have H := Option.some.inj H
              subst H
              exact K
          refine am_drop (L' := [some (.ref 0), none, some (.int a2), some (.int a3), none, none, some (.ref t9), some (.int (0 : Int32))]) (And.intro rfl (And.intro rfl (And.intro rfl (And.intro rfl (And.intro rfl trivial))))) ?_
          refine lp_ind (P := (fun (s17 : Int32 × G) => u_V m_X8_rated 4 post 88 [some (.ref 0), none, some (.int a2), some (.int a3), none, none, some (.ref t9), some (.int s17.1)] [] s17.2)) (Q := (Sum.elim (fun (s19 : G) => u_V m_X8_rated 4 post 145 [some (.ref 0), none, some (.int a2), none, none, none, none, none] [] s19) (fun (q : Int32 × G) => post q.1 q.2))) ?_ 2000 ((0 : Int32), g14) s26 H1 K2
          clear H1 H K
          intro s17 s26b H K
          obtain ⟨x15, g16⟩ := s17
          (try dsimp only at H); (try dsimp only)
          refine am_iload rfl rfl ?_
          refine am_iload_n rfl rfl ?_
          refine am_icmp_gt rfl (fun c20 => ?_) (fun c20 => ?_)
          · have H := it_pos c20 H
            have H := Option.some.inj H
            subst H
            exact am_drop (L' := [some (.ref 0), none, some (.int a2), none, none, none, none, none]) (And.intro rfl (And.intro rfl trivial)) K
          · have H := it_neg c20 H
            refine am_iload rfl rfl ?_
            refine am_aload rfl rfl ?_
            refine u_getI f_8_144 rfl (isT_lt0 ht9) (sk_T ht9) rfl ?_
            refine am_icmp_lt rfl (fun c21 => ?_) (fun c21 => ?_)
            · have H := it_pos c21 H
              refine am_aload_n rfl rfl ?_
              refine u_getR f_8_52 rfl (Nat.le_of_ble_eq_true rfl) rfl rfl ?_
              refine am_aload rfl rfl ?_
              refine am_iload rfl rfl ?_
              refine am_aload_n rfl rfl ?_
              refine u_getR f_8_38 rfl (Nat.le_of_ble_eq_true rfl) rfl rfl ?_
              refine u_getR f_8_280 rfl (Nat.le_of_ble_eq_true rfl) rfl rfl ?_
              refine am_aload_n rfl rfl ?_
              refine u_getR f_8_19 rfl (Nat.le_of_ble_eq_true rfl) rfl rfl ?_
              refine am_aload_n rfl rfl ?_
              refine u_getR f_8_10 rfl (Nat.le_of_ble_eq_true rfl) rfl rfl ?_
              obtain ⟨r22, g23, H1, H⟩ := bd2_some H
              refine cv5v v_8_283 rfl rfl (Nat.le_of_ble_eq_true rfl) rfl (Nat.le_of_ble_eq_true rfl) (fun _ _ => Nat.le_of_ble_eq_true rfl) (y_X3_goThrough t9 x15 ht9 g16 _ H1 ?_)
              refine x_iinc (v := (x15 + (1 : Int32))) rfl rfl (Nat.le_of_ble_eq_true rfl) rfl ?_
              refine am_goto rfl ?_
              have H := Option.some.inj H
              subst H
              exact am_drop (L' := [some (.ref 0), none, some (.int a2), some (.int a3), none, none, some (.ref t9), some (.int (x15 + (1 : Int32)))]) (And.intro rfl (And.intro rfl (And.intro rfl (And.intro rfl (And.intro rfl trivial))))) K
            · have H := it_neg c21 H
              refine am_aload_n rfl rfl ?_
              refine u_getR f_8_10 rfl (Nat.le_of_ble_eq_true rfl) rfl rfl ?_
              refine x_iconst (v := (1 : Int32)) rfl (by decide) ?_
              obtain ⟨r24, g25, H1, H⟩ := bd2_some H
              refine cv1i v_8_99 rfl rfl (Nat.le_of_ble_eq_true rfl) rfl (Nat.le_of_ble_eq_true rfl) (fun _ _ => Nat.le_of_ble_eq_true rfl) (y_X1_met (1 : Int32) g16 _ H1 ?_)
              have H := Option.some.inj H
              subst H
              exact u_iret rfl rfl K
        · have H := it_pos c12 H
          refine x_bipush (v := (-5 : Int32)) rfl (by decide) ?_
          have H := Option.some.inj H
          subst H
          exact u_iret rfl rfl K
      · have H := it_neg c7 H
        refine am_iload rfl rfl ?_
        have H := Option.some.inj H
        subst H
        exact u_iret rfl rfl K
    · have H := it_neg c4 H
      refine x_bipush (v := (-2 : Int32)) rfl (by decide) ?_
      have H := Option.some.inj H
      subst H
      exact u_iret rfl rfl K
def f_X8_mean (a1 : Int32) (g : G) : Option (Int32 × G) := bd2 (f_X1_clear  g) fun r1 g2 => bd2 (f_X8_isTournament a1 g2) fun r3 g4 => if r3 = 0 then some (((-2 : Int32), g4)) else ck a1 4 fun j6 => wr (47 + 28 * j6) fun t7 => bd2 (f_X3_begin t7 g4) fun r8 g9 => if r8 = 0 then some (((-5 : Int32), g9)) else if (g9 t7 1) = 0 then bd2 (f_X1_met (4 : Int32) g9) fun r15 g16 => some ((r15, g16)) else bd2 (f_X3_total t7 g9) fun r12 g13 => dz (g13 t7 1) (some (((r12 / (g13 t7 1)), g13)))
set_option maxHeartbeats 4000000 in
set_option maxRecDepth 100000 in
theorem y_X8_mean (a1 : Int32)  (g : G) (q : Int32 × G) {post : Int32 → G → Prop} (H : f_X8_mean a1 g = some q) (K : post q.1 q.2) : Y m_X8_mean 4 [.ref 0, .int a1] g post := by
  refine Y_of ok_X8_mean pn_8 rfl (by decide) (Or.inr (Or.inl rfl)) (List.forall_mem_cons.mpr ⟨rfl, (List.forall_mem_cons.mpr ⟨rfl, (fun _ h => absurd h List.not_mem_nil)⟩)⟩) (Nat.le_of_ble_eq_true rfl) ?_
  show u_V m_X8_mean 4 post 0 [some (.ref 0), some (.int a1), none] [] g
  unfold f_X8_mean at H
  refine am_aload_n rfl rfl ?_
  refine u_getR f_8_10 rfl (Nat.le_of_ble_eq_true rfl) rfl rfl ?_
  obtain ⟨r1, g2, H1, H⟩ := bd2_some H
  refine cv0v v_8_114 rfl rfl (Nat.le_of_ble_eq_true rfl) rfl (Nat.le_of_ble_eq_true rfl) (fun _ _ => Nat.le_of_ble_eq_true rfl) (y_X1_clear  g _ H1 ?_)
  refine am_aload_n rfl rfl ?_
  refine am_iload_n rfl rfl ?_
  obtain ⟨r3, g4, H1, H⟩ := bd2_some H
  refine cv1i v_8_138 rfl rfl (Nat.le_of_ble_eq_true rfl) rfl (Nat.le_of_ble_eq_true rfl) (fun _ _ => Nat.le_of_ble_eq_true rfl) (y_X8_isTournament a1 g2 _ H1 ?_)
  refine am_if_ne rfl (fun c5 => ?_) (fun c5 => ?_)
  · have H := it_neg c5 H
    refine am_aload_n rfl rfl ?_
    refine u_getR f_8_28 rfl (Nat.le_of_ble_eq_true rfl) rfl rfl ?_
    refine am_iload_n rfl rfl ?_
    obtain ⟨j6, ej6, hj6, H⟩ := ck_some H
    obtain ⟨t7, et7, H⟩ := wr_some H
    have ht7 : isT t7 := isT_l (vp_lt hj6 ej6) et7
    refine x_aald rfl (Nat.le_of_ble_eq_true rfl) rfl hj6 ej6 (r := t7) (by rw [et7]; exact if_pos (vp_lt hj6 ej6)) ?_
    refine am_astore_n rfl (Nat.le_of_ble_eq_true rfl) ?_
    refine am_aload_n rfl rfl ?_
    refine u_getR f_8_52 rfl (Nat.le_of_ble_eq_true rfl) rfl rfl ?_
    refine am_aload_n rfl rfl ?_
    refine am_aload_n rfl rfl ?_
    refine u_getR f_8_19 rfl (Nat.le_of_ble_eq_true rfl) rfl rfl ?_
    refine am_aload_n rfl rfl ?_
    refine u_getR f_8_10 rfl (Nat.le_of_ble_eq_true rfl) rfl rfl ?_
    obtain ⟨r8, g9, H1, H⟩ := bd2_some H
    refine cv3i v_8_276 rfl rfl (Nat.le_of_ble_eq_true rfl) rfl (Nat.le_of_ble_eq_true rfl) (fun _ _ => Nat.le_of_ble_eq_true rfl) (y_X3_begin t7 ht7 g4 _ H1 ?_)
    refine am_if_ne rfl (fun c10 => ?_) (fun c10 => ?_)
    · have H := it_neg c10 H
      refine am_aload_n rfl rfl ?_
      refine u_getI f_8_147 rfl (isT_lt0 ht7) (sk_T ht7) rfl ?_
      refine am_if_ne rfl (fun c11 => ?_) (fun c11 => ?_)
      · have H := it_neg c11 H
        refine am_aload_n rfl rfl ?_
        refine u_getR f_8_52 rfl (Nat.le_of_ble_eq_true rfl) rfl rfl ?_
        refine am_aload_n rfl rfl ?_
        obtain ⟨r12, g13, H1, H⟩ := bd2_some H
        refine cv1i v_8_290 rfl rfl (Nat.le_of_ble_eq_true rfl) rfl (Nat.le_of_ble_eq_true rfl) (fun _ _ => Nat.le_of_ble_eq_true rfl) (y_X3_total t7 ht7 g9 _ H1 ?_)
        refine am_aload_n rfl rfl ?_
        refine u_getI f_8_147 rfl (isT_lt0 ht7) (sk_T ht7) rfl ?_
        obtain ⟨hz14, H⟩ := dz_some H
        refine am_idiv rfl hz14 ?_
        have H := Option.some.inj H
        subst H
        exact u_iret rfl rfl K
      · have H := it_pos c11 H
        refine am_aload_n rfl rfl ?_
        refine u_getR f_8_10 rfl (Nat.le_of_ble_eq_true rfl) rfl rfl ?_
        refine x_iconst (v := (4 : Int32)) rfl (by decide) ?_
        obtain ⟨r15, g16, H1, H⟩ := bd2_some H
        refine cv1i v_8_99 rfl rfl (Nat.le_of_ble_eq_true rfl) rfl (Nat.le_of_ble_eq_true rfl) (fun _ _ => Nat.le_of_ble_eq_true rfl) (y_X1_met (4 : Int32) g9 _ H1 ?_)
        have H := Option.some.inj H
        subst H
        exact u_iret rfl rfl K
    · have H := it_pos c10 H
      refine x_bipush (v := (-5 : Int32)) rfl (by decide) ?_
      have H := Option.some.inj H
      subst H
      exact u_iret rfl rfl K
  · have H := it_pos c5 H
    refine x_bipush (v := (-2 : Int32)) rfl (by decide) ?_
    have H := Option.some.inj H
    subst H
    exact u_iret rfl rfl K
def f_X8_keepFound (a1 : Int32) (g : G) : Option (Int32 × G) := wr (up2 g 0 11 a1) fun g1 => bd (lp (fun (s4 : Int32 × G) => (if a1 ≤ s4.1 then some (.inr (s4.2)) else ck s4.1 4 fun j8 => ck (s4.2 18 j8) 30 fun j9 => ck s4.1 4 fun j10 => wr (up2 s4.2 46 j10 (s4.2 17 j9)) fun g11 => some (.inl ((s4.1 + (1 : Int32)), g11)) : Option ((Int32 × G) ⊕ (G)))) 2000 ((0 : Int32), g1)) fun (s6 : G) => some (((0 : Int32), s6))
set_option maxHeartbeats 4000000 in
set_option maxRecDepth 100000 in
theorem y_X8_keepFound (a1 : Int32)  (g : G) (q : Int32 × G) {post : Int32 → G → Prop} (H : f_X8_keepFound a1 g = some q) (K : post q.1 q.2) : Y m_X8_keepFound 0 [.ref 0, .int a1] g post := by
  refine Y_of ok_X8_keepFound pn_8 rfl (by decide) (Or.inl rfl) (List.forall_mem_cons.mpr ⟨rfl, (List.forall_mem_cons.mpr ⟨rfl, (fun _ h => absurd h List.not_mem_nil)⟩)⟩) (Nat.le_of_ble_eq_true rfl) ?_
  show u_V m_X8_keepFound 0 post 0 [some (.ref 0), some (.int a1), none] [] g
  unfold f_X8_keepFound at H
  refine am_aload_n rfl rfl ?_
  refine am_iload_n rfl rfl ?_
  obtain ⟨g1, eg1, H⟩ := wr_some H
  refine x_putI f_8_74 rfl rfl (Nat.le_of_ble_eq_true rfl) rfl rfl (fun _ _ => ⟨rfl, rfl⟩) eg1 ?_
  refine x_iconst (v := (0 : Int32)) rfl (by decide) ?_
  refine am_istore_n rfl (Nat.le_of_ble_eq_true rfl) ?_
  obtain ⟨s12, H1, H⟩ := bd_some H
  have K2 : (fun (s6 : G) => u_V m_X8_keepFound 0 post 41 [none, none, none] [] s6) s12 := by
    clear H1
    obtain ⟨g5, e_g5⟩ : ∃ z, z = s12 := ⟨_, rfl⟩
    subst e_g5
    (try dsimp only at H); (try dsimp only)
    have H := Option.some.inj H
    subst H
    exact u_vret rfl rfl K
  refine am_drop (L' := [some (.ref 0), some (.int a1), some (.int (0 : Int32))]) (And.intro rfl (And.intro rfl (And.intro rfl trivial))) ?_
  refine lp_ind (P := (fun (s4 : Int32 × G) => u_V m_X8_keepFound 0 post 7 [some (.ref 0), some (.int a1), some (.int s4.1)] [] s4.2)) (Q := (fun (s6 : G) => u_V m_X8_keepFound 0 post 41 [none, none, none] [] s6)) ?_ 2000 ((0 : Int32), g1) s12 H1 K2
  clear H1 H K
  intro s4 s12b H K
  obtain ⟨x2, g3⟩ := s4
  (try dsimp only at H); (try dsimp only)
  refine am_iload_n rfl rfl ?_
  refine am_iload_n rfl rfl ?_
  refine am_icmp_ge rfl (fun c7 => ?_) (fun c7 => ?_)
  · have H := it_pos c7 H
    have H := Option.some.inj H
    subst H
    exact am_drop (L' := [none, none, none]) trivial K
  · have H := it_neg c7 H
    refine am_aload_n rfl rfl ?_
    refine u_getR f_8_70 rfl (Nat.le_of_ble_eq_true rfl) rfl rfl ?_
    refine am_iload_n rfl rfl ?_
    refine am_aload_n rfl rfl ?_
    refine u_getR f_8_38 rfl (Nat.le_of_ble_eq_true rfl) rfl rfl ?_
    refine u_getR f_8_280 rfl (Nat.le_of_ble_eq_true rfl) rfl rfl ?_
    refine am_aload_n rfl rfl ?_
    refine u_getR f_8_38 rfl (Nat.le_of_ble_eq_true rfl) rfl rfl ?_
    refine u_getR f_8_307 rfl (Nat.le_of_ble_eq_true rfl) rfl rfl ?_
    refine am_iload_n rfl rfl ?_
    obtain ⟨j8, ej8, hj8, H⟩ := ck_some H
    refine x_iald rfl (Nat.le_of_ble_eq_true rfl) rfl hj8 ej8 ?_
    obtain ⟨j9, ej9, hj9, H⟩ := ck_some H
    refine x_iald rfl (Nat.le_of_ble_eq_true rfl) rfl hj9 ej9 ?_
    obtain ⟨j10, ej10, hj10, H⟩ := ck_some H
    obtain ⟨g11, eg11, H⟩ := wr_some H
    refine x_iast rfl (Nat.le_of_ble_eq_true rfl) rfl hj10 ej10 eg11 ?_
    refine x_iinc (v := (x2 + (1 : Int32))) rfl rfl (Nat.le_of_ble_eq_true rfl) rfl ?_
    refine am_goto rfl ?_
    have H := Option.some.inj H
    subst H
    exact am_drop (L' := [some (.ref 0), some (.int a1), some (.int (x2 + (1 : Int32)))]) (And.intro rfl (And.intro rfl (And.intro rfl trivial))) K
def f_X8_could (a1 : Int32) (a2 : Int32) (a3 : Int32) (a4 : Int32) (g : G) : Option (Int32 × G) := if a3 < 0 then some (((-2 : Int32), g)) else if a3 ≤ (1 : Int32) then bd2 (f_X8_refuseAsking a1 a2 (2147483647 : Int32) a4 g) fun r3 g4 => if r3 = 0 then ck a1 4 fun j6 => wr (47 + 28 * j6) fun t7 => bd2 (f_X6_read t7 (2147483647 : Int32) a4 g4) fun r8 g9 => bd2 (f_X6_listOpen t7 g9) fun r10 g11 => if r10 ≤ (4 : Int32) then bd (lp (fun (s15 : Int32 × Int32) => (if r10 ≤ s15.2 then some (.inr (s15.1)) else some (.inl ((s15.1 * (3 : Int32)), (s15.2 + (1 : Int32)))) : Option ((Int32 × Int32) ⊕ (Int32)))) 2000 ((1 : Int32), (0 : Int32))) fun (s17 : Int32) => bd (lp (fun (s22 : Int32 × G) => (if s17 ≤ s22.1 then some (.inr (.inr (((0 : Int32), s22.2)))) else bd2 (f_X6_suppose s22.1 r10 s22.2) fun r26 g27 => bd ((if a3 = (1 : Int32) then some ((1 : Int32)) else some ((0 : Int32)) : Option (Int32))) fun (s29 : Int32) => bd2 (f_X6_isFirst t7 a2 s29 g27) fun r30 g31 => if r30 = 0 then some (.inl ((s22.1 + (1 : Int32)), g31)) else some (.inr (.inl (g31))) : Option ((Int32 × G) ⊕ ((G) ⊕ (Int32 × G))))) 2000 ((0 : Int32), g11)) fun s35m => (match s35m with | .inl s24 => (bd2 (f_X8_keepFound r10 s24) fun r36 g37 => some (((1 : Int32), g37))) | .inr y => some y) else some (((-3 : Int32), g11)) else some ((r3, g4)) else some (((-2 : Int32), g))
set_option maxHeartbeats 4000000 in
set_option maxRecDepth 100000 in
theorem y_X8_could (a1 : Int32) (a2 : Int32) (a3 : Int32) (a4 : Int32)  (g : G) (q : Int32 × G) {post : Int32 → G → Prop} (H : f_X8_could a1 a2 a3 a4 g = some q) (K : post q.1 q.2) : Y m_X8_could 5 [.ref 0, .int a1, .int a2, .int a3, .int a4] g post := by
  refine Y_of ok_X8_could pn_8 rfl (by decide) (Or.inr (Or.inl rfl)) (List.forall_mem_cons.mpr ⟨rfl, (List.forall_mem_cons.mpr ⟨rfl, (List.forall_mem_cons.mpr ⟨rfl, (List.forall_mem_cons.mpr ⟨rfl, (List.forall_mem_cons.mpr ⟨rfl, (fun _ h => absurd h List.not_mem_nil)⟩)⟩)⟩)⟩)⟩) (Nat.le_of_ble_eq_true rfl) ?_
  show u_V m_X8_could 5 post 0 [some (.ref 0), some (.int a1), some (.int a2), some (.int a3), some (.int a4), none, none, none, none, none] [] g
  unfold f_X8_could at H
  refine am_iload_n rfl rfl ?_
  refine am_if_lt rfl (fun c1 => ?_) (fun c1 => ?_)
  · have H := it_pos c1 H
    refine x_bipush (v := (-2 : Int32)) rfl (by decide) ?_
    have H := Option.some.inj H
    subst H
    exact u_iret rfl rfl K
  · have H := it_neg c1 H
    refine am_iload_n rfl rfl ?_
    refine x_iconst (v := (1 : Int32)) rfl (by decide) ?_
    refine am_icmp_le rfl (fun c2 => ?_) (fun c2 => ?_)
    · have H := it_pos c2 H
      refine am_aload_n rfl rfl ?_
      refine am_iload_n rfl rfl ?_
      refine am_iload_n rfl rfl ?_
      refine am_ldc (v := (2147483647 : Int32)) c_8_249 rfl ?_
      refine am_iload rfl rfl ?_
      obtain ⟨r3, g4, H1, H⟩ := bd2_some H
      refine cv4i v_8_253 rfl rfl (Nat.le_of_ble_eq_true rfl) rfl (Nat.le_of_ble_eq_true rfl) (fun _ _ => Nat.le_of_ble_eq_true rfl) (y_X8_refuseAsking a1 a2 (2147483647 : Int32) a4 g _ H1 ?_)
      refine am_istore rfl (Nat.le_of_ble_eq_true rfl) ?_
      refine am_iload rfl rfl ?_
      refine am_if_eq rfl (fun c5 => ?_) (fun c5 => ?_)
      · have H := it_pos c5 H
        refine am_aload_n rfl rfl ?_
        refine u_getR f_8_28 rfl (Nat.le_of_ble_eq_true rfl) rfl rfl ?_
        refine am_iload_n rfl rfl ?_
        obtain ⟨j6, ej6, hj6, H⟩ := ck_some H
        obtain ⟨t7, et7, H⟩ := wr_some H
        have ht7 : isT t7 := isT_l (vp_lt hj6 ej6) et7
        refine x_aald rfl (Nat.le_of_ble_eq_true rfl) rfl hj6 ej6 (r := t7) (by rw [et7]; exact if_pos (vp_lt hj6 ej6)) ?_
        refine am_astore rfl (Nat.le_of_ble_eq_true rfl) ?_
        refine am_aload_n rfl rfl ?_
        refine u_getR f_8_38 rfl (Nat.le_of_ble_eq_true rfl) rfl rfl ?_
        refine am_aload rfl rfl ?_
        refine am_ldc (v := (2147483647 : Int32)) c_8_249 rfl ?_
        refine am_iload rfl rfl ?_
        obtain ⟨r8, g9, H1, H⟩ := bd2_some H
        refine cv3v v_8_211 rfl rfl (Nat.le_of_ble_eq_true rfl) rfl (Nat.le_of_ble_eq_true rfl) (fun _ _ => Nat.le_of_ble_eq_true rfl) (y_X6_read t7 (2147483647 : Int32) a4 ht7 g4 _ H1 ?_)
        refine am_aload_n rfl rfl ?_
        refine u_getR f_8_38 rfl (Nat.le_of_ble_eq_true rfl) rfl rfl ?_
        refine am_aload rfl rfl ?_
        obtain ⟨r10, g11, H1, H⟩ := bd2_some H
        refine cv1i v_8_293 rfl rfl (Nat.le_of_ble_eq_true rfl) rfl (Nat.le_of_ble_eq_true rfl) (fun _ _ => Nat.le_of_ble_eq_true rfl) (y_X6_listOpen t7 ht7 g9 _ H1 ?_)
        refine am_istore rfl (Nat.le_of_ble_eq_true rfl) ?_
        refine am_iload rfl rfl ?_
        refine x_iconst (v := (4 : Int32)) rfl (by decide) ?_
        refine am_icmp_le rfl (fun c12 => ?_) (fun c12 => ?_)
        · have H := it_pos c12 H
          refine x_iconst (v := (1 : Int32)) rfl (by decide) ?_
          refine am_istore rfl (Nat.le_of_ble_eq_true rfl) ?_
          refine x_iconst (v := (0 : Int32)) rfl (by decide) ?_
          refine am_istore rfl (Nat.le_of_ble_eq_true rfl) ?_
          obtain ⟨s19, H1, H⟩ := bd_some H
          have K2 : (fun (s17 : Int32) => u_V m_X8_could 5 post 98 [some (.ref 0), none, some (.int a2), some (.int a3), none, none, some (.ref t7), some (.int r10), some (.int s17), none] [] g11) s19 := by
            clear H1
            obtain ⟨x16, e_x16⟩ : ∃ z, z = s19 := ⟨_, rfl⟩
            subst e_x16
            (try dsimp only at H); (try dsimp only)
            refine x_iconst (v := (0 : Int32)) rfl (by decide) ?_
            refine am_istore rfl (Nat.le_of_ble_eq_true rfl) ?_
            obtain ⟨s35, H1, H⟩ := bd_some H
            have K2 : (Sum.elim (fun (s24 : G) => u_V m_X8_could 5 post 142 [some (.ref 0), none, none, none, none, none, none, some (.int r10), none, none] [] s24) (fun (q : Int32 × G) => post q.1 q.2)) s35 := by
              clear H1
              cases s35 with
              | inl s24 =>
                obtain ⟨g23, e_g23⟩ : ∃ z, z = s24 := ⟨_, rfl⟩
                subst e_g23
                (try dsimp only at H); (try dsimp only)
                refine am_aload_n rfl rfl ?_
                refine am_iload rfl rfl ?_
                obtain ⟨r36, g37, H1, H⟩ := bd2_some H
                refine cv1v v_8_303 rfl rfl (Nat.le_of_ble_eq_true rfl) rfl (Nat.le_of_ble_eq_true rfl) (fun _ _ => Nat.le_of_ble_eq_true rfl) (y_X8_keepFound r10 g23 _ H1 ?_)
                refine x_iconst (v := (1 : Int32)) rfl (by decide) ?_
                have H := Option.some.inj H
                subst H
                exact u_iret rfl rfl K
              | inr y =>
                have H := Option.some.inj H
                subst H
                exact K
            refine am_drop (L' := [some (.ref 0), none, some (.int a2), some (.int a3), none, none, some (.ref t7), some (.int r10), some (.int x16), some (.int (0 : Int32))]) (And.intro rfl (And.intro rfl (And.intro rfl (And.intro rfl (And.intro rfl (And.intro rfl (And.intro rfl trivial))))))) ?_
            refine lp_ind (P := (fun (s22 : Int32 × G) => u_V m_X8_could 5 post 101 [some (.ref 0), none, some (.int a2), some (.int a3), none, none, some (.ref t7), some (.int r10), some (.int x16), some (.int s22.1)] [] s22.2)) (Q := (Sum.elim (fun (s24 : G) => u_V m_X8_could 5 post 142 [some (.ref 0), none, none, none, none, none, none, some (.int r10), none, none] [] s24) (fun (q : Int32 × G) => post q.1 q.2))) ?_ 2000 ((0 : Int32), g11) s35 H1 K2
            clear H1 H K
            intro s22 s35b H K
            obtain ⟨x20, g21⟩ := s22
            (try dsimp only at H); (try dsimp only)
            refine am_iload rfl rfl ?_
            refine am_iload rfl rfl ?_
            refine am_icmp_ge rfl (fun c25 => ?_) (fun c25 => ?_)
            · have H := it_pos c25 H
              refine x_iconst (v := (0 : Int32)) rfl (by decide) ?_
              have H := Option.some.inj H
              subst H
              exact u_iret rfl rfl K
            · have H := it_neg c25 H
              refine am_aload_n rfl rfl ?_
              refine u_getR f_8_38 rfl (Nat.le_of_ble_eq_true rfl) rfl rfl ?_
              refine am_iload rfl rfl ?_
              refine am_iload rfl rfl ?_
              obtain ⟨r26, g27, H1, H⟩ := bd2_some H
              refine cv2v v_8_296 rfl rfl (Nat.le_of_ble_eq_true rfl) rfl (Nat.le_of_ble_eq_true rfl) (fun _ _ => Nat.le_of_ble_eq_true rfl) (y_X6_suppose x20 r10 g21 _ H1 ?_)
              refine am_aload_n rfl rfl ?_
              refine u_getR f_8_38 rfl (Nat.le_of_ble_eq_true rfl) rfl rfl ?_
              refine am_aload rfl rfl ?_
              refine am_iload_n rfl rfl ?_
              refine am_iload_n rfl rfl ?_
              refine x_iconst (v := (1 : Int32)) rfl (by decide) ?_
              obtain ⟨s34, H1, H⟩ := bd_some H
              have K : (fun (s29 : Int32) => u_V m_X8_could 5 post 136 [some (.ref 0), none, some (.int a2), some (.int a3), none, none, some (.ref t7), some (.int r10), some (.int x16), some (.int x20)] [.int s29, .int a2, .ref t7, .ref 15] g27) s34 := by
                clear H1
                obtain ⟨x28, e_x28⟩ : ∃ z, z = s34 := ⟨_, rfl⟩
                subst e_x28
                (try dsimp only at H); (try dsimp only)
                obtain ⟨r30, g31, H1, H⟩ := bd2_some H
                refine cv3i v_8_299 rfl rfl (Nat.le_of_ble_eq_true rfl) rfl (Nat.le_of_ble_eq_true rfl) (fun _ _ => Nat.le_of_ble_eq_true rfl) (y_X6_isFirst t7 a2 x28 ht7 g27 _ H1 ?_)
                refine am_if_eq rfl (fun c32 => ?_) (fun c32 => ?_)
                · have H := it_pos c32 H
                  refine x_iinc (v := (x20 + (1 : Int32))) rfl rfl (Nat.le_of_ble_eq_true rfl) rfl ?_
                  refine am_goto rfl ?_
                  have H := Option.some.inj H
                  subst H
                  exact am_drop (L' := [some (.ref 0), none, some (.int a2), some (.int a3), none, none, some (.ref t7), some (.int r10), some (.int x16), some (.int (x20 + (1 : Int32)))]) (And.intro rfl (And.intro rfl (And.intro rfl (And.intro rfl (And.intro rfl (And.intro rfl (And.intro rfl trivial))))))) K
                · have H := it_neg c32 H
                  have H := Option.some.inj H
                  subst H
                  exact am_drop (L' := [some (.ref 0), none, none, none, none, none, none, some (.int r10), none, none]) (And.intro rfl (And.intro rfl trivial)) K
              have H := H1
              clear H1
              refine am_icmp_ne rfl (fun c33 => ?_) (fun c33 => ?_)
              · have H := it_neg c33 H
                refine x_iconst (v := (0 : Int32)) rfl (by decide) ?_
                have H := Option.some.inj H
                subst H
                exact am_drop (L' := [some (.ref 0), none, some (.int a2), some (.int a3), none, none, some (.ref t7), some (.int r10), some (.int x16), some (.int x20)]) (And.intro rfl (And.intro rfl (And.intro rfl (And.intro rfl (And.intro rfl (And.intro rfl (And.intro rfl trivial))))))) K
              · have H := it_pos c33 H
                refine x_iconst (v := (1 : Int32)) rfl (by decide) ?_
                refine am_goto rfl ?_
                have H := Option.some.inj H
                subst H
                exact am_drop (L' := [some (.ref 0), none, some (.int a2), some (.int a3), none, none, some (.ref t7), some (.int r10), some (.int x16), some (.int x20)]) (And.intro rfl (And.intro rfl (And.intro rfl (And.intro rfl (And.intro rfl (And.intro rfl (And.intro rfl trivial))))))) K
          refine am_drop (L' := [some (.ref 0), none, some (.int a2), some (.int a3), none, none, some (.ref t7), some (.int r10), some (.int (1 : Int32)), some (.int (0 : Int32))]) (And.intro rfl (And.intro rfl (And.intro rfl (And.intro rfl (And.intro rfl (And.intro rfl (And.intro rfl trivial))))))) ?_
          refine lp_ind (P := (fun (s15 : Int32 × Int32) => u_V m_X8_could 5 post 79 [some (.ref 0), none, some (.int a2), some (.int a3), none, none, some (.ref t7), some (.int r10), some (.int s15.1), some (.int s15.2)] [] g11)) (Q := (fun (s17 : Int32) => u_V m_X8_could 5 post 98 [some (.ref 0), none, some (.int a2), some (.int a3), none, none, some (.ref t7), some (.int r10), some (.int s17), none] [] g11)) ?_ 2000 ((1 : Int32), (0 : Int32)) s19 H1 K2
          clear H1 H K
          intro s15 s19b H K
          obtain ⟨x13, x14⟩ := s15
          (try dsimp only at H); (try dsimp only)
          refine am_iload rfl rfl ?_
          refine am_iload rfl rfl ?_
          refine am_icmp_ge rfl (fun c18 => ?_) (fun c18 => ?_)
          · have H := it_pos c18 H
            have H := Option.some.inj H
            subst H
            exact am_drop (L' := [some (.ref 0), none, some (.int a2), some (.int a3), none, none, some (.ref t7), some (.int r10), some (.int x13), none]) (And.intro rfl (And.intro rfl (And.intro rfl (And.intro rfl (And.intro rfl (And.intro rfl trivial)))))) K
          · have H := it_neg c18 H
            refine am_iload rfl rfl ?_
            refine x_iconst (v := (3 : Int32)) rfl (by decide) ?_
            refine am_imul rfl ?_
            refine am_istore rfl (Nat.le_of_ble_eq_true rfl) ?_
            refine x_iinc (v := (x14 + (1 : Int32))) rfl rfl (Nat.le_of_ble_eq_true rfl) rfl ?_
            refine am_goto rfl ?_
            have H := Option.some.inj H
            subst H
            exact am_drop (L' := [some (.ref 0), none, some (.int a2), some (.int a3), none, none, some (.ref t7), some (.int r10), some (.int (x13 * (3 : Int32))), some (.int (x14 + (1 : Int32)))]) (And.intro rfl (And.intro rfl (And.intro rfl (And.intro rfl (And.intro rfl (And.intro rfl (And.intro rfl trivial))))))) K
        · have H := it_neg c12 H
          refine x_bipush (v := (-3 : Int32)) rfl (by decide) ?_
          have H := Option.some.inj H
          subst H
          exact u_iret rfl rfl K
      · have H := it_neg c5 H
        refine am_iload rfl rfl ?_
        have H := Option.some.inj H
        subst H
        exact u_iret rfl rfl K
    · have H := it_neg c2 H
      refine x_bipush (v := (-2 : Int32)) rfl (by decide) ?_
      have H := Option.some.inj H
      subst H
      exact u_iret rfl rfl K
def f_X8_found (a1 : Int32) (g : G) : Option (Int32 × G) := if a1 < 0 then some (((-1 : Int32), g)) else if (g 0 11) ≤ a1 then some (((-1 : Int32), g)) else ck a1 4 fun j3 => some (((g 46 j3), g))
set_option maxHeartbeats 4000000 in
set_option maxRecDepth 100000 in
theorem y_X8_found (a1 : Int32)  (g : G) (q : Int32 × G) {post : Int32 → G → Prop} (H : f_X8_found a1 g = some q) (K : post q.1 q.2) : Y m_X8_found 0 [.ref 0, .int a1] g post := by
  refine Y_of ok_X8_found pn_8 rfl (by decide) (Or.inr (Or.inl rfl)) (List.forall_mem_cons.mpr ⟨rfl, (List.forall_mem_cons.mpr ⟨rfl, (fun _ h => absurd h List.not_mem_nil)⟩)⟩) (Nat.le_of_ble_eq_true rfl) ?_
  show u_V m_X8_found 0 post 0 [some (.ref 0), some (.int a1)] [] g
  unfold f_X8_found at H
  refine am_iload_n rfl rfl ?_
  refine am_if_lt rfl (fun c1 => ?_) (fun c1 => ?_)
  · have H := it_pos c1 H
    refine x_iconst (v := (-1 : Int32)) rfl (by decide) ?_
    have H := Option.some.inj H
    subst H
    exact u_iret rfl rfl K
  · have H := it_neg c1 H
    refine am_iload_n rfl rfl ?_
    refine am_aload_n rfl rfl ?_
    refine u_getI f_8_74 rfl (Nat.le_of_ble_eq_true rfl) rfl rfl ?_
    refine am_icmp_ge rfl (fun c2 => ?_) (fun c2 => ?_)
    · have H := it_pos c2 H
      refine x_iconst (v := (-1 : Int32)) rfl (by decide) ?_
      have H := Option.some.inj H
      subst H
      exact u_iret rfl rfl K
    · have H := it_neg c2 H
      refine am_aload_n rfl rfl ?_
      refine u_getR f_8_70 rfl (Nat.le_of_ble_eq_true rfl) rfl rfl ?_
      refine am_iload_n rfl rfl ?_
      obtain ⟨j3, ej3, hj3, H⟩ := ck_some H
      refine x_iald rfl (Nat.le_of_ble_eq_true rfl) rfl hj3 ej3 ?_
      refine am_goto rfl ?_
      have H := Option.some.inj H
      subst H
      exact u_iret rfl rfl K
def f_X8_isPlan (a0 : Int32) (g : G) : Option (Int32 × G) := if a0 < 0 then some (((0 : Int32), g)) else if (4 : Int32) ≤ a0 then some (((0 : Int32), g)) else some (((1 : Int32), g))
set_option maxHeartbeats 4000000 in
set_option maxRecDepth 100000 in
theorem y_X8_isPlan (a0 : Int32)  (g : G) (q : Int32 × G) {post : Int32 → G → Prop} (H : f_X8_isPlan a0 g = some q) (K : post q.1 q.2) : Y m_X8_isPlan 0 [.int a0] g post := by
  refine Y_of ok_X8_isPlan pn_8 rfl (by decide) (Or.inr (Or.inr rfl)) (List.forall_mem_cons.mpr ⟨rfl, (fun _ h => absurd h List.not_mem_nil)⟩) (Nat.le_of_ble_eq_true rfl) ?_
  show u_V m_X8_isPlan 0 post 0 [some (.int a0)] [] g
  unfold f_X8_isPlan at H
  refine am_iload_n rfl rfl ?_
  refine am_if_lt rfl (fun c1 => ?_) (fun c1 => ?_)
  · have H := it_pos c1 H
    refine x_iconst (v := (0 : Int32)) rfl (by decide) ?_
    have H := Option.some.inj H
    subst H
    exact u_zret rfl rfl (Or.inl rfl) K
  · have H := it_neg c1 H
    refine am_iload_n rfl rfl ?_
    refine x_iconst (v := (4 : Int32)) rfl (by decide) ?_
    refine am_icmp_ge rfl (fun c2 => ?_) (fun c2 => ?_)
    · have H := it_pos c2 H
      refine x_iconst (v := (0 : Int32)) rfl (by decide) ?_
      have H := Option.some.inj H
      subst H
      exact u_zret rfl rfl (Or.inl rfl) K
    · have H := it_neg c2 H
      refine x_iconst (v := (1 : Int32)) rfl (by decide) ?_
      refine am_goto rfl ?_
      have H := Option.some.inj H
      subst H
      exact u_zret rfl rfl (Or.inr rfl) K
def f_X8_step (a1 : Int32) (a2 : Int32) (a3 : Int32) (a4 : Int32) (a5 : Int32) (a6 : Int32) (g : G) : Option (Int32 × G) := bd2 (f_X8_isPlan a1 g) fun r1 g2 => if r1 = 0 then some (((-2 : Int32), g2)) else if a2 < 0 then some (((-2 : Int32), g2)) else if a2 ≤ (11 : Int32) then bd2 (f_X2_openRow a1 g2) fun r6 g7 => if 0 ≤ r6 then ck r6 200 fun j9 => wr (up2 g7 44 j9 a2) fun g10 => ck (r6 + (1 : Int32)) 200 fun j11 => wr (up2 g10 44 j11 a3) fun g12 => ck (r6 + (2 : Int32)) 200 fun j13 => wr (up2 g12 44 j13 a4) fun g14 => ck (r6 + (3 : Int32)) 200 fun j15 => wr (up2 g14 44 j15 a5) fun g16 => ck (r6 + (4 : Int32)) 200 fun j17 => wr (up2 g16 44 j17 a6) fun g18 => ck a1 4 fun j19 => some (((g18 42 j19), g18)) else some (((-4 : Int32), g7)) else some (((-2 : Int32), g2))
set_option maxHeartbeats 4000000 in
set_option maxRecDepth 100000 in
theorem y_X8_step (a1 : Int32) (a2 : Int32) (a3 : Int32) (a4 : Int32) (a5 : Int32) (a6 : Int32)  (g : G) (q : Int32 × G) {post : Int32 → G → Prop} (H : f_X8_step a1 a2 a3 a4 a5 a6 g = some q) (K : post q.1 q.2) : Y m_X8_step 2 [.ref 0, .int a1, .int a2, .int a3, .int a4, .int a5, .int a6] g post := by
  refine Y_of ok_X8_step pn_8 rfl (by decide) (Or.inr (Or.inl rfl)) (List.forall_mem_cons.mpr ⟨rfl, (List.forall_mem_cons.mpr ⟨rfl, (List.forall_mem_cons.mpr ⟨rfl, (List.forall_mem_cons.mpr ⟨rfl, (List.forall_mem_cons.mpr ⟨rfl, (List.forall_mem_cons.mpr ⟨rfl, (List.forall_mem_cons.mpr ⟨rfl, (fun _ h => absurd h List.not_mem_nil)⟩)⟩)⟩)⟩)⟩)⟩)⟩) (Nat.le_of_ble_eq_true rfl) ?_
  show u_V m_X8_step 2 post 0 [some (.ref 0), some (.int a1), some (.int a2), some (.int a3), some (.int a4), some (.int a5), some (.int a6), none] [] g
  unfold f_X8_step at H
  refine am_iload_n rfl rfl ?_
  obtain ⟨r1, g2, H1, H⟩ := bd2_some H
  refine cs1i s_8_310 rfl rfl (Nat.le_of_ble_eq_true rfl) (fun _ _ => Nat.le_of_ble_eq_true rfl) (y_X8_isPlan a1 g _ H1 ?_)
  refine am_if_eq rfl (fun c3 => ?_) (fun c3 => ?_)
  · have H := it_pos c3 H
    refine x_bipush (v := (-2 : Int32)) rfl (by decide) ?_
    have H := Option.some.inj H
    subst H
    exact u_iret rfl rfl K
  · have H := it_neg c3 H
    refine am_iload_n rfl rfl ?_
    refine am_if_lt rfl (fun c4 => ?_) (fun c4 => ?_)
    · have H := it_pos c4 H
      refine x_bipush (v := (-2 : Int32)) rfl (by decide) ?_
      have H := Option.some.inj H
      subst H
      exact u_iret rfl rfl K
    · have H := it_neg c4 H
      refine am_iload_n rfl rfl ?_
      refine x_bipush (v := (11 : Int32)) rfl (by decide) ?_
      refine am_icmp_le rfl (fun c5 => ?_) (fun c5 => ?_)
      · have H := it_pos c5 H
        refine am_aload_n rfl rfl ?_
        refine u_getR f_8_59 rfl (Nat.le_of_ble_eq_true rfl) rfl rfl ?_
        refine am_iload_n rfl rfl ?_
        obtain ⟨r6, g7, H1, H⟩ := bd2_some H
        refine cv1i v_8_313 rfl rfl (Nat.le_of_ble_eq_true rfl) rfl (Nat.le_of_ble_eq_true rfl) (fun _ _ => Nat.le_of_ble_eq_true rfl) (y_X2_openRow a1 g2 _ H1 ?_)
        refine am_istore rfl (Nat.le_of_ble_eq_true rfl) ?_
        refine am_iload rfl rfl ?_
        refine am_if_ge rfl (fun c8 => ?_) (fun c8 => ?_)
        · have H := it_pos c8 H
          refine am_aload_n rfl rfl ?_
          refine u_getR f_8_59 rfl (Nat.le_of_ble_eq_true rfl) rfl rfl ?_
          refine u_getR f_8_316 rfl (Nat.le_of_ble_eq_true rfl) rfl rfl ?_
          refine am_iload rfl rfl ?_
          refine am_iload_n rfl rfl ?_
          obtain ⟨j9, ej9, hj9, H⟩ := ck_some H
          obtain ⟨g10, eg10, H⟩ := wr_some H
          refine x_iast rfl (Nat.le_of_ble_eq_true rfl) rfl hj9 ej9 eg10 ?_
          refine am_aload_n rfl rfl ?_
          refine u_getR f_8_59 rfl (Nat.le_of_ble_eq_true rfl) rfl rfl ?_
          refine u_getR f_8_316 rfl (Nat.le_of_ble_eq_true rfl) rfl rfl ?_
          refine am_iload rfl rfl ?_
          refine x_iconst (v := (1 : Int32)) rfl (by decide) ?_
          refine am_iadd rfl ?_
          refine am_iload_n rfl rfl ?_
          obtain ⟨j11, ej11, hj11, H⟩ := ck_some H
          obtain ⟨g12, eg12, H⟩ := wr_some H
          refine x_iast rfl (Nat.le_of_ble_eq_true rfl) rfl hj11 ej11 eg12 ?_
          refine am_aload_n rfl rfl ?_
          refine u_getR f_8_59 rfl (Nat.le_of_ble_eq_true rfl) rfl rfl ?_
          refine u_getR f_8_316 rfl (Nat.le_of_ble_eq_true rfl) rfl rfl ?_
          refine am_iload rfl rfl ?_
          refine x_iconst (v := (2 : Int32)) rfl (by decide) ?_
          refine am_iadd rfl ?_
          refine am_iload rfl rfl ?_
          obtain ⟨j13, ej13, hj13, H⟩ := ck_some H
          obtain ⟨g14, eg14, H⟩ := wr_some H
          refine x_iast rfl (Nat.le_of_ble_eq_true rfl) rfl hj13 ej13 eg14 ?_
          refine am_aload_n rfl rfl ?_
          refine u_getR f_8_59 rfl (Nat.le_of_ble_eq_true rfl) rfl rfl ?_
          refine u_getR f_8_316 rfl (Nat.le_of_ble_eq_true rfl) rfl rfl ?_
          refine am_iload rfl rfl ?_
          refine x_iconst (v := (3 : Int32)) rfl (by decide) ?_
          refine am_iadd rfl ?_
          refine am_iload rfl rfl ?_
          obtain ⟨j15, ej15, hj15, H⟩ := ck_some H
          obtain ⟨g16, eg16, H⟩ := wr_some H
          refine x_iast rfl (Nat.le_of_ble_eq_true rfl) rfl hj15 ej15 eg16 ?_
          refine am_aload_n rfl rfl ?_
          refine u_getR f_8_59 rfl (Nat.le_of_ble_eq_true rfl) rfl rfl ?_
          refine u_getR f_8_316 rfl (Nat.le_of_ble_eq_true rfl) rfl rfl ?_
          refine am_iload rfl rfl ?_
          refine x_iconst (v := (4 : Int32)) rfl (by decide) ?_
          refine am_iadd rfl ?_
          refine am_iload rfl rfl ?_
          obtain ⟨j17, ej17, hj17, H⟩ := ck_some H
          obtain ⟨g18, eg18, H⟩ := wr_some H
          refine x_iast rfl (Nat.le_of_ble_eq_true rfl) rfl hj17 ej17 eg18 ?_
          refine am_aload_n rfl rfl ?_
          refine u_getR f_8_59 rfl (Nat.le_of_ble_eq_true rfl) rfl rfl ?_
          refine u_getR f_8_319 rfl (Nat.le_of_ble_eq_true rfl) rfl rfl ?_
          refine am_iload_n rfl rfl ?_
          obtain ⟨j19, ej19, hj19, H⟩ := ck_some H
          refine x_iald rfl (Nat.le_of_ble_eq_true rfl) rfl hj19 ej19 ?_
          have H := Option.some.inj H
          subst H
          exact u_iret rfl rfl K
        · have H := it_neg c8 H
          refine x_bipush (v := (-4 : Int32)) rfl (by decide) ?_
          have H := Option.some.inj H
          subst H
          exact u_iret rfl rfl K
      · have H := it_neg c5 H
        refine x_bipush (v := (-2 : Int32)) rfl (by decide) ?_
        have H := Option.some.inj H
        subst H
        exact u_iret rfl rfl K
def f_X8_empty (a1 : Int32) (g : G) : Option (Int32 × G) := bd2 (f_X8_isPlan a1 g) fun r1 g2 => if r1 = 0 then some (((-2 : Int32), g2)) else ck a1 4 fun j4 => ck a1 4 fun j5 => wr (up2 g2 42 j5 (0 : Int32)) fun g6 => some (((g2 42 j4), g6))
set_option maxHeartbeats 4000000 in
set_option maxRecDepth 100000 in
theorem y_X8_empty (a1 : Int32)  (g : G) (q : Int32 × G) {post : Int32 → G → Prop} (H : f_X8_empty a1 g = some q) (K : post q.1 q.2) : Y m_X8_empty 1 [.ref 0, .int a1] g post := by
  refine Y_of ok_X8_empty pn_8 rfl (by decide) (Or.inr (Or.inl rfl)) (List.forall_mem_cons.mpr ⟨rfl, (List.forall_mem_cons.mpr ⟨rfl, (fun _ h => absurd h List.not_mem_nil)⟩)⟩) (Nat.le_of_ble_eq_true rfl) ?_
  show u_V m_X8_empty 1 post 0 [some (.ref 0), some (.int a1), none] [] g
  unfold f_X8_empty at H
  refine am_iload_n rfl rfl ?_
  obtain ⟨r1, g2, H1, H⟩ := bd2_some H
  refine cs1i s_8_310 rfl rfl (Nat.le_of_ble_eq_true rfl) (fun _ _ => Nat.le_of_ble_eq_true rfl) (y_X8_isPlan a1 g _ H1 ?_)
  refine am_if_ne rfl (fun c3 => ?_) (fun c3 => ?_)
  · have H := it_neg c3 H
    refine am_aload_n rfl rfl ?_
    refine u_getR f_8_59 rfl (Nat.le_of_ble_eq_true rfl) rfl rfl ?_
    refine u_getR f_8_319 rfl (Nat.le_of_ble_eq_true rfl) rfl rfl ?_
    refine am_iload_n rfl rfl ?_
    obtain ⟨j4, ej4, hj4, H⟩ := ck_some H
    refine x_iald rfl (Nat.le_of_ble_eq_true rfl) rfl hj4 ej4 ?_
    refine am_istore_n rfl (Nat.le_of_ble_eq_true rfl) ?_
    refine am_aload_n rfl rfl ?_
    refine u_getR f_8_59 rfl (Nat.le_of_ble_eq_true rfl) rfl rfl ?_
    refine u_getR f_8_319 rfl (Nat.le_of_ble_eq_true rfl) rfl rfl ?_
    refine am_iload_n rfl rfl ?_
    refine x_iconst (v := (0 : Int32)) rfl (by decide) ?_
    obtain ⟨j5, ej5, hj5, H⟩ := ck_some H
    obtain ⟨g6, eg6, H⟩ := wr_some H
    refine x_iast rfl (Nat.le_of_ble_eq_true rfl) rfl hj5 ej5 eg6 ?_
    refine am_iload_n rfl rfl ?_
    have H := Option.some.inj H
    subst H
    exact u_iret rfl rfl K
  · have H := it_pos c3 H
    refine x_bipush (v := (-2 : Int32)) rfl (by decide) ?_
    have H := Option.some.inj H
    subst H
    exact u_iret rfl rfl K
def f_X8_save  (g : G) : Option (Int32 × G) := bd2 (f_X5_takeOver_8_3  g) fun r1 g2 => wr (up2 g2 0 13 (g2 0 12)) fun g3 => bd (lp (fun (s6 : Int32 × G) => (if (s6.2 0 12) ≤ s6.1 then some (.inr (s6.2)) else ck s6.1 4 fun j10 => wr (61 + 28 * j10) fun t11 => ck s6.1 4 fun j12 => wr (47 + 28 * j12) fun t13 => bd2 (f_X7_takeOver t11 t13 s6.2) fun r14 g15 => some (.inl ((s6.1 + (1 : Int32)), g15)) : Option ((Int32 × G) ⊕ (G)))) 2000 ((0 : Int32), g3)) fun (s8 : G) => some (((0 : Int32), s8))
set_option maxHeartbeats 4000000 in
set_option maxRecDepth 100000 in
theorem y_X8_save   (g : G) (q : Int32 × G) {post : Int32 → G → Prop} (H : f_X8_save  g = some q) (K : post q.1 q.2) : Y m_X8_save 2 [.ref 0] g post := by
  refine Y_of ok_X8_save pn_8 rfl (by decide) (Or.inl rfl) (List.forall_mem_cons.mpr ⟨rfl, (fun _ h => absurd h List.not_mem_nil)⟩) (Nat.le_of_ble_eq_true rfl) ?_
  show u_V m_X8_save 2 post 0 [some (.ref 0), none] [] g
  unfold f_X8_save at H
  refine am_aload_n rfl rfl ?_
  refine u_getR f_8_23 rfl (Nat.le_of_ble_eq_true rfl) rfl rfl ?_
  refine am_aload_n rfl rfl ?_
  refine u_getR f_8_19 rfl (Nat.le_of_ble_eq_true rfl) rfl rfl ?_
  obtain ⟨r1, g2, H1, H⟩ := bd2_some H
  refine cv1v v_8_345 rfl rfl (Nat.le_of_ble_eq_true rfl) rfl (Nat.le_of_ble_eq_true rfl) (fun _ _ => Nat.le_of_ble_eq_true rfl) (y_X5_takeOver_8_3  g _ H1 ?_)
  refine am_aload_n rfl rfl ?_
  refine am_aload_n rfl rfl ?_
  refine u_getI f_8_78 rfl (Nat.le_of_ble_eq_true rfl) rfl rfl ?_
  obtain ⟨g3, eg3, H⟩ := wr_some H
  refine x_putI f_8_81 rfl rfl (Nat.le_of_ble_eq_true rfl) rfl rfl (fun _ _ => ⟨rfl, rfl⟩) eg3 ?_
  refine x_iconst (v := (0 : Int32)) rfl (by decide) ?_
  refine am_istore_n rfl (Nat.le_of_ble_eq_true rfl) ?_
  obtain ⟨s16, H1, H⟩ := bd_some H
  have K2 : (fun (s8 : G) => u_V m_X8_save 2 post 50 [none, none] [] s8) s16 := by
    clear H1
    obtain ⟨g7, e_g7⟩ : ∃ z, z = s16 := ⟨_, rfl⟩
    subst e_g7
    (try dsimp only at H); (try dsimp only)
    have H := Option.some.inj H
    subst H
    exact u_vret rfl rfl K
  refine am_drop (L' := [some (.ref 0), some (.int (0 : Int32))]) (And.intro rfl (And.intro rfl trivial)) ?_
  refine lp_ind (P := (fun (s6 : Int32 × G) => u_V m_X8_save 2 post 21 [some (.ref 0), some (.int s6.1)] [] s6.2)) (Q := (fun (s8 : G) => u_V m_X8_save 2 post 50 [none, none] [] s8)) ?_ 2000 ((0 : Int32), g3) s16 H1 K2
  clear H1 H K
  intro s6 s16b H K
  obtain ⟨x4, g5⟩ := s6
  (try dsimp only at H); (try dsimp only)
  refine am_iload_n rfl rfl ?_
  refine am_aload_n rfl rfl ?_
  refine u_getI f_8_78 rfl (Nat.le_of_ble_eq_true rfl) rfl rfl ?_
  refine am_icmp_ge rfl (fun c9 => ?_) (fun c9 => ?_)
  · have H := it_pos c9 H
    have H := Option.some.inj H
    subst H
    exact am_drop (L' := [none, none]) trivial K
  · have H := it_neg c9 H
    refine am_aload_n rfl rfl ?_
    refine u_getR f_8_32 rfl (Nat.le_of_ble_eq_true rfl) rfl rfl ?_
    refine am_iload_n rfl rfl ?_
    obtain ⟨j10, ej10, hj10, H⟩ := ck_some H
    obtain ⟨t11, et11, H⟩ := wr_some H
    have ht11 : isT t11 := isT_s (vp_lt hj10 ej10) et11
    refine x_aald rfl (Nat.le_of_ble_eq_true rfl) rfl hj10 ej10 (r := t11) (by rw [et11]; exact if_pos (vp_lt hj10 ej10)) ?_
    refine am_aload_n rfl rfl ?_
    refine u_getR f_8_28 rfl (Nat.le_of_ble_eq_true rfl) rfl rfl ?_
    refine am_iload_n rfl rfl ?_
    obtain ⟨j12, ej12, hj12, H⟩ := ck_some H
    obtain ⟨t13, et13, H⟩ := wr_some H
    have ht13 : isT t13 := isT_l (vp_lt hj12 ej12) et13
    refine x_aald rfl (Nat.le_of_ble_eq_true rfl) rfl hj12 ej12 (r := t13) (by rw [et13]; exact if_pos (vp_lt hj12 ej12)) ?_
    obtain ⟨r14, g15, H1, H⟩ := bd2_some H
    refine cv1v v_8_189 rfl rfl (isT_lt0 ht11) (sk_T ht11) (Nat.le_of_ble_eq_true rfl) (fun _ _ => Nat.le_of_ble_eq_true rfl) (y_X7_takeOver t11 t13 ht11 ht13 g5 _ H1 ?_)
    refine x_iinc (v := (x4 + (1 : Int32))) rfl rfl (Nat.le_of_ble_eq_true rfl) rfl ?_
    refine am_goto rfl ?_
    have H := Option.some.inj H
    subst H
    exact am_drop (L' := [some (.ref 0), some (.int (x4 + (1 : Int32)))]) (And.intro rfl (And.intro rfl trivial)) K
def f_X8_fails (a0 : Int32) (g : G) : Option (Int32 × G) := if a0 = (-2 : Int32) then some (((1 : Int32), g)) else if a0 = (-3 : Int32) then some (((1 : Int32), g)) else if a0 = (-4 : Int32) then some (((1 : Int32), g)) else if a0 = (-5 : Int32) then some (((1 : Int32), g)) else some (((0 : Int32), g))
set_option maxHeartbeats 4000000 in
set_option maxRecDepth 100000 in
theorem y_X8_fails (a0 : Int32)  (g : G) (q : Int32 × G) {post : Int32 → G → Prop} (H : f_X8_fails a0 g = some q) (K : post q.1 q.2) : Y m_X8_fails 0 [.int a0] g post := by
  refine Y_of ok_X8_fails pn_8 rfl (by decide) (Or.inr (Or.inr rfl)) (List.forall_mem_cons.mpr ⟨rfl, (fun _ h => absurd h List.not_mem_nil)⟩) (Nat.le_of_ble_eq_true rfl) ?_
  show u_V m_X8_fails 0 post 0 [some (.int a0)] [] g
  unfold f_X8_fails at H
  refine am_iload_n rfl rfl ?_
  refine x_bipush (v := (-2 : Int32)) rfl (by decide) ?_
  refine am_icmp_eq rfl (fun c1 => ?_) (fun c1 => ?_)
  · have H := it_pos c1 H
    refine x_iconst (v := (1 : Int32)) rfl (by decide) ?_
    refine am_goto rfl ?_
    have H := Option.some.inj H
    subst H
    exact u_zret rfl rfl (Or.inr rfl) K
  · have H := it_neg c1 H
    refine am_iload_n rfl rfl ?_
    refine x_bipush (v := (-3 : Int32)) rfl (by decide) ?_
    refine am_icmp_eq rfl (fun c2 => ?_) (fun c2 => ?_)
    · have H := it_pos c2 H
      refine x_iconst (v := (1 : Int32)) rfl (by decide) ?_
      refine am_goto rfl ?_
      have H := Option.some.inj H
      subst H
      exact u_zret rfl rfl (Or.inr rfl) K
    · have H := it_neg c2 H
      refine am_iload_n rfl rfl ?_
      refine x_bipush (v := (-4 : Int32)) rfl (by decide) ?_
      refine am_icmp_eq rfl (fun c3 => ?_) (fun c3 => ?_)
      · have H := it_pos c3 H
        refine x_iconst (v := (1 : Int32)) rfl (by decide) ?_
        refine am_goto rfl ?_
        have H := Option.some.inj H
        subst H
        exact u_zret rfl rfl (Or.inr rfl) K
      · have H := it_neg c3 H
        refine am_iload_n rfl rfl ?_
        refine x_bipush (v := (-5 : Int32)) rfl (by decide) ?_
        refine am_icmp_ne rfl (fun c4 => ?_) (fun c4 => ?_)
        · have H := it_neg c4 H
          refine x_iconst (v := (0 : Int32)) rfl (by decide) ?_
          have H := Option.some.inj H
          subst H
          exact u_zret rfl rfl (Or.inl rfl) K
        · have H := it_pos c4 H
          refine x_iconst (v := (1 : Int32)) rfl (by decide) ?_
          refine am_goto rfl ?_
          have H := Option.some.inj H
          subst H
          exact u_zret rfl rfl (Or.inr rfl) K
def f_X8_need (a1 : Int32) (a2 : Int32) (a3 : Int32) (a4 : Int32) (g : G) : Option (Int32 × G) := bd2 (f_X8_points a1 a2 a3 a3 g) fun r1 g2 => bd2 (f_X8_fails r1 g2) fun r3 g4 => if r3 = 0 then if a4 ≤ r1 then some ((r1, g4)) else bd2 (f_X1_met (6 : Int32) g4) fun r7 g8 => some ((r7, g8)) else some ((r1, g4))
set_option maxHeartbeats 4000000 in
set_option maxRecDepth 100000 in
theorem y_X8_need (a1 : Int32) (a2 : Int32) (a3 : Int32) (a4 : Int32)  (g : G) (q : Int32 × G) {post : Int32 → G → Prop} (H : f_X8_need a1 a2 a3 a4 g = some q) (K : post q.1 q.2) : Y m_X8_need 3 [.ref 0, .int a1, .int a2, .int a3, .int a4] g post := by
  refine Y_of ok_X8_need pn_8 rfl (by decide) (Or.inr (Or.inl rfl)) (List.forall_mem_cons.mpr ⟨rfl, (List.forall_mem_cons.mpr ⟨rfl, (List.forall_mem_cons.mpr ⟨rfl, (List.forall_mem_cons.mpr ⟨rfl, (List.forall_mem_cons.mpr ⟨rfl, (fun _ h => absurd h List.not_mem_nil)⟩)⟩)⟩)⟩)⟩) (Nat.le_of_ble_eq_true rfl) ?_
  show u_V m_X8_need 3 post 0 [some (.ref 0), some (.int a1), some (.int a2), some (.int a3), some (.int a4), none] [] g
  unfold f_X8_need at H
  refine am_aload_n rfl rfl ?_
  refine am_iload_n rfl rfl ?_
  refine am_iload_n rfl rfl ?_
  refine am_iload_n rfl rfl ?_
  refine am_iload_n rfl rfl ?_
  obtain ⟨r1, g2, H1, H⟩ := bd2_some H
  refine cv4i v_8_392 rfl rfl (Nat.le_of_ble_eq_true rfl) rfl (Nat.le_of_ble_eq_true rfl) (fun _ _ => Nat.le_of_ble_eq_true rfl) (y_X8_points a1 a2 a3 a3 g _ H1 ?_)
  refine am_istore rfl (Nat.le_of_ble_eq_true rfl) ?_
  refine am_iload rfl rfl ?_
  obtain ⟨r3, g4, H1, H⟩ := bd2_some H
  refine cs1i s_8_357 rfl rfl (Nat.le_of_ble_eq_true rfl) (fun _ _ => Nat.le_of_ble_eq_true rfl) (y_X8_fails r1 g2 _ H1 ?_)
  refine am_if_eq rfl (fun c5 => ?_) (fun c5 => ?_)
  · have H := it_pos c5 H
    refine am_iload rfl rfl ?_
    refine am_iload rfl rfl ?_
    refine am_icmp_ge rfl (fun c6 => ?_) (fun c6 => ?_)
    · have H := it_pos c6 H
      refine am_iload rfl rfl ?_
      have H := Option.some.inj H
      subst H
      exact u_iret rfl rfl K
    · have H := it_neg c6 H
      refine am_aload_n rfl rfl ?_
      refine u_getR f_8_10 rfl (Nat.le_of_ble_eq_true rfl) rfl rfl ?_
      refine x_bipush (v := (6 : Int32)) rfl (by decide) ?_
      obtain ⟨r7, g8, H1, H⟩ := bd2_some H
      refine cv1i v_8_99 rfl rfl (Nat.le_of_ble_eq_true rfl) rfl (Nat.le_of_ble_eq_true rfl) (fun _ _ => Nat.le_of_ble_eq_true rfl) (y_X1_met (6 : Int32) g4 _ H1 ?_)
      refine am_goto rfl ?_
      have H := Option.some.inj H
      subst H
      exact u_iret rfl rfl K
  · have H := it_neg c5 H
    refine am_iload rfl rfl ?_
    have H := Option.some.inj H
    subst H
    exact u_iret rfl rfl K
def f_X8_perform (a1 : Int32) (g : G) : Option (Int32 × G) := ck a1 200 fun j1 => if (g 44 j1) = (11 : Int32) then some (((-2 : Int32), g)) else if (g 45 3) < (60 : Int32) then ck (a1 + (1 : Int32)) 200 fun j4 => ck (a1 + (2 : Int32)) 200 fun j5 => ck (a1 + (3 : Int32)) 200 fun j6 => ck (a1 + (4 : Int32)) 200 fun j7 => if (g 44 j1) = (0 : Int32) then bd2 (f_X8_player (g 44 j4) (g 44 j5) g) fun r9 g10 => some ((r9, g10)) else if (g 44 j1) = (1 : Int32) then bd2 (f_X8_places (g 44 j4) (g 44 j5) g) fun r12 g13 => some ((r12, g13)) else if (g 44 j1) = (2 : Int32) then bd2 (f_X8_seat (g 44 j4) (g 44 j5) (g 44 j6) g) fun r15 g16 => some ((r15, g16)) else if (g 44 j1) = (3 : Int32) then bd2 (f_X8_tournament  g) fun r18 g19 => some ((r18, g19)) else if (g 44 j1) = (4 : Int32) then bd2 (f_X8_enter (g 44 j4) (g 44 j5) g) fun r21 g22 => some ((r21, g22)) else if (g 44 j1) = (5 : Int32) then bd2 (f_X8_withdraw (g 44 j4) (g 44 j5) g) fun r24 g25 => some ((r24, g25)) else if (g 44 j1) = (6 : Int32) then bd2 (f_X8_drawRound (g 44 j4) (g 44 j5) g) fun r27 g28 => some ((r27, g28)) else if (g 44 j1) = (7 : Int32) then bd2 (f_X8_tell (g 44 j4) ((g 44 j5) / (10 : Int32)) ((g 44 j5) - (g 44 j5) / (10 : Int32) * (10 : Int32)) (g 44 j6) (g 44 j7) (g 44 j7) g) fun r30 g31 => some ((r30, g31)) else if (g 44 j1) = (8 : Int32) then bd2 (f_X8_takeBack (g 44 j4) (g 44 j5) (g 44 j6) g) fun r33 g34 => some ((r33, g34)) else if (g 44 j1) = (9 : Int32) then bd2 (f_X8_askWorth (g 44 j4) g) fun r36 g37 => some ((r36, g37)) else bd2 (f_X8_need (g 44 j4) (g 44 j5) (g 44 j6) (g 44 j7) g) fun r38 g39 => some ((r38, g39)) else some (((-4 : Int32), g))
set_option maxHeartbeats 4000000 in
set_option maxRecDepth 100000 in
theorem y_X8_perform (a1 : Int32)  (g : G) (q : Int32 × G) {post : Int32 → G → Prop} (H : f_X8_perform a1 g = some q) (K : post q.1 q.2) : Y m_X8_perform 16 [.ref 0, .int a1] g post := by
  refine Y_of ok_X8_perform pn_8 rfl (by decide) (Or.inr (Or.inl rfl)) (List.forall_mem_cons.mpr ⟨rfl, (List.forall_mem_cons.mpr ⟨rfl, (fun _ h => absurd h List.not_mem_nil)⟩)⟩) (Nat.le_of_ble_eq_true rfl) ?_
  show u_V m_X8_perform 16 post 0 [some (.ref 0), some (.int a1), none, none, none, none, none] [] g
  unfold f_X8_perform at H
  refine am_aload_n rfl rfl ?_
  refine u_getR f_8_59 rfl (Nat.le_of_ble_eq_true rfl) rfl rfl ?_
  refine u_getR f_8_316 rfl (Nat.le_of_ble_eq_true rfl) rfl rfl ?_
  refine am_iload_n rfl rfl ?_
  obtain ⟨j1, ej1, hj1, H⟩ := ck_some H
  refine x_iald rfl (Nat.le_of_ble_eq_true rfl) rfl hj1 ej1 ?_
  refine am_istore_n rfl (Nat.le_of_ble_eq_true rfl) ?_
  refine am_iload_n rfl rfl ?_
  refine x_bipush (v := (11 : Int32)) rfl (by decide) ?_
  refine am_icmp_ne rfl (fun c2 => ?_) (fun c2 => ?_)
  · have H := it_neg c2 H
    refine am_aload_n rfl rfl ?_
    refine u_getR f_8_66 rfl (Nat.le_of_ble_eq_true rfl) rfl rfl ?_
    refine u_getI f_8_342 rfl (Nat.le_of_ble_eq_true rfl) rfl rfl ?_
    refine x_bipush (v := (60 : Int32)) rfl (by decide) ?_
    refine am_icmp_lt rfl (fun c3 => ?_) (fun c3 => ?_)
    · have H := it_pos c3 H
      refine am_aload_n rfl rfl ?_
      refine u_getR f_8_59 rfl (Nat.le_of_ble_eq_true rfl) rfl rfl ?_
      refine u_getR f_8_316 rfl (Nat.le_of_ble_eq_true rfl) rfl rfl ?_
      refine am_iload_n rfl rfl ?_
      refine x_iconst (v := (1 : Int32)) rfl (by decide) ?_
      refine am_iadd rfl ?_
      obtain ⟨j4, ej4, hj4, H⟩ := ck_some H
      refine x_iald rfl (Nat.le_of_ble_eq_true rfl) rfl hj4 ej4 ?_
      refine am_istore_n rfl (Nat.le_of_ble_eq_true rfl) ?_
      refine am_aload_n rfl rfl ?_
      refine u_getR f_8_59 rfl (Nat.le_of_ble_eq_true rfl) rfl rfl ?_
      refine u_getR f_8_316 rfl (Nat.le_of_ble_eq_true rfl) rfl rfl ?_
      refine am_iload_n rfl rfl ?_
      refine x_iconst (v := (2 : Int32)) rfl (by decide) ?_
      refine am_iadd rfl ?_
      obtain ⟨j5, ej5, hj5, H⟩ := ck_some H
      refine x_iald rfl (Nat.le_of_ble_eq_true rfl) rfl hj5 ej5 ?_
      refine am_istore rfl (Nat.le_of_ble_eq_true rfl) ?_
      refine am_aload_n rfl rfl ?_
      refine u_getR f_8_59 rfl (Nat.le_of_ble_eq_true rfl) rfl rfl ?_
      refine u_getR f_8_316 rfl (Nat.le_of_ble_eq_true rfl) rfl rfl ?_
      refine am_iload_n rfl rfl ?_
      refine x_iconst (v := (3 : Int32)) rfl (by decide) ?_
      refine am_iadd rfl ?_
      obtain ⟨j6, ej6, hj6, H⟩ := ck_some H
      refine x_iald rfl (Nat.le_of_ble_eq_true rfl) rfl hj6 ej6 ?_
      refine am_istore rfl (Nat.le_of_ble_eq_true rfl) ?_
      refine am_aload_n rfl rfl ?_
      refine u_getR f_8_59 rfl (Nat.le_of_ble_eq_true rfl) rfl rfl ?_
      refine u_getR f_8_316 rfl (Nat.le_of_ble_eq_true rfl) rfl rfl ?_
      refine am_iload_n rfl rfl ?_
      refine x_iconst (v := (4 : Int32)) rfl (by decide) ?_
      refine am_iadd rfl ?_
      obtain ⟨j7, ej7, hj7, H⟩ := ck_some H
      refine x_iald rfl (Nat.le_of_ble_eq_true rfl) rfl hj7 ej7 ?_
      refine am_istore rfl (Nat.le_of_ble_eq_true rfl) ?_
      refine am_iload_n rfl rfl ?_
      by_cases c8 : (g 44 j1) = (0 : Int32)
      · have H := it_pos c8 H
        refine am_tsw1 (j := 0) rfl c8 (by decide +kernel) rfl rfl ?_
        refine am_aload_n rfl rfl ?_
        refine am_iload_n rfl rfl ?_
        refine am_iload rfl rfl ?_
        obtain ⟨r9, g10, H1, H⟩ := bd2_some H
        refine cv2i v_8_363 rfl rfl (Nat.le_of_ble_eq_true rfl) rfl (Nat.le_of_ble_eq_true rfl) (fun _ _ => Nat.le_of_ble_eq_true rfl) (y_X8_player (g 44 j4) (g 44 j5) g _ H1 ?_)
        have H := Option.some.inj H
        subst H
        exact u_iret rfl rfl K
      have H := it_neg c8 H
      by_cases c11 : (g 44 j1) = (1 : Int32)
      · have H := it_pos c11 H
        refine am_tsw1 (j := 1) rfl c11 (by decide +kernel) rfl rfl ?_
        refine am_aload_n rfl rfl ?_
        refine am_iload_n rfl rfl ?_
        refine am_iload rfl rfl ?_
        obtain ⟨r12, g13, H1, H⟩ := bd2_some H
        refine cv2i v_8_366 rfl rfl (Nat.le_of_ble_eq_true rfl) rfl (Nat.le_of_ble_eq_true rfl) (fun _ _ => Nat.le_of_ble_eq_true rfl) (y_X8_places (g 44 j4) (g 44 j5) g _ H1 ?_)
        have H := Option.some.inj H
        subst H
        exact u_iret rfl rfl K
      have H := it_neg c11 H
      by_cases c14 : (g 44 j1) = (2 : Int32)
      · have H := it_pos c14 H
        refine am_tsw1 (j := 2) rfl c14 (by decide +kernel) rfl rfl ?_
        refine am_aload_n rfl rfl ?_
        refine am_iload_n rfl rfl ?_
        refine am_iload rfl rfl ?_
        refine am_iload rfl rfl ?_
        obtain ⟨r15, g16, H1, H⟩ := bd2_some H
        refine cv3i v_8_369 rfl rfl (Nat.le_of_ble_eq_true rfl) rfl (Nat.le_of_ble_eq_true rfl) (fun _ _ => Nat.le_of_ble_eq_true rfl) (y_X8_seat (g 44 j4) (g 44 j5) (g 44 j6) g _ H1 ?_)
        have H := Option.some.inj H
        subst H
        exact u_iret rfl rfl K
      have H := it_neg c14 H
      by_cases c17 : (g 44 j1) = (3 : Int32)
      · have H := it_pos c17 H
        refine am_tsw1 (j := 3) rfl c17 (by decide +kernel) rfl rfl ?_
        refine am_aload_n rfl rfl ?_
        obtain ⟨r18, g19, H1, H⟩ := bd2_some H
        refine cv0i v_8_373 rfl rfl (Nat.le_of_ble_eq_true rfl) rfl (Nat.le_of_ble_eq_true rfl) (fun _ _ => Nat.le_of_ble_eq_true rfl) (y_X8_tournament  g _ H1 ?_)
        have H := Option.some.inj H
        subst H
        exact u_iret rfl rfl K
      have H := it_neg c17 H
      by_cases c20 : (g 44 j1) = (4 : Int32)
      · have H := it_pos c20 H
        refine am_tsw1 (j := 4) rfl c20 (by decide +kernel) rfl rfl ?_
        refine am_aload_n rfl rfl ?_
        refine am_iload_n rfl rfl ?_
        refine am_iload rfl rfl ?_
        obtain ⟨r21, g22, H1, H⟩ := bd2_some H
        refine cv2i v_8_376 rfl rfl (Nat.le_of_ble_eq_true rfl) rfl (Nat.le_of_ble_eq_true rfl) (fun _ _ => Nat.le_of_ble_eq_true rfl) (y_X8_enter (g 44 j4) (g 44 j5) g _ H1 ?_)
        have H := Option.some.inj H
        subst H
        exact u_iret rfl rfl K
      have H := it_neg c20 H
      by_cases c23 : (g 44 j1) = (5 : Int32)
      · have H := it_pos c23 H
        refine am_tsw1 (j := 5) rfl c23 (by decide +kernel) rfl rfl ?_
        refine am_aload_n rfl rfl ?_
        refine am_iload_n rfl rfl ?_
        refine am_iload rfl rfl ?_
        obtain ⟨r24, g25, H1, H⟩ := bd2_some H
        refine cv2i v_8_379 rfl rfl (Nat.le_of_ble_eq_true rfl) rfl (Nat.le_of_ble_eq_true rfl) (fun _ _ => Nat.le_of_ble_eq_true rfl) (y_X8_withdraw (g 44 j4) (g 44 j5) g _ H1 ?_)
        have H := Option.some.inj H
        subst H
        exact u_iret rfl rfl K
      have H := it_neg c23 H
      by_cases c26 : (g 44 j1) = (6 : Int32)
      · have H := it_pos c26 H
        refine am_tsw1 (j := 6) rfl c26 (by decide +kernel) rfl rfl ?_
        refine am_aload_n rfl rfl ?_
        refine am_iload_n rfl rfl ?_
        refine am_iload rfl rfl ?_
        obtain ⟨r27, g28, H1, H⟩ := bd2_some H
        refine cv2i v_8_162 rfl rfl (Nat.le_of_ble_eq_true rfl) rfl (Nat.le_of_ble_eq_true rfl) (fun _ _ => Nat.le_of_ble_eq_true rfl) (y_X8_drawRound (g 44 j4) (g 44 j5) g _ H1 ?_)
        have H := Option.some.inj H
        subst H
        exact u_iret rfl rfl K
      have H := it_neg c26 H
      by_cases c29 : (g 44 j1) = (7 : Int32)
      · have H := it_pos c29 H
        refine am_tsw1 (j := 7) rfl c29 (by decide +kernel) rfl rfl ?_
        refine am_aload_n rfl rfl ?_
        refine am_iload_n rfl rfl ?_
        refine am_iload rfl rfl ?_
        refine x_bipush (v := (10 : Int32)) rfl (by decide) ?_
        refine am_idiv rfl (by decide) ?_
        refine am_iload rfl rfl ?_
        refine x_bipush (v := (10 : Int32)) rfl (by decide) ?_
        refine am_irem rfl (by decide) ?_
        refine am_iload rfl rfl ?_
        refine am_iload rfl rfl ?_
        refine am_iload rfl rfl ?_
        obtain ⟨r30, g31, H1, H⟩ := bd2_some H
        refine cv6i v_8_382 rfl rfl (Nat.le_of_ble_eq_true rfl) rfl (Nat.le_of_ble_eq_true rfl) (fun _ _ => Nat.le_of_ble_eq_true rfl) (y_X8_tell (g 44 j4) ((g 44 j5) / (10 : Int32)) ((g 44 j5) - (g 44 j5) / (10 : Int32) * (10 : Int32)) (g 44 j6) (g 44 j7) (g 44 j7) g _ H1 ?_)
        have H := Option.some.inj H
        subst H
        exact u_iret rfl rfl K
      have H := it_neg c29 H
      by_cases c32 : (g 44 j1) = (8 : Int32)
      · have H := it_pos c32 H
        refine am_tsw1 (j := 8) rfl c32 (by decide +kernel) rfl rfl ?_
        refine am_aload_n rfl rfl ?_
        refine am_iload_n rfl rfl ?_
        refine am_iload rfl rfl ?_
        refine am_iload rfl rfl ?_
        obtain ⟨r33, g34, H1, H⟩ := bd2_some H
        refine cv3i v_8_386 rfl rfl (Nat.le_of_ble_eq_true rfl) rfl (Nat.le_of_ble_eq_true rfl) (fun _ _ => Nat.le_of_ble_eq_true rfl) (y_X8_takeBack (g 44 j4) (g 44 j5) (g 44 j6) g _ H1 ?_)
        have H := Option.some.inj H
        subst H
        exact u_iret rfl rfl K
      have H := it_neg c32 H
      by_cases c35 : (g 44 j1) = (9 : Int32)
      · have H := it_pos c35 H
        refine am_tsw1 (j := 9) rfl c35 (by decide +kernel) rfl rfl ?_
        refine am_aload_n rfl rfl ?_
        refine am_iload_n rfl rfl ?_
        obtain ⟨r36, g37, H1, H⟩ := bd2_some H
        refine cv1i v_8_117 rfl rfl (Nat.le_of_ble_eq_true rfl) rfl (Nat.le_of_ble_eq_true rfl) (fun _ _ => Nat.le_of_ble_eq_true rfl) (y_X8_askWorth (g 44 j4) g _ H1 ?_)
        have H := Option.some.inj H
        subst H
        exact u_iret rfl rfl K
      have H := it_neg c35 H
      refine am_tswD rfl rfl (am_out (lo := 0) 10 (And.intro c35 (And.intro c32 (And.intro c29 (And.intro c26 (And.intro c23 (And.intro c20 (And.intro c17 (And.intro c14 (And.intro c11 (And.intro c8 trivial))))))))))) ?_
      refine am_aload_n rfl rfl ?_
      refine am_iload_n rfl rfl ?_
      refine am_iload rfl rfl ?_
      refine am_iload rfl rfl ?_
      refine am_iload rfl rfl ?_
      obtain ⟨r38, g39, H1, H⟩ := bd2_some H
      refine cv4i v_8_389 rfl rfl (Nat.le_of_ble_eq_true rfl) rfl (Nat.le_of_ble_eq_true rfl) (fun _ _ => Nat.le_of_ble_eq_true rfl) (y_X8_need (g 44 j4) (g 44 j5) (g 44 j6) (g 44 j7) g _ H1 ?_)
      have H := Option.some.inj H
      subst H
      exact u_iret rfl rfl K
    · have H := it_neg c3 H
      refine x_bipush (v := (-4 : Int32)) rfl (by decide) ?_
      have H := Option.some.inj H
      subst H
      exact u_iret rfl rfl K
  · have H := it_pos c2 H
    refine x_bipush (v := (-2 : Int32)) rfl (by decide) ?_
    have H := Option.some.inj H
    subst H
    exact u_iret rfl rfl K
def f_X8_runSteps : Nat → Int32 → G → Option (Int32 × G)
  | 0, _, _ => none
  | n + 1, a1, g => ck a1 4 fun j1 => ck a1 4 fun j2 => wr (up2 g 43 j2 ((g 43 j1) + (1 : Int32))) fun g3 => bd (lp (fun (s6 : Int32 × G) => (ck a1 4 fun j11 => if (s6.2 42 j11) ≤ s6.1 then some (.inr (.inr (((1 : Int32), s6.2)))) else bd2 (f_X2_rowOf a1 s6.1 s6.2) fun r13 g14 => ck (r13 + (1 : Int32)) 200 fun j15 => ck r13 200 fun j16 => bd ((if (g14 44 j16) = (11 : Int32) then if (g14 44 j15) < 0 then some (.inl (s6.1, g14)) else if a1 ≤ (g14 44 j15) then some (.inl (s6.1, g14)) else bd2 (f_X8_runSteps n (g14 44 j15) g14) fun r29 g30 => if r29 = 0 then some (.inr (.inr (.inr (((0 : Int32), g30))))) else some (.inr (.inl ((s6.1 + (1 : Int32)), g30))) else some (.inl (s6.1, g14)) : Option ((Int32 × G) ⊕ ((Int32 × G) ⊕ ((Int32 × Int32 × G) ⊕ (Int32 × G)))))) fun s32m => (match s32m with | .inl s19 => (bd2 (f_X8_perform r13 s19.2) fun r20 g21 => bd2 (f_X8_fails r20 g21) fun r22 g23 => if r22 = 0 then wr (up2 g23 45 3 ((g23 45 3) + (1 : Int32))) fun g25 => some (.inl ((s19.1 + (1 : Int32)), g25)) else some (.inr (.inl (s19.1, r20, g23)))) | .inr y => some y) : Option ((Int32 × G) ⊕ ((Int32 × Int32 × G) ⊕ (Int32 × G))))) 2000 ((0 : Int32), g3)) fun s33m => (match s33m with | .inl s10 => (bd2 (f_X4_tellFailure s10.2.1 a1 s10.1 s10.2.2) fun r34 g35 => some (((0 : Int32), g35))) | .inr y => some y)
set_option maxHeartbeats 4000000 in
set_option maxRecDepth 100000 in
theorem y_X8_runSteps : ∀ (n : Nat) (a1 : Int32)  (g : G) (q : Int32 × G) {post : Int32 → G → Prop} (H : f_X8_runSteps n a1 g = some q) (K : post q.1 q.2), Y m_X8_runSteps (17 + n) [.ref 0, .int a1] g post := by
  intro n
  induction n with
  | zero =>
    intro a1 g q post H K
    cases H
  | succ n ih =>
    intro a1 g q post H K
    refine Y_of ok_X8_runSteps pn_8 rfl (by decide) (Or.inr (Or.inr rfl)) (List.forall_mem_cons.mpr ⟨rfl, (List.forall_mem_cons.mpr ⟨rfl, (fun _ h => absurd h List.not_mem_nil)⟩)⟩) (Nat.le_of_ble_eq_true rfl) ?_
    show u_V m_X8_runSteps (17 + n + 1) post 0 [some (.ref 0), some (.int a1), none, none, none, none] [] g
    rw [f_X8_runSteps] at H
    refine am_aload_n rfl rfl ?_
    refine u_getR f_8_59 rfl (Nat.le_of_ble_eq_true rfl) rfl rfl ?_
    refine u_getR f_8_348 rfl (Nat.le_of_ble_eq_true rfl) rfl rfl ?_
    refine am_iload_n rfl rfl ?_
    refine am_dup2 rfl rfl rfl ?_
    obtain ⟨j1, ej1, hj1, H⟩ := ck_some H
    refine x_iald rfl (Nat.le_of_ble_eq_true rfl) rfl hj1 ej1 ?_
    refine x_iconst (v := (1 : Int32)) rfl (by decide) ?_
    refine am_iadd rfl ?_
    obtain ⟨j2, ej2, hj2, H⟩ := ck_some H
    obtain ⟨g3, eg3, H⟩ := wr_some H
    refine x_iast rfl (Nat.le_of_ble_eq_true rfl) rfl hj2 ej2 eg3 ?_
    refine x_iconst (v := (0 : Int32)) rfl (by decide) ?_
    refine am_istore_n rfl (Nat.le_of_ble_eq_true rfl) ?_
    obtain ⟨s33, H1, H⟩ := bd_some H
    have K2 : (Sum.elim (fun (s10 : Int32 × Int32 × G) => u_V m_X8_runSteps (17 + n + 1) post 102 [some (.ref 0), some (.int a1), some (.int s10.1), none, none, some (.int s10.2.1)] [] s10.2.2) (fun (q : Int32 × G) => post q.1 q.2)) s33 := by
      clear H1
      cases s33 with
      | inl s10 =>
        obtain ⟨x7, x8, g9⟩ := s10
        (try dsimp only at H); (try dsimp only)
        refine am_aload_n rfl rfl ?_
        refine u_getR f_8_66 rfl (Nat.le_of_ble_eq_true rfl) rfl rfl ?_
        refine am_iload rfl rfl ?_
        refine am_iload_n rfl rfl ?_
        refine am_iload_n rfl rfl ?_
        obtain ⟨r34, g35, H1, H⟩ := bd2_some H
        refine cv3v v_8_360 rfl rfl (Nat.le_of_ble_eq_true rfl) rfl (by omega) (fun _ _ => Nat.le_of_ble_eq_true rfl) (y_X4_tellFailure x8 a1 x7 g9 _ H1 ?_)
        refine x_iconst (v := (0 : Int32)) rfl (by decide) ?_
        have H := Option.some.inj H
        subst H
        exact u_zret rfl rfl (Or.inl rfl) K
      | inr y =>
        have H := Option.some.inj H
        subst H
        exact K
    refine am_drop (L' := [some (.ref 0), some (.int a1), some (.int (0 : Int32)), none, none, none]) (And.intro rfl (And.intro rfl (And.intro rfl trivial))) ?_
    refine lp_ind (P := (fun (s6 : Int32 × G) => u_V m_X8_runSteps (17 + n + 1) post 15 [some (.ref 0), some (.int a1), some (.int s6.1), none, none, none] [] s6.2)) (Q := (Sum.elim (fun (s10 : Int32 × Int32 × G) => u_V m_X8_runSteps (17 + n + 1) post 102 [some (.ref 0), some (.int a1), some (.int s10.1), none, none, some (.int s10.2.1)] [] s10.2.2) (fun (q : Int32 × G) => post q.1 q.2))) ?_ 2000 ((0 : Int32), g3) s33 H1 K2
    clear H1 H K
    intro s6 s33b H K
    obtain ⟨x4, g5⟩ := s6
    (try dsimp only at H); (try dsimp only)
    refine am_iload_n rfl rfl ?_
    refine am_aload_n rfl rfl ?_
    refine u_getR f_8_59 rfl (Nat.le_of_ble_eq_true rfl) rfl rfl ?_
    refine u_getR f_8_319 rfl (Nat.le_of_ble_eq_true rfl) rfl rfl ?_
    refine am_iload_n rfl rfl ?_
    obtain ⟨j11, ej11, hj11, H⟩ := ck_some H
    refine x_iald rfl (Nat.le_of_ble_eq_true rfl) rfl hj11 ej11 ?_
    refine am_icmp_ge rfl (fun c12 => ?_) (fun c12 => ?_)
    · have H := it_pos c12 H
      refine x_iconst (v := (1 : Int32)) rfl (by decide) ?_
      have H := Option.some.inj H
      subst H
      exact u_zret rfl rfl (Or.inr rfl) K
    · have H := it_neg c12 H
      refine am_aload_n rfl rfl ?_
      refine u_getR f_8_59 rfl (Nat.le_of_ble_eq_true rfl) rfl rfl ?_
      refine am_iload_n rfl rfl ?_
      refine am_iload_n rfl rfl ?_
      obtain ⟨r13, g14, H1, H⟩ := bd2_some H
      refine cv2i v_8_351 rfl rfl (Nat.le_of_ble_eq_true rfl) rfl (by omega) (fun _ _ => Nat.le_of_ble_eq_true rfl) (y_X2_rowOf a1 x4 g5 _ H1 ?_)
      refine am_istore_n rfl (Nat.le_of_ble_eq_true rfl) ?_
      refine am_aload_n rfl rfl ?_
      refine u_getR f_8_59 rfl (Nat.le_of_ble_eq_true rfl) rfl rfl ?_
      refine u_getR f_8_316 rfl (Nat.le_of_ble_eq_true rfl) rfl rfl ?_
      refine am_iload_n rfl rfl ?_
      refine x_iconst (v := (1 : Int32)) rfl (by decide) ?_
      refine am_iadd rfl ?_
      obtain ⟨j15, ej15, hj15, H⟩ := ck_some H
      refine x_iald rfl (Nat.le_of_ble_eq_true rfl) rfl hj15 ej15 ?_
      refine am_istore rfl (Nat.le_of_ble_eq_true rfl) ?_
      refine am_aload_n rfl rfl ?_
      refine u_getR f_8_59 rfl (Nat.le_of_ble_eq_true rfl) rfl rfl ?_
      refine u_getR f_8_316 rfl (Nat.le_of_ble_eq_true rfl) rfl rfl ?_
      refine am_iload_n rfl rfl ?_
      obtain ⟨j16, ej16, hj16, H⟩ := ck_some H
      refine x_iald rfl (Nat.le_of_ble_eq_true rfl) rfl hj16 ej16 ?_
      refine x_bipush (v := (11 : Int32)) rfl (by decide) ?_
      obtain ⟨s32, H1, H⟩ := bd_some H
      have K : (Sum.elim (fun (s19 : Int32 × G) => u_V m_X8_runSteps (17 + n + 1) post 87 [some (.ref 0), some (.int a1), some (.int s19.1), some (.int r13), none, none] [] s19.2) (Sum.elim (fun (s6 : Int32 × G) => u_V m_X8_runSteps (17 + n + 1) post 15 [some (.ref 0), some (.int a1), some (.int s6.1), none, none, none] [] s6.2) (Sum.elim (fun (s10 : Int32 × Int32 × G) => u_V m_X8_runSteps (17 + n + 1) post 102 [some (.ref 0), some (.int a1), some (.int s10.1), none, none, some (.int s10.2.1)] [] s10.2.2) (fun (q : Int32 × G) => post q.1 q.2)))) s32 := by
        clear H1
        cases s32 with
        | inl s19 =>
          obtain ⟨x17, g18⟩ := s19
          (try dsimp only at H); (try dsimp only)
          refine am_aload_n rfl rfl ?_
          refine am_iload_n rfl rfl ?_
          obtain ⟨r20, g21, H1, H⟩ := bd2_some H
          refine cv1i v_8_354 rfl rfl (Nat.le_of_ble_eq_true rfl) rfl (by omega) (fun _ _ => Nat.le_of_ble_eq_true rfl) (y_X8_perform r13 g18 _ H1 ?_)
          refine am_istore rfl (Nat.le_of_ble_eq_true rfl) ?_
          refine am_iload rfl rfl ?_
          obtain ⟨r22, g23, H1, H⟩ := bd2_some H
          refine cs1i s_8_357 rfl rfl (by omega) (fun _ _ => Nat.le_of_ble_eq_true rfl) (y_X8_fails r20 g21 _ H1 ?_)
          refine am_if_eq rfl (fun c24 => ?_) (fun c24 => ?_)
          · have H := it_pos c24 H
            refine am_aload_n rfl rfl ?_
            refine u_getR f_8_66 rfl (Nat.le_of_ble_eq_true rfl) rfl rfl ?_
            refine am_dup rfl rfl ?_
            refine u_getI f_8_342 rfl (Nat.le_of_ble_eq_true rfl) rfl rfl ?_
            refine x_iconst (v := (1 : Int32)) rfl (by decide) ?_
            refine am_iadd rfl ?_
            obtain ⟨g25, eg25, H⟩ := wr_some H
            refine x_putI f_8_342 rfl rfl (Nat.le_of_ble_eq_true rfl) rfl rfl (fun _ _ => ⟨rfl, rfl⟩) eg25 ?_
            refine x_iinc (v := (x17 + (1 : Int32))) rfl rfl (Nat.le_of_ble_eq_true rfl) rfl ?_
            refine am_goto rfl ?_
            have H := Option.some.inj H
            subst H
            exact am_drop (L' := [some (.ref 0), some (.int a1), some (.int (x17 + (1 : Int32))), none, none, none]) (And.intro rfl (And.intro rfl (And.intro rfl trivial))) K
          · have H := it_neg c24 H
            have H := Option.some.inj H
            subst H
            exact am_drop (L' := [some (.ref 0), some (.int a1), some (.int x17), none, none, some (.int r20)]) (And.intro rfl (And.intro rfl (And.intro rfl (And.intro rfl trivial)))) K
        | inr y =>
          have H := Option.some.inj H
          subst H
          exact K
      have H := H1
      clear H1
      refine am_icmp_ne rfl (fun c26 => ?_) (fun c26 => ?_)
      · have H := it_neg c26 H
        have H := Option.some.inj H
        subst H
        exact am_drop (L' := [some (.ref 0), some (.int a1), some (.int x4), some (.int r13), none, none]) (And.intro rfl (And.intro rfl (And.intro rfl (And.intro rfl trivial)))) K
      · have H := it_pos c26 H
        refine am_iload rfl rfl ?_
        refine am_if_lt rfl (fun c27 => ?_) (fun c27 => ?_)
        · have H := it_pos c27 H
          have H := Option.some.inj H
          subst H
          exact am_drop (L' := [some (.ref 0), some (.int a1), some (.int x4), some (.int r13), none, none]) (And.intro rfl (And.intro rfl (And.intro rfl (And.intro rfl trivial)))) K
        · have H := it_neg c27 H
          refine am_iload rfl rfl ?_
          refine am_iload_n rfl rfl ?_
          refine am_icmp_ge rfl (fun c28 => ?_) (fun c28 => ?_)
          · have H := it_pos c28 H
            have H := Option.some.inj H
            subst H
            exact am_drop (L' := [some (.ref 0), some (.int a1), some (.int x4), some (.int r13), none, none]) (And.intro rfl (And.intro rfl (And.intro rfl (And.intro rfl trivial)))) K
          · have H := it_neg c28 H
            refine am_aload_n rfl rfl ?_
            refine am_iload rfl rfl ?_
            obtain ⟨r29, g30, H1, H⟩ := bd2_some H
            refine cv1i v_8_327 rfl rfl (Nat.le_of_ble_eq_true rfl) rfl (Nat.le_refl _) (fun _ _ => Nat.le_of_ble_eq_true rfl) (ih (g14 44 j15) g14 _ H1 ?_)
            refine am_if_ne rfl (fun c31 => ?_) (fun c31 => ?_)
            · have H := it_neg c31 H
              refine x_iinc (v := (x4 + (1 : Int32))) rfl rfl (Nat.le_of_ble_eq_true rfl) rfl ?_
              refine am_goto rfl ?_
              have H := Option.some.inj H
              subst H
              exact am_drop (L' := [some (.ref 0), some (.int a1), some (.int (x4 + (1 : Int32))), none, none, none]) (And.intro rfl (And.intro rfl (And.intro rfl trivial))) K
            · have H := it_pos c31 H
              refine x_iconst (v := (0 : Int32)) rfl (by decide) ?_
              have H := Option.some.inj H
              subst H
              exact u_zret rfl rfl (Or.inl rfl) K
def f_X8_restore  (g : G) : Option (Int32 × G) := bd2 (f_X5_takeOver_3_8  g) fun r1 g2 => wr (up2 g2 0 12 (g2 0 13)) fun g3 => bd (lp (fun (s6 : Int32 × G) => (if (s6.2 0 13) ≤ s6.1 then some (.inr (s6.2)) else ck s6.1 4 fun j10 => wr (47 + 28 * j10) fun t11 => ck s6.1 4 fun j12 => wr (61 + 28 * j12) fun t13 => bd2 (f_X7_takeOver t11 t13 s6.2) fun r14 g15 => some (.inl ((s6.1 + (1 : Int32)), g15)) : Option ((Int32 × G) ⊕ (G)))) 2000 ((0 : Int32), g3)) fun (s8 : G) => some (((0 : Int32), s8))
set_option maxHeartbeats 4000000 in
set_option maxRecDepth 100000 in
theorem y_X8_restore   (g : G) (q : Int32 × G) {post : Int32 → G → Prop} (H : f_X8_restore  g = some q) (K : post q.1 q.2) : Y m_X8_restore 2 [.ref 0] g post := by
  refine Y_of ok_X8_restore pn_8 rfl (by decide) (Or.inl rfl) (List.forall_mem_cons.mpr ⟨rfl, (fun _ h => absurd h List.not_mem_nil)⟩) (Nat.le_of_ble_eq_true rfl) ?_
  show u_V m_X8_restore 2 post 0 [some (.ref 0), none] [] g
  unfold f_X8_restore at H
  refine am_aload_n rfl rfl ?_
  refine u_getR f_8_19 rfl (Nat.le_of_ble_eq_true rfl) rfl rfl ?_
  refine am_aload_n rfl rfl ?_
  refine u_getR f_8_23 rfl (Nat.le_of_ble_eq_true rfl) rfl rfl ?_
  obtain ⟨r1, g2, H1, H⟩ := bd2_some H
  refine cv1v v_8_345 rfl rfl (Nat.le_of_ble_eq_true rfl) rfl (Nat.le_of_ble_eq_true rfl) (fun _ _ => Nat.le_of_ble_eq_true rfl) (y_X5_takeOver_3_8  g _ H1 ?_)
  refine am_aload_n rfl rfl ?_
  refine am_aload_n rfl rfl ?_
  refine u_getI f_8_81 rfl (Nat.le_of_ble_eq_true rfl) rfl rfl ?_
  obtain ⟨g3, eg3, H⟩ := wr_some H
  refine x_putI f_8_78 rfl rfl (Nat.le_of_ble_eq_true rfl) rfl rfl (fun _ _ => ⟨rfl, rfl⟩) eg3 ?_
  refine x_iconst (v := (0 : Int32)) rfl (by decide) ?_
  refine am_istore_n rfl (Nat.le_of_ble_eq_true rfl) ?_
  obtain ⟨s16, H1, H⟩ := bd_some H
  have K2 : (fun (s8 : G) => u_V m_X8_restore 2 post 50 [none, none] [] s8) s16 := by
    clear H1
    obtain ⟨g7, e_g7⟩ : ∃ z, z = s16 := ⟨_, rfl⟩
    subst e_g7
    (try dsimp only at H); (try dsimp only)
    have H := Option.some.inj H
    subst H
    exact u_vret rfl rfl K
  refine am_drop (L' := [some (.ref 0), some (.int (0 : Int32))]) (And.intro rfl (And.intro rfl trivial)) ?_
  refine lp_ind (P := (fun (s6 : Int32 × G) => u_V m_X8_restore 2 post 21 [some (.ref 0), some (.int s6.1)] [] s6.2)) (Q := (fun (s8 : G) => u_V m_X8_restore 2 post 50 [none, none] [] s8)) ?_ 2000 ((0 : Int32), g3) s16 H1 K2
  clear H1 H K
  intro s6 s16b H K
  obtain ⟨x4, g5⟩ := s6
  (try dsimp only at H); (try dsimp only)
  refine am_iload_n rfl rfl ?_
  refine am_aload_n rfl rfl ?_
  refine u_getI f_8_81 rfl (Nat.le_of_ble_eq_true rfl) rfl rfl ?_
  refine am_icmp_ge rfl (fun c9 => ?_) (fun c9 => ?_)
  · have H := it_pos c9 H
    have H := Option.some.inj H
    subst H
    exact am_drop (L' := [none, none]) trivial K
  · have H := it_neg c9 H
    refine am_aload_n rfl rfl ?_
    refine u_getR f_8_28 rfl (Nat.le_of_ble_eq_true rfl) rfl rfl ?_
    refine am_iload_n rfl rfl ?_
    obtain ⟨j10, ej10, hj10, H⟩ := ck_some H
    obtain ⟨t11, et11, H⟩ := wr_some H
    have ht11 : isT t11 := isT_l (vp_lt hj10 ej10) et11
    refine x_aald rfl (Nat.le_of_ble_eq_true rfl) rfl hj10 ej10 (r := t11) (by rw [et11]; exact if_pos (vp_lt hj10 ej10)) ?_
    refine am_aload_n rfl rfl ?_
    refine u_getR f_8_32 rfl (Nat.le_of_ble_eq_true rfl) rfl rfl ?_
    refine am_iload_n rfl rfl ?_
    obtain ⟨j12, ej12, hj12, H⟩ := ck_some H
    obtain ⟨t13, et13, H⟩ := wr_some H
    have ht13 : isT t13 := isT_s (vp_lt hj12 ej12) et13
    refine x_aald rfl (Nat.le_of_ble_eq_true rfl) rfl hj12 ej12 (r := t13) (by rw [et13]; exact if_pos (vp_lt hj12 ej12)) ?_
    obtain ⟨r14, g15, H1, H⟩ := bd2_some H
    refine cv1v v_8_189 rfl rfl (isT_lt0 ht11) (sk_T ht11) (Nat.le_of_ble_eq_true rfl) (fun _ _ => Nat.le_of_ble_eq_true rfl) (y_X7_takeOver t11 t13 ht11 ht13 g5 _ H1 ?_)
    refine x_iinc (v := (x4 + (1 : Int32))) rfl rfl (Nat.le_of_ble_eq_true rfl) rfl ?_
    refine am_goto rfl ?_
    have H := Option.some.inj H
    subst H
    exact am_drop (L' := [some (.ref 0), some (.int (x4 + (1 : Int32)))]) (And.intro rfl (And.intro rfl trivial)) K
def f_X8_run (a1 : Int32) (g : G) : Option (Int32 × G) := bd2 (f_X1_clear  g) fun r1 g2 => bd2 (f_X8_isPlan a1 g2) fun r3 g4 => if r3 = 0 then some (((-2 : Int32), g4)) else bd2 (f_X8_save  g4) fun r6 g7 => bd2 (f_X4_begin  g7) fun r8 g9 => bd2 (f_X8_runSteps 12 a1 g9) fun r10 g11 => if r10 = 0 then bd2 (f_X8_restore  g11) fun r13 g14 => some (((-6 : Int32), g14)) else some (((1 : Int32), g11))
set_option maxHeartbeats 4000000 in
set_option maxRecDepth 100000 in
theorem y_X8_run (a1 : Int32)  (g : G) (q : Int32 × G) {post : Int32 → G → Prop} (H : f_X8_run a1 g = some q) (K : post q.1 q.2) : Y m_X8_run 30 [.ref 0, .int a1] g post := by
  refine Y_of ok_X8_run pn_8 rfl (by decide) (Or.inr (Or.inl rfl)) (List.forall_mem_cons.mpr ⟨rfl, (List.forall_mem_cons.mpr ⟨rfl, (fun _ h => absurd h List.not_mem_nil)⟩)⟩) (Nat.le_of_ble_eq_true rfl) ?_
  show u_V m_X8_run 30 post 0 [some (.ref 0), some (.int a1)] [] g
  unfold f_X8_run at H
  refine am_aload_n rfl rfl ?_
  refine u_getR f_8_10 rfl (Nat.le_of_ble_eq_true rfl) rfl rfl ?_
  obtain ⟨r1, g2, H1, H⟩ := bd2_some H
  refine cv0v v_8_114 rfl rfl (Nat.le_of_ble_eq_true rfl) rfl (Nat.le_of_ble_eq_true rfl) (fun _ _ => Nat.le_of_ble_eq_true rfl) (y_X1_clear  g _ H1 ?_)
  refine am_iload_n rfl rfl ?_
  obtain ⟨r3, g4, H1, H⟩ := bd2_some H
  refine cs1i s_8_310 rfl rfl (Nat.le_of_ble_eq_true rfl) (fun _ _ => Nat.le_of_ble_eq_true rfl) (y_X8_isPlan a1 g2 _ H1 ?_)
  refine am_if_ne rfl (fun c5 => ?_) (fun c5 => ?_)
  · have H := it_neg c5 H
    refine am_aload_n rfl rfl ?_
    obtain ⟨r6, g7, H1, H⟩ := bd2_some H
    refine cv0v v_8_322 rfl rfl (Nat.le_of_ble_eq_true rfl) rfl (Nat.le_of_ble_eq_true rfl) (fun _ _ => Nat.le_of_ble_eq_true rfl) (y_X8_save  g4 _ H1 ?_)
    refine am_aload_n rfl rfl ?_
    refine u_getR f_8_66 rfl (Nat.le_of_ble_eq_true rfl) rfl rfl ?_
    obtain ⟨r8, g9, H1, H⟩ := bd2_some H
    refine cv0v v_8_325 rfl rfl (Nat.le_of_ble_eq_true rfl) rfl (Nat.le_of_ble_eq_true rfl) (fun _ _ => Nat.le_of_ble_eq_true rfl) (y_X4_begin  g7 _ H1 ?_)
    refine am_aload_n rfl rfl ?_
    refine am_iload_n rfl rfl ?_
    obtain ⟨r10, g11, H1, H⟩ := bd2_some H
    refine cv1i v_8_327 rfl rfl (Nat.le_of_ble_eq_true rfl) rfl (Nat.le_of_ble_eq_true rfl) (fun _ _ => Nat.le_of_ble_eq_true rfl) (y_X8_runSteps 12 a1 g9 _ H1 ?_)
    refine am_if_eq rfl (fun c12 => ?_) (fun c12 => ?_)
    · have H := it_pos c12 H
      refine am_aload_n rfl rfl ?_
      obtain ⟨r13, g14, H1, H⟩ := bd2_some H
      refine cv0v v_8_330 rfl rfl (Nat.le_of_ble_eq_true rfl) rfl (Nat.le_of_ble_eq_true rfl) (fun _ _ => Nat.le_of_ble_eq_true rfl) (y_X8_restore  g11 _ H1 ?_)
      refine x_bipush (v := (-6 : Int32)) rfl (by decide) ?_
      have H := Option.some.inj H
      subst H
      exact u_iret rfl rfl K
    · have H := it_neg c12 H
      refine x_iconst (v := (1 : Int32)) rfl (by decide) ?_
      have H := Option.some.inj H
      subst H
      exact u_iret rfl rfl K
  · have H := it_pos c5 H
    refine x_bipush (v := (-2 : Int32)) rfl (by decide) ?_
    have H := Option.some.inj H
    subst H
    exact u_iret rfl rfl K
def f_X8_ran (a1 : Int32) (g : G) : Option (Int32 × G) := if a1 = (0 : Int32) then some (((g 45 0), g)) else if a1 = (1 : Int32) then some (((g 45 1), g)) else if a1 = (2 : Int32) then some (((g 45 2), g)) else if a1 = (3 : Int32) then some (((g 45 3), g)) else some (((-2 : Int32), g))
set_option maxHeartbeats 4000000 in
set_option maxRecDepth 100000 in
theorem y_X8_ran (a1 : Int32)  (g : G) (q : Int32 × G) {post : Int32 → G → Prop} (H : f_X8_ran a1 g = some q) (K : post q.1 q.2) : Y m_X8_ran 0 [.ref 0, .int a1] g post := by
  refine Y_of ok_X8_ran pn_8 rfl (by decide) (Or.inr (Or.inl rfl)) (List.forall_mem_cons.mpr ⟨rfl, (List.forall_mem_cons.mpr ⟨rfl, (fun _ h => absurd h List.not_mem_nil)⟩)⟩) (Nat.le_of_ble_eq_true rfl) ?_
  show u_V m_X8_ran 0 post 0 [some (.ref 0), some (.int a1)] [] g
  unfold f_X8_ran at H
  refine am_iload_n rfl rfl ?_
  by_cases c1 : a1 = (0 : Int32)
  · have H := it_pos c1 H
    refine am_tsw1 (j := 0) rfl c1 (by decide +kernel) rfl rfl ?_
    refine am_aload_n rfl rfl ?_
    refine u_getR f_8_66 rfl (Nat.le_of_ble_eq_true rfl) rfl rfl ?_
    refine u_getI f_8_333 rfl (Nat.le_of_ble_eq_true rfl) rfl rfl ?_
    have H := Option.some.inj H
    subst H
    exact u_iret rfl rfl K
  have H := it_neg c1 H
  by_cases c2 : a1 = (1 : Int32)
  · have H := it_pos c2 H
    refine am_tsw1 (j := 1) rfl c2 (by decide +kernel) rfl rfl ?_
    refine am_aload_n rfl rfl ?_
    refine u_getR f_8_66 rfl (Nat.le_of_ble_eq_true rfl) rfl rfl ?_
    refine u_getI f_8_336 rfl (Nat.le_of_ble_eq_true rfl) rfl rfl ?_
    have H := Option.some.inj H
    subst H
    exact u_iret rfl rfl K
  have H := it_neg c2 H
  by_cases c3 : a1 = (2 : Int32)
  · have H := it_pos c3 H
    refine am_tsw1 (j := 2) rfl c3 (by decide +kernel) rfl rfl ?_
    refine am_aload_n rfl rfl ?_
    refine u_getR f_8_66 rfl (Nat.le_of_ble_eq_true rfl) rfl rfl ?_
    refine u_getI f_8_339 rfl (Nat.le_of_ble_eq_true rfl) rfl rfl ?_
    have H := Option.some.inj H
    subst H
    exact u_iret rfl rfl K
  have H := it_neg c3 H
  by_cases c4 : a1 = (3 : Int32)
  · have H := it_pos c4 H
    refine am_tsw1 (j := 3) rfl c4 (by decide +kernel) rfl rfl ?_
    refine am_aload_n rfl rfl ?_
    refine u_getR f_8_66 rfl (Nat.le_of_ble_eq_true rfl) rfl rfl ?_
    refine u_getI f_8_342 rfl (Nat.le_of_ble_eq_true rfl) rfl rfl ?_
    have H := Option.some.inj H
    subst H
    exact u_iret rfl rfl K
  have H := it_neg c4 H
  refine am_tswD rfl rfl (am_out (lo := 0) 4 (And.intro c4 (And.intro c3 (And.intro c2 (And.intro c1 trivial))))) ?_
  refine x_bipush (v := (-2 : Int32)) rfl (by decide) ?_
  have H := Option.some.inj H
  subst H
  exact u_iret rfl rfl K
def f_X8_finding  (g : G) : Option (Int32 × G) := some (((g 1 2), g))
set_option maxHeartbeats 4000000 in
set_option maxRecDepth 100000 in
theorem y_X8_finding   (g : G) (q : Int32 × G) {post : Int32 → G → Prop} (H : f_X8_finding  g = some q) (K : post q.1 q.2) : Y m_X8_finding 0 [.ref 0] g post := by
  refine Y_of ok_X8_finding pn_8 rfl (by decide) (Or.inr (Or.inl rfl)) (List.forall_mem_cons.mpr ⟨rfl, (fun _ h => absurd h List.not_mem_nil)⟩) (Nat.le_of_ble_eq_true rfl) ?_
  show u_V m_X8_finding 0 post 0 [some (.ref 0)] [] g
  unfold f_X8_finding at H
  refine am_aload_n rfl rfl ?_
  refine u_getR f_8_10 rfl (Nat.le_of_ble_eq_true rfl) rfl rfl ?_
  refine u_getI f_8_395 rfl (Nat.le_of_ble_eq_true rfl) rfl rfl ?_
  have H := Option.some.inj H
  subst H
  exact u_iret rfl rfl K
def f_X8_tellOf (a1 : Int32) (a2 : Int32) (g : G) : Option (Int32 × G) := if a1 = (1 : Int32) then bd2 (f_X8_isPlan a2 g) fun r11 g12 => if r11 = 0 then some (((-2 : Int32), g12)) else ck a2 4 fun j14 => some (((g12 43 j14), g12)) else bd2 (f_X8_isTournament a2 g) fun r2 g3 => if r2 = 0 then some (((-2 : Int32), g3)) else ck a2 4 fun j5 => wr (47 + 28 * j5) fun t6 => if a1 = (2 : Int32) then some (((g3 t6 1), g3)) else if a1 = (3 : Int32) then some (((g3 t6 2), g3)) else if a1 = (4 : Int32) then some (((g3 t6 3), g3)) else if a1 = (5 : Int32) then some (((g3 t6 0), g3)) else some (((-2 : Int32), g3))
set_option maxHeartbeats 4000000 in
set_option maxRecDepth 100000 in
theorem y_X8_tellOf (a1 : Int32) (a2 : Int32)  (g : G) (q : Int32 × G) {post : Int32 → G → Prop} (H : f_X8_tellOf a1 a2 g = some q) (K : post q.1 q.2) : Y m_X8_tellOf 1 [.ref 0, .int a1, .int a2] g post := by
  refine Y_of ok_X8_tellOf pn_8 rfl (by decide) (Or.inr (Or.inl rfl)) (List.forall_mem_cons.mpr ⟨rfl, (List.forall_mem_cons.mpr ⟨rfl, (List.forall_mem_cons.mpr ⟨rfl, (fun _ h => absurd h List.not_mem_nil)⟩)⟩)⟩) (Nat.le_of_ble_eq_true rfl) ?_
  show u_V m_X8_tellOf 1 post 0 [some (.ref 0), some (.int a1), some (.int a2), none] [] g
  unfold f_X8_tellOf at H
  refine am_iload_n rfl rfl ?_
  refine x_iconst (v := (1 : Int32)) rfl (by decide) ?_
  refine am_icmp_ne rfl (fun c1 => ?_) (fun c1 => ?_)
  · have H := it_neg c1 H
    refine am_aload_n rfl rfl ?_
    refine am_iload_n rfl rfl ?_
    obtain ⟨r2, g3, H1, H⟩ := bd2_some H
    refine cv1i v_8_138 rfl rfl (Nat.le_of_ble_eq_true rfl) rfl (Nat.le_of_ble_eq_true rfl) (fun _ _ => Nat.le_of_ble_eq_true rfl) (y_X8_isTournament a2 g _ H1 ?_)
    refine am_if_ne rfl (fun c4 => ?_) (fun c4 => ?_)
    · have H := it_neg c4 H
      refine am_aload_n rfl rfl ?_
      refine u_getR f_8_28 rfl (Nat.le_of_ble_eq_true rfl) rfl rfl ?_
      refine am_iload_n rfl rfl ?_
      obtain ⟨j5, ej5, hj5, H⟩ := ck_some H
      obtain ⟨t6, et6, H⟩ := wr_some H
      have ht6 : isT t6 := isT_l (vp_lt hj5 ej5) et6
      refine x_aald rfl (Nat.le_of_ble_eq_true rfl) rfl hj5 ej5 (r := t6) (by rw [et6]; exact if_pos (vp_lt hj5 ej5)) ?_
      refine am_astore_n rfl (Nat.le_of_ble_eq_true rfl) ?_
      refine am_iload_n rfl rfl ?_
      by_cases c7 : a1 = (2 : Int32)
      · have H := it_pos c7 H
        refine am_tsw1 (j := 0) rfl c7 (by decide +kernel) rfl rfl ?_
        refine am_aload_n rfl rfl ?_
        refine u_getI f_8_147 rfl (isT_lt0 ht6) (sk_T ht6) rfl ?_
        have H := Option.some.inj H
        subst H
        exact u_iret rfl rfl K
      have H := it_neg c7 H
      by_cases c8 : a1 = (3 : Int32)
      · have H := it_pos c8 H
        refine am_tsw1 (j := 1) rfl c8 (by decide +kernel) rfl rfl ?_
        refine am_aload_n rfl rfl ?_
        refine u_getI f_8_144 rfl (isT_lt0 ht6) (sk_T ht6) rfl ?_
        have H := Option.some.inj H
        subst H
        exact u_iret rfl rfl K
      have H := it_neg c8 H
      by_cases c9 : a1 = (4 : Int32)
      · have H := it_pos c9 H
        refine am_tsw1 (j := 2) rfl c9 (by decide +kernel) rfl rfl ?_
        refine am_aload_n rfl rfl ?_
        refine u_getI f_8_240 rfl (isT_lt0 ht6) (sk_T ht6) rfl ?_
        have H := Option.some.inj H
        subst H
        exact u_iret rfl rfl K
      have H := it_neg c9 H
      by_cases c10 : a1 = (5 : Int32)
      · have H := it_pos c10 H
        refine am_tsw1 (j := 3) rfl c10 (by decide +kernel) rfl rfl ?_
        refine am_aload_n rfl rfl ?_
        refine u_getI f_8_197 rfl (isT_lt0 ht6) (sk_T ht6) rfl ?_
        have H := Option.some.inj H
        subst H
        exact u_iret rfl rfl K
      have H := it_neg c10 H
      refine am_tswD rfl rfl (am_out (lo := 2) 4 (And.intro c10 (And.intro c9 (And.intro c8 (And.intro c7 trivial))))) ?_
      refine x_bipush (v := (-2 : Int32)) rfl (by decide) ?_
      have H := Option.some.inj H
      subst H
      exact u_iret rfl rfl K
    · have H := it_pos c4 H
      refine x_bipush (v := (-2 : Int32)) rfl (by decide) ?_
      have H := Option.some.inj H
      subst H
      exact u_iret rfl rfl K
  · have H := it_pos c1 H
    refine am_iload_n rfl rfl ?_
    obtain ⟨r11, g12, H1, H⟩ := bd2_some H
    refine cs1i s_8_310 rfl rfl (Nat.le_of_ble_eq_true rfl) (fun _ _ => Nat.le_of_ble_eq_true rfl) (y_X8_isPlan a2 g _ H1 ?_)
    refine am_if_eq rfl (fun c13 => ?_) (fun c13 => ?_)
    · have H := it_pos c13 H
      refine x_bipush (v := (-2 : Int32)) rfl (by decide) ?_
      have H := Option.some.inj H
      subst H
      exact u_iret rfl rfl K
    · have H := it_neg c13 H
      refine am_aload_n rfl rfl ?_
      refine u_getR f_8_59 rfl (Nat.le_of_ble_eq_true rfl) rfl rfl ?_
      refine u_getR f_8_348 rfl (Nat.le_of_ble_eq_true rfl) rfl rfl ?_
      refine am_iload_n rfl rfl ?_
      obtain ⟨j14, ej14, hj14, H⟩ := ck_some H
      refine x_iald rfl (Nat.le_of_ble_eq_true rfl) rfl hj14 ej14 ?_
      refine am_goto rfl ?_
      have H := Option.some.inj H
      subst H
      exact u_iret rfl rfl K
def f_X8_told (a1 : Int32) (g : G) : Option (Int32 × G) := if a1 = (0 : Int32) then some (((g 3 4), g)) else if a1 = (1 : Int32) then some (((g 0 12), g)) else if a1 = (2 : Int32) then some (((g 0 14), g)) else if a1 = (3 : Int32) then some (((g 1 1), g)) else if (10 : Int32) ≤ a1 then bd2 (f_X8_tellOf (a1 / (10 : Int32)) (a1 - a1 / (10 : Int32) * (10 : Int32)) g) fun r6 g7 => some ((r6, g7)) else some (((-2 : Int32), g))
set_option maxHeartbeats 4000000 in
set_option maxRecDepth 100000 in
theorem y_X8_told (a1 : Int32)  (g : G) (q : Int32 × G) {post : Int32 → G → Prop} (H : f_X8_told a1 g = some q) (K : post q.1 q.2) : Y m_X8_told 2 [.ref 0, .int a1] g post := by
  refine Y_of ok_X8_told pn_8 rfl (by decide) (Or.inr (Or.inl rfl)) (List.forall_mem_cons.mpr ⟨rfl, (List.forall_mem_cons.mpr ⟨rfl, (fun _ h => absurd h List.not_mem_nil)⟩)⟩) (Nat.le_of_ble_eq_true rfl) ?_
  show u_V m_X8_told 2 post 0 [some (.ref 0), some (.int a1)] [] g
  unfold f_X8_told at H
  refine am_iload_n rfl rfl ?_
  by_cases c1 : a1 = (0 : Int32)
  · have H := it_pos c1 H
    refine am_tsw1 (j := 0) rfl c1 (by decide +kernel) rfl rfl ?_
    refine am_aload_n rfl rfl ?_
    refine u_getR f_8_19 rfl (Nat.le_of_ble_eq_true rfl) rfl rfl ?_
    refine u_getI f_8_398 rfl (Nat.le_of_ble_eq_true rfl) rfl rfl ?_
    have H := Option.some.inj H
    subst H
    exact u_iret rfl rfl K
  have H := it_neg c1 H
  by_cases c2 : a1 = (1 : Int32)
  · have H := it_pos c2 H
    refine am_tsw1 (j := 1) rfl c2 (by decide +kernel) rfl rfl ?_
    refine am_aload_n rfl rfl ?_
    refine u_getI f_8_78 rfl (Nat.le_of_ble_eq_true rfl) rfl rfl ?_
    have H := Option.some.inj H
    subst H
    exact u_iret rfl rfl K
  have H := it_neg c2 H
  by_cases c3 : a1 = (2 : Int32)
  · have H := it_pos c3 H
    refine am_tsw1 (j := 2) rfl c3 (by decide +kernel) rfl rfl ?_
    refine am_aload_n rfl rfl ?_
    refine u_getI f_8_84 rfl (Nat.le_of_ble_eq_true rfl) rfl rfl ?_
    have H := Option.some.inj H
    subst H
    exact u_iret rfl rfl K
  have H := it_neg c3 H
  by_cases c4 : a1 = (3 : Int32)
  · have H := it_pos c4 H
    refine am_tsw1 (j := 3) rfl c4 (by decide +kernel) rfl rfl ?_
    refine am_aload_n rfl rfl ?_
    refine u_getR f_8_10 rfl (Nat.le_of_ble_eq_true rfl) rfl rfl ?_
    refine u_getI f_8_124 rfl (Nat.le_of_ble_eq_true rfl) rfl rfl ?_
    have H := Option.some.inj H
    subst H
    exact u_iret rfl rfl K
  have H := it_neg c4 H
  refine am_tswD rfl rfl (am_out (lo := 0) 4 (And.intro c4 (And.intro c3 (And.intro c2 (And.intro c1 trivial))))) ?_
  refine am_iload_n rfl rfl ?_
  refine x_bipush (v := (10 : Int32)) rfl (by decide) ?_
  refine am_icmp_ge rfl (fun c5 => ?_) (fun c5 => ?_)
  · have H := it_pos c5 H
    refine am_aload_n rfl rfl ?_
    refine am_iload_n rfl rfl ?_
    refine x_bipush (v := (10 : Int32)) rfl (by decide) ?_
    refine am_idiv rfl (by decide) ?_
    refine am_iload_n rfl rfl ?_
    refine x_bipush (v := (10 : Int32)) rfl (by decide) ?_
    refine am_irem rfl (by decide) ?_
    obtain ⟨r6, g7, H1, H⟩ := bd2_some H
    refine cv2i v_8_401 rfl rfl (Nat.le_of_ble_eq_true rfl) rfl (Nat.le_of_ble_eq_true rfl) (fun _ _ => Nat.le_of_ble_eq_true rfl) (y_X8_tellOf (a1 / (10 : Int32)) (a1 - a1 / (10 : Int32) * (10 : Int32)) g _ H1 ?_)
    have H := Option.some.inj H
    subst H
    exact u_iret rfl rfl K
  · have H := it_neg c5 H
    refine x_bipush (v := (-2 : Int32)) rfl (by decide) ?_
    refine am_goto rfl ?_
    have H := Option.some.inj H
    subst H
    exact u_iret rfl rfl K
