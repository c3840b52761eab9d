/-! The law's body: whole_open, over any invariant that all calls keep. Written by gen/p18.py. -/
def m_lw (nm : String) : am_M := (⟨"", nm, ""⟩, code, 4, some .boolean, 10, am_a2 k_law)
theorem ok_lw (nm : String) : am_ok (m_lw nm) := fun pc q hq => ok_law pc q hq
section LC
variable {M : am_M} {sc : Nat × (Nat → Int32)} {d mc ms n0 z0 : Nat} {post : Int32 → am_H → Prop} {pc nx : Nat} {L : List (Option Value)} {st : List Value} {g : G}
theorem lc0 {N : am_M} {i a : Nat} {fs : List (Option Nat)} {ty : FieldType} {d' : Nat} (hl : am_lV M.2.2.2.2.1 i N 0) (hret : N.2.2.2.1 = some ty) (hc : M.2.2.2.2.2 pc = some (.invokevirtual i, 3, nx, [])) (ha : a < 185) (hs : sk a = .inr (.inr (N.2.2.2.2.1, fs))) (hd : d' + 1 ≤ d) (hst : ∀ b bs, ((st.map (am_v b bs)).map (fun v => v.category)).sum ≤ 8) (hb : 185 + 0 ≤ n0 + mc ∧ 11339 + 0 ≤ z0 + ms) (hX : Y N d' (.ref a :: []) g (fun r g' => am_V M sc d mc ms n0 z0 post nx L (.int r :: st) (hw g'))) : am_V M sc d mc ms n0 z0 post pc L (.ref a :: st) (hw g) :=
  am_callV (As := []) hl hc rfl ha (hp_o hs) hd hst hb (am_X.imp hX (fun r h q => by
    obtain ⟨g', rfl, q⟩ := q
    rw [hret]
    exact q))
theorem lc1 {N : am_M} {i a : Nat} {fs : List (Option Nat)} {x1 : Value} {ty : FieldType} {d' : Nat} (hl : am_lV M.2.2.2.2.1 i N 1) (hret : N.2.2.2.1 = some ty) (hc : M.2.2.2.2.2 pc = some (.invokevirtual i, 3, nx, [])) (ha : a < 185) (hs : sk a = .inr (.inr (N.2.2.2.2.1, fs))) (hd : d' + 1 ≤ d) (hst : ∀ b bs, ((st.map (am_v b bs)).map (fun v => v.category)).sum ≤ 8) (hb : 185 + 0 ≤ n0 + mc ∧ 11339 + 0 ≤ z0 + ms) (hX : Y N d' (.ref a :: [x1]) g (fun r g' => am_V M sc d mc ms n0 z0 post nx L (.int r :: st) (hw g'))) : am_V M sc d mc ms n0 z0 post pc L (x1 :: .ref a :: st) (hw g) :=
  am_callV (As := [x1]) hl hc rfl ha (hp_o hs) hd hst hb (am_X.imp hX (fun r h q => by
    obtain ⟨g', rfl, q⟩ := q
    rw [hret]
    exact q))
theorem lc2 {N : am_M} {i a : Nat} {fs : List (Option Nat)} {x1 x2 : Value} {ty : FieldType} {d' : Nat} (hl : am_lV M.2.2.2.2.1 i N 2) (hret : N.2.2.2.1 = some ty) (hc : M.2.2.2.2.2 pc = some (.invokevirtual i, 3, nx, [])) (ha : a < 185) (hs : sk a = .inr (.inr (N.2.2.2.2.1, fs))) (hd : d' + 1 ≤ d) (hst : ∀ b bs, ((st.map (am_v b bs)).map (fun v => v.category)).sum ≤ 8) (hb : 185 + 0 ≤ n0 + mc ∧ 11339 + 0 ≤ z0 + ms) (hX : Y N d' (.ref a :: [x1, x2]) g (fun r g' => am_V M sc d mc ms n0 z0 post nx L (.int r :: st) (hw g'))) : am_V M sc d mc ms n0 z0 post pc L (x2 :: x1 :: .ref a :: st) (hw g) :=
  am_callV (As := [x1, x2]) hl hc rfl ha (hp_o hs) hd hst hb (am_X.imp hX (fun r h q => by
    obtain ⟨g', rfl, q⟩ := q
    rw [hret]
    exact q))
theorem lc3 {N : am_M} {i a : Nat} {fs : List (Option Nat)} {x1 x2 x3 : Value} {ty : FieldType} {d' : Nat} (hl : am_lV M.2.2.2.2.1 i N 3) (hret : N.2.2.2.1 = some ty) (hc : M.2.2.2.2.2 pc = some (.invokevirtual i, 3, nx, [])) (ha : a < 185) (hs : sk a = .inr (.inr (N.2.2.2.2.1, fs))) (hd : d' + 1 ≤ d) (hst : ∀ b bs, ((st.map (am_v b bs)).map (fun v => v.category)).sum ≤ 8) (hb : 185 + 0 ≤ n0 + mc ∧ 11339 + 0 ≤ z0 + ms) (hX : Y N d' (.ref a :: [x1, x2, x3]) g (fun r g' => am_V M sc d mc ms n0 z0 post nx L (.int r :: st) (hw g'))) : am_V M sc d mc ms n0 z0 post pc L (x3 :: x2 :: x1 :: .ref a :: st) (hw g) :=
  am_callV (As := [x1, x2, x3]) hl hc rfl ha (hp_o hs) hd hst hb (am_X.imp hX (fun r h q => by
    obtain ⟨g', rfl, q⟩ := q
    rw [hret]
    exact q))
theorem lc4 {N : am_M} {i a : Nat} {fs : List (Option Nat)} {x1 x2 x3 x4 : Value} {ty : FieldType} {d' : Nat} (hl : am_lV M.2.2.2.2.1 i N 4) (hret : N.2.2.2.1 = some ty) (hc : M.2.2.2.2.2 pc = some (.invokevirtual i, 3, nx, [])) (ha : a < 185) (hs : sk a = .inr (.inr (N.2.2.2.2.1, fs))) (hd : d' + 1 ≤ d) (hst : ∀ b bs, ((st.map (am_v b bs)).map (fun v => v.category)).sum ≤ 8) (hb : 185 + 0 ≤ n0 + mc ∧ 11339 + 0 ≤ z0 + ms) (hX : Y N d' (.ref a :: [x1, x2, x3, x4]) g (fun r g' => am_V M sc d mc ms n0 z0 post nx L (.int r :: st) (hw g'))) : am_V M sc d mc ms n0 z0 post pc L (x4 :: x3 :: x2 :: x1 :: .ref a :: st) (hw g) :=
  am_callV (As := [x1, x2, x3, x4]) hl hc rfl ha (hp_o hs) hd hst hb (am_X.imp hX (fun r h q => by
    obtain ⟨g', rfl, q⟩ := q
    rw [hret]
    exact q))
theorem lc5 {N : am_M} {i a : Nat} {fs : List (Option Nat)} {x1 x2 x3 x4 x5 : Value} {ty : FieldType} {d' : Nat} (hl : am_lV M.2.2.2.2.1 i N 5) (hret : N.2.2.2.1 = some ty) (hc : M.2.2.2.2.2 pc = some (.invokevirtual i, 3, nx, [])) (ha : a < 185) (hs : sk a = .inr (.inr (N.2.2.2.2.1, fs))) (hd : d' + 1 ≤ d) (hst : ∀ b bs, ((st.map (am_v b bs)).map (fun v => v.category)).sum ≤ 8) (hb : 185 + 0 ≤ n0 + mc ∧ 11339 + 0 ≤ z0 + ms) (hX : Y N d' (.ref a :: [x1, x2, x3, x4, x5]) g (fun r g' => am_V M sc d mc ms n0 z0 post nx L (.int r :: st) (hw g'))) : am_V M sc d mc ms n0 z0 post pc L (x5 :: x4 :: x3 :: x2 :: x1 :: .ref a :: st) (hw g) :=
  am_callV (As := [x1, x2, x3, x4, x5]) hl hc rfl ha (hp_o hs) hd hst hb (am_X.imp hX (fun r h q => by
    obtain ⟨g', rfl, q⟩ := q
    rw [hret]
    exact q))
theorem lc6 {N : am_M} {i a : Nat} {fs : List (Option Nat)} {x1 x2 x3 x4 x5 x6 : Value} {ty : FieldType} {d' : Nat} (hl : am_lV M.2.2.2.2.1 i N 6) (hret : N.2.2.2.1 = some ty) (hc : M.2.2.2.2.2 pc = some (.invokevirtual i, 3, nx, [])) (ha : a < 185) (hs : sk a = .inr (.inr (N.2.2.2.2.1, fs))) (hd : d' + 1 ≤ d) (hst : ∀ b bs, ((st.map (am_v b bs)).map (fun v => v.category)).sum ≤ 8) (hb : 185 + 0 ≤ n0 + mc ∧ 11339 + 0 ≤ z0 + ms) (hX : Y N d' (.ref a :: [x1, x2, x3, x4, x5, x6]) g (fun r g' => am_V M sc d mc ms n0 z0 post nx L (.int r :: st) (hw g'))) : am_V M sc d mc ms n0 z0 post pc L (x6 :: x5 :: x4 :: x3 :: x2 :: x1 :: .ref a :: st) (hw g) :=
  am_callV (As := [x1, x2, x3, x4, x5, x6]) hl hc rfl ha (hp_o hs) hd hst hb (am_X.imp hX (fun r h q => by
    obtain ⟨g', rfl, q⟩ := q
    rw [hret]
    exact q))
end LC
def Sp0 (Inv : G → Prop) (f8 f9 : G → Option (Int32 × G)) : Prop := ∀ (g : G), Inv g → ∃ (r : Int32) (g1 g2 : G), f8  g = some (r, g1) ∧ f9  g1 = some (r, g2) ∧ Inv g2
def Sp1 (Inv : G → Prop) (f8 f9 : Int32 → G → Option (Int32 × G)) : Prop := ∀ (a1 : Int32) (g : G), Inv g → ∃ (r : Int32) (g1 g2 : G), f8 a1 g = some (r, g1) ∧ f9 a1 g1 = some (r, g2) ∧ Inv g2
def Sp2 (Inv : G → Prop) (f8 f9 : Int32 → Int32 → G → Option (Int32 × G)) : Prop := ∀ (a1 a2 : Int32) (g : G), Inv g → ∃ (r : Int32) (g1 g2 : G), f8 a1 a2 g = some (r, g1) ∧ f9 a1 a2 g1 = some (r, g2) ∧ Inv g2
def Sp3 (Inv : G → Prop) (f8 f9 : Int32 → Int32 → Int32 → G → Option (Int32 × G)) : Prop := ∀ (a1 a2 a3 : Int32) (g : G), Inv g → ∃ (r : Int32) (g1 g2 : G), f8 a1 a2 a3 g = some (r, g1) ∧ f9 a1 a2 a3 g1 = some (r, g2) ∧ Inv g2
def Sp4 (Inv : G → Prop) (f8 f9 : Int32 → Int32 → Int32 → Int32 → G → Option (Int32 × G)) : Prop := ∀ (a1 a2 a3 a4 : Int32) (g : G), Inv g → ∃ (r : Int32) (g1 g2 : G), f8 a1 a2 a3 a4 g = some (r, g1) ∧ f9 a1 a2 a3 a4 g1 = some (r, g2) ∧ Inv g2
def Sp5 (Inv : G → Prop) (f8 f9 : Int32 → Int32 → Int32 → Int32 → Int32 → G → Option (Int32 × G)) : Prop := ∀ (a1 a2 a3 a4 a5 : Int32) (g : G), Inv g → ∃ (r : Int32) (g1 g2 : G), f8 a1 a2 a3 a4 a5 g = some (r, g1) ∧ f9 a1 a2 a3 a4 a5 g1 = some (r, g2) ∧ Inv g2
def Sp6 (Inv : G → Prop) (f8 f9 : Int32 → Int32 → Int32 → Int32 → Int32 → Int32 → G → Option (Int32 × G)) : Prop := ∀ (a1 a2 a3 a4 a5 a6 : Int32) (g : G), Inv g → ∃ (r : Int32) (g1 g2 : G), f8 a1 a2 a3 a4 a5 a6 g = some (r, g1) ∧ f9 a1 a2 a3 a4 a5 a6 g1 = some (r, g2) ∧ Inv g2
set_option maxHeartbeats 4000000 in
set_option maxRecDepth 100000 in
theorem lw_c0 {Inv : G → Prop} (hs : Sp2 Inv f_X8_player f_X9_player) {nm : String} {sc : Nat × (Nat → Int32)} {post : Int32 → am_H → Prop} {x : Int32} (hi : ∀ k : Int32, k < 7 ∧ 0 ≤ k → vp_in (x + k) sc.1) (K : ∀ g2, Inv g2 → am_V (m_lw nm) sc 64 185 11339 0 0 post 1490 [some (.float 0), some (.ref 0), some (.ref 159), some (.int x)] [] (hw g2)) (g : G) (hI : Inv g) : am_V (m_lw nm) sc 64 185 11339 0 0 post 184 [some (.float 0), some (.ref 0), some (.ref 159), some (.int x)] [] (hw g) := by
  obtain ⟨r, g1, g2, H8, H9, hI2⟩ := hs (sc.2 (x + (1 : Int32)).toNatClampNeg) (sc.2 (x + (2 : Int32)).toNatClampNeg) g hI
  refine am_aload_n rfl rfl ?_
  refine am_sload rfl rfl ?_
  refine am_iload_n rfl rfl ?_
  refine x_iconst (v := (1 : Int32)) rfl (by decide) ?_
  refine am_iadd rfl ?_
  refine am_sld rfl rfl (hi (1 : Int32) (by decide)) ?_
  refine am_sload rfl rfl ?_
  refine am_iload_n rfl rfl ?_
  refine x_iconst (v := (2 : Int32)) rfl (by decide) ?_
  refine am_iadd rfl ?_
  refine am_sld rfl rfl (hi (2 : Int32) (by decide)) ?_
  refine lc2 v_10_13 rfl rfl (Nat.le_of_ble_eq_true rfl) rfl (Nat.le_of_ble_eq_true rfl) (fun _ _ => Nat.le_of_ble_eq_true rfl) ⟨Nat.le_refl _, Nat.le_refl _⟩ (Y.mono (d2 := 62) (y_X8_player (sc.2 (x + (1 : Int32)).toNatClampNeg) (sc.2 (x + (2 : Int32)).toNatClampNeg) g _ H8 ?_) (by decide))
  refine am_aload_n rfl rfl ?_
  refine am_sload rfl rfl ?_
  refine am_iload_n rfl rfl ?_
  refine x_iconst (v := (1 : Int32)) rfl (by decide) ?_
  refine am_iadd rfl ?_
  refine am_sld rfl rfl (hi (1 : Int32) (by decide)) ?_
  refine am_sload rfl rfl ?_
  refine am_iload_n rfl rfl ?_
  refine x_iconst (v := (2 : Int32)) rfl (by decide) ?_
  refine am_iadd rfl ?_
  refine am_sld rfl rfl (hi (2 : Int32) (by decide)) ?_
  refine lc2 v_10_17 rfl rfl (Nat.le_of_ble_eq_true rfl) rfl (Nat.le_of_ble_eq_true rfl) (fun _ _ => Nat.le_of_ble_eq_true rfl) ⟨Nat.le_refl _, Nat.le_refl _⟩ (Y.mono (d2 := 62) (y_X9_player (sc.2 (x + (1 : Int32)).toNatClampNeg) (sc.2 (x + (2 : Int32)).toNatClampNeg) g1 _ H9 ?_) (by decide))
  refine am_icmp_eq rfl (fun _ => ?_) (fun c => absurd rfl c)
  exact K g2 hI2
set_option maxHeartbeats 4000000 in
set_option maxRecDepth 100000 in
theorem lw_c1 {Inv : G → Prop} (hs : Sp2 Inv f_X8_places f_X9_places) {nm : String} {sc : Nat × (Nat → Int32)} {post : Int32 → am_H → Prop} {x : Int32} (hi : ∀ k : Int32, k < 7 ∧ 0 ≤ k → vp_in (x + k) sc.1) (K : ∀ g2, Inv g2 → am_V (m_lw nm) sc 64 185 11339 0 0 post 1490 [some (.float 0), some (.ref 0), some (.ref 159), some (.int x)] [] (hw g2)) (g : G) (hI : Inv g) : am_V (m_lw nm) sc 64 185 11339 0 0 post 217 [some (.float 0), some (.ref 0), some (.ref 159), some (.int x)] [] (hw g) := by
  obtain ⟨r, g1, g2, H8, H9, hI2⟩ := hs (sc.2 (x + (1 : Int32)).toNatClampNeg) (sc.2 (x + (2 : Int32)).toNatClampNeg) g hI
  refine am_aload_n rfl rfl ?_
  refine am_sload rfl rfl ?_
  refine am_iload_n rfl rfl ?_
  refine x_iconst (v := (1 : Int32)) rfl (by decide) ?_
  refine am_iadd rfl ?_
  refine am_sld rfl rfl (hi (1 : Int32) (by decide)) ?_
  refine am_sload rfl rfl ?_
  refine am_iload_n rfl rfl ?_
  refine x_iconst (v := (2 : Int32)) rfl (by decide) ?_
  refine am_iadd rfl ?_
  refine am_sld rfl rfl (hi (2 : Int32) (by decide)) ?_
  refine lc2 v_10_18 rfl rfl (Nat.le_of_ble_eq_true rfl) rfl (Nat.le_of_ble_eq_true rfl) (fun _ _ => Nat.le_of_ble_eq_true rfl) ⟨Nat.le_refl _, Nat.le_refl _⟩ (Y.mono (d2 := 62) (y_X8_places (sc.2 (x + (1 : Int32)).toNatClampNeg) (sc.2 (x + (2 : Int32)).toNatClampNeg) g _ H8 ?_) (by decide))
  refine am_aload_n rfl rfl ?_
  refine am_sload rfl rfl ?_
  refine am_iload_n rfl rfl ?_
  refine x_iconst (v := (1 : Int32)) rfl (by decide) ?_
  refine am_iadd rfl ?_
  refine am_sld rfl rfl (hi (1 : Int32) (by decide)) ?_
  refine am_sload rfl rfl ?_
  refine am_iload_n rfl rfl ?_
  refine x_iconst (v := (2 : Int32)) rfl (by decide) ?_
  refine am_iadd rfl ?_
  refine am_sld rfl rfl (hi (2 : Int32) (by decide)) ?_
  refine lc2 v_10_21 rfl rfl (Nat.le_of_ble_eq_true rfl) rfl (Nat.le_of_ble_eq_true rfl) (fun _ _ => Nat.le_of_ble_eq_true rfl) ⟨Nat.le_refl _, Nat.le_refl _⟩ (Y.mono (d2 := 62) (y_X9_places (sc.2 (x + (1 : Int32)).toNatClampNeg) (sc.2 (x + (2 : Int32)).toNatClampNeg) g1 _ H9 ?_) (by decide))
  refine am_icmp_eq rfl (fun _ => ?_) (fun c => absurd rfl c)
  exact K g2 hI2
set_option maxHeartbeats 4000000 in
set_option maxRecDepth 100000 in
theorem lw_c2 {Inv : G → Prop} (hs : Sp3 Inv f_X8_seat f_X9_seat) {nm : String} {sc : Nat × (Nat → Int32)} {post : Int32 → am_H → Prop} {x : Int32} (hi : ∀ k : Int32, k < 7 ∧ 0 ≤ k → vp_in (x + k) sc.1) (K : ∀ g2, Inv g2 → am_V (m_lw nm) sc 64 185 11339 0 0 post 1490 [some (.float 0), some (.ref 0), some (.ref 159), some (.int x)] [] (hw g2)) (g : G) (hI : Inv g) : am_V (m_lw nm) sc 64 185 11339 0 0 post 250 [some (.float 0), some (.ref 0), some (.ref 159), some (.int x)] [] (hw g) := by
  obtain ⟨r, g1, g2, H8, H9, hI2⟩ := hs (sc.2 (x + (1 : Int32)).toNatClampNeg) (sc.2 (x + (2 : Int32)).toNatClampNeg) (sc.2 (x + (3 : Int32)).toNatClampNeg) g hI
  refine am_aload_n rfl rfl ?_
  refine am_sload rfl rfl ?_
  refine am_iload_n rfl rfl ?_
  refine x_iconst (v := (1 : Int32)) rfl (by decide) ?_
  refine am_iadd rfl ?_
  refine am_sld rfl rfl (hi (1 : Int32) (by decide)) ?_
  refine am_sload rfl rfl ?_
  refine am_iload_n rfl rfl ?_
  refine x_iconst (v := (2 : Int32)) rfl (by decide) ?_
  refine am_iadd rfl ?_
  refine am_sld rfl rfl (hi (2 : Int32) (by decide)) ?_
  refine am_sload rfl rfl ?_
  refine am_iload_n rfl rfl ?_
  refine x_iconst (v := (3 : Int32)) rfl (by decide) ?_
  refine am_iadd rfl ?_
  refine am_sld rfl rfl (hi (3 : Int32) (by decide)) ?_
  refine lc3 v_10_22 rfl rfl (Nat.le_of_ble_eq_true rfl) rfl (Nat.le_of_ble_eq_true rfl) (fun _ _ => Nat.le_of_ble_eq_true rfl) ⟨Nat.le_refl _, Nat.le_refl _⟩ (Y.mono (d2 := 62) (y_X8_seat (sc.2 (x + (1 : Int32)).toNatClampNeg) (sc.2 (x + (2 : Int32)).toNatClampNeg) (sc.2 (x + (3 : Int32)).toNatClampNeg) g _ H8 ?_) (by decide))
  refine am_aload_n rfl rfl ?_
  refine am_sload rfl rfl ?_
  refine am_iload_n rfl rfl ?_
  refine x_iconst (v := (1 : Int32)) rfl (by decide) ?_
  refine am_iadd rfl ?_
  refine am_sld rfl rfl (hi (1 : Int32) (by decide)) ?_
  refine am_sload rfl rfl ?_
  refine am_iload_n rfl rfl ?_
  refine x_iconst (v := (2 : Int32)) rfl (by decide) ?_
  refine am_iadd rfl ?_
  refine am_sld rfl rfl (hi (2 : Int32) (by decide)) ?_
  refine am_sload rfl rfl ?_
  refine am_iload_n rfl rfl ?_
  refine x_iconst (v := (3 : Int32)) rfl (by decide) ?_
  refine am_iadd rfl ?_
  refine am_sld rfl rfl (hi (3 : Int32) (by decide)) ?_
  refine lc3 v_10_26 rfl rfl (Nat.le_of_ble_eq_true rfl) rfl (Nat.le_of_ble_eq_true rfl) (fun _ _ => Nat.le_of_ble_eq_true rfl) ⟨Nat.le_refl _, Nat.le_refl _⟩ (Y.mono (d2 := 62) (y_X9_seat (sc.2 (x + (1 : Int32)).toNatClampNeg) (sc.2 (x + (2 : Int32)).toNatClampNeg) (sc.2 (x + (3 : Int32)).toNatClampNeg) g1 _ H9 ?_) (by decide))
  refine am_icmp_eq rfl (fun _ => ?_) (fun c => absurd rfl c)
  exact K g2 hI2
set_option maxHeartbeats 4000000 in
set_option maxRecDepth 100000 in
theorem lw_c3 {Inv : G → Prop} (hs : Sp2 Inv f_X8_held f_X9_held) {nm : String} {sc : Nat × (Nat → Int32)} {post : Int32 → am_H → Prop} {x : Int32} (hi : ∀ k : Int32, k < 7 ∧ 0 ≤ k → vp_in (x + k) sc.1) (K : ∀ g2, Inv g2 → am_V (m_lw nm) sc 64 185 11339 0 0 post 1490 [some (.float 0), some (.ref 0), some (.ref 159), some (.int x)] [] (hw g2)) (g : G) (hI : Inv g) : am_V (m_lw nm) sc 64 185 11339 0 0 post 293 [some (.float 0), some (.ref 0), some (.ref 159), some (.int x)] [] (hw g) := by
  obtain ⟨r, g1, g2, H8, H9, hI2⟩ := hs (sc.2 (x + (1 : Int32)).toNatClampNeg) (sc.2 (x + (2 : Int32)).toNatClampNeg) g hI
  refine am_aload_n rfl rfl ?_
  refine am_sload rfl rfl ?_
  refine am_iload_n rfl rfl ?_
  refine x_iconst (v := (1 : Int32)) rfl (by decide) ?_
  refine am_iadd rfl ?_
  refine am_sld rfl rfl (hi (1 : Int32) (by decide)) ?_
  refine am_sload rfl rfl ?_
  refine am_iload_n rfl rfl ?_
  refine x_iconst (v := (2 : Int32)) rfl (by decide) ?_
  refine am_iadd rfl ?_
  refine am_sld rfl rfl (hi (2 : Int32) (by decide)) ?_
  refine lc2 v_10_27 rfl rfl (Nat.le_of_ble_eq_true rfl) rfl (Nat.le_of_ble_eq_true rfl) (fun _ _ => Nat.le_of_ble_eq_true rfl) ⟨Nat.le_refl _, Nat.le_refl _⟩ (Y.mono (d2 := 62) (y_X8_held (sc.2 (x + (1 : Int32)).toNatClampNeg) (sc.2 (x + (2 : Int32)).toNatClampNeg) g _ H8 ?_) (by decide))
  refine am_aload_n rfl rfl ?_
  refine am_sload rfl rfl ?_
  refine am_iload_n rfl rfl ?_
  refine x_iconst (v := (1 : Int32)) rfl (by decide) ?_
  refine am_iadd rfl ?_
  refine am_sld rfl rfl (hi (1 : Int32) (by decide)) ?_
  refine am_sload rfl rfl ?_
  refine am_iload_n rfl rfl ?_
  refine x_iconst (v := (2 : Int32)) rfl (by decide) ?_
  refine am_iadd rfl ?_
  refine am_sld rfl rfl (hi (2 : Int32) (by decide)) ?_
  refine lc2 v_10_30 rfl rfl (Nat.le_of_ble_eq_true rfl) rfl (Nat.le_of_ble_eq_true rfl) (fun _ _ => Nat.le_of_ble_eq_true rfl) ⟨Nat.le_refl _, Nat.le_refl _⟩ (Y.mono (d2 := 62) (y_X9_held (sc.2 (x + (1 : Int32)).toNatClampNeg) (sc.2 (x + (2 : Int32)).toNatClampNeg) g1 _ H9 ?_) (by decide))
  refine am_icmp_eq rfl (fun _ => ?_) (fun c => absurd rfl c)
  exact K g2 hI2
set_option maxHeartbeats 4000000 in
set_option maxRecDepth 100000 in
theorem lw_c4 {Inv : G → Prop} (hs : Sp1 Inv f_X8_worth f_X9_worth) {nm : String} {sc : Nat × (Nat → Int32)} {post : Int32 → am_H → Prop} {x : Int32} (hi : ∀ k : Int32, k < 7 ∧ 0 ≤ k → vp_in (x + k) sc.1) (K : ∀ g2, Inv g2 → am_V (m_lw nm) sc 64 185 11339 0 0 post 1490 [some (.float 0), some (.ref 0), some (.ref 159), some (.int x)] [] (hw g2)) (g : G) (hI : Inv g) : am_V (m_lw nm) sc 64 185 11339 0 0 post 326 [some (.float 0), some (.ref 0), some (.ref 159), some (.int x)] [] (hw g) := by
  obtain ⟨r, g1, g2, H8, H9, hI2⟩ := hs (sc.2 (x + (1 : Int32)).toNatClampNeg) g hI
  refine am_aload_n rfl rfl ?_
  refine am_sload rfl rfl ?_
  refine am_iload_n rfl rfl ?_
  refine x_iconst (v := (1 : Int32)) rfl (by decide) ?_
  refine am_iadd rfl ?_
  refine am_sld rfl rfl (hi (1 : Int32) (by decide)) ?_
  refine lc1 v_10_31 rfl rfl (Nat.le_of_ble_eq_true rfl) rfl (Nat.le_of_ble_eq_true rfl) (fun _ _ => Nat.le_of_ble_eq_true rfl) ⟨Nat.le_refl _, Nat.le_refl _⟩ (Y.mono (d2 := 62) (y_X8_worth (sc.2 (x + (1 : Int32)).toNatClampNeg) g _ H8 ?_) (by decide))
  refine am_aload_n rfl rfl ?_
  refine am_sload rfl rfl ?_
  refine am_iload_n rfl rfl ?_
  refine x_iconst (v := (1 : Int32)) rfl (by decide) ?_
  refine am_iadd rfl ?_
  refine am_sld rfl rfl (hi (1 : Int32) (by decide)) ?_
  refine lc1 v_10_35 rfl rfl (Nat.le_of_ble_eq_true rfl) rfl (Nat.le_of_ble_eq_true rfl) (fun _ _ => Nat.le_of_ble_eq_true rfl) ⟨Nat.le_refl _, Nat.le_refl _⟩ (Y.mono (d2 := 62) (y_X9_worth (sc.2 (x + (1 : Int32)).toNatClampNeg) g1 _ H9 ?_) (by decide))
  refine am_icmp_eq rfl (fun _ => ?_) (fun c => absurd rfl c)
  exact K g2 hI2
set_option maxHeartbeats 4000000 in
set_option maxRecDepth 100000 in
theorem lw_c5 {Inv : G → Prop} (hs : Sp1 Inv f_X8_stepOf f_X9_stepOf) {nm : String} {sc : Nat × (Nat → Int32)} {post : Int32 → am_H → Prop} {x : Int32} (hi : ∀ k : Int32, k < 7 ∧ 0 ≤ k → vp_in (x + k) sc.1) (K : ∀ g2, Inv g2 → am_V (m_lw nm) sc 64 185 11339 0 0 post 1490 [some (.float 0), some (.ref 0), some (.ref 159), some (.int x)] [] (hw g2)) (g : G) (hI : Inv g) : am_V (m_lw nm) sc 64 185 11339 0 0 post 349 [some (.float 0), some (.ref 0), some (.ref 159), some (.int x)] [] (hw g) := by
  obtain ⟨r, g1, g2, H8, H9, hI2⟩ := hs (sc.2 (x + (1 : Int32)).toNatClampNeg) g hI
  refine am_aload_n rfl rfl ?_
  refine am_sload rfl rfl ?_
  refine am_iload_n rfl rfl ?_
  refine x_iconst (v := (1 : Int32)) rfl (by decide) ?_
  refine am_iadd rfl ?_
  refine am_sld rfl rfl (hi (1 : Int32) (by decide)) ?_
  refine lc1 v_10_36 rfl rfl (Nat.le_of_ble_eq_true rfl) rfl (Nat.le_of_ble_eq_true rfl) (fun _ _ => Nat.le_of_ble_eq_true rfl) ⟨Nat.le_refl _, Nat.le_refl _⟩ (Y.mono (d2 := 62) (y_X8_stepOf (sc.2 (x + (1 : Int32)).toNatClampNeg) g _ H8 ?_) (by decide))
  refine am_aload_n rfl rfl ?_
  refine am_sload rfl rfl ?_
  refine am_iload_n rfl rfl ?_
  refine x_iconst (v := (1 : Int32)) rfl (by decide) ?_
  refine am_iadd rfl ?_
  refine am_sld rfl rfl (hi (1 : Int32) (by decide)) ?_
  refine lc1 v_10_39 rfl rfl (Nat.le_of_ble_eq_true rfl) rfl (Nat.le_of_ble_eq_true rfl) (fun _ _ => Nat.le_of_ble_eq_true rfl) ⟨Nat.le_refl _, Nat.le_refl _⟩ (Y.mono (d2 := 62) (y_X9_stepOf (sc.2 (x + (1 : Int32)).toNatClampNeg) g1 _ H9 ?_) (by decide))
  refine am_icmp_eq rfl (fun _ => ?_) (fun c => absurd rfl c)
  exact K g2 hI2
set_option maxHeartbeats 4000000 in
set_option maxRecDepth 100000 in
theorem lw_c6 {Inv : G → Prop} (hs : Sp1 Inv f_X8_trace f_X9_trace) {nm : String} {sc : Nat × (Nat → Int32)} {post : Int32 → am_H → Prop} {x : Int32} (hi : ∀ k : Int32, k < 7 ∧ 0 ≤ k → vp_in (x + k) sc.1) (K : ∀ g2, Inv g2 → am_V (m_lw nm) sc 64 185 11339 0 0 post 1490 [some (.float 0), some (.ref 0), some (.ref 159), some (.int x)] [] (hw g2)) (g : G) (hI : Inv g) : am_V (m_lw nm) sc 64 185 11339 0 0 post 372 [some (.float 0), some (.ref 0), some (.ref 159), some (.int x)] [] (hw g) := by
  obtain ⟨r, g1, g2, H8, H9, hI2⟩ := hs (sc.2 (x + (1 : Int32)).toNatClampNeg) g hI
  refine am_aload_n rfl rfl ?_
  refine am_sload rfl rfl ?_
  refine am_iload_n rfl rfl ?_
  refine x_iconst (v := (1 : Int32)) rfl (by decide) ?_
  refine am_iadd rfl ?_
  refine am_sld rfl rfl (hi (1 : Int32) (by decide)) ?_
  refine lc1 v_10_40 rfl rfl (Nat.le_of_ble_eq_true rfl) rfl (Nat.le_of_ble_eq_true rfl) (fun _ _ => Nat.le_of_ble_eq_true rfl) ⟨Nat.le_refl _, Nat.le_refl _⟩ (Y.mono (d2 := 62) (y_X8_trace (sc.2 (x + (1 : Int32)).toNatClampNeg) g _ H8 ?_) (by decide))
  refine am_aload_n rfl rfl ?_
  refine am_sload rfl rfl ?_
  refine am_iload_n rfl rfl ?_
  refine x_iconst (v := (1 : Int32)) rfl (by decide) ?_
  refine am_iadd rfl ?_
  refine am_sld rfl rfl (hi (1 : Int32) (by decide)) ?_
  refine lc1 v_10_43 rfl rfl (Nat.le_of_ble_eq_true rfl) rfl (Nat.le_of_ble_eq_true rfl) (fun _ _ => Nat.le_of_ble_eq_true rfl) ⟨Nat.le_refl _, Nat.le_refl _⟩ (Y.mono (d2 := 62) (y_X9_trace (sc.2 (x + (1 : Int32)).toNatClampNeg) g1 _ H9 ?_) (by decide))
  refine am_icmp_eq rfl (fun _ => ?_) (fun c => absurd rfl c)
  exact K g2 hI2
set_option maxHeartbeats 4000000 in
set_option maxRecDepth 100000 in
theorem lw_c7 {Inv : G → Prop} (hs : Sp0 Inv f_X8_tournament f_X9_tournament) {nm : String} {sc : Nat × (Nat → Int32)} {post : Int32 → am_H → Prop} {x : Int32} (hi : ∀ k : Int32, k < 7 ∧ 0 ≤ k → vp_in (x + k) sc.1) (K : ∀ g2, Inv g2 → am_V (m_lw nm) sc 64 185 11339 0 0 post 1490 [some (.float 0), some (.ref 0), some (.ref 159), some (.int x)] [] (hw g2)) (g : G) (hI : Inv g) : am_V (m_lw nm) sc 64 185 11339 0 0 post 395 [some (.float 0), some (.ref 0), some (.ref 159), some (.int x)] [] (hw g) := by
  obtain ⟨r, g1, g2, H8, H9, hI2⟩ := hs  g hI
  refine am_aload_n rfl rfl ?_
  refine lc0 v_10_44 rfl rfl (Nat.le_of_ble_eq_true rfl) rfl (Nat.le_of_ble_eq_true rfl) (fun _ _ => Nat.le_of_ble_eq_true rfl) ⟨Nat.le_refl _, Nat.le_refl _⟩ (Y.mono (d2 := 62) (y_X8_tournament  g _ H8 ?_) (by decide))
  refine am_aload_n rfl rfl ?_
  refine lc0 v_10_48 rfl rfl (Nat.le_of_ble_eq_true rfl) rfl (Nat.le_of_ble_eq_true rfl) (fun _ _ => Nat.le_of_ble_eq_true rfl) ⟨Nat.le_refl _, Nat.le_refl _⟩ (Y.mono (d2 := 62) (y_X9_tournament  g1 _ H9 ?_) (by decide))
  refine am_icmp_eq rfl (fun _ => ?_) (fun c => absurd rfl c)
  exact K g2 hI2
set_option maxHeartbeats 4000000 in
set_option maxRecDepth 100000 in
theorem lw_c8 {Inv : G → Prop} (hs : Sp2 Inv f_X8_enter f_X9_enter) {nm : String} {sc : Nat × (Nat → Int32)} {post : Int32 → am_H → Prop} {x : Int32} (hi : ∀ k : Int32, k < 7 ∧ 0 ≤ k → vp_in (x + k) sc.1) (K : ∀ g2, Inv g2 → am_V (m_lw nm) sc 64 185 11339 0 0 post 1490 [some (.float 0), some (.ref 0), some (.ref 159), some (.int x)] [] (hw g2)) (g : G) (hI : Inv g) : am_V (m_lw nm) sc 64 185 11339 0 0 post 408 [some (.float 0), some (.ref 0), some (.ref 159), some (.int x)] [] (hw g) := by
  obtain ⟨r, g1, g2, H8, H9, hI2⟩ := hs (sc.2 (x + (1 : Int32)).toNatClampNeg) (sc.2 (x + (2 : Int32)).toNatClampNeg) g hI
  refine am_aload_n rfl rfl ?_
  refine am_sload rfl rfl ?_
  refine am_iload_n rfl rfl ?_
  refine x_iconst (v := (1 : Int32)) rfl (by decide) ?_
  refine am_iadd rfl ?_
  refine am_sld rfl rfl (hi (1 : Int32) (by decide)) ?_
  refine am_sload rfl rfl ?_
  refine am_iload_n rfl rfl ?_
  refine x_iconst (v := (2 : Int32)) rfl (by decide) ?_
  refine am_iadd rfl ?_
  refine am_sld rfl rfl (hi (2 : Int32) (by decide)) ?_
  refine lc2 v_10_49 rfl rfl (Nat.le_of_ble_eq_true rfl) rfl (Nat.le_of_ble_eq_true rfl) (fun _ _ => Nat.le_of_ble_eq_true rfl) ⟨Nat.le_refl _, Nat.le_refl _⟩ (Y.mono (d2 := 62) (y_X8_enter (sc.2 (x + (1 : Int32)).toNatClampNeg) (sc.2 (x + (2 : Int32)).toNatClampNeg) g _ H8 ?_) (by decide))
  refine am_aload_n rfl rfl ?_
  refine am_sload rfl rfl ?_
  refine am_iload_n rfl rfl ?_
  refine x_iconst (v := (1 : Int32)) rfl (by decide) ?_
  refine am_iadd rfl ?_
  refine am_sld rfl rfl (hi (1 : Int32) (by decide)) ?_
  refine am_sload rfl rfl ?_
  refine am_iload_n rfl rfl ?_
  refine x_iconst (v := (2 : Int32)) rfl (by decide) ?_
  refine am_iadd rfl ?_
  refine am_sld rfl rfl (hi (2 : Int32) (by decide)) ?_
  refine lc2 v_10_52 rfl rfl (Nat.le_of_ble_eq_true rfl) rfl (Nat.le_of_ble_eq_true rfl) (fun _ _ => Nat.le_of_ble_eq_true rfl) ⟨Nat.le_refl _, Nat.le_refl _⟩ (Y.mono (d2 := 62) (y_X9_enter (sc.2 (x + (1 : Int32)).toNatClampNeg) (sc.2 (x + (2 : Int32)).toNatClampNeg) g1 _ H9 ?_) (by decide))
  refine am_icmp_eq rfl (fun _ => ?_) (fun c => absurd rfl c)
  exact K g2 hI2
set_option maxHeartbeats 4000000 in
set_option maxRecDepth 100000 in
theorem lw_c9 {Inv : G → Prop} (hs : Sp2 Inv f_X8_withdraw f_X9_withdraw) {nm : String} {sc : Nat × (Nat → Int32)} {post : Int32 → am_H → Prop} {x : Int32} (hi : ∀ k : Int32, k < 7 ∧ 0 ≤ k → vp_in (x + k) sc.1) (K : ∀ g2, Inv g2 → am_V (m_lw nm) sc 64 185 11339 0 0 post 1490 [some (.float 0), some (.ref 0), some (.ref 159), some (.int x)] [] (hw g2)) (g : G) (hI : Inv g) : am_V (m_lw nm) sc 64 185 11339 0 0 post 441 [some (.float 0), some (.ref 0), some (.ref 159), some (.int x)] [] (hw g) := by
  obtain ⟨r, g1, g2, H8, H9, hI2⟩ := hs (sc.2 (x + (1 : Int32)).toNatClampNeg) (sc.2 (x + (2 : Int32)).toNatClampNeg) g hI
  refine am_aload_n rfl rfl ?_
  refine am_sload rfl rfl ?_
  refine am_iload_n rfl rfl ?_
  refine x_iconst (v := (1 : Int32)) rfl (by decide) ?_
  refine am_iadd rfl ?_
  refine am_sld rfl rfl (hi (1 : Int32) (by decide)) ?_
  refine am_sload rfl rfl ?_
  refine am_iload_n rfl rfl ?_
  refine x_iconst (v := (2 : Int32)) rfl (by decide) ?_
  refine am_iadd rfl ?_
  refine am_sld rfl rfl (hi (2 : Int32) (by decide)) ?_
  refine lc2 v_10_53 rfl rfl (Nat.le_of_ble_eq_true rfl) rfl (Nat.le_of_ble_eq_true rfl) (fun _ _ => Nat.le_of_ble_eq_true rfl) ⟨Nat.le_refl _, Nat.le_refl _⟩ (Y.mono (d2 := 62) (y_X8_withdraw (sc.2 (x + (1 : Int32)).toNatClampNeg) (sc.2 (x + (2 : Int32)).toNatClampNeg) g _ H8 ?_) (by decide))
  refine am_aload_n rfl rfl ?_
  refine am_sload rfl rfl ?_
  refine am_iload_n rfl rfl ?_
  refine x_iconst (v := (1 : Int32)) rfl (by decide) ?_
  refine am_iadd rfl ?_
  refine am_sld rfl rfl (hi (1 : Int32) (by decide)) ?_
  refine am_sload rfl rfl ?_
  refine am_iload_n rfl rfl ?_
  refine x_iconst (v := (2 : Int32)) rfl (by decide) ?_
  refine am_iadd rfl ?_
  refine am_sld rfl rfl (hi (2 : Int32) (by decide)) ?_
  refine lc2 v_10_56 rfl rfl (Nat.le_of_ble_eq_true rfl) rfl (Nat.le_of_ble_eq_true rfl) (fun _ _ => Nat.le_of_ble_eq_true rfl) ⟨Nat.le_refl _, Nat.le_refl _⟩ (Y.mono (d2 := 62) (y_X9_withdraw (sc.2 (x + (1 : Int32)).toNatClampNeg) (sc.2 (x + (2 : Int32)).toNatClampNeg) g1 _ H9 ?_) (by decide))
  refine am_icmp_eq rfl (fun _ => ?_) (fun c => absurd rfl c)
  exact K g2 hI2
set_option maxHeartbeats 4000000 in
set_option maxRecDepth 100000 in
theorem lw_c10 {Inv : G → Prop} (hs : Sp3 Inv f_X8_rule f_X9_rule) {nm : String} {sc : Nat × (Nat → Int32)} {post : Int32 → am_H → Prop} {x : Int32} (hi : ∀ k : Int32, k < 7 ∧ 0 ≤ k → vp_in (x + k) sc.1) (K : ∀ g2, Inv g2 → am_V (m_lw nm) sc 64 185 11339 0 0 post 1490 [some (.float 0), some (.ref 0), some (.ref 159), some (.int x)] [] (hw g2)) (g : G) (hI : Inv g) : am_V (m_lw nm) sc 64 185 11339 0 0 post 474 [some (.float 0), some (.ref 0), some (.ref 159), some (.int x)] [] (hw g) := by
  obtain ⟨r, g1, g2, H8, H9, hI2⟩ := hs (sc.2 (x + (1 : Int32)).toNatClampNeg) (sc.2 (x + (2 : Int32)).toNatClampNeg) (sc.2 (x + (3 : Int32)).toNatClampNeg) g hI
  refine am_aload_n rfl rfl ?_
  refine am_sload rfl rfl ?_
  refine am_iload_n rfl rfl ?_
  refine x_iconst (v := (1 : Int32)) rfl (by decide) ?_
  refine am_iadd rfl ?_
  refine am_sld rfl rfl (hi (1 : Int32) (by decide)) ?_
  refine am_sload rfl rfl ?_
  refine am_iload_n rfl rfl ?_
  refine x_iconst (v := (2 : Int32)) rfl (by decide) ?_
  refine am_iadd rfl ?_
  refine am_sld rfl rfl (hi (2 : Int32) (by decide)) ?_
  refine am_sload rfl rfl ?_
  refine am_iload_n rfl rfl ?_
  refine x_iconst (v := (3 : Int32)) rfl (by decide) ?_
  refine am_iadd rfl ?_
  refine am_sld rfl rfl (hi (3 : Int32) (by decide)) ?_
  refine lc3 v_10_57 rfl rfl (Nat.le_of_ble_eq_true rfl) rfl (Nat.le_of_ble_eq_true rfl) (fun _ _ => Nat.le_of_ble_eq_true rfl) ⟨Nat.le_refl _, Nat.le_refl _⟩ (Y.mono (d2 := 62) (y_X8_rule (sc.2 (x + (1 : Int32)).toNatClampNeg) (sc.2 (x + (2 : Int32)).toNatClampNeg) (sc.2 (x + (3 : Int32)).toNatClampNeg) g _ H8 ?_) (by decide))
  refine am_aload_n rfl rfl ?_
  refine am_sload rfl rfl ?_
  refine am_iload_n rfl rfl ?_
  refine x_iconst (v := (1 : Int32)) rfl (by decide) ?_
  refine am_iadd rfl ?_
  refine am_sld rfl rfl (hi (1 : Int32) (by decide)) ?_
  refine am_sload rfl rfl ?_
  refine am_iload_n rfl rfl ?_
  refine x_iconst (v := (2 : Int32)) rfl (by decide) ?_
  refine am_iadd rfl ?_
  refine am_sld rfl rfl (hi (2 : Int32) (by decide)) ?_
  refine am_sload rfl rfl ?_
  refine am_iload_n rfl rfl ?_
  refine x_iconst (v := (3 : Int32)) rfl (by decide) ?_
  refine am_iadd rfl ?_
  refine am_sld rfl rfl (hi (3 : Int32) (by decide)) ?_
  refine lc3 v_10_60 rfl rfl (Nat.le_of_ble_eq_true rfl) rfl (Nat.le_of_ble_eq_true rfl) (fun _ _ => Nat.le_of_ble_eq_true rfl) ⟨Nat.le_refl _, Nat.le_refl _⟩ (Y.mono (d2 := 62) (y_X9_rule (sc.2 (x + (1 : Int32)).toNatClampNeg) (sc.2 (x + (2 : Int32)).toNatClampNeg) (sc.2 (x + (3 : Int32)).toNatClampNeg) g1 _ H9 ?_) (by decide))
  refine am_icmp_eq rfl (fun _ => ?_) (fun c => absurd rfl c)
  exact K g2 hI2
set_option maxHeartbeats 4000000 in
set_option maxRecDepth 100000 in
theorem lw_c11 {Inv : G → Prop} (hs : Sp2 Inv f_X8_draw f_X9_draw) {nm : String} {sc : Nat × (Nat → Int32)} {post : Int32 → am_H → Prop} {x : Int32} (hi : ∀ k : Int32, k < 7 ∧ 0 ≤ k → vp_in (x + k) sc.1) (K : ∀ g2, Inv g2 → am_V (m_lw nm) sc 64 185 11339 0 0 post 1490 [some (.float 0), some (.ref 0), some (.ref 159), some (.int x)] [] (hw g2)) (g : G) (hI : Inv g) : am_V (m_lw nm) sc 64 185 11339 0 0 post 517 [some (.float 0), some (.ref 0), some (.ref 159), some (.int x)] [] (hw g) := by
  obtain ⟨r, g1, g2, H8, H9, hI2⟩ := hs (sc.2 (x + (1 : Int32)).toNatClampNeg) (sc.2 (x + (2 : Int32)).toNatClampNeg) g hI
  refine am_aload_n rfl rfl ?_
  refine am_sload rfl rfl ?_
  refine am_iload_n rfl rfl ?_
  refine x_iconst (v := (1 : Int32)) rfl (by decide) ?_
  refine am_iadd rfl ?_
  refine am_sld rfl rfl (hi (1 : Int32) (by decide)) ?_
  refine am_sload rfl rfl ?_
  refine am_iload_n rfl rfl ?_
  refine x_iconst (v := (2 : Int32)) rfl (by decide) ?_
  refine am_iadd rfl ?_
  refine am_sld rfl rfl (hi (2 : Int32) (by decide)) ?_
  refine lc2 v_10_61 rfl rfl (Nat.le_of_ble_eq_true rfl) rfl (Nat.le_of_ble_eq_true rfl) (fun _ _ => Nat.le_of_ble_eq_true rfl) ⟨Nat.le_refl _, Nat.le_refl _⟩ (Y.mono (d2 := 62) (y_X8_draw (sc.2 (x + (1 : Int32)).toNatClampNeg) (sc.2 (x + (2 : Int32)).toNatClampNeg) g _ H8 ?_) (by decide))
  refine am_aload_n rfl rfl ?_
  refine am_sload rfl rfl ?_
  refine am_iload_n rfl rfl ?_
  refine x_iconst (v := (1 : Int32)) rfl (by decide) ?_
  refine am_iadd rfl ?_
  refine am_sld rfl rfl (hi (1 : Int32) (by decide)) ?_
  refine am_sload rfl rfl ?_
  refine am_iload_n rfl rfl ?_
  refine x_iconst (v := (2 : Int32)) rfl (by decide) ?_
  refine am_iadd rfl ?_
  refine am_sld rfl rfl (hi (2 : Int32) (by decide)) ?_
  refine lc2 v_10_64 rfl rfl (Nat.le_of_ble_eq_true rfl) rfl (Nat.le_of_ble_eq_true rfl) (fun _ _ => Nat.le_of_ble_eq_true rfl) ⟨Nat.le_refl _, Nat.le_refl _⟩ (Y.mono (d2 := 62) (y_X9_draw (sc.2 (x + (1 : Int32)).toNatClampNeg) (sc.2 (x + (2 : Int32)).toNatClampNeg) g1 _ H9 ?_) (by decide))
  refine am_icmp_eq rfl (fun _ => ?_) (fun c => absurd rfl c)
  exact K g2 hI2
set_option maxHeartbeats 4000000 in
set_option maxRecDepth 100000 in
theorem lw_c12 {Inv : G → Prop} (hs : Sp4 Inv f_X8_pair f_X9_pair) {nm : String} {sc : Nat × (Nat → Int32)} {post : Int32 → am_H → Prop} {x : Int32} (hi : ∀ k : Int32, k < 7 ∧ 0 ≤ k → vp_in (x + k) sc.1) (K : ∀ g2, Inv g2 → am_V (m_lw nm) sc 64 185 11339 0 0 post 1490 [some (.float 0), some (.ref 0), some (.ref 159), some (.int x)] [] (hw g2)) (g : G) (hI : Inv g) : am_V (m_lw nm) sc 64 185 11339 0 0 post 550 [some (.float 0), some (.ref 0), some (.ref 159), some (.int x)] [] (hw g) := by
  obtain ⟨r, g1, g2, H8, H9, hI2⟩ := hs (sc.2 (x + (1 : Int32)).toNatClampNeg) (sc.2 (x + (2 : Int32)).toNatClampNeg) (sc.2 (x + (3 : Int32)).toNatClampNeg) (sc.2 (x + (4 : Int32)).toNatClampNeg) g hI
  refine am_aload_n rfl rfl ?_
  refine am_sload rfl rfl ?_
  refine am_iload_n rfl rfl ?_
  refine x_iconst (v := (1 : Int32)) rfl (by decide) ?_
  refine am_iadd rfl ?_
  refine am_sld rfl rfl (hi (1 : Int32) (by decide)) ?_
  refine am_sload rfl rfl ?_
  refine am_iload_n rfl rfl ?_
  refine x_iconst (v := (2 : Int32)) rfl (by decide) ?_
  refine am_iadd rfl ?_
  refine am_sld rfl rfl (hi (2 : Int32) (by decide)) ?_
  refine am_sload rfl rfl ?_
  refine am_iload_n rfl rfl ?_
  refine x_iconst (v := (3 : Int32)) rfl (by decide) ?_
  refine am_iadd rfl ?_
  refine am_sld rfl rfl (hi (3 : Int32) (by decide)) ?_
  refine am_sload rfl rfl ?_
  refine am_iload_n rfl rfl ?_
  refine x_iconst (v := (4 : Int32)) rfl (by decide) ?_
  refine am_iadd rfl ?_
  refine am_sld rfl rfl (hi (4 : Int32) (by decide)) ?_
  refine lc4 v_10_65 rfl rfl (Nat.le_of_ble_eq_true rfl) rfl (Nat.le_of_ble_eq_true rfl) (fun _ _ => Nat.le_of_ble_eq_true rfl) ⟨Nat.le_refl _, Nat.le_refl _⟩ (Y.mono (d2 := 62) (y_X8_pair (sc.2 (x + (1 : Int32)).toNatClampNeg) (sc.2 (x + (2 : Int32)).toNatClampNeg) (sc.2 (x + (3 : Int32)).toNatClampNeg) (sc.2 (x + (4 : Int32)).toNatClampNeg) g _ H8 ?_) (by decide))
  refine am_aload_n rfl rfl ?_
  refine am_sload rfl rfl ?_
  refine am_iload_n rfl rfl ?_
  refine x_iconst (v := (1 : Int32)) rfl (by decide) ?_
  refine am_iadd rfl ?_
  refine am_sld rfl rfl (hi (1 : Int32) (by decide)) ?_
  refine am_sload rfl rfl ?_
  refine am_iload_n rfl rfl ?_
  refine x_iconst (v := (2 : Int32)) rfl (by decide) ?_
  refine am_iadd rfl ?_
  refine am_sld rfl rfl (hi (2 : Int32) (by decide)) ?_
  refine am_sload rfl rfl ?_
  refine am_iload_n rfl rfl ?_
  refine x_iconst (v := (3 : Int32)) rfl (by decide) ?_
  refine am_iadd rfl ?_
  refine am_sld rfl rfl (hi (3 : Int32) (by decide)) ?_
  refine am_sload rfl rfl ?_
  refine am_iload_n rfl rfl ?_
  refine x_iconst (v := (4 : Int32)) rfl (by decide) ?_
  refine am_iadd rfl ?_
  refine am_sld rfl rfl (hi (4 : Int32) (by decide)) ?_
  refine lc4 v_10_69 rfl rfl (Nat.le_of_ble_eq_true rfl) rfl (Nat.le_of_ble_eq_true rfl) (fun _ _ => Nat.le_of_ble_eq_true rfl) ⟨Nat.le_refl _, Nat.le_refl _⟩ (Y.mono (d2 := 62) (y_X9_pair (sc.2 (x + (1 : Int32)).toNatClampNeg) (sc.2 (x + (2 : Int32)).toNatClampNeg) (sc.2 (x + (3 : Int32)).toNatClampNeg) (sc.2 (x + (4 : Int32)).toNatClampNeg) g1 _ H9 ?_) (by decide))
  refine am_icmp_eq rfl (fun _ => ?_) (fun c => absurd rfl c)
  exact K g2 hI2
set_option maxHeartbeats 4000000 in
set_option maxRecDepth 100000 in
theorem lw_c13 {Inv : G → Prop} (hs : Sp3 Inv f_X8_round f_X9_round) {nm : String} {sc : Nat × (Nat → Int32)} {post : Int32 → am_H → Prop} {x : Int32} (hi : ∀ k : Int32, k < 7 ∧ 0 ≤ k → vp_in (x + k) sc.1) (K : ∀ g2, Inv g2 → am_V (m_lw nm) sc 64 185 11339 0 0 post 1490 [some (.float 0), some (.ref 0), some (.ref 159), some (.int x)] [] (hw g2)) (g : G) (hI : Inv g) : am_V (m_lw nm) sc 64 185 11339 0 0 post 603 [some (.float 0), some (.ref 0), some (.ref 159), some (.int x)] [] (hw g) := by
  obtain ⟨r, g1, g2, H8, H9, hI2⟩ := hs (sc.2 (x + (1 : Int32)).toNatClampNeg) (sc.2 (x + (2 : Int32)).toNatClampNeg) (sc.2 (x + (3 : Int32)).toNatClampNeg) g hI
  refine am_aload_n rfl rfl ?_
  refine am_sload rfl rfl ?_
  refine am_iload_n rfl rfl ?_
  refine x_iconst (v := (1 : Int32)) rfl (by decide) ?_
  refine am_iadd rfl ?_
  refine am_sld rfl rfl (hi (1 : Int32) (by decide)) ?_
  refine am_sload rfl rfl ?_
  refine am_iload_n rfl rfl ?_
  refine x_iconst (v := (2 : Int32)) rfl (by decide) ?_
  refine am_iadd rfl ?_
  refine am_sld rfl rfl (hi (2 : Int32) (by decide)) ?_
  refine am_sload rfl rfl ?_
  refine am_iload_n rfl rfl ?_
  refine x_iconst (v := (3 : Int32)) rfl (by decide) ?_
  refine am_iadd rfl ?_
  refine am_sld rfl rfl (hi (3 : Int32) (by decide)) ?_
  refine lc3 v_10_70 rfl rfl (Nat.le_of_ble_eq_true rfl) rfl (Nat.le_of_ble_eq_true rfl) (fun _ _ => Nat.le_of_ble_eq_true rfl) ⟨Nat.le_refl _, Nat.le_refl _⟩ (Y.mono (d2 := 62) (y_X8_round (sc.2 (x + (1 : Int32)).toNatClampNeg) (sc.2 (x + (2 : Int32)).toNatClampNeg) (sc.2 (x + (3 : Int32)).toNatClampNeg) g _ H8 ?_) (by decide))
  refine am_aload_n rfl rfl ?_
  refine am_sload rfl rfl ?_
  refine am_iload_n rfl rfl ?_
  refine x_iconst (v := (1 : Int32)) rfl (by decide) ?_
  refine am_iadd rfl ?_
  refine am_sld rfl rfl (hi (1 : Int32) (by decide)) ?_
  refine am_sload rfl rfl ?_
  refine am_iload_n rfl rfl ?_
  refine x_iconst (v := (2 : Int32)) rfl (by decide) ?_
  refine am_iadd rfl ?_
  refine am_sld rfl rfl (hi (2 : Int32) (by decide)) ?_
  refine am_sload rfl rfl ?_
  refine am_iload_n rfl rfl ?_
  refine x_iconst (v := (3 : Int32)) rfl (by decide) ?_
  refine am_iadd rfl ?_
  refine am_sld rfl rfl (hi (3 : Int32) (by decide)) ?_
  refine lc3 v_10_73 rfl rfl (Nat.le_of_ble_eq_true rfl) rfl (Nat.le_of_ble_eq_true rfl) (fun _ _ => Nat.le_of_ble_eq_true rfl) ⟨Nat.le_refl _, Nat.le_refl _⟩ (Y.mono (d2 := 62) (y_X9_round (sc.2 (x + (1 : Int32)).toNatClampNeg) (sc.2 (x + (2 : Int32)).toNatClampNeg) (sc.2 (x + (3 : Int32)).toNatClampNeg) g1 _ H9 ?_) (by decide))
  refine am_icmp_eq rfl (fun _ => ?_) (fun c => absurd rfl c)
  exact K g2 hI2
set_option maxHeartbeats 4000000 in
set_option maxRecDepth 100000 in
theorem lw_c14 {Inv : G → Prop} (hs : Sp6 Inv f_X8_tell f_X9_tell) {nm : String} {sc : Nat × (Nat → Int32)} {post : Int32 → am_H → Prop} {x : Int32} (hi : ∀ k : Int32, k < 7 ∧ 0 ≤ k → vp_in (x + k) sc.1) (K : ∀ g2, Inv g2 → am_V (m_lw nm) sc 64 185 11339 0 0 post 1490 [some (.float 0), some (.ref 0), some (.ref 159), some (.int x)] [] (hw g2)) (g : G) (hI : Inv g) : am_V (m_lw nm) sc 64 185 11339 0 0 post 646 [some (.float 0), some (.ref 0), some (.ref 159), some (.int x)] [] (hw g) := by
  obtain ⟨r, g1, g2, H8, H9, hI2⟩ := hs (sc.2 (x + (1 : Int32)).toNatClampNeg) (sc.2 (x + (2 : Int32)).toNatClampNeg) (sc.2 (x + (3 : Int32)).toNatClampNeg) (sc.2 (x + (4 : Int32)).toNatClampNeg) (sc.2 (x + (5 : Int32)).toNatClampNeg) (sc.2 (x + (6 : Int32)).toNatClampNeg) g hI
  refine am_aload_n rfl rfl ?_
  refine am_sload rfl rfl ?_
  refine am_iload_n rfl rfl ?_
  refine x_iconst (v := (1 : Int32)) rfl (by decide) ?_
  refine am_iadd rfl ?_
  refine am_sld rfl rfl (hi (1 : Int32) (by decide)) ?_
  refine am_sload rfl rfl ?_
  refine am_iload_n rfl rfl ?_
  refine x_iconst (v := (2 : Int32)) rfl (by decide) ?_
  refine am_iadd rfl ?_
  refine am_sld rfl rfl (hi (2 : Int32) (by decide)) ?_
  refine am_sload rfl rfl ?_
  refine am_iload_n rfl rfl ?_
  refine x_iconst (v := (3 : Int32)) rfl (by decide) ?_
  refine am_iadd rfl ?_
  refine am_sld rfl rfl (hi (3 : Int32) (by decide)) ?_
  refine am_sload rfl rfl ?_
  refine am_iload_n rfl rfl ?_
  refine x_iconst (v := (4 : Int32)) rfl (by decide) ?_
  refine am_iadd rfl ?_
  refine am_sld rfl rfl (hi (4 : Int32) (by decide)) ?_
  refine am_sload rfl rfl ?_
  refine am_iload_n rfl rfl ?_
  refine x_iconst (v := (5 : Int32)) rfl (by decide) ?_
  refine am_iadd rfl ?_
  refine am_sld rfl rfl (hi (5 : Int32) (by decide)) ?_
  refine am_sload rfl rfl ?_
  refine am_iload_n rfl rfl ?_
  refine x_bipush (v := (6 : Int32)) rfl (by decide) ?_
  refine am_iadd rfl ?_
  refine am_sld rfl rfl (hi (6 : Int32) (by decide)) ?_
  refine lc6 v_10_74 rfl rfl (Nat.le_of_ble_eq_true rfl) rfl (Nat.le_of_ble_eq_true rfl) (fun _ _ => Nat.le_of_ble_eq_true rfl) ⟨Nat.le_refl _, Nat.le_refl _⟩ (Y.mono (d2 := 62) (y_X8_tell (sc.2 (x + (1 : Int32)).toNatClampNeg) (sc.2 (x + (2 : Int32)).toNatClampNeg) (sc.2 (x + (3 : Int32)).toNatClampNeg) (sc.2 (x + (4 : Int32)).toNatClampNeg) (sc.2 (x + (5 : Int32)).toNatClampNeg) (sc.2 (x + (6 : Int32)).toNatClampNeg) g _ H8 ?_) (by decide))
  refine am_aload_n rfl rfl ?_
  refine am_sload rfl rfl ?_
  refine am_iload_n rfl rfl ?_
  refine x_iconst (v := (1 : Int32)) rfl (by decide) ?_
  refine am_iadd rfl ?_
  refine am_sld rfl rfl (hi (1 : Int32) (by decide)) ?_
  refine am_sload rfl rfl ?_
  refine am_iload_n rfl rfl ?_
  refine x_iconst (v := (2 : Int32)) rfl (by decide) ?_
  refine am_iadd rfl ?_
  refine am_sld rfl rfl (hi (2 : Int32) (by decide)) ?_
  refine am_sload rfl rfl ?_
  refine am_iload_n rfl rfl ?_
  refine x_iconst (v := (3 : Int32)) rfl (by decide) ?_
  refine am_iadd rfl ?_
  refine am_sld rfl rfl (hi (3 : Int32) (by decide)) ?_
  refine am_sload rfl rfl ?_
  refine am_iload_n rfl rfl ?_
  refine x_iconst (v := (4 : Int32)) rfl (by decide) ?_
  refine am_iadd rfl ?_
  refine am_sld rfl rfl (hi (4 : Int32) (by decide)) ?_
  refine am_sload rfl rfl ?_
  refine am_iload_n rfl rfl ?_
  refine x_iconst (v := (5 : Int32)) rfl (by decide) ?_
  refine am_iadd rfl ?_
  refine am_sld rfl rfl (hi (5 : Int32) (by decide)) ?_
  refine am_sload rfl rfl ?_
  refine am_iload_n rfl rfl ?_
  refine x_bipush (v := (6 : Int32)) rfl (by decide) ?_
  refine am_iadd rfl ?_
  refine am_sld rfl rfl (hi (6 : Int32) (by decide)) ?_
  refine lc6 v_10_78 rfl rfl (Nat.le_of_ble_eq_true rfl) rfl (Nat.le_of_ble_eq_true rfl) (fun _ _ => Nat.le_of_ble_eq_true rfl) ⟨Nat.le_refl _, Nat.le_refl _⟩ (Y.mono (d2 := 62) (y_X9_tell (sc.2 (x + (1 : Int32)).toNatClampNeg) (sc.2 (x + (2 : Int32)).toNatClampNeg) (sc.2 (x + (3 : Int32)).toNatClampNeg) (sc.2 (x + (4 : Int32)).toNatClampNeg) (sc.2 (x + (5 : Int32)).toNatClampNeg) (sc.2 (x + (6 : Int32)).toNatClampNeg) g1 _ H9 ?_) (by decide))
  refine am_icmp_eq rfl (fun _ => ?_) (fun c => absurd rfl c)
  exact K g2 hI2
set_option maxHeartbeats 4000000 in
set_option maxRecDepth 100000 in
theorem lw_c15 {Inv : G → Prop} (hs : Sp3 Inv f_X8_takeBack f_X9_takeBack) {nm : String} {sc : Nat × (Nat → Int32)} {post : Int32 → am_H → Prop} {x : Int32} (hi : ∀ k : Int32, k < 7 ∧ 0 ≤ k → vp_in (x + k) sc.1) (K : ∀ g2, Inv g2 → am_V (m_lw nm) sc 64 185 11339 0 0 post 1490 [some (.float 0), some (.ref 0), some (.ref 159), some (.int x)] [] (hw g2)) (g : G) (hI : Inv g) : am_V (m_lw nm) sc 64 185 11339 0 0 post 721 [some (.float 0), some (.ref 0), some (.ref 159), some (.int x)] [] (hw g) := by
  obtain ⟨r, g1, g2, H8, H9, hI2⟩ := hs (sc.2 (x + (1 : Int32)).toNatClampNeg) (sc.2 (x + (2 : Int32)).toNatClampNeg) (sc.2 (x + (3 : Int32)).toNatClampNeg) g hI
  refine am_aload_n rfl rfl ?_
  refine am_sload rfl rfl ?_
  refine am_iload_n rfl rfl ?_
  refine x_iconst (v := (1 : Int32)) rfl (by decide) ?_
  refine am_iadd rfl ?_
  refine am_sld rfl rfl (hi (1 : Int32) (by decide)) ?_
  refine am_sload rfl rfl ?_
  refine am_iload_n rfl rfl ?_
  refine x_iconst (v := (2 : Int32)) rfl (by decide) ?_
  refine am_iadd rfl ?_
  refine am_sld rfl rfl (hi (2 : Int32) (by decide)) ?_
  refine am_sload rfl rfl ?_
  refine am_iload_n rfl rfl ?_
  refine x_iconst (v := (3 : Int32)) rfl (by decide) ?_
  refine am_iadd rfl ?_
  refine am_sld rfl rfl (hi (3 : Int32) (by decide)) ?_
  refine lc3 v_10_79 rfl rfl (Nat.le_of_ble_eq_true rfl) rfl (Nat.le_of_ble_eq_true rfl) (fun _ _ => Nat.le_of_ble_eq_true rfl) ⟨Nat.le_refl _, Nat.le_refl _⟩ (Y.mono (d2 := 62) (y_X8_takeBack (sc.2 (x + (1 : Int32)).toNatClampNeg) (sc.2 (x + (2 : Int32)).toNatClampNeg) (sc.2 (x + (3 : Int32)).toNatClampNeg) g _ H8 ?_) (by decide))
  refine am_aload_n rfl rfl ?_
  refine am_sload rfl rfl ?_
  refine am_iload_n rfl rfl ?_
  refine x_iconst (v := (1 : Int32)) rfl (by decide) ?_
  refine am_iadd rfl ?_
  refine am_sld rfl rfl (hi (1 : Int32) (by decide)) ?_
  refine am_sload rfl rfl ?_
  refine am_iload_n rfl rfl ?_
  refine x_iconst (v := (2 : Int32)) rfl (by decide) ?_
  refine am_iadd rfl ?_
  refine am_sld rfl rfl (hi (2 : Int32) (by decide)) ?_
  refine am_sload rfl rfl ?_
  refine am_iload_n rfl rfl ?_
  refine x_iconst (v := (3 : Int32)) rfl (by decide) ?_
  refine am_iadd rfl ?_
  refine am_sld rfl rfl (hi (3 : Int32) (by decide)) ?_
  refine lc3 v_10_82 rfl rfl (Nat.le_of_ble_eq_true rfl) rfl (Nat.le_of_ble_eq_true rfl) (fun _ _ => Nat.le_of_ble_eq_true rfl) ⟨Nat.le_refl _, Nat.le_refl _⟩ (Y.mono (d2 := 62) (y_X9_takeBack (sc.2 (x + (1 : Int32)).toNatClampNeg) (sc.2 (x + (2 : Int32)).toNatClampNeg) (sc.2 (x + (3 : Int32)).toNatClampNeg) g1 _ H9 ?_) (by decide))
  refine am_icmp_eq rfl (fun _ => ?_) (fun c => absurd rfl c)
  exact K g2 hI2
set_option maxHeartbeats 4000000 in
set_option maxRecDepth 100000 in
theorem lw_c16 {Inv : G → Prop} (hs : Sp4 Inv f_X8_counts f_X9_counts) {nm : String} {sc : Nat × (Nat → Int32)} {post : Int32 → am_H → Prop} {x : Int32} (hi : ∀ k : Int32, k < 7 ∧ 0 ≤ k → vp_in (x + k) sc.1) (K : ∀ g2, Inv g2 → am_V (m_lw nm) sc 64 185 11339 0 0 post 1490 [some (.float 0), some (.ref 0), some (.ref 159), some (.int x)] [] (hw g2)) (g : G) (hI : Inv g) : am_V (m_lw nm) sc 64 185 11339 0 0 post 764 [some (.float 0), some (.ref 0), some (.ref 159), some (.int x)] [] (hw g) := by
  obtain ⟨r, g1, g2, H8, H9, hI2⟩ := hs (sc.2 (x + (1 : Int32)).toNatClampNeg) (sc.2 (x + (2 : Int32)).toNatClampNeg) (sc.2 (x + (3 : Int32)).toNatClampNeg) (sc.2 (x + (4 : Int32)).toNatClampNeg) g hI
  refine am_aload_n rfl rfl ?_
  refine am_sload rfl rfl ?_
  refine am_iload_n rfl rfl ?_
  refine x_iconst (v := (1 : Int32)) rfl (by decide) ?_
  refine am_iadd rfl ?_
  refine am_sld rfl rfl (hi (1 : Int32) (by decide)) ?_
  refine am_sload rfl rfl ?_
  refine am_iload_n rfl rfl ?_
  refine x_iconst (v := (2 : Int32)) rfl (by decide) ?_
  refine am_iadd rfl ?_
  refine am_sld rfl rfl (hi (2 : Int32) (by decide)) ?_
  refine am_sload rfl rfl ?_
  refine am_iload_n rfl rfl ?_
  refine x_iconst (v := (3 : Int32)) rfl (by decide) ?_
  refine am_iadd rfl ?_
  refine am_sld rfl rfl (hi (3 : Int32) (by decide)) ?_
  refine am_sload rfl rfl ?_
  refine am_iload_n rfl rfl ?_
  refine x_iconst (v := (4 : Int32)) rfl (by decide) ?_
  refine am_iadd rfl ?_
  refine am_sld rfl rfl (hi (4 : Int32) (by decide)) ?_
  refine lc4 v_10_83 rfl rfl (Nat.le_of_ble_eq_true rfl) rfl (Nat.le_of_ble_eq_true rfl) (fun _ _ => Nat.le_of_ble_eq_true rfl) ⟨Nat.le_refl _, Nat.le_refl _⟩ (Y.mono (d2 := 62) (y_X8_counts (sc.2 (x + (1 : Int32)).toNatClampNeg) (sc.2 (x + (2 : Int32)).toNatClampNeg) (sc.2 (x + (3 : Int32)).toNatClampNeg) (sc.2 (x + (4 : Int32)).toNatClampNeg) g _ H8 ?_) (by decide))
  refine am_aload_n rfl rfl ?_
  refine am_sload rfl rfl ?_
  refine am_iload_n rfl rfl ?_
  refine x_iconst (v := (1 : Int32)) rfl (by decide) ?_
  refine am_iadd rfl ?_
  refine am_sld rfl rfl (hi (1 : Int32) (by decide)) ?_
  refine am_sload rfl rfl ?_
  refine am_iload_n rfl rfl ?_
  refine x_iconst (v := (2 : Int32)) rfl (by decide) ?_
  refine am_iadd rfl ?_
  refine am_sld rfl rfl (hi (2 : Int32) (by decide)) ?_
  refine am_sload rfl rfl ?_
  refine am_iload_n rfl rfl ?_
  refine x_iconst (v := (3 : Int32)) rfl (by decide) ?_
  refine am_iadd rfl ?_
  refine am_sld rfl rfl (hi (3 : Int32) (by decide)) ?_
  refine am_sload rfl rfl ?_
  refine am_iload_n rfl rfl ?_
  refine x_iconst (v := (4 : Int32)) rfl (by decide) ?_
  refine am_iadd rfl ?_
  refine am_sld rfl rfl (hi (4 : Int32) (by decide)) ?_
  refine lc4 v_10_86 rfl rfl (Nat.le_of_ble_eq_true rfl) rfl (Nat.le_of_ble_eq_true rfl) (fun _ _ => Nat.le_of_ble_eq_true rfl) ⟨Nat.le_refl _, Nat.le_refl _⟩ (Y.mono (d2 := 62) (y_X9_counts (sc.2 (x + (1 : Int32)).toNatClampNeg) (sc.2 (x + (2 : Int32)).toNatClampNeg) (sc.2 (x + (3 : Int32)).toNatClampNeg) (sc.2 (x + (4 : Int32)).toNatClampNeg) g1 _ H9 ?_) (by decide))
  refine am_icmp_eq rfl (fun _ => ?_) (fun c => absurd rfl c)
  exact K g2 hI2
set_option maxHeartbeats 4000000 in
set_option maxRecDepth 100000 in
theorem lw_c17 {Inv : G → Prop} (hs : Sp4 Inv f_X8_points f_X9_points) {nm : String} {sc : Nat × (Nat → Int32)} {post : Int32 → am_H → Prop} {x : Int32} (hi : ∀ k : Int32, k < 7 ∧ 0 ≤ k → vp_in (x + k) sc.1) (K : ∀ g2, Inv g2 → am_V (m_lw nm) sc 64 185 11339 0 0 post 1490 [some (.float 0), some (.ref 0), some (.ref 159), some (.int x)] [] (hw g2)) (g : G) (hI : Inv g) : am_V (m_lw nm) sc 64 185 11339 0 0 post 817 [some (.float 0), some (.ref 0), some (.ref 159), some (.int x)] [] (hw g) := by
  obtain ⟨r, g1, g2, H8, H9, hI2⟩ := hs (sc.2 (x + (1 : Int32)).toNatClampNeg) (sc.2 (x + (2 : Int32)).toNatClampNeg) (sc.2 (x + (3 : Int32)).toNatClampNeg) (sc.2 (x + (4 : Int32)).toNatClampNeg) g hI
  refine am_aload_n rfl rfl ?_
  refine am_sload rfl rfl ?_
  refine am_iload_n rfl rfl ?_
  refine x_iconst (v := (1 : Int32)) rfl (by decide) ?_
  refine am_iadd rfl ?_
  refine am_sld rfl rfl (hi (1 : Int32) (by decide)) ?_
  refine am_sload rfl rfl ?_
  refine am_iload_n rfl rfl ?_
  refine x_iconst (v := (2 : Int32)) rfl (by decide) ?_
  refine am_iadd rfl ?_
  refine am_sld rfl rfl (hi (2 : Int32) (by decide)) ?_
  refine am_sload rfl rfl ?_
  refine am_iload_n rfl rfl ?_
  refine x_iconst (v := (3 : Int32)) rfl (by decide) ?_
  refine am_iadd rfl ?_
  refine am_sld rfl rfl (hi (3 : Int32) (by decide)) ?_
  refine am_sload rfl rfl ?_
  refine am_iload_n rfl rfl ?_
  refine x_iconst (v := (4 : Int32)) rfl (by decide) ?_
  refine am_iadd rfl ?_
  refine am_sld rfl rfl (hi (4 : Int32) (by decide)) ?_
  refine lc4 v_10_87 rfl rfl (Nat.le_of_ble_eq_true rfl) rfl (Nat.le_of_ble_eq_true rfl) (fun _ _ => Nat.le_of_ble_eq_true rfl) ⟨Nat.le_refl _, Nat.le_refl _⟩ (Y.mono (d2 := 62) (y_X8_points (sc.2 (x + (1 : Int32)).toNatClampNeg) (sc.2 (x + (2 : Int32)).toNatClampNeg) (sc.2 (x + (3 : Int32)).toNatClampNeg) (sc.2 (x + (4 : Int32)).toNatClampNeg) g _ H8 ?_) (by decide))
  refine am_aload_n rfl rfl ?_
  refine am_sload rfl rfl ?_
  refine am_iload_n rfl rfl ?_
  refine x_iconst (v := (1 : Int32)) rfl (by decide) ?_
  refine am_iadd rfl ?_
  refine am_sld rfl rfl (hi (1 : Int32) (by decide)) ?_
  refine am_sload rfl rfl ?_
  refine am_iload_n rfl rfl ?_
  refine x_iconst (v := (2 : Int32)) rfl (by decide) ?_
  refine am_iadd rfl ?_
  refine am_sld rfl rfl (hi (2 : Int32) (by decide)) ?_
  refine am_sload rfl rfl ?_
  refine am_iload_n rfl rfl ?_
  refine x_iconst (v := (3 : Int32)) rfl (by decide) ?_
  refine am_iadd rfl ?_
  refine am_sld rfl rfl (hi (3 : Int32) (by decide)) ?_
  refine am_sload rfl rfl ?_
  refine am_iload_n rfl rfl ?_
  refine x_iconst (v := (4 : Int32)) rfl (by decide) ?_
  refine am_iadd rfl ?_
  refine am_sld rfl rfl (hi (4 : Int32) (by decide)) ?_
  refine lc4 v_10_90 rfl rfl (Nat.le_of_ble_eq_true rfl) rfl (Nat.le_of_ble_eq_true rfl) (fun _ _ => Nat.le_of_ble_eq_true rfl) ⟨Nat.le_refl _, Nat.le_refl _⟩ (Y.mono (d2 := 62) (y_X9_points (sc.2 (x + (1 : Int32)).toNatClampNeg) (sc.2 (x + (2 : Int32)).toNatClampNeg) (sc.2 (x + (3 : Int32)).toNatClampNeg) (sc.2 (x + (4 : Int32)).toNatClampNeg) g1 _ H9 ?_) (by decide))
  refine am_icmp_eq rfl (fun _ => ?_) (fun c => absurd rfl c)
  exact K g2 hI2
set_option maxHeartbeats 4000000 in
set_option maxRecDepth 100000 in
theorem lw_c18 {Inv : G → Prop} (hs : Sp5 Inv f_X8_sum f_X9_sum) {nm : String} {sc : Nat × (Nat → Int32)} {post : Int32 → am_H → Prop} {x : Int32} (hi : ∀ k : Int32, k < 7 ∧ 0 ≤ k → vp_in (x + k) sc.1) (K : ∀ g2, Inv g2 → am_V (m_lw nm) sc 64 185 11339 0 0 post 1490 [some (.float 0), some (.ref 0), some (.ref 159), some (.int x)] [] (hw g2)) (g : G) (hI : Inv g) : am_V (m_lw nm) sc 64 185 11339 0 0 post 870 [some (.float 0), some (.ref 0), some (.ref 159), some (.int x)] [] (hw g) := by
  obtain ⟨r, g1, g2, H8, H9, hI2⟩ := hs (sc.2 (x + (1 : Int32)).toNatClampNeg) (sc.2 (x + (2 : Int32)).toNatClampNeg) (sc.2 (x + (3 : Int32)).toNatClampNeg) (sc.2 (x + (4 : Int32)).toNatClampNeg) (sc.2 (x + (5 : Int32)).toNatClampNeg) g hI
  refine am_aload_n rfl rfl ?_
  refine am_sload rfl rfl ?_
  refine am_iload_n rfl rfl ?_
  refine x_iconst (v := (1 : Int32)) rfl (by decide) ?_
  refine am_iadd rfl ?_
  refine am_sld rfl rfl (hi (1 : Int32) (by decide)) ?_
  refine am_sload rfl rfl ?_
  refine am_iload_n rfl rfl ?_
  refine x_iconst (v := (2 : Int32)) rfl (by decide) ?_
  refine am_iadd rfl ?_
  refine am_sld rfl rfl (hi (2 : Int32) (by decide)) ?_
  refine am_sload rfl rfl ?_
  refine am_iload_n rfl rfl ?_
  refine x_iconst (v := (3 : Int32)) rfl (by decide) ?_
  refine am_iadd rfl ?_
  refine am_sld rfl rfl (hi (3 : Int32) (by decide)) ?_
  refine am_sload rfl rfl ?_
  refine am_iload_n rfl rfl ?_
  refine x_iconst (v := (4 : Int32)) rfl (by decide) ?_
  refine am_iadd rfl ?_
  refine am_sld rfl rfl (hi (4 : Int32) (by decide)) ?_
  refine am_sload rfl rfl ?_
  refine am_iload_n rfl rfl ?_
  refine x_iconst (v := (5 : Int32)) rfl (by decide) ?_
  refine am_iadd rfl ?_
  refine am_sld rfl rfl (hi (5 : Int32) (by decide)) ?_
  refine lc5 v_10_91 rfl rfl (Nat.le_of_ble_eq_true rfl) rfl (Nat.le_of_ble_eq_true rfl) (fun _ _ => Nat.le_of_ble_eq_true rfl) ⟨Nat.le_refl _, Nat.le_refl _⟩ (Y.mono (d2 := 62) (y_X8_sum (sc.2 (x + (1 : Int32)).toNatClampNeg) (sc.2 (x + (2 : Int32)).toNatClampNeg) (sc.2 (x + (3 : Int32)).toNatClampNeg) (sc.2 (x + (4 : Int32)).toNatClampNeg) (sc.2 (x + (5 : Int32)).toNatClampNeg) g _ H8 ?_) (by decide))
  refine am_aload_n rfl rfl ?_
  refine am_sload rfl rfl ?_
  refine am_iload_n rfl rfl ?_
  refine x_iconst (v := (1 : Int32)) rfl (by decide) ?_
  refine am_iadd rfl ?_
  refine am_sld rfl rfl (hi (1 : Int32) (by decide)) ?_
  refine am_sload rfl rfl ?_
  refine am_iload_n rfl rfl ?_
  refine x_iconst (v := (2 : Int32)) rfl (by decide) ?_
  refine am_iadd rfl ?_
  refine am_sld rfl rfl (hi (2 : Int32) (by decide)) ?_
  refine am_sload rfl rfl ?_
  refine am_iload_n rfl rfl ?_
  refine x_iconst (v := (3 : Int32)) rfl (by decide) ?_
  refine am_iadd rfl ?_
  refine am_sld rfl rfl (hi (3 : Int32) (by decide)) ?_
  refine am_sload rfl rfl ?_
  refine am_iload_n rfl rfl ?_
  refine x_iconst (v := (4 : Int32)) rfl (by decide) ?_
  refine am_iadd rfl ?_
  refine am_sld rfl rfl (hi (4 : Int32) (by decide)) ?_
  refine am_sload rfl rfl ?_
  refine am_iload_n rfl rfl ?_
  refine x_iconst (v := (5 : Int32)) rfl (by decide) ?_
  refine am_iadd rfl ?_
  refine am_sld rfl rfl (hi (5 : Int32) (by decide)) ?_
  refine lc5 v_10_95 rfl rfl (Nat.le_of_ble_eq_true rfl) rfl (Nat.le_of_ble_eq_true rfl) (fun _ _ => Nat.le_of_ble_eq_true rfl) ⟨Nat.le_refl _, Nat.le_refl _⟩ (Y.mono (d2 := 62) (y_X9_sum (sc.2 (x + (1 : Int32)).toNatClampNeg) (sc.2 (x + (2 : Int32)).toNatClampNeg) (sc.2 (x + (3 : Int32)).toNatClampNeg) (sc.2 (x + (4 : Int32)).toNatClampNeg) (sc.2 (x + (5 : Int32)).toNatClampNeg) g1 _ H9 ?_) (by decide))
  refine am_icmp_eq rfl (fun _ => ?_) (fun c => absurd rfl c)
  exact K g2 hI2
set_option maxHeartbeats 4000000 in
set_option maxRecDepth 100000 in
theorem lw_c19 {Inv : G → Prop} (hs : Sp4 Inv f_X8_place f_X9_place) {nm : String} {sc : Nat × (Nat → Int32)} {post : Int32 → am_H → Prop} {x : Int32} (hi : ∀ k : Int32, k < 7 ∧ 0 ≤ k → vp_in (x + k) sc.1) (K : ∀ g2, Inv g2 → am_V (m_lw nm) sc 64 185 11339 0 0 post 1490 [some (.float 0), some (.ref 0), some (.ref 159), some (.int x)] [] (hw g2)) (g : G) (hI : Inv g) : am_V (m_lw nm) sc 64 185 11339 0 0 post 933 [some (.float 0), some (.ref 0), some (.ref 159), some (.int x)] [] (hw g) := by
  obtain ⟨r, g1, g2, H8, H9, hI2⟩ := hs (sc.2 (x + (1 : Int32)).toNatClampNeg) (sc.2 (x + (2 : Int32)).toNatClampNeg) (sc.2 (x + (3 : Int32)).toNatClampNeg) (sc.2 (x + (4 : Int32)).toNatClampNeg) g hI
  refine am_aload_n rfl rfl ?_
  refine am_sload rfl rfl ?_
  refine am_iload_n rfl rfl ?_
  refine x_iconst (v := (1 : Int32)) rfl (by decide) ?_
  refine am_iadd rfl ?_
  refine am_sld rfl rfl (hi (1 : Int32) (by decide)) ?_
  refine am_sload rfl rfl ?_
  refine am_iload_n rfl rfl ?_
  refine x_iconst (v := (2 : Int32)) rfl (by decide) ?_
  refine am_iadd rfl ?_
  refine am_sld rfl rfl (hi (2 : Int32) (by decide)) ?_
  refine am_sload rfl rfl ?_
  refine am_iload_n rfl rfl ?_
  refine x_iconst (v := (3 : Int32)) rfl (by decide) ?_
  refine am_iadd rfl ?_
  refine am_sld rfl rfl (hi (3 : Int32) (by decide)) ?_
  refine am_sload rfl rfl ?_
  refine am_iload_n rfl rfl ?_
  refine x_iconst (v := (4 : Int32)) rfl (by decide) ?_
  refine am_iadd rfl ?_
  refine am_sld rfl rfl (hi (4 : Int32) (by decide)) ?_
  refine lc4 v_10_96 rfl rfl (Nat.le_of_ble_eq_true rfl) rfl (Nat.le_of_ble_eq_true rfl) (fun _ _ => Nat.le_of_ble_eq_true rfl) ⟨Nat.le_refl _, Nat.le_refl _⟩ (Y.mono (d2 := 62) (y_X8_place (sc.2 (x + (1 : Int32)).toNatClampNeg) (sc.2 (x + (2 : Int32)).toNatClampNeg) (sc.2 (x + (3 : Int32)).toNatClampNeg) (sc.2 (x + (4 : Int32)).toNatClampNeg) g _ H8 ?_) (by decide))
  refine am_aload_n rfl rfl ?_
  refine am_sload rfl rfl ?_
  refine am_iload_n rfl rfl ?_
  refine x_iconst (v := (1 : Int32)) rfl (by decide) ?_
  refine am_iadd rfl ?_
  refine am_sld rfl rfl (hi (1 : Int32) (by decide)) ?_
  refine am_sload rfl rfl ?_
  refine am_iload_n rfl rfl ?_
  refine x_iconst (v := (2 : Int32)) rfl (by decide) ?_
  refine am_iadd rfl ?_
  refine am_sld rfl rfl (hi (2 : Int32) (by decide)) ?_
  refine am_sload rfl rfl ?_
  refine am_iload_n rfl rfl ?_
  refine x_iconst (v := (3 : Int32)) rfl (by decide) ?_
  refine am_iadd rfl ?_
  refine am_sld rfl rfl (hi (3 : Int32) (by decide)) ?_
  refine am_sload rfl rfl ?_
  refine am_iload_n rfl rfl ?_
  refine x_iconst (v := (4 : Int32)) rfl (by decide) ?_
  refine am_iadd rfl ?_
  refine am_sld rfl rfl (hi (4 : Int32) (by decide)) ?_
  refine lc4 v_10_99 rfl rfl (Nat.le_of_ble_eq_true rfl) rfl (Nat.le_of_ble_eq_true rfl) (fun _ _ => Nat.le_of_ble_eq_true rfl) ⟨Nat.le_refl _, Nat.le_refl _⟩ (Y.mono (d2 := 62) (y_X9_place (sc.2 (x + (1 : Int32)).toNatClampNeg) (sc.2 (x + (2 : Int32)).toNatClampNeg) (sc.2 (x + (3 : Int32)).toNatClampNeg) (sc.2 (x + (4 : Int32)).toNatClampNeg) g1 _ H9 ?_) (by decide))
  refine am_icmp_eq rfl (fun _ => ?_) (fun c => absurd rfl c)
  exact K g2 hI2
set_option maxHeartbeats 4000000 in
set_option maxRecDepth 100000 in
theorem lw_c20 {Inv : G → Prop} (hs : Sp4 Inv f_X8_standing f_X9_standing) {nm : String} {sc : Nat × (Nat → Int32)} {post : Int32 → am_H → Prop} {x : Int32} (hi : ∀ k : Int32, k < 7 ∧ 0 ≤ k → vp_in (x + k) sc.1) (K : ∀ g2, Inv g2 → am_V (m_lw nm) sc 64 185 11339 0 0 post 1490 [some (.float 0), some (.ref 0), some (.ref 159), some (.int x)] [] (hw g2)) (g : G) (hI : Inv g) : am_V (m_lw nm) sc 64 185 11339 0 0 post 986 [some (.float 0), some (.ref 0), some (.ref 159), some (.int x)] [] (hw g) := by
  obtain ⟨r, g1, g2, H8, H9, hI2⟩ := hs (sc.2 (x + (1 : Int32)).toNatClampNeg) (sc.2 (x + (2 : Int32)).toNatClampNeg) (sc.2 (x + (3 : Int32)).toNatClampNeg) (sc.2 (x + (4 : Int32)).toNatClampNeg) g hI
  refine am_aload_n rfl rfl ?_
  refine am_sload rfl rfl ?_
  refine am_iload_n rfl rfl ?_
  refine x_iconst (v := (1 : Int32)) rfl (by decide) ?_
  refine am_iadd rfl ?_
  refine am_sld rfl rfl (hi (1 : Int32) (by decide)) ?_
  refine am_sload rfl rfl ?_
  refine am_iload_n rfl rfl ?_
  refine x_iconst (v := (2 : Int32)) rfl (by decide) ?_
  refine am_iadd rfl ?_
  refine am_sld rfl rfl (hi (2 : Int32) (by decide)) ?_
  refine am_sload rfl rfl ?_
  refine am_iload_n rfl rfl ?_
  refine x_iconst (v := (3 : Int32)) rfl (by decide) ?_
  refine am_iadd rfl ?_
  refine am_sld rfl rfl (hi (3 : Int32) (by decide)) ?_
  refine am_sload rfl rfl ?_
  refine am_iload_n rfl rfl ?_
  refine x_iconst (v := (4 : Int32)) rfl (by decide) ?_
  refine am_iadd rfl ?_
  refine am_sld rfl rfl (hi (4 : Int32) (by decide)) ?_
  refine lc4 v_10_100 rfl rfl (Nat.le_of_ble_eq_true rfl) rfl (Nat.le_of_ble_eq_true rfl) (fun _ _ => Nat.le_of_ble_eq_true rfl) ⟨Nat.le_refl _, Nat.le_refl _⟩ (Y.mono (d2 := 62) (y_X8_standing (sc.2 (x + (1 : Int32)).toNatClampNeg) (sc.2 (x + (2 : Int32)).toNatClampNeg) (sc.2 (x + (3 : Int32)).toNatClampNeg) (sc.2 (x + (4 : Int32)).toNatClampNeg) g _ H8 ?_) (by decide))
  refine am_aload_n rfl rfl ?_
  refine am_sload rfl rfl ?_
  refine am_iload_n rfl rfl ?_
  refine x_iconst (v := (1 : Int32)) rfl (by decide) ?_
  refine am_iadd rfl ?_
  refine am_sld rfl rfl (hi (1 : Int32) (by decide)) ?_
  refine am_sload rfl rfl ?_
  refine am_iload_n rfl rfl ?_
  refine x_iconst (v := (2 : Int32)) rfl (by decide) ?_
  refine am_iadd rfl ?_
  refine am_sld rfl rfl (hi (2 : Int32) (by decide)) ?_
  refine am_sload rfl rfl ?_
  refine am_iload_n rfl rfl ?_
  refine x_iconst (v := (3 : Int32)) rfl (by decide) ?_
  refine am_iadd rfl ?_
  refine am_sld rfl rfl (hi (3 : Int32) (by decide)) ?_
  refine am_sload rfl rfl ?_
  refine am_iload_n rfl rfl ?_
  refine x_iconst (v := (4 : Int32)) rfl (by decide) ?_
  refine am_iadd rfl ?_
  refine am_sld rfl rfl (hi (4 : Int32) (by decide)) ?_
  refine lc4 v_10_103 rfl rfl (Nat.le_of_ble_eq_true rfl) rfl (Nat.le_of_ble_eq_true rfl) (fun _ _ => Nat.le_of_ble_eq_true rfl) ⟨Nat.le_refl _, Nat.le_refl _⟩ (Y.mono (d2 := 62) (y_X9_standing (sc.2 (x + (1 : Int32)).toNatClampNeg) (sc.2 (x + (2 : Int32)).toNatClampNeg) (sc.2 (x + (3 : Int32)).toNatClampNeg) (sc.2 (x + (4 : Int32)).toNatClampNeg) g1 _ H9 ?_) (by decide))
  refine am_icmp_eq rfl (fun _ => ?_) (fun c => absurd rfl c)
  exact K g2 hI2
set_option maxHeartbeats 4000000 in
set_option maxRecDepth 100000 in
theorem lw_c21 {Inv : G → Prop} (hs : Sp5 Inv f_X8_why f_X9_why) {nm : String} {sc : Nat × (Nat → Int32)} {post : Int32 → am_H → Prop} {x : Int32} (hi : ∀ k : Int32, k < 7 ∧ 0 ≤ k → vp_in (x + k) sc.1) (K : ∀ g2, Inv g2 → am_V (m_lw nm) sc 64 185 11339 0 0 post 1490 [some (.float 0), some (.ref 0), some (.ref 159), some (.int x)] [] (hw g2)) (g : G) (hI : Inv g) : am_V (m_lw nm) sc 64 185 11339 0 0 post 1039 [some (.float 0), some (.ref 0), some (.ref 159), some (.int x)] [] (hw g) := by
  obtain ⟨r, g1, g2, H8, H9, hI2⟩ := hs (sc.2 (x + (1 : Int32)).toNatClampNeg) (sc.2 (x + (2 : Int32)).toNatClampNeg) (sc.2 (x + (3 : Int32)).toNatClampNeg) (sc.2 (x + (4 : Int32)).toNatClampNeg) (sc.2 (x + (5 : Int32)).toNatClampNeg) g hI
  refine am_aload_n rfl rfl ?_
  refine am_sload rfl rfl ?_
  refine am_iload_n rfl rfl ?_
  refine x_iconst (v := (1 : Int32)) rfl (by decide) ?_
  refine am_iadd rfl ?_
  refine am_sld rfl rfl (hi (1 : Int32) (by decide)) ?_
  refine am_sload rfl rfl ?_
  refine am_iload_n rfl rfl ?_
  refine x_iconst (v := (2 : Int32)) rfl (by decide) ?_
  refine am_iadd rfl ?_
  refine am_sld rfl rfl (hi (2 : Int32) (by decide)) ?_
  refine am_sload rfl rfl ?_
  refine am_iload_n rfl rfl ?_
  refine x_iconst (v := (3 : Int32)) rfl (by decide) ?_
  refine am_iadd rfl ?_
  refine am_sld rfl rfl (hi (3 : Int32) (by decide)) ?_
  refine am_sload rfl rfl ?_
  refine am_iload_n rfl rfl ?_
  refine x_iconst (v := (4 : Int32)) rfl (by decide) ?_
  refine am_iadd rfl ?_
  refine am_sld rfl rfl (hi (4 : Int32) (by decide)) ?_
  refine am_sload rfl rfl ?_
  refine am_iload_n rfl rfl ?_
  refine x_iconst (v := (5 : Int32)) rfl (by decide) ?_
  refine am_iadd rfl ?_
  refine am_sld rfl rfl (hi (5 : Int32) (by decide)) ?_
  refine lc5 v_10_104 rfl rfl (Nat.le_of_ble_eq_true rfl) rfl (Nat.le_of_ble_eq_true rfl) (fun _ _ => Nat.le_of_ble_eq_true rfl) ⟨Nat.le_refl _, Nat.le_refl _⟩ (Y.mono (d2 := 62) (y_X8_why (sc.2 (x + (1 : Int32)).toNatClampNeg) (sc.2 (x + (2 : Int32)).toNatClampNeg) (sc.2 (x + (3 : Int32)).toNatClampNeg) (sc.2 (x + (4 : Int32)).toNatClampNeg) (sc.2 (x + (5 : Int32)).toNatClampNeg) g _ H8 ?_) (by decide))
  refine am_aload_n rfl rfl ?_
  refine am_sload rfl rfl ?_
  refine am_iload_n rfl rfl ?_
  refine x_iconst (v := (1 : Int32)) rfl (by decide) ?_
  refine am_iadd rfl ?_
  refine am_sld rfl rfl (hi (1 : Int32) (by decide)) ?_
  refine am_sload rfl rfl ?_
  refine am_iload_n rfl rfl ?_
  refine x_iconst (v := (2 : Int32)) rfl (by decide) ?_
  refine am_iadd rfl ?_
  refine am_sld rfl rfl (hi (2 : Int32) (by decide)) ?_
  refine am_sload rfl rfl ?_
  refine am_iload_n rfl rfl ?_
  refine x_iconst (v := (3 : Int32)) rfl (by decide) ?_
  refine am_iadd rfl ?_
  refine am_sld rfl rfl (hi (3 : Int32) (by decide)) ?_
  refine am_sload rfl rfl ?_
  refine am_iload_n rfl rfl ?_
  refine x_iconst (v := (4 : Int32)) rfl (by decide) ?_
  refine am_iadd rfl ?_
  refine am_sld rfl rfl (hi (4 : Int32) (by decide)) ?_
  refine am_sload rfl rfl ?_
  refine am_iload_n rfl rfl ?_
  refine x_iconst (v := (5 : Int32)) rfl (by decide) ?_
  refine am_iadd rfl ?_
  refine am_sld rfl rfl (hi (5 : Int32) (by decide)) ?_
  refine lc5 v_10_107 rfl rfl (Nat.le_of_ble_eq_true rfl) rfl (Nat.le_of_ble_eq_true rfl) (fun _ _ => Nat.le_of_ble_eq_true rfl) ⟨Nat.le_refl _, Nat.le_refl _⟩ (Y.mono (d2 := 62) (y_X9_why (sc.2 (x + (1 : Int32)).toNatClampNeg) (sc.2 (x + (2 : Int32)).toNatClampNeg) (sc.2 (x + (3 : Int32)).toNatClampNeg) (sc.2 (x + (4 : Int32)).toNatClampNeg) (sc.2 (x + (5 : Int32)).toNatClampNeg) g1 _ H9 ?_) (by decide))
  refine am_icmp_eq rfl (fun _ => ?_) (fun c => absurd rfl c)
  exact K g2 hI2
set_option maxHeartbeats 4000000 in
set_option maxRecDepth 100000 in
theorem lw_c22 {Inv : G → Prop} (hs : Sp4 Inv f_X8_rated f_X9_rated) {nm : String} {sc : Nat × (Nat → Int32)} {post : Int32 → am_H → Prop} {x : Int32} (hi : ∀ k : Int32, k < 7 ∧ 0 ≤ k → vp_in (x + k) sc.1) (K : ∀ g2, Inv g2 → am_V (m_lw nm) sc 64 185 11339 0 0 post 1490 [some (.float 0), some (.ref 0), some (.ref 159), some (.int x)] [] (hw g2)) (g : G) (hI : Inv g) : am_V (m_lw nm) sc 64 185 11339 0 0 post 1102 [some (.float 0), some (.ref 0), some (.ref 159), some (.int x)] [] (hw g) := by
  obtain ⟨r, g1, g2, H8, H9, hI2⟩ := hs (sc.2 (x + (1 : Int32)).toNatClampNeg) (sc.2 (x + (2 : Int32)).toNatClampNeg) (sc.2 (x + (3 : Int32)).toNatClampNeg) (sc.2 (x + (4 : Int32)).toNatClampNeg) g hI
  refine am_aload_n rfl rfl ?_
  refine am_sload rfl rfl ?_
  refine am_iload_n rfl rfl ?_
  refine x_iconst (v := (1 : Int32)) rfl (by decide) ?_
  refine am_iadd rfl ?_
  refine am_sld rfl rfl (hi (1 : Int32) (by decide)) ?_
  refine am_sload rfl rfl ?_
  refine am_iload_n rfl rfl ?_
  refine x_iconst (v := (2 : Int32)) rfl (by decide) ?_
  refine am_iadd rfl ?_
  refine am_sld rfl rfl (hi (2 : Int32) (by decide)) ?_
  refine am_sload rfl rfl ?_
  refine am_iload_n rfl rfl ?_
  refine x_iconst (v := (3 : Int32)) rfl (by decide) ?_
  refine am_iadd rfl ?_
  refine am_sld rfl rfl (hi (3 : Int32) (by decide)) ?_
  refine am_sload rfl rfl ?_
  refine am_iload_n rfl rfl ?_
  refine x_iconst (v := (4 : Int32)) rfl (by decide) ?_
  refine am_iadd rfl ?_
  refine am_sld rfl rfl (hi (4 : Int32) (by decide)) ?_
  refine lc4 v_10_108 rfl rfl (Nat.le_of_ble_eq_true rfl) rfl (Nat.le_of_ble_eq_true rfl) (fun _ _ => Nat.le_of_ble_eq_true rfl) ⟨Nat.le_refl _, Nat.le_refl _⟩ (Y.mono (d2 := 62) (y_X8_rated (sc.2 (x + (1 : Int32)).toNatClampNeg) (sc.2 (x + (2 : Int32)).toNatClampNeg) (sc.2 (x + (3 : Int32)).toNatClampNeg) (sc.2 (x + (4 : Int32)).toNatClampNeg) g _ H8 ?_) (by decide))
  refine am_aload_n rfl rfl ?_
  refine am_sload rfl rfl ?_
  refine am_iload_n rfl rfl ?_
  refine x_iconst (v := (1 : Int32)) rfl (by decide) ?_
  refine am_iadd rfl ?_
  refine am_sld rfl rfl (hi (1 : Int32) (by decide)) ?_
  refine am_sload rfl rfl ?_
  refine am_iload_n rfl rfl ?_
  refine x_iconst (v := (2 : Int32)) rfl (by decide) ?_
  refine am_iadd rfl ?_
  refine am_sld rfl rfl (hi (2 : Int32) (by decide)) ?_
  refine am_sload rfl rfl ?_
  refine am_iload_n rfl rfl ?_
  refine x_iconst (v := (3 : Int32)) rfl (by decide) ?_
  refine am_iadd rfl ?_
  refine am_sld rfl rfl (hi (3 : Int32) (by decide)) ?_
  refine am_sload rfl rfl ?_
  refine am_iload_n rfl rfl ?_
  refine x_iconst (v := (4 : Int32)) rfl (by decide) ?_
  refine am_iadd rfl ?_
  refine am_sld rfl rfl (hi (4 : Int32) (by decide)) ?_
  refine lc4 v_10_111 rfl rfl (Nat.le_of_ble_eq_true rfl) rfl (Nat.le_of_ble_eq_true rfl) (fun _ _ => Nat.le_of_ble_eq_true rfl) ⟨Nat.le_refl _, Nat.le_refl _⟩ (Y.mono (d2 := 62) (y_X9_rated (sc.2 (x + (1 : Int32)).toNatClampNeg) (sc.2 (x + (2 : Int32)).toNatClampNeg) (sc.2 (x + (3 : Int32)).toNatClampNeg) (sc.2 (x + (4 : Int32)).toNatClampNeg) g1 _ H9 ?_) (by decide))
  refine am_icmp_eq rfl (fun _ => ?_) (fun c => absurd rfl c)
  exact K g2 hI2
set_option maxHeartbeats 4000000 in
set_option maxRecDepth 100000 in
theorem lw_c23 {Inv : G → Prop} (hs : Sp1 Inv f_X8_mean f_X9_mean) {nm : String} {sc : Nat × (Nat → Int32)} {post : Int32 → am_H → Prop} {x : Int32} (hi : ∀ k : Int32, k < 7 ∧ 0 ≤ k → vp_in (x + k) sc.1) (K : ∀ g2, Inv g2 → am_V (m_lw nm) sc 64 185 11339 0 0 post 1490 [some (.float 0), some (.ref 0), some (.ref 159), some (.int x)] [] (hw g2)) (g : G) (hI : Inv g) : am_V (m_lw nm) sc 64 185 11339 0 0 post 1155 [some (.float 0), some (.ref 0), some (.ref 159), some (.int x)] [] (hw g) := by
  obtain ⟨r, g1, g2, H8, H9, hI2⟩ := hs (sc.2 (x + (1 : Int32)).toNatClampNeg) g hI
  refine am_aload_n rfl rfl ?_
  refine am_sload rfl rfl ?_
  refine am_iload_n rfl rfl ?_
  refine x_iconst (v := (1 : Int32)) rfl (by decide) ?_
  refine am_iadd rfl ?_
  refine am_sld rfl rfl (hi (1 : Int32) (by decide)) ?_
  refine lc1 v_10_112 rfl rfl (Nat.le_of_ble_eq_true rfl) rfl (Nat.le_of_ble_eq_true rfl) (fun _ _ => Nat.le_of_ble_eq_true rfl) ⟨Nat.le_refl _, Nat.le_refl _⟩ (Y.mono (d2 := 62) (y_X8_mean (sc.2 (x + (1 : Int32)).toNatClampNeg) g _ H8 ?_) (by decide))
  refine am_aload_n rfl rfl ?_
  refine am_sload rfl rfl ?_
  refine am_iload_n rfl rfl ?_
  refine x_iconst (v := (1 : Int32)) rfl (by decide) ?_
  refine am_iadd rfl ?_
  refine am_sld rfl rfl (hi (1 : Int32) (by decide)) ?_
  refine lc1 v_10_115 rfl rfl (Nat.le_of_ble_eq_true rfl) rfl (Nat.le_of_ble_eq_true rfl) (fun _ _ => Nat.le_of_ble_eq_true rfl) ⟨Nat.le_refl _, Nat.le_refl _⟩ (Y.mono (d2 := 62) (y_X9_mean (sc.2 (x + (1 : Int32)).toNatClampNeg) g1 _ H9 ?_) (by decide))
  refine am_icmp_eq rfl (fun _ => ?_) (fun c => absurd rfl c)
  exact K g2 hI2
set_option maxHeartbeats 4000000 in
set_option maxRecDepth 100000 in
theorem lw_c24 {Inv : G → Prop} (hs : Sp4 Inv f_X8_could f_X9_could) {nm : String} {sc : Nat × (Nat → Int32)} {post : Int32 → am_H → Prop} {x : Int32} (hi : ∀ k : Int32, k < 7 ∧ 0 ≤ k → vp_in (x + k) sc.1) (K : ∀ g2, Inv g2 → am_V (m_lw nm) sc 64 185 11339 0 0 post 1490 [some (.float 0), some (.ref 0), some (.ref 159), some (.int x)] [] (hw g2)) (g : G) (hI : Inv g) : am_V (m_lw nm) sc 64 185 11339 0 0 post 1178 [some (.float 0), some (.ref 0), some (.ref 159), some (.int x)] [] (hw g) := by
  obtain ⟨r, g1, g2, H8, H9, hI2⟩ := hs (sc.2 (x + (1 : Int32)).toNatClampNeg) (sc.2 (x + (2 : Int32)).toNatClampNeg) (sc.2 (x + (3 : Int32)).toNatClampNeg) (sc.2 (x + (4 : Int32)).toNatClampNeg) g hI
  refine am_aload_n rfl rfl ?_
  refine am_sload rfl rfl ?_
  refine am_iload_n rfl rfl ?_
  refine x_iconst (v := (1 : Int32)) rfl (by decide) ?_
  refine am_iadd rfl ?_
  refine am_sld rfl rfl (hi (1 : Int32) (by decide)) ?_
  refine am_sload rfl rfl ?_
  refine am_iload_n rfl rfl ?_
  refine x_iconst (v := (2 : Int32)) rfl (by decide) ?_
  refine am_iadd rfl ?_
  refine am_sld rfl rfl (hi (2 : Int32) (by decide)) ?_
  refine am_sload rfl rfl ?_
  refine am_iload_n rfl rfl ?_
  refine x_iconst (v := (3 : Int32)) rfl (by decide) ?_
  refine am_iadd rfl ?_
  refine am_sld rfl rfl (hi (3 : Int32) (by decide)) ?_
  refine am_sload rfl rfl ?_
  refine am_iload_n rfl rfl ?_
  refine x_iconst (v := (4 : Int32)) rfl (by decide) ?_
  refine am_iadd rfl ?_
  refine am_sld rfl rfl (hi (4 : Int32) (by decide)) ?_
  refine lc4 v_10_116 rfl rfl (Nat.le_of_ble_eq_true rfl) rfl (Nat.le_of_ble_eq_true rfl) (fun _ _ => Nat.le_of_ble_eq_true rfl) ⟨Nat.le_refl _, Nat.le_refl _⟩ (Y.mono (d2 := 62) (y_X8_could (sc.2 (x + (1 : Int32)).toNatClampNeg) (sc.2 (x + (2 : Int32)).toNatClampNeg) (sc.2 (x + (3 : Int32)).toNatClampNeg) (sc.2 (x + (4 : Int32)).toNatClampNeg) g _ H8 ?_) (by decide))
  refine am_aload_n rfl rfl ?_
  refine am_sload rfl rfl ?_
  refine am_iload_n rfl rfl ?_
  refine x_iconst (v := (1 : Int32)) rfl (by decide) ?_
  refine am_iadd rfl ?_
  refine am_sld rfl rfl (hi (1 : Int32) (by decide)) ?_
  refine am_sload rfl rfl ?_
  refine am_iload_n rfl rfl ?_
  refine x_iconst (v := (2 : Int32)) rfl (by decide) ?_
  refine am_iadd rfl ?_
  refine am_sld rfl rfl (hi (2 : Int32) (by decide)) ?_
  refine am_sload rfl rfl ?_
  refine am_iload_n rfl rfl ?_
  refine x_iconst (v := (3 : Int32)) rfl (by decide) ?_
  refine am_iadd rfl ?_
  refine am_sld rfl rfl (hi (3 : Int32) (by decide)) ?_
  refine am_sload rfl rfl ?_
  refine am_iload_n rfl rfl ?_
  refine x_iconst (v := (4 : Int32)) rfl (by decide) ?_
  refine am_iadd rfl ?_
  refine am_sld rfl rfl (hi (4 : Int32) (by decide)) ?_
  refine lc4 v_10_119 rfl rfl (Nat.le_of_ble_eq_true rfl) rfl (Nat.le_of_ble_eq_true rfl) (fun _ _ => Nat.le_of_ble_eq_true rfl) ⟨Nat.le_refl _, Nat.le_refl _⟩ (Y.mono (d2 := 62) (y_X9_could (sc.2 (x + (1 : Int32)).toNatClampNeg) (sc.2 (x + (2 : Int32)).toNatClampNeg) (sc.2 (x + (3 : Int32)).toNatClampNeg) (sc.2 (x + (4 : Int32)).toNatClampNeg) g1 _ H9 ?_) (by decide))
  refine am_icmp_eq rfl (fun _ => ?_) (fun c => absurd rfl c)
  exact K g2 hI2
set_option maxHeartbeats 4000000 in
set_option maxRecDepth 100000 in
theorem lw_c25 {Inv : G → Prop} (hs : Sp1 Inv f_X8_found f_X9_found) {nm : String} {sc : Nat × (Nat → Int32)} {post : Int32 → am_H → Prop} {x : Int32} (hi : ∀ k : Int32, k < 7 ∧ 0 ≤ k → vp_in (x + k) sc.1) (K : ∀ g2, Inv g2 → am_V (m_lw nm) sc 64 185 11339 0 0 post 1490 [some (.float 0), some (.ref 0), some (.ref 159), some (.int x)] [] (hw g2)) (g : G) (hI : Inv g) : am_V (m_lw nm) sc 64 185 11339 0 0 post 1231 [some (.float 0), some (.ref 0), some (.ref 159), some (.int x)] [] (hw g) := by
  obtain ⟨r, g1, g2, H8, H9, hI2⟩ := hs (sc.2 (x + (1 : Int32)).toNatClampNeg) g hI
  refine am_aload_n rfl rfl ?_
  refine am_sload rfl rfl ?_
  refine am_iload_n rfl rfl ?_
  refine x_iconst (v := (1 : Int32)) rfl (by decide) ?_
  refine am_iadd rfl ?_
  refine am_sld rfl rfl (hi (1 : Int32) (by decide)) ?_
  refine lc1 v_10_120 rfl rfl (Nat.le_of_ble_eq_true rfl) rfl (Nat.le_of_ble_eq_true rfl) (fun _ _ => Nat.le_of_ble_eq_true rfl) ⟨Nat.le_refl _, Nat.le_refl _⟩ (Y.mono (d2 := 62) (y_X8_found (sc.2 (x + (1 : Int32)).toNatClampNeg) g _ H8 ?_) (by decide))
  refine am_aload_n rfl rfl ?_
  refine am_sload rfl rfl ?_
  refine am_iload_n rfl rfl ?_
  refine x_iconst (v := (1 : Int32)) rfl (by decide) ?_
  refine am_iadd rfl ?_
  refine am_sld rfl rfl (hi (1 : Int32) (by decide)) ?_
  refine lc1 v_10_123 rfl rfl (Nat.le_of_ble_eq_true rfl) rfl (Nat.le_of_ble_eq_true rfl) (fun _ _ => Nat.le_of_ble_eq_true rfl) ⟨Nat.le_refl _, Nat.le_refl _⟩ (Y.mono (d2 := 62) (y_X9_found (sc.2 (x + (1 : Int32)).toNatClampNeg) g1 _ H9 ?_) (by decide))
  refine am_icmp_eq rfl (fun _ => ?_) (fun c => absurd rfl c)
  exact K g2 hI2
set_option maxHeartbeats 4000000 in
set_option maxRecDepth 100000 in
theorem lw_c26 {Inv : G → Prop} (hs : Sp6 Inv f_X8_step f_X9_step) {nm : String} {sc : Nat × (Nat → Int32)} {post : Int32 → am_H → Prop} {x : Int32} (hi : ∀ k : Int32, k < 7 ∧ 0 ≤ k → vp_in (x + k) sc.1) (K : ∀ g2, Inv g2 → am_V (m_lw nm) sc 64 185 11339 0 0 post 1490 [some (.float 0), some (.ref 0), some (.ref 159), some (.int x)] [] (hw g2)) (g : G) (hI : Inv g) : am_V (m_lw nm) sc 64 185 11339 0 0 post 1254 [some (.float 0), some (.ref 0), some (.ref 159), some (.int x)] [] (hw g) := by
  obtain ⟨r, g1, g2, H8, H9, hI2⟩ := hs (sc.2 (x + (1 : Int32)).toNatClampNeg) (sc.2 (x + (2 : Int32)).toNatClampNeg) (sc.2 (x + (3 : Int32)).toNatClampNeg) (sc.2 (x + (4 : Int32)).toNatClampNeg) (sc.2 (x + (5 : Int32)).toNatClampNeg) (sc.2 (x + (6 : Int32)).toNatClampNeg) g hI
  refine am_aload_n rfl rfl ?_
  refine am_sload rfl rfl ?_
  refine am_iload_n rfl rfl ?_
  refine x_iconst (v := (1 : Int32)) rfl (by decide) ?_
  refine am_iadd rfl ?_
  refine am_sld rfl rfl (hi (1 : Int32) (by decide)) ?_
  refine am_sload rfl rfl ?_
  refine am_iload_n rfl rfl ?_
  refine x_iconst (v := (2 : Int32)) rfl (by decide) ?_
  refine am_iadd rfl ?_
  refine am_sld rfl rfl (hi (2 : Int32) (by decide)) ?_
  refine am_sload rfl rfl ?_
  refine am_iload_n rfl rfl ?_
  refine x_iconst (v := (3 : Int32)) rfl (by decide) ?_
  refine am_iadd rfl ?_
  refine am_sld rfl rfl (hi (3 : Int32) (by decide)) ?_
  refine am_sload rfl rfl ?_
  refine am_iload_n rfl rfl ?_
  refine x_iconst (v := (4 : Int32)) rfl (by decide) ?_
  refine am_iadd rfl ?_
  refine am_sld rfl rfl (hi (4 : Int32) (by decide)) ?_
  refine am_sload rfl rfl ?_
  refine am_iload_n rfl rfl ?_
  refine x_iconst (v := (5 : Int32)) rfl (by decide) ?_
  refine am_iadd rfl ?_
  refine am_sld rfl rfl (hi (5 : Int32) (by decide)) ?_
  refine am_sload rfl rfl ?_
  refine am_iload_n rfl rfl ?_
  refine x_bipush (v := (6 : Int32)) rfl (by decide) ?_
  refine am_iadd rfl ?_
  refine am_sld rfl rfl (hi (6 : Int32) (by decide)) ?_
  refine lc6 v_10_124 rfl rfl (Nat.le_of_ble_eq_true rfl) rfl (Nat.le_of_ble_eq_true rfl) (fun _ _ => Nat.le_of_ble_eq_true rfl) ⟨Nat.le_refl _, Nat.le_refl _⟩ (Y.mono (d2 := 62) (y_X8_step (sc.2 (x + (1 : Int32)).toNatClampNeg) (sc.2 (x + (2 : Int32)).toNatClampNeg) (sc.2 (x + (3 : Int32)).toNatClampNeg) (sc.2 (x + (4 : Int32)).toNatClampNeg) (sc.2 (x + (5 : Int32)).toNatClampNeg) (sc.2 (x + (6 : Int32)).toNatClampNeg) g _ H8 ?_) (by decide))
  refine am_aload_n rfl rfl ?_
  refine am_sload rfl rfl ?_
  refine am_iload_n rfl rfl ?_
  refine x_iconst (v := (1 : Int32)) rfl (by decide) ?_
  refine am_iadd rfl ?_
  refine am_sld rfl rfl (hi (1 : Int32) (by decide)) ?_
  refine am_sload rfl rfl ?_
  refine am_iload_n rfl rfl ?_
  refine x_iconst (v := (2 : Int32)) rfl (by decide) ?_
  refine am_iadd rfl ?_
  refine am_sld rfl rfl (hi (2 : Int32) (by decide)) ?_
  refine am_sload rfl rfl ?_
  refine am_iload_n rfl rfl ?_
  refine x_iconst (v := (3 : Int32)) rfl (by decide) ?_
  refine am_iadd rfl ?_
  refine am_sld rfl rfl (hi (3 : Int32) (by decide)) ?_
  refine am_sload rfl rfl ?_
  refine am_iload_n rfl rfl ?_
  refine x_iconst (v := (4 : Int32)) rfl (by decide) ?_
  refine am_iadd rfl ?_
  refine am_sld rfl rfl (hi (4 : Int32) (by decide)) ?_
  refine am_sload rfl rfl ?_
  refine am_iload_n rfl rfl ?_
  refine x_iconst (v := (5 : Int32)) rfl (by decide) ?_
  refine am_iadd rfl ?_
  refine am_sld rfl rfl (hi (5 : Int32) (by decide)) ?_
  refine am_sload rfl rfl ?_
  refine am_iload_n rfl rfl ?_
  refine x_bipush (v := (6 : Int32)) rfl (by decide) ?_
  refine am_iadd rfl ?_
  refine am_sld rfl rfl (hi (6 : Int32) (by decide)) ?_
  refine lc6 v_10_127 rfl rfl (Nat.le_of_ble_eq_true rfl) rfl (Nat.le_of_ble_eq_true rfl) (fun _ _ => Nat.le_of_ble_eq_true rfl) ⟨Nat.le_refl _, Nat.le_refl _⟩ (Y.mono (d2 := 62) (y_X9_step (sc.2 (x + (1 : Int32)).toNatClampNeg) (sc.2 (x + (2 : Int32)).toNatClampNeg) (sc.2 (x + (3 : Int32)).toNatClampNeg) (sc.2 (x + (4 : Int32)).toNatClampNeg) (sc.2 (x + (5 : Int32)).toNatClampNeg) (sc.2 (x + (6 : Int32)).toNatClampNeg) g1 _ H9 ?_) (by decide))
  refine am_icmp_eq rfl (fun _ => ?_) (fun c => absurd rfl c)
  exact K g2 hI2
set_option maxHeartbeats 4000000 in
set_option maxRecDepth 100000 in
theorem lw_c27 {Inv : G → Prop} (hs : Sp1 Inv f_X8_empty f_X9_empty) {nm : String} {sc : Nat × (Nat → Int32)} {post : Int32 → am_H → Prop} {x : Int32} (hi : ∀ k : Int32, k < 7 ∧ 0 ≤ k → vp_in (x + k) sc.1) (K : ∀ g2, Inv g2 → am_V (m_lw nm) sc 64 185 11339 0 0 post 1490 [some (.float 0), some (.ref 0), some (.ref 159), some (.int x)] [] (hw g2)) (g : G) (hI : Inv g) : am_V (m_lw nm) sc 64 185 11339 0 0 post 1329 [some (.float 0), some (.ref 0), some (.ref 159), some (.int x)] [] (hw g) := by
  obtain ⟨r, g1, g2, H8, H9, hI2⟩ := hs (sc.2 (x + (1 : Int32)).toNatClampNeg) g hI
  refine am_aload_n rfl rfl ?_
  refine am_sload rfl rfl ?_
  refine am_iload_n rfl rfl ?_
  refine x_iconst (v := (1 : Int32)) rfl (by decide) ?_
  refine am_iadd rfl ?_
  refine am_sld rfl rfl (hi (1 : Int32) (by decide)) ?_
  refine lc1 v_10_128 rfl rfl (Nat.le_of_ble_eq_true rfl) rfl (Nat.le_of_ble_eq_true rfl) (fun _ _ => Nat.le_of_ble_eq_true rfl) ⟨Nat.le_refl _, Nat.le_refl _⟩ (Y.mono (d2 := 62) (y_X8_empty (sc.2 (x + (1 : Int32)).toNatClampNeg) g _ H8 ?_) (by decide))
  refine am_aload_n rfl rfl ?_
  refine am_sload rfl rfl ?_
  refine am_iload_n rfl rfl ?_
  refine x_iconst (v := (1 : Int32)) rfl (by decide) ?_
  refine am_iadd rfl ?_
  refine am_sld rfl rfl (hi (1 : Int32) (by decide)) ?_
  refine lc1 v_10_131 rfl rfl (Nat.le_of_ble_eq_true rfl) rfl (Nat.le_of_ble_eq_true rfl) (fun _ _ => Nat.le_of_ble_eq_true rfl) ⟨Nat.le_refl _, Nat.le_refl _⟩ (Y.mono (d2 := 62) (y_X9_empty (sc.2 (x + (1 : Int32)).toNatClampNeg) g1 _ H9 ?_) (by decide))
  refine am_icmp_eq rfl (fun _ => ?_) (fun c => absurd rfl c)
  exact K g2 hI2
set_option maxHeartbeats 4000000 in
set_option maxRecDepth 100000 in
theorem lw_c28 {Inv : G → Prop} (hs : Sp1 Inv f_X8_run f_X9_run) {nm : String} {sc : Nat × (Nat → Int32)} {post : Int32 → am_H → Prop} {x : Int32} (hi : ∀ k : Int32, k < 7 ∧ 0 ≤ k → vp_in (x + k) sc.1) (K : ∀ g2, Inv g2 → am_V (m_lw nm) sc 64 185 11339 0 0 post 1490 [some (.float 0), some (.ref 0), some (.ref 159), some (.int x)] [] (hw g2)) (g : G) (hI : Inv g) : am_V (m_lw nm) sc 64 185 11339 0 0 post 1352 [some (.float 0), some (.ref 0), some (.ref 159), some (.int x)] [] (hw g) := by
  obtain ⟨r, g1, g2, H8, H9, hI2⟩ := hs (sc.2 (x + (1 : Int32)).toNatClampNeg) g hI
  refine am_aload_n rfl rfl ?_
  refine am_sload rfl rfl ?_
  refine am_iload_n rfl rfl ?_
  refine x_iconst (v := (1 : Int32)) rfl (by decide) ?_
  refine am_iadd rfl ?_
  refine am_sld rfl rfl (hi (1 : Int32) (by decide)) ?_
  refine lc1 v_10_132 rfl rfl (Nat.le_of_ble_eq_true rfl) rfl (Nat.le_of_ble_eq_true rfl) (fun _ _ => Nat.le_of_ble_eq_true rfl) ⟨Nat.le_refl _, Nat.le_refl _⟩ (Y.mono (d2 := 62) (y_X8_run (sc.2 (x + (1 : Int32)).toNatClampNeg) g _ H8 ?_) (by decide))
  refine am_aload_n rfl rfl ?_
  refine am_sload rfl rfl ?_
  refine am_iload_n rfl rfl ?_
  refine x_iconst (v := (1 : Int32)) rfl (by decide) ?_
  refine am_iadd rfl ?_
  refine am_sld rfl rfl (hi (1 : Int32) (by decide)) ?_
  refine lc1 v_10_135 rfl rfl (Nat.le_of_ble_eq_true rfl) rfl (Nat.le_of_ble_eq_true rfl) (fun _ _ => Nat.le_of_ble_eq_true rfl) ⟨Nat.le_refl _, Nat.le_refl _⟩ (Y.mono (d2 := 62) (y_X9_run (sc.2 (x + (1 : Int32)).toNatClampNeg) g1 _ H9 ?_) (by decide))
  refine am_icmp_eq rfl (fun _ => ?_) (fun c => absurd rfl c)
  exact K g2 hI2
set_option maxHeartbeats 4000000 in
set_option maxRecDepth 100000 in
theorem lw_c29 {Inv : G → Prop} (hs : Sp1 Inv f_X8_ran f_X9_ran) {nm : String} {sc : Nat × (Nat → Int32)} {post : Int32 → am_H → Prop} {x : Int32} (hi : ∀ k : Int32, k < 7 ∧ 0 ≤ k → vp_in (x + k) sc.1) (K : ∀ g2, Inv g2 → am_V (m_lw nm) sc 64 185 11339 0 0 post 1490 [some (.float 0), some (.ref 0), some (.ref 159), some (.int x)] [] (hw g2)) (g : G) (hI : Inv g) : am_V (m_lw nm) sc 64 185 11339 0 0 post 1375 [some (.float 0), some (.ref 0), some (.ref 159), some (.int x)] [] (hw g) := by
  obtain ⟨r, g1, g2, H8, H9, hI2⟩ := hs (sc.2 (x + (1 : Int32)).toNatClampNeg) g hI
  refine am_aload_n rfl rfl ?_
  refine am_sload rfl rfl ?_
  refine am_iload_n rfl rfl ?_
  refine x_iconst (v := (1 : Int32)) rfl (by decide) ?_
  refine am_iadd rfl ?_
  refine am_sld rfl rfl (hi (1 : Int32) (by decide)) ?_
  refine lc1 v_10_136 rfl rfl (Nat.le_of_ble_eq_true rfl) rfl (Nat.le_of_ble_eq_true rfl) (fun _ _ => Nat.le_of_ble_eq_true rfl) ⟨Nat.le_refl _, Nat.le_refl _⟩ (Y.mono (d2 := 62) (y_X8_ran (sc.2 (x + (1 : Int32)).toNatClampNeg) g _ H8 ?_) (by decide))
  refine am_aload_n rfl rfl ?_
  refine am_sload rfl rfl ?_
  refine am_iload_n rfl rfl ?_
  refine x_iconst (v := (1 : Int32)) rfl (by decide) ?_
  refine am_iadd rfl ?_
  refine am_sld rfl rfl (hi (1 : Int32) (by decide)) ?_
  refine lc1 v_10_139 rfl rfl (Nat.le_of_ble_eq_true rfl) rfl (Nat.le_of_ble_eq_true rfl) (fun _ _ => Nat.le_of_ble_eq_true rfl) ⟨Nat.le_refl _, Nat.le_refl _⟩ (Y.mono (d2 := 62) (y_X9_ran (sc.2 (x + (1 : Int32)).toNatClampNeg) g1 _ H9 ?_) (by decide))
  refine am_icmp_eq rfl (fun _ => ?_) (fun c => absurd rfl c)
  exact K g2 hI2
set_option maxHeartbeats 4000000 in
set_option maxRecDepth 100000 in
theorem lw_c30 {Inv : G → Prop} (hs : Sp1 Inv f_X8_copy f_X9_copy) {nm : String} {sc : Nat × (Nat → Int32)} {post : Int32 → am_H → Prop} {x : Int32} (hi : ∀ k : Int32, k < 7 ∧ 0 ≤ k → vp_in (x + k) sc.1) (K : ∀ g2, Inv g2 → am_V (m_lw nm) sc 64 185 11339 0 0 post 1490 [some (.float 0), some (.ref 0), some (.ref 159), some (.int x)] [] (hw g2)) (g : G) (hI : Inv g) : am_V (m_lw nm) sc 64 185 11339 0 0 post 1398 [some (.float 0), some (.ref 0), some (.ref 159), some (.int x)] [] (hw g) := by
  obtain ⟨r, g1, g2, H8, H9, hI2⟩ := hs (sc.2 (x + (1 : Int32)).toNatClampNeg) g hI
  refine am_aload_n rfl rfl ?_
  refine am_sload rfl rfl ?_
  refine am_iload_n rfl rfl ?_
  refine x_iconst (v := (1 : Int32)) rfl (by decide) ?_
  refine am_iadd rfl ?_
  refine am_sld rfl rfl (hi (1 : Int32) (by decide)) ?_
  refine lc1 v_10_140 rfl rfl (Nat.le_of_ble_eq_true rfl) rfl (Nat.le_of_ble_eq_true rfl) (fun _ _ => Nat.le_of_ble_eq_true rfl) ⟨Nat.le_refl _, Nat.le_refl _⟩ (Y.mono (d2 := 62) (y_X8_copy (sc.2 (x + (1 : Int32)).toNatClampNeg) g _ H8 ?_) (by decide))
  refine am_aload_n rfl rfl ?_
  refine am_sload rfl rfl ?_
  refine am_iload_n rfl rfl ?_
  refine x_iconst (v := (1 : Int32)) rfl (by decide) ?_
  refine am_iadd rfl ?_
  refine am_sld rfl rfl (hi (1 : Int32) (by decide)) ?_
  refine lc1 v_10_143 rfl rfl (Nat.le_of_ble_eq_true rfl) rfl (Nat.le_of_ble_eq_true rfl) (fun _ _ => Nat.le_of_ble_eq_true rfl) ⟨Nat.le_refl _, Nat.le_refl _⟩ (Y.mono (d2 := 62) (y_X9_copy (sc.2 (x + (1 : Int32)).toNatClampNeg) g1 _ H9 ?_) (by decide))
  refine am_icmp_eq rfl (fun _ => ?_) (fun c => absurd rfl c)
  exact K g2 hI2
set_option maxHeartbeats 4000000 in
set_option maxRecDepth 100000 in
theorem lw_c31 {Inv : G → Prop} (hs : Sp2 Inv f_X8_alike f_X9_alike) {nm : String} {sc : Nat × (Nat → Int32)} {post : Int32 → am_H → Prop} {x : Int32} (hi : ∀ k : Int32, k < 7 ∧ 0 ≤ k → vp_in (x + k) sc.1) (K : ∀ g2, Inv g2 → am_V (m_lw nm) sc 64 185 11339 0 0 post 1490 [some (.float 0), some (.ref 0), some (.ref 159), some (.int x)] [] (hw g2)) (g : G) (hI : Inv g) : am_V (m_lw nm) sc 64 185 11339 0 0 post 1421 [some (.float 0), some (.ref 0), some (.ref 159), some (.int x)] [] (hw g) := by
  obtain ⟨r, g1, g2, H8, H9, hI2⟩ := hs (sc.2 (x + (1 : Int32)).toNatClampNeg) (sc.2 (x + (2 : Int32)).toNatClampNeg) g hI
  refine am_aload_n rfl rfl ?_
  refine am_sload rfl rfl ?_
  refine am_iload_n rfl rfl ?_
  refine x_iconst (v := (1 : Int32)) rfl (by decide) ?_
  refine am_iadd rfl ?_
  refine am_sld rfl rfl (hi (1 : Int32) (by decide)) ?_
  refine am_sload rfl rfl ?_
  refine am_iload_n rfl rfl ?_
  refine x_iconst (v := (2 : Int32)) rfl (by decide) ?_
  refine am_iadd rfl ?_
  refine am_sld rfl rfl (hi (2 : Int32) (by decide)) ?_
  refine lc2 v_10_144 rfl rfl (Nat.le_of_ble_eq_true rfl) rfl (Nat.le_of_ble_eq_true rfl) (fun _ _ => Nat.le_of_ble_eq_true rfl) ⟨Nat.le_refl _, Nat.le_refl _⟩ (Y.mono (d2 := 62) (y_X8_alike (sc.2 (x + (1 : Int32)).toNatClampNeg) (sc.2 (x + (2 : Int32)).toNatClampNeg) g _ H8 ?_) (by decide))
  refine am_aload_n rfl rfl ?_
  refine am_sload rfl rfl ?_
  refine am_iload_n rfl rfl ?_
  refine x_iconst (v := (1 : Int32)) rfl (by decide) ?_
  refine am_iadd rfl ?_
  refine am_sld rfl rfl (hi (1 : Int32) (by decide)) ?_
  refine am_sload rfl rfl ?_
  refine am_iload_n rfl rfl ?_
  refine x_iconst (v := (2 : Int32)) rfl (by decide) ?_
  refine am_iadd rfl ?_
  refine am_sld rfl rfl (hi (2 : Int32) (by decide)) ?_
  refine lc2 v_10_147 rfl rfl (Nat.le_of_ble_eq_true rfl) rfl (Nat.le_of_ble_eq_true rfl) (fun _ _ => Nat.le_of_ble_eq_true rfl) ⟨Nat.le_refl _, Nat.le_refl _⟩ (Y.mono (d2 := 62) (y_X9_alike (sc.2 (x + (1 : Int32)).toNatClampNeg) (sc.2 (x + (2 : Int32)).toNatClampNeg) g1 _ H9 ?_) (by decide))
  refine am_icmp_eq rfl (fun _ => ?_) (fun c => absurd rfl c)
  exact K g2 hI2
set_option maxHeartbeats 4000000 in
set_option maxRecDepth 100000 in
theorem lw_c32 {Inv : G → Prop} (hs : Sp0 Inv f_X8_finding f_X9_finding) {nm : String} {sc : Nat × (Nat → Int32)} {post : Int32 → am_H → Prop} {x : Int32} (hi : ∀ k : Int32, k < 7 ∧ 0 ≤ k → vp_in (x + k) sc.1) (K : ∀ g2, Inv g2 → am_V (m_lw nm) sc 64 185 11339 0 0 post 1490 [some (.float 0), some (.ref 0), some (.ref 159), some (.int x)] [] (hw g2)) (g : G) (hI : Inv g) : am_V (m_lw nm) sc 64 185 11339 0 0 post 1454 [some (.float 0), some (.ref 0), some (.ref 159), some (.int x)] [] (hw g) := by
  obtain ⟨r, g1, g2, H8, H9, hI2⟩ := hs  g hI
  refine am_aload_n rfl rfl ?_
  refine lc0 v_10_148 rfl rfl (Nat.le_of_ble_eq_true rfl) rfl (Nat.le_of_ble_eq_true rfl) (fun _ _ => Nat.le_of_ble_eq_true rfl) ⟨Nat.le_refl _, Nat.le_refl _⟩ (Y.mono (d2 := 62) (y_X8_finding  g _ H8 ?_) (by decide))
  refine am_aload_n rfl rfl ?_
  refine lc0 v_10_151 rfl rfl (Nat.le_of_ble_eq_true rfl) rfl (Nat.le_of_ble_eq_true rfl) (fun _ _ => Nat.le_of_ble_eq_true rfl) ⟨Nat.le_refl _, Nat.le_refl _⟩ (Y.mono (d2 := 62) (y_X9_finding  g1 _ H9 ?_) (by decide))
  refine am_icmp_eq rfl (fun _ => ?_) (fun c => absurd rfl c)
  exact K g2 hI2
set_option maxHeartbeats 4000000 in
set_option maxRecDepth 100000 in
theorem lw_c33 {Inv : G → Prop} (hs : Sp1 Inv f_X8_told f_X9_told) {nm : String} {sc : Nat × (Nat → Int32)} {post : Int32 → am_H → Prop} {x : Int32} (hi : ∀ k : Int32, k < 7 ∧ 0 ≤ k → vp_in (x + k) sc.1) (K : ∀ g2, Inv g2 → am_V (m_lw nm) sc 64 185 11339 0 0 post 1490 [some (.float 0), some (.ref 0), some (.ref 159), some (.int x)] [] (hw g2)) (g : G) (hI : Inv g) : am_V (m_lw nm) sc 64 185 11339 0 0 post 1467 [some (.float 0), some (.ref 0), some (.ref 159), some (.int x)] [] (hw g) := by
  obtain ⟨r, g1, g2, H8, H9, hI2⟩ := hs (sc.2 (x + (1 : Int32)).toNatClampNeg) g hI
  refine am_aload_n rfl rfl ?_
  refine am_sload rfl rfl ?_
  refine am_iload_n rfl rfl ?_
  refine x_iconst (v := (1 : Int32)) rfl (by decide) ?_
  refine am_iadd rfl ?_
  refine am_sld rfl rfl (hi (1 : Int32) (by decide)) ?_
  refine lc1 v_10_152 rfl rfl (Nat.le_of_ble_eq_true rfl) rfl (Nat.le_of_ble_eq_true rfl) (fun _ _ => Nat.le_of_ble_eq_true rfl) ⟨Nat.le_refl _, Nat.le_refl _⟩ (Y.mono (d2 := 62) (y_X8_told (sc.2 (x + (1 : Int32)).toNatClampNeg) g _ H8 ?_) (by decide))
  refine am_aload_n rfl rfl ?_
  refine am_sload rfl rfl ?_
  refine am_iload_n rfl rfl ?_
  refine x_iconst (v := (1 : Int32)) rfl (by decide) ?_
  refine am_iadd rfl ?_
  refine am_sld rfl rfl (hi (1 : Int32) (by decide)) ?_
  refine lc1 v_10_155 rfl rfl (Nat.le_of_ble_eq_true rfl) rfl (Nat.le_of_ble_eq_true rfl) (fun _ _ => Nat.le_of_ble_eq_true rfl) ⟨Nat.le_refl _, Nat.le_refl _⟩ (Y.mono (d2 := 62) (y_X9_told (sc.2 (x + (1 : Int32)).toNatClampNeg) g1 _ H9 ?_) (by decide))
  refine am_icmp_eq rfl (fun _ => ?_) (fun c => absurd rfl c)
  exact K g2 hI2
/-- what is asked of an invariant: each call of the class and of the model answers alike, and keeps it -/
def LawSteps (Inv : G → Prop) : Prop := Sp2 Inv f_X8_player f_X9_player ∧ Sp2 Inv f_X8_places f_X9_places ∧ Sp3 Inv f_X8_seat f_X9_seat ∧ Sp2 Inv f_X8_held f_X9_held ∧ Sp1 Inv f_X8_worth f_X9_worth ∧ Sp1 Inv f_X8_stepOf f_X9_stepOf ∧ Sp1 Inv f_X8_trace f_X9_trace ∧ Sp0 Inv f_X8_tournament f_X9_tournament ∧ Sp2 Inv f_X8_enter f_X9_enter ∧ Sp2 Inv f_X8_withdraw f_X9_withdraw ∧ Sp3 Inv f_X8_rule f_X9_rule ∧ Sp2 Inv f_X8_draw f_X9_draw ∧ Sp4 Inv f_X8_pair f_X9_pair ∧ Sp3 Inv f_X8_round f_X9_round ∧ Sp6 Inv f_X8_tell f_X9_tell ∧ Sp3 Inv f_X8_takeBack f_X9_takeBack ∧ Sp4 Inv f_X8_counts f_X9_counts ∧ Sp4 Inv f_X8_points f_X9_points ∧ Sp5 Inv f_X8_sum f_X9_sum ∧ Sp4 Inv f_X8_place f_X9_place ∧ Sp4 Inv f_X8_standing f_X9_standing ∧ Sp5 Inv f_X8_why f_X9_why ∧ Sp4 Inv f_X8_rated f_X9_rated ∧ Sp1 Inv f_X8_mean f_X9_mean ∧ Sp4 Inv f_X8_could f_X9_could ∧ Sp1 Inv f_X8_found f_X9_found ∧ Sp6 Inv f_X8_step f_X9_step ∧ Sp1 Inv f_X8_empty f_X9_empty ∧ Sp1 Inv f_X8_run f_X9_run ∧ Sp1 Inv f_X8_ran f_X9_ran ∧ Sp1 Inv f_X8_copy f_X9_copy ∧ Sp2 Inv f_X8_alike f_X9_alike ∧ Sp0 Inv f_X8_finding f_X9_finding ∧ Sp1 Inv f_X8_told f_X9_told
theorem lw_cond {L j : Nat} (hL : L ≤ 3584) (hj : 7 * j ≤ L + 7) (c : ¬ nI L - 7 < nI (7 * j)) : 7 * j + 7 ≤ L := by
  have h1 : (nI L - nI 7).toInt = (L : Int) - (7 : Nat) := pk_sub_toInt (by omega) (by decide)
  have h2 : (nI (7 * j)).toInt = ((7 * j : Nat) : Int) := nI_toInt (by omega)
  have h3 : ¬ (nI L - nI 7).toInt < (nI (7 * j)).toInt := fun q => c (Int32.lt_iff_toInt_lt.mpr q)
  omega
theorem lw_add {j k L : Nat} (h : 7 * j + 7 ≤ L) (hL : L ≤ 3584) : ∀ q : Int32, q < 7 ∧ 0 ≤ q → vp_in (nI (7 * j) + q) L := by
  intro q hq
  obtain ⟨i, hi, rfl⟩ := nI_of (x := q) (fun h => absurd hq.2 (Int32.not_le.mpr h))
  have h7 : i < 7 := (nI_ltI hi (by decide)).mp hq.1
  rw [nI_add]
  exact vp_in_nI (by omega) (by omega)
set_option maxHeartbeats 4000000 in
set_option maxRecDepth 100000 in
theorem lw_loop {Inv : G → Prop} (hs : LawSteps Inv) {nm : String} {L : Nat} {xs : Nat → Int32} (hL : L ≤ 3584) {post : Int32 → am_H → Prop} (hp : ∀ h, post 1 h) : ∀ (n j : Nat) (g : G), L < 7 * (j + n) + 7 → 7 * j ≤ L + 7 → Inv g → am_V (m_lw nm) (L, xs) 64 185 11339 0 0 post 18 [some (.float 0), some (.ref 0), some (.ref 159), some (.int (nI (7 * j)))] [] (hw g) := by
  intro n
  induction n with
  | zero =>
    intro j g hj hj2 hI
    refine am_iload_n rfl rfl ?_
    refine am_sload rfl rfl ?_
    refine am_slen rfl rfl ?_
    refine x_bipush (v := (7 : Int32)) rfl (by decide) ?_
    refine am_isub rfl ?_
    refine am_icmp_gt rfl (fun _ => ?_) (fun c => ?_)
    · refine x_iconst (v := (1 : Int32)) rfl (by decide) ?_
      exact am_zret rfl rfl (Or.inr rfl) rfl rfl (hp _)
    · exact absurd (lw_cond hL hj2 c) (by omega)
  | succ n ih =>
    intro j g hj hj2 hI
    refine am_iload_n rfl rfl ?_
    refine am_sload rfl rfl ?_
    refine am_slen rfl rfl ?_
    refine x_bipush (v := (7 : Int32)) rfl (by decide) ?_
    refine am_isub rfl ?_
    refine am_icmp_gt rfl (fun _ => ?_) (fun c => ?_)
    · refine x_iconst (v := (1 : Int32)) rfl (by decide) ?_
      exact am_zret rfl rfl (Or.inr rfl) rfl rfl (hp _)
    · have hj7 : 7 * j + 7 ≤ L := lw_cond hL hj2 c
      have hi := lw_add (j := j) (k := 0) hj7 hL
      have K : ∀ g2, Inv g2 → am_V (m_lw nm) (L, xs) 64 185 11339 0 0 post 1490 [some (.float 0), some (.ref 0), some (.ref 159), some (.int (nI (7 * j)))] [] (hw g2) := by
        intro g2 hI2
        refine am_iinc rfl rfl (Nat.le_of_ble_eq_true rfl) ?_
        refine am_goto rfl ?_
        refine am_drop (L' := [some (.float 0), some (.ref 0), some (.ref 159), some (.int (nI (7 * (j + 1))))]) (And.intro rfl (And.intro rfl (And.intro rfl (And.intro ?_ trivial)))) (ih (j + 1) g2 (by omega) (by omega) hI2)
        show Value.int (nI (7 * (j + 1))) = Value.int (nI (7 * j) + 7)
        rw [show (7 : Int32) = nI 7 from rfl, nI_add, show 7 * (j + 1) = 7 * j + 7 by omega]
      refine am_sload rfl rfl ?_
      refine am_iload_n rfl rfl ?_
      refine am_sld rfl rfl (by have := hi 0 (by decide); rwa [Int32.add_zero] at this) ?_
      refine x_bipush (v := (63 : Int32)) rfl (by decide) ?_
      refine am_iand rfl ?_
      generalize (L, xs).2 (nI (7 * j)).toNatClampNeg &&& 63 = w
      by_cases c0 : w = (0 : Int32)
      · refine am_tsw1 (j := 0) rfl c0 (by decide +kernel) rfl rfl ?_
        exact lw_c0 (hs.1) hi K g hI
      by_cases c1 : w = (1 : Int32)
      · refine am_tsw1 (j := 1) rfl c1 (by decide +kernel) rfl rfl ?_
        exact lw_c1 (hs.2.1) hi K g hI
      by_cases c2 : w = (2 : Int32)
      · refine am_tsw1 (j := 2) rfl c2 (by decide +kernel) rfl rfl ?_
        exact lw_c2 (hs.2.2.1) hi K g hI
      by_cases c3 : w = (3 : Int32)
      · refine am_tsw1 (j := 3) rfl c3 (by decide +kernel) rfl rfl ?_
        exact lw_c3 (hs.2.2.2.1) hi K g hI
      by_cases c4 : w = (4 : Int32)
      · refine am_tsw1 (j := 4) rfl c4 (by decide +kernel) rfl rfl ?_
        exact lw_c4 (hs.2.2.2.2.1) hi K g hI
      by_cases c5 : w = (5 : Int32)
      · refine am_tsw1 (j := 5) rfl c5 (by decide +kernel) rfl rfl ?_
        exact lw_c5 (hs.2.2.2.2.2.1) hi K g hI
      by_cases c6 : w = (6 : Int32)
      · refine am_tsw1 (j := 6) rfl c6 (by decide +kernel) rfl rfl ?_
        exact lw_c6 (hs.2.2.2.2.2.2.1) hi K g hI
      by_cases c7 : w = (7 : Int32)
      · refine am_tsw1 (j := 7) rfl c7 (by decide +kernel) rfl rfl ?_
        exact lw_c7 (hs.2.2.2.2.2.2.2.1) hi K g hI
      by_cases c8 : w = (8 : Int32)
      · refine am_tsw1 (j := 8) rfl c8 (by decide +kernel) rfl rfl ?_
        exact lw_c8 (hs.2.2.2.2.2.2.2.2.1) hi K g hI
      by_cases c9 : w = (9 : Int32)
      · refine am_tsw1 (j := 9) rfl c9 (by decide +kernel) rfl rfl ?_
        exact lw_c9 (hs.2.2.2.2.2.2.2.2.2.1) hi K g hI
      by_cases c10 : w = (10 : Int32)
      · refine am_tsw1 (j := 10) rfl c10 (by decide +kernel) rfl rfl ?_
        exact lw_c10 (hs.2.2.2.2.2.2.2.2.2.2.1) hi K g hI
      by_cases c11 : w = (11 : Int32)
      · refine am_tsw1 (j := 11) rfl c11 (by decide +kernel) rfl rfl ?_
        exact lw_c11 (hs.2.2.2.2.2.2.2.2.2.2.2.1) hi K g hI
      by_cases c12 : w = (12 : Int32)
      · refine am_tsw1 (j := 12) rfl c12 (by decide +kernel) rfl rfl ?_
        exact lw_c12 (hs.2.2.2.2.2.2.2.2.2.2.2.2.1) hi K g hI
      by_cases c13 : w = (13 : Int32)
      · refine am_tsw1 (j := 13) rfl c13 (by decide +kernel) rfl rfl ?_
        exact lw_c13 (hs.2.2.2.2.2.2.2.2.2.2.2.2.2.1) hi K g hI
      by_cases c14 : w = (14 : Int32)
      · refine am_tsw1 (j := 14) rfl c14 (by decide +kernel) rfl rfl ?_
        exact lw_c14 (hs.2.2.2.2.2.2.2.2.2.2.2.2.2.2.1) hi K g hI
      by_cases c15 : w = (15 : Int32)
      · refine am_tsw1 (j := 15) rfl c15 (by decide +kernel) rfl rfl ?_
        exact lw_c15 (hs.2.2.2.2.2.2.2.2.2.2.2.2.2.2.2.1) hi K g hI
      by_cases c16 : w = (16 : Int32)
      · refine am_tsw1 (j := 16) rfl c16 (by decide +kernel) rfl rfl ?_
        exact lw_c16 (hs.2.2.2.2.2.2.2.2.2.2.2.2.2.2.2.2.1) hi K g hI
      by_cases c17 : w = (17 : Int32)
      · refine am_tsw1 (j := 17) rfl c17 (by decide +kernel) rfl rfl ?_
        exact lw_c17 (hs.2.2.2.2.2.2.2.2.2.2.2.2.2.2.2.2.2.1) hi K g hI
      by_cases c18 : w = (18 : Int32)
      · refine am_tsw1 (j := 18) rfl c18 (by decide +kernel) rfl rfl ?_
        exact lw_c18 (hs.2.2.2.2.2.2.2.2.2.2.2.2.2.2.2.2.2.2.1) hi K g hI
      by_cases c19 : w = (19 : Int32)
      · refine am_tsw1 (j := 19) rfl c19 (by decide +kernel) rfl rfl ?_
        exact lw_c19 (hs.2.2.2.2.2.2.2.2.2.2.2.2.2.2.2.2.2.2.2.1) hi K g hI
      by_cases c20 : w = (20 : Int32)
      · refine am_tsw1 (j := 20) rfl c20 (by decide +kernel) rfl rfl ?_
        exact lw_c20 (hs.2.2.2.2.2.2.2.2.2.2.2.2.2.2.2.2.2.2.2.2.1) hi K g hI
      by_cases c21 : w = (21 : Int32)
      · refine am_tsw1 (j := 21) rfl c21 (by decide +kernel) rfl rfl ?_
        exact lw_c21 (hs.2.2.2.2.2.2.2.2.2.2.2.2.2.2.2.2.2.2.2.2.2.1) hi K g hI
      by_cases c22 : w = (22 : Int32)
      · refine am_tsw1 (j := 22) rfl c22 (by decide +kernel) rfl rfl ?_
        exact lw_c22 (hs.2.2.2.2.2.2.2.2.2.2.2.2.2.2.2.2.2.2.2.2.2.2.1) hi K g hI
      by_cases c23 : w = (23 : Int32)
      · refine am_tsw1 (j := 23) rfl c23 (by decide +kernel) rfl rfl ?_
        exact lw_c23 (hs.2.2.2.2.2.2.2.2.2.2.2.2.2.2.2.2.2.2.2.2.2.2.2.1) hi K g hI
      by_cases c24 : w = (24 : Int32)
      · refine am_tsw1 (j := 24) rfl c24 (by decide +kernel) rfl rfl ?_
        exact lw_c24 (hs.2.2.2.2.2.2.2.2.2.2.2.2.2.2.2.2.2.2.2.2.2.2.2.2.1) hi K g hI
      by_cases c25 : w = (25 : Int32)
      · refine am_tsw1 (j := 25) rfl c25 (by decide +kernel) rfl rfl ?_
        exact lw_c25 (hs.2.2.2.2.2.2.2.2.2.2.2.2.2.2.2.2.2.2.2.2.2.2.2.2.2.1) hi K g hI
      by_cases c26 : w = (26 : Int32)
      · refine am_tsw1 (j := 26) rfl c26 (by decide +kernel) rfl rfl ?_
        exact lw_c26 (hs.2.2.2.2.2.2.2.2.2.2.2.2.2.2.2.2.2.2.2.2.2.2.2.2.2.2.1) hi K g hI
      by_cases c27 : w = (27 : Int32)
      · refine am_tsw1 (j := 27) rfl c27 (by decide +kernel) rfl rfl ?_
        exact lw_c27 (hs.2.2.2.2.2.2.2.2.2.2.2.2.2.2.2.2.2.2.2.2.2.2.2.2.2.2.2.1) hi K g hI
      by_cases c28 : w = (28 : Int32)
      · refine am_tsw1 (j := 28) rfl c28 (by decide +kernel) rfl rfl ?_
        exact lw_c28 (hs.2.2.2.2.2.2.2.2.2.2.2.2.2.2.2.2.2.2.2.2.2.2.2.2.2.2.2.2.1) hi K g hI
      by_cases c29 : w = (29 : Int32)
      · refine am_tsw1 (j := 29) rfl c29 (by decide +kernel) rfl rfl ?_
        exact lw_c29 (hs.2.2.2.2.2.2.2.2.2.2.2.2.2.2.2.2.2.2.2.2.2.2.2.2.2.2.2.2.2.1) hi K g hI
      by_cases c30 : w = (30 : Int32)
      · refine am_tsw1 (j := 30) rfl c30 (by decide +kernel) rfl rfl ?_
        exact lw_c30 (hs.2.2.2.2.2.2.2.2.2.2.2.2.2.2.2.2.2.2.2.2.2.2.2.2.2.2.2.2.2.2.1) hi K g hI
      by_cases c31 : w = (31 : Int32)
      · refine am_tsw1 (j := 31) rfl c31 (by decide +kernel) rfl rfl ?_
        exact lw_c31 (hs.2.2.2.2.2.2.2.2.2.2.2.2.2.2.2.2.2.2.2.2.2.2.2.2.2.2.2.2.2.2.2.1) hi K g hI
      by_cases c32 : w = (32 : Int32)
      · refine am_tsw1 (j := 32) rfl c32 (by decide +kernel) rfl rfl ?_
        exact lw_c32 (hs.2.2.2.2.2.2.2.2.2.2.2.2.2.2.2.2.2.2.2.2.2.2.2.2.2.2.2.2.2.2.2.2.1) hi K g hI
      by_cases c33 : w = (33 : Int32)
      · refine am_tsw1 (j := 33) rfl c33 (by decide +kernel) rfl rfl ?_
        exact lw_c33 (hs.2.2.2.2.2.2.2.2.2.2.2.2.2.2.2.2.2.2.2.2.2.2.2.2.2.2.2.2.2.2.2.2.2) hi K g hI
      refine am_tswD rfl rfl (am_out (lo := 0) 34 (And.intro c33 (And.intro c32 (And.intro c31 (And.intro c30 (And.intro c29 (And.intro c28 (And.intro c27 (And.intro c26 (And.intro c25 (And.intro c24 (And.intro c23 (And.intro c22 (And.intro c21 (And.intro c20 (And.intro c19 (And.intro c18 (And.intro c17 (And.intro c16 (And.intro c15 (And.intro c14 (And.intro c13 (And.intro c12 (And.intro c11 (And.intro c10 (And.intro c9 (And.intro c8 (And.intro c7 (And.intro c6 (And.intro c5 (And.intro c4 (And.intro c3 (And.intro c2 (And.intro c1 (And.intro c0 trivial))))))))))))))))))))))))))))))))))) ?_
      exact K g hI
theorem lw_arrK {args : Array Value} {s : State} {ty : FieldType} (h : (Cond.arrayClass ty).before args s = true) (hp : ∀ C, ty ≠ .object C) : ∃ cA : ClassId, ArrOfT s cA ty ∧ va_RA s cA ty := by
  obtain ⟨cA, kA, comp, h1, h2, h3⟩ := Cond.arrayClass_spec h
  refine ⟨cA, fun n z => ⟨fun k h => (by cases h), kA, h2, comp, h3⟩, ?_⟩
  cases ty with
  | object C => exact absurd rfl (hp C)
  | _ => exact h1
theorem lw_arrQ {args : Array Value} {s : State} {C : String} (h : (Cond.arrayOver (.object C)).before args s = true) : ∃ cA : ClassId, ArrOfT s cA (.object C) ∧ va_RA s cA (.object C) := by
  obtain ⟨comp, cA, kA, h1, -, h3, h4, h5⟩ := Cond.arrayOver_spec h
  exact ⟨cA, fun n z => ⟨fun k h => (by cases h), kA, h3, comp, h4⟩, kA, comp, h3, h4, h1, h5⟩
set_option maxHeartbeats 4000000 in
set_option maxRecDepth 100000 in
/-- THE LAW, from its entry, over an invariant that all calls keep -/
theorem whole_open {Inv : G → Prop} (hI0 : Inv g0) (hs : LawSteps Inv) {p : Program} {e : Env} {s : State} {m : MethodId} {below : List Frame} {meth : Method} {c : Code} (l : Launch) {Q : State → Prop} {b L : Nat} {xs : Nat → Int32} (hL : L ≤ 3584)
    (hx : p.tables.exec = Jvm.exec) (hb : c.code = code) (hr : meth.sig.returnType = ret) (hml : c.maxLocals = 4) (hown : s.vm.findClass RL = some m.cls) (hts : ∀ w ∈ lw_tbl, w.before #[Value.ref b] s = true) (hX : va_X b L xs s s.heap) (hbl : b < s.heap.size) (hlocks : meth.locks = false)
    (hend : ∀ (pc : Nat) (H : Heap) (ls : Array Slot), decode code pc = .ok (.ireturn, 1) → W p l e room_1 s m #[Value.ref b] below meth c H [] 600000 7302250 Q (F0 m pc ls [.int 1])) :
    W p l e room_1 s m #[Value.ref b] below meth c s.heap [] 0 0 Q (entryFrame m ([Value.ref b] : List Value).toArray 4) := by
  have htb : ∀ w ∈ am_tb, w.before #[Value.ref b] s = true := fun w hw => hts w (List.mem_filter.mp hw).1
  obtain ⟨c0, iS0, hk0⟩ := u_known (C := RX0) (T := TX0) (N := 13) (n := 13) htb am_in0 (htb _ in_0)
  obtain ⟨c1, iS1, hk1⟩ := u_known (C := RX1) (T := TX1) (N := 3) (n := 3) htb am_in1 (htb _ in_1)
  obtain ⟨c2, iS2, hk2⟩ := u_known (C := RX2) (T := TX2) (N := 3) (n := 3) htb am_in2 (htb _ in_2)
  obtain ⟨c3, iS3, hk3⟩ := u_known (C := RX3) (T := TX3) (N := 1) (n := 1) htb am_in3 (htb _ in_3)
  obtain ⟨c4, iS4, hk4⟩ := u_known (C := RX4) (T := TX4) (N := 4) (n := 4) htb am_in4 (htb _ in_4)
  obtain ⟨c5, iS5, hk5⟩ := u_known (C := RX5) (T := TX5) (N := 5) (n := 5) htb am_in5 (htb _ in_5)
  obtain ⟨c6, iS6, hk6⟩ := u_known (C := RX6) (T := TX6) (N := 11) (n := 11) htb am_in6 (htb _ in_6)
  obtain ⟨c7, iS7, hk7⟩ := u_known (C := RX7) (T := TX7) (N := 17) (n := 17) htb am_in7 (htb _ in_7)
  obtain ⟨c8, iS8, hk8⟩ := u_known (C := RX8) (T := TX8) (N := 15) (n := 15) htb am_in8 (htb _ in_8)
  obtain ⟨c9, iS9, hk9⟩ := u_known (C := RX9) (T := TX9) (N := 43) (n := 43) htb am_in9 (htb _ in_9)
  obtain ⟨a0, ha0⟩ := lw_arrK (htb _ ar_int) (fun C h => by cases h)
  obtain ⟨a1, ha1⟩ := lw_arrK (htb _ ar_boolean) (fun C h => by cases h)
  obtain ⟨a2, ha2⟩ := lw_arrQ (C := RX7) (hts (Cond.arrayOver (.object RX7)) (List.mem_of_getElem? (i := 135) (by decide +kernel)))
  have hK : am_K (fun k => if k = 0 then c0 else if k = 1 then c1 else if k = 2 then c2 else if k = 3 then c3 else if k = 4 then c4 else if k = 5 then c5 else if k = 6 then c6 else if k = 7 then c7 else if k = 8 then c8 else c9, fun k => if k = 0 then iS0 else if k = 1 then iS1 else if k = 2 then iS2 else if k = 3 then iS3 else if k = 4 then iS4 else if k = 5 then iS5 else if k = 6 then iS6 else if k = 7 then iS7 else if k = 8 then iS8 else iS9) (fun k => if k = 0 then a0 else if k = 1 then a1 else a2) s := by
    refine ⟨⟨?_, ?_⟩, ?_⟩
    · intro k q hq
      match k, hq with
      | 0, hq => cases hq; exact hk0
      | 1, hq => cases hq; exact hk1
      | 2, hq => cases hq; exact hk2
      | 3, hq => cases hq; exact hk3
      | 4, hq => cases hq; exact hk4
      | 5, hq => cases hq; exact hk5
      | 6, hq => cases hq; exact hk6
      | 7, hq => cases hq; exact hk7
      | 8, hq => cases hq; exact hk8
      | 9, hq => cases hq; exact hk9
      | k + 10, hq => simp [am_cl] at hq
    · intro k q hq
      match k, hq with
      | 0, hq => cases hq; exact ha0
      | 1, hq => cases hq; exact ha1
      | 2, hq => cases hq; exact ha2
      | k + 3, hq => simp at hq
    · intro w hw
      simp only [am_nw, List.mem_cons, List.not_mem_nil, or_false] at hw
      rcases hw with rfl | rfl | rfl | rfl | rfl | rfl | rfl | rfl | rfl
      · exact va_Nw.of rfl (hts _ (List.mem_of_getElem? (i := 92) (by decide +kernel)))
      · exact va_Nw.of rfl (hts _ (List.mem_of_getElem? (i := 112) (by decide +kernel)))
      · exact va_Nw.of rfl (hts _ (List.mem_of_getElem? (i := 138) (by decide +kernel)))
      · exact va_Nw.of rfl (hts _ (List.mem_of_getElem? (i := 182) (by decide +kernel)))
      · exact va_Nw.of rfl (hts _ (List.mem_of_getElem? (i := 229) (by decide +kernel)))
      · exact va_Nw.of rfl (hts _ (List.mem_of_getElem? (i := 240) (by decide +kernel)))
      · exact va_Nw.of rfl (hts _ (List.mem_of_getElem? (i := 259) (by decide +kernel)))
      · exact va_Nw.of rfl (hts _ (List.mem_of_getElem? (i := 281) (by decide +kernel)))
      · exact va_AO.of (hts _ (List.mem_of_getElem? (i := 135) (by decide +kernel)))
  have V : am_V (m_lw meth.name) (L, xs) 64 185 11339 0 0 (fun r _ => r = 1) 0 [some (.float 0), none, none, none] [] (Sn 0 0 []) := by
    refine am_new (fs := [.null, .null, .null, .null, .null, .null, .null, .null, .null, .null, .null, .int (0 : Int32), .int (0 : Int32), .int (0 : Int32), .int (0 : Int32)]) rfl q_10_7 in_8 ini_8 (fun _ _ => df_8) rfl ⟨Nat.le_of_ble_eq_true rfl, Nat.le_of_ble_eq_true rfl⟩ ?_
    refine am_eqh (h' := Sn 1 15 ((0, .inr (8, [.null, .null, .null, .null, .null, .null, .null, .null, .null, .null, .null, .int (0 : Int32), .int (0 : Int32), .int (0 : Int32), .int (0 : Int32)])) :: [])) Sn_n ?_
    refine am_dup rfl rfl ?_
    refine am_callI (As := []) (mc' := 158) (ms' := 4977) i_10_9 rfl rfl rfl (d' := 2) (Nat.le_of_ble_eq_true rfl) (fun _ _ => Nat.le_of_ble_eq_true rfl) ⟨Nat.le_of_ble_eq_true rfl, Nat.le_of_ble_eq_true rfl⟩ (z_X8_init_0 [] (fun _ _ => rfl) ?_)
    refine am_astore_n rfl (Nat.le_of_ble_eq_true rfl) ?_
    refine am_new (fs := (Value.int (0 : Int32) :: Value.null :: Value.int (0 : Int32) :: Value.int (0 : Int32) :: Value.null :: Value.null :: Value.null :: Value.null :: Value.int (0 : Int32) :: Value.null :: Value.int (0 : Int32) :: Value.int (0 : Int32) :: Value.null :: Value.null :: Value.null :: Value.null :: Value.int (0 : Int32) :: Value.null :: Value.null :: Value.null :: Value.null :: Value.int (0 : Int32) :: Value.int (0 : Int32) :: Value.int (0 : Int32) :: Value.int (0 : Int32) :: Value.int (0 : Int32) :: Value.null :: Value.null :: Value.null :: Value.null :: Value.int (0 : Int32) :: Value.int (0 : Int32) :: Value.int (0 : Int32) :: Value.int (0 : Int32) :: Value.int (0 : Int32) :: Value.null :: Value.null :: Value.null :: Value.null :: Value.null :: Value.null :: Value.null :: Value.int (0 : Int32) :: [])) rfl q_10_10 in_9 ini_9 (fun _ _ => df_9) rfl ⟨Nat.le_of_ble_eq_true rfl, Nat.le_of_ble_eq_true rfl⟩ ?_
    refine am_eqh (h' := Sn 160 5035 ((159, .inr (9, (Value.int (0 : Int32) :: Value.null :: Value.int (0 : Int32) :: Value.int (0 : Int32) :: Value.null :: Value.null :: Value.null :: Value.null :: Value.int (0 : Int32) :: Value.null :: Value.int (0 : Int32) :: Value.int (0 : Int32) :: Value.null :: Value.null :: Value.null :: Value.null :: Value.int (0 : Int32) :: Value.null :: Value.null :: Value.null :: Value.null :: Value.int (0 : Int32) :: Value.int (0 : Int32) :: Value.int (0 : Int32) :: Value.int (0 : Int32) :: Value.int (0 : Int32) :: Value.null :: Value.null :: Value.null :: Value.null :: Value.int (0 : Int32) :: Value.int (0 : Int32) :: Value.int (0 : Int32) :: Value.int (0 : Int32) :: Value.int (0 : Int32) :: Value.null :: Value.null :: Value.null :: Value.null :: Value.null :: Value.null :: Value.null :: Value.int (0 : Int32) :: []))) :: [])) Sn_n ?_
    refine am_dup rfl rfl ?_
    refine am_callI (As := []) (mc' := 25) (ms' := 6304) i_10_12 rfl rfl rfl (d' := 1) (Nat.le_of_ble_eq_true rfl) (fun _ _ => Nat.le_of_ble_eq_true rfl) ⟨Nat.le_of_ble_eq_true rfl, Nat.le_of_ble_eq_true rfl⟩ (z_X9_init_159 [] (fun _ _ => rfl) ?_)
    refine am_astore_n rfl (Nat.le_of_ble_eq_true rfl) ?_
    refine x_iconst (v := (0 : Int32)) rfl (by decide) ?_
    refine am_istore_n rfl (Nat.le_of_ble_eq_true rfl) ?_
    exact lw_loop hs hL (fun _ => rfl) (L + 1) 0 g0 (by omega) (by omega) hI0
  rw [lg_entry_eq]
  have hl := lv_entry ([.ref b]) (n := 4) (Nat.le_of_ble_eq_true rfl)
  refine V p l e room_1 s m #[Value.ref b] below meth c _ _ s.heap.size b s.heap [] _ 0 0 _ ⟨⟨ok_lw _, hx, hb, hr, hml, hown, hlocks, rfl, htb⟩, ⟨Nat.le_of_ble_eq_true rfl, Nat.le_of_ble_eq_true rfl, Nat.le_of_ble_eq_true rfl, Nat.le_of_ble_eq_true rfl⟩, hK, fun _ => ⟨hX, hbl, hbl⟩, ⟨Nat.le_refl _, rfl⟩, ⟨rfl, fun k hk => absurd hk (Nat.not_lt_zero k)⟩, va_S.rf, ⟨hl.1, hl.2.1, fun i v hi => ?_⟩, rfl, rfl, Nat.zero_le _, Nat.zero_le _⟩ ?_
  · match i, hi with
    | 0, hi => cases hi; exact ⟨rfl, hl.2.2 (0, .ref b) (by simp [lv_args])⟩
    | 1, hi => cases hi
    | 2, hi => cases hi
    | 3, hi => cases hi
    | i + 4, hi => simp at hi
  · intro r h pc H locs ls cells slots hd hp hn hz e1 e2 _ hP hS
    have hp : r = 1 := hp
    subst hp
    refine va_forget (fun q hq => hS.2.2 q hq) ?_
    refine W.widen (k := 600000) (n := 7302250) (by subst e1; decide) (by subst e2; decide) ?_
    exact hend pc H ls hd
