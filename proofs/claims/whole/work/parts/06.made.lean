/-! New cells, stores of references, arraycopy, the script. -/
section AMN
variable {M : am_M} {sc : Nat × (Nat → Int32)} {d mc ms n0 z0 : Nat} {post : Int32 → am_H → Prop} {pc nx : Nat} {L : List (Option Value)} {st : List Value} {h : am_H}
theorem am_Re.new {p : Program} {R : Room} {s : State} {m : MethodId} {args : Array Value} {meth : Method} {c : Code} {D : va_G} {cA : Nat → ClassId} {b bs : Nat} {H H1 : Heap} {locs : List Loc} {ls : Array Slot} {cells slots w : Nat} {e : va_E}
    (Re : am_Re M sc d mc ms n0 z0 p R s m args meth c D cA b bs H locs ls cells slots L h) (he : va_at D am_cl (H.size, am_e b bs cA e) H1) (z : H1.size = H.size + 1) (oq : ∀ q : Nat, q < H.size → H1[q]? = H[q]?) (hb : h.2.1 + 1 ≤ n0 + mc ∧ h.2.2 + w ≤ z0 + ms) :
    am_Re M sc d mc ms n0 z0 p R s m args meth c D cA b bs H1 locs ls (cells + 1) (slots + w) L (am_n h e w) := by
  obtain ⟨r1, r2, r3, r4, r5, r6, r7, r8, r9, r10, r11, r12⟩ := Re
  refine ⟨r1, r2, r3, r4, r5, r6.new he z oq, ⟨Nat.le_trans r7.1 (by omega), fun q g1 g2 => (oq q (Nat.lt_of_lt_of_le g1 r7.1)).trans (r7.2.1 q g1 g2), r7.2.2⟩, r8, ?_, ?_, hb.1, hb.2⟩
  · show cells + 1 + n0 = h.2.1 + 1
    omega
  · show slots + w + z0 = h.2.2 + w
    omega
theorem am_new {ci i N : Nat} {C : String} {T : u_T} {fs : List Value} (hcl : am_cl[ci]? = some (C, T, N)) (hlk : Cond.classLink (am_R M.2.2.2.2.1) i C ∈ am_tb) (hins : Cond.instantiable C N ∈ am_tb) (hini : Cond.initialized C ∈ am_tb) (hfs : ∀ b bs j, j < N → defaultValue (am_ty ci j) = vp_V (fs.map (am_v b bs)) j) (hc : M.2.2.2.2.2 pc = some (.new i, 3, nx, [])) (hb : h.2.1 + 1 ≤ n0 + mc ∧ h.2.2 + N ≤ z0 + ms) (k : am_V M sc d mc ms n0 z0 post nx L (.ref h.2.1 :: st) (am_n h (.inr (ci, fs)) N)) : am_V M sc d mc ms n0 z0 post pc L st h := by
  intro p l e R s m args below meth c D cA b bs H locs ls cells slots Q Re En
  obtain ⟨h1, h2, h3⟩ := Re.1.1 pc _ hc
  have h2 : nx = pc + 3 := h2
  subst h2
  have hts := Re.1.2.2.2.2.2.2.2.2
  have hKn := Re.2.2.1.1.1 ci _ hcl
  obtain ⟨hin, hty, hnm, -⟩ := am_cf hcl
  refine W.newcK Re.1.2.1 Re.1.2.2.1 Re.1.2.2.2.2.2.1 (hts _ hlk) (hts _ hins) (hts _ hini) rfl h1 (by have := Re.2.1.2.2.1; have := Re.2.2.2.2.2.2.2.2.1; have := hb.1; omega) (by have := Re.2.1.2.2.2; have := Re.2.2.2.2.2.2.2.2.2.1; have := hb.2; omega) hKn.2.1 rfl fun H1 kC hkC e1 z1 o1 => ?_
  have g := k p l e R s m args below meth c D cA b bs H1 locs ls _ _ Q (Re.new ⟨_, hcl, (u_born (am_ty ci) hts hin hKn hkC e1 hty).to (hfs b bs)⟩ z1 o1 hb) En
  have e2 : H.size = b + h.2.1 := Re.2.2.2.2.2.1.1
  rw [e2]
  exact g
theorem am_newI {x : Int32} {N : Nat} (harr : Cond.arrayClass .int ∈ am_tb) (hx : ¬ x < 0) (hN : x.toNatClampNeg = N) (hN2 : N ≤ 100000) (hc : M.2.2.2.2.2 pc = some (.newarray .int, 2, nx, [])) (hb : h.2.1 + 1 ≤ n0 + mc ∧ h.2.2 + N ≤ z0 + ms) (k : am_V M sc d mc ms n0 z0 post nx L (.ref h.2.1 :: st) (am_n h (.inl (0, N, .inl (fun _ => 0))) N)) : am_V M sc d mc ms n0 z0 post pc L (.int x :: st) h := by
  intro p l e R s m args below meth c D cA b bs H locs ls cells slots Q Re En
  obtain ⟨h1, h2, h3⟩ := Re.1.1 pc _ hc
  have h2 : nx = pc + 2 := h2
  subst h2
  have hts := Re.1.2.2.2.2.2.2.2.2
  refine va_newaK Re.1.2.1 Re.1.2.2.1 (atype := .int) (hts _ harr) rfl h1 rfl hx hN (by show N * 4 ≤ 536870912; omega) (by have := Re.2.1.2.2.1; have := Re.2.2.2.2.2.2.2.2.1; have := hb.1; omega) (by have := Re.2.1.2.2.2; have := Re.2.2.2.2.2.2.2.2.2.1; have := hb.2; omega) rfl fun H1 cA1 e1 z1 o1 hAr hNm => ?_
  have hcA : s.vm.findClass ("[" ++ FieldType.int.toString) = some (cA 0) := (Re.2.2.1.1.2 0 _ rfl).2
  have e3 : cA1 = cA 0 := Option.some.inj (hNm.symm.trans hcA)
  subst e3
  have g := k p l e R s m args below meth c D cA b bs H1 locs ls _ _ Q (Re.new (show H1[H.size]? = some (vp_cell (cA 0) (N, .inl (fun _ => 0))) from e1) z1 o1 hb) En
  have e2 : H.size = b + h.2.1 := Re.2.2.2.2.2.1.1
  rw [e2]
  exact g
theorem am_newZ {x : Int32} {N : Nat} (harr : Cond.arrayClass .boolean ∈ am_tb) (hx : ¬ x < 0) (hN : x.toNatClampNeg = N) (hN2 : N ≤ 100000) (hc : M.2.2.2.2.2 pc = some (.newarray .boolean, 2, nx, [])) (hb : h.2.1 + 1 ≤ n0 + mc ∧ h.2.2 + N ≤ z0 + ms) (k : am_V M sc d mc ms n0 z0 post nx L (.ref h.2.1 :: st) (am_n h (.inl (1, N, .inl (fun _ => 0))) N)) : am_V M sc d mc ms n0 z0 post pc L (.int x :: st) h := by
  intro p l e R s m args below meth c D cA b bs H locs ls cells slots Q Re En
  obtain ⟨h1, h2, h3⟩ := Re.1.1 pc _ hc
  have h2 : nx = pc + 2 := h2
  subst h2
  have hts := Re.1.2.2.2.2.2.2.2.2
  refine va_newaK Re.1.2.1 Re.1.2.2.1 (atype := .boolean) (hts _ harr) rfl h1 rfl hx hN (by show N * 1 ≤ 536870912; omega) (by have := Re.2.1.2.2.1; have := Re.2.2.2.2.2.2.2.2.1; have := hb.1; omega) (by have := Re.2.1.2.2.2; have := Re.2.2.2.2.2.2.2.2.2.1; have := hb.2; omega) rfl fun H1 cA1 e1 z1 o1 hAr hNm => ?_
  have hcA : s.vm.findClass ("[" ++ FieldType.boolean.toString) = some (cA 1) := (Re.2.2.1.1.2 1 _ rfl).2
  have e3 : cA1 = cA 1 := Option.some.inj (hNm.symm.trans hcA)
  subst e3
  have g := k p l e R s m args below meth c D cA b bs H1 locs ls _ _ Q (Re.new (show H1[H.size]? = some (vp_cell (cA 1) (N, .inl (fun _ => 0))) from e1) z1 o1 hb) En
  have e2 : H.size = b + h.2.1 := Re.2.2.2.2.2.1.1
  rw [e2]
  exact g
theorem am_newQ {x : Int32} {i N : Nat} (hlk : Cond.classLink (am_R M.2.2.2.2.1) i RX7 ∈ am_tb) (hx : ¬ x < 0) (hN : x.toNatClampNeg = N) (hN2 : N ≤ 100000) (hc : M.2.2.2.2.2 pc = some (.anewarray i, 3, nx, [])) (hb : h.2.1 + 1 ≤ n0 + mc ∧ h.2.2 + N ≤ z0 + ms) (k : am_V M sc d mc ms n0 z0 post nx L (.ref h.2.1 :: st) (am_n h (.inl (2, N, .inr (.inr (.inr (.inr (fun _ => none)))))) N)) : am_V M sc d mc ms n0 z0 post pc L (.int x :: st) h := by
  intro p l e R s m args below meth c D cA b bs H locs ls cells slots Q Re En
  obtain ⟨h1, h2, h3⟩ := Re.1.1 pc _ hc
  have h2 : nx = pc + 3 := h2
  subst h2
  subst hN
  have hts := Re.1.2.2.2.2.2.2.2.2
  have hao : va_AO RX7 s := Re.2.2.1.2 (Cond.arrayOver (.object RX7)) (by simp [am_nw])
  refine W.anew Re.1.2.1 Re.1.2.2.1 Re.1.2.2.2.2.2.1 (hts _ hlk) (va_AO.use hao) rfl h1 rfl hx (by omega) (by have := Re.2.1.2.2.1; have := Re.2.2.2.2.2.2.2.2.1; have := hb.1; omega) (by have := Re.2.1.2.2.2; have := Re.2.2.2.2.2.2.2.2.2.1; have := hb.2; omega) fun cA1 kA comp f1 f2 f3 f4 => ?_
  obtain ⟨-, -, -, -, -, hcA⟩ := (Re.2.2.1.1.2 2 _ rfl).2
  have e3 : cA1 = cA 2 := Option.some.inj (f1.symm.trans hcA)
  subst e3
  generalize hH1 : H.push ({ cls := cA 2, slots := Array.replicate x.toNatClampNeg .null, vm := .none } : Cell) = H1
  have z1 : H1.size = H.size + 1 := by rw [← hH1, Array.size_push]
  have e1 : H1[H.size]? = some (arrV (cA 2) x.toNatClampNeg (fun _ => .null)) := by rw [← hH1, Array.getElem?_push_size, ← arrV_new]
  have o1 : ∀ q : Nat, q < H.size → H1[q]? = H[q]? := fun q hq => by rw [← hH1, Array.getElem?_push, if_neg (Nat.ne_of_lt hq)]
  have g := k p l e R s m args below meth c D cA b bs H1 locs ls _ _ Q (Re.new (show H1[H.size]? = some (vp_cell (cA 2) (x.toNatClampNeg, .inr (.inr (.inr (.inr (fun _ => none)))))) from e1) z1 o1 hb) En
  have e2 : H.size = b + h.2.1 := Re.2.2.2.2.2.1.1
  rw [e2]
  exact g
theorem am_aast {a n v : Nat} {f : Nat → Option Nat} {vs : List Value} {i : Int32} (hc : M.2.2.2.2.2 pc = some (.aastore, 1, nx, [])) (ha : a < h.2.1) (he : h.1 a = .inl (2, n, .inr (.inr (.inr (.inr f))))) (hv : v < h.2.1) (hev : h.1 v = .inr (7, vs)) (hi : vp_in i n) (kk : am_V M sc d mc ms n0 z0 post nx L st (am_u h a (.inl (2, n, .inr (.inr (.inr (.inr (va_up f i.toNatClampNeg (some v))))))))) : am_V M sc d mc ms n0 z0 post pc L (.ref v :: .int i :: .ref a :: st) h := by
  intro p l e R s m args below meth c D cA b bs H locs ls cells slots Q Re En
  obtain ⟨h1, h2, h3⟩ := Re.1.1 pc _ hc
  have h2 : nx = pc + 1 := h2
  subst h2
  have hP := Re.2.2.2.2.2.1.2 a ha
  rw [he] at hP
  have hPv := Re.2.2.2.2.2.1.2 v hv
  rw [hev] at hPv
  have hK := Re.2.2.1.1
  have hlt : i.toNatClampNeg < n := Nat.not_le.mp fun q => hi (Or.inr q)
  have h0 : ¬ i < 0 := fun q => hi (Or.inl q)
  obtain ⟨r', hr', cellV, g1, g2, g3, -⟩ := hPv
  have hcls := (hK.1 7 (RX7, TX7, 17) rfl).2
  obtain ⟨kA, comp, k1, k2, k3, -⟩ := (hK.2 2 _ rfl).2
  have hcomp : comp = D.1 7 := Option.some.inj (k3.symm.trans hcls.1)
  subst hcomp
  obtain ⟨kC, hkC, -⟩ := hcls.2
  refine W.aast Re.1.2.1 Re.1.2.2.1 hP (fun q h => by cases h) (fun h => by cases h) k1 k2 rfl hkC ⟨h0, by show _ < (arrV (cA 2) n (fun j => va_rf ((f j).map (fun k => b + k)))).slots.size; rw [arrV_size]; exact hlt⟩ g1 (fun q h => by rw [g3] at h; cases h) (by rw [g2]; exact hkC) (by rw [g2]; exact va_assign hcls) rfl rfl h1 fun H1 e1 z oq => ?_
  refine kk p l e R s m args below meth c D cA b bs H1 _ ls cells slots Q (Re.put ?_ z oq) En
  show H1[b + a]? = some (vp_cell _ _)
  rw [e1]
  show some ((vp_cell (cA 2) (n, .inr (.inr (.inr (.inr (fun j => (f j).map (fun k => b + k))))))).setSlot _ _) = some (vp_cell (cA 2) (n, .inr (.inr (.inr (.inr (fun j => (va_up f i.toNatClampNeg (some v) j).map (fun k => b + k)))))))
  rw [vp_cell_q, vp_cell_q, arrV_store]
  congr 2
  funext q
  by_cases hq : q = i.toNatClampNeg
  · subst hq
    simp [updV, va_up, va_rf]
  · simp [updV, va_up, hq]
theorem am_copy {a0 a n0' n1 i : Nat} {f g : Nat → Int32} {sp dp n : Int32} (hlk : Cond.methodLink (am_R M.2.2.2.2.1) i arraycopyName ∈ am_tb) (hnat : Cond.native arraycopyName ∈ am_tb) (hsta : Cond.static arraycopyName ∈ am_tb) (hini : Cond.initialized "java/lang/System" ∈ am_tb) (hc : M.2.2.2.2.2 pc = some (.invokestatic i, 3, nx, [])) (ha0 : a0 < h.2.1) (he0 : h.1 a0 = .inl (0, n0', .inl f)) (ha : a < h.2.1) (he : h.1 a = .inl (0, n1, .inl g))
    (g1 : ¬ sp < 0) (g2 : ¬ dp < 0) (g3 : ¬ n < 0) (g4 : sp.toNatClampNeg + n.toNatClampNeg ≤ n0') (g5 : dp.toNatClampNeg + n.toNatClampNeg ≤ n1) (hd : 1 ≤ d) (hst : ∀ b bs, ((st.map (am_v b bs)).map (fun v => v.category)).sum ≤ 8) (kk : am_V M sc d mc ms n0 z0 post nx L st (am_u h a (.inl (0, n1, .inl (va_cpy f g sp.toNatClampNeg dp.toNatClampNeg n.toNatClampNeg))))) : am_V M sc d mc ms n0 z0 post pc L (.int n :: .int dp :: .ref a :: .int sp :: .ref a0 :: st) h := by
  intro p l e R s m args below meth c D cA b bs H locs ls cells slots Q Re En
  obtain ⟨h1, h2, h3⟩ := Re.1.1 pc _ hc
  have h2 : nx = pc + 3 := h2
  subst h2
  have hts := Re.1.2.2.2.2.2.2.2.2
  have nn : ∀ z : Int32, ¬ z < 0 → z.toInt = (z.toNatClampNeg : Int) := by
    intro z hz
    have hz0 : (0 : Int) ≤ z.toInt := by
      have := Int32.not_lt.mp hz
      simpa using Int32.le_iff_toInt_le.mp this
    show z.toInt = ((z.toInt.toNat : Nat) : Int)
    omega
  intro T hT X
  have hP0 := Re.2.2.2.2.2.1.2 a0 ha0
  rw [he0] at hP0
  have hP1 := Re.2.2.2.2.2.1.2 a ha
  rw [he] at hP1
  have hc0 : H[b + a0]? = some (vp_cell (cA 0) (n0', .inl f)) := hP0
  have hc1 : H[b + a]? = some (vp_cell (cA 0) (n1, .inl g)) := hP1
  have hK := Re.2.2.1.1
  obtain ⟨-, k0, hk0, cm0, hkk0⟩ := (hK.2 0 _ rfl).1 n0' (fun j => .int (f j))
  have hfr := Re.2.1.1
  have hlo := Re.2.1.2.1
  have hs8 := hst b bs
  obtain ⟨vm', X', step⟩ := X.arraycopy Re.1.2.1 Re.1.2.2.2.2.2.1 (hts _ hlk) (hts _ hnat) (hts _ hsta) (hts _ hini) (src := b + a0) (dst := b + a) (cs := vp_cell (cA 0) (n0', .inl f)) (cd := vp_cell (cA 0) (n1, .inl g)) (srcPos := sp) (destPos := dp) (n := n) (by rw [hT]; exact hc0) (by rw [hT]; exact hc1)
    (fun _ h => by cases h) (fun _ h => by cases h) (fun h => by cases h) (fun h => by cases h) hk0 hk0 hkk0 hkk0 (by simp [refKind]) g1 g2 g3
    (by rw [nn sp g1, nn n g3]; show ¬ _ > ((arrV (cA 0) n0' (fun j => .int (f j))).slots.size : Int); rw [arrV_size]; omega)
    (by rw [nn dp g2, nn n g3]; show ¬ _ > ((arrV (cA 0) n1 (fun j => .int (g j))).slots.size : Int); rw [arrV_size]; omega)
    (fun vm₁ _ i hi => by
      have e : (vp_cell (cA 0) (n0', .inl f)).slots.getD (sp.toNatClampNeg + i) .null = .int (f (sp.toNatClampNeg + i)) := by
        show (arrV (cA 0) n0' (fun j => .int (f j))).slots.getD _ _ = _
        rw [Array.getD_eq_getD_getElem?, arrV_read _ _ (by omega)]
        rfl
      refine ⟨?_, ?_⟩
      · rw [e]
        rfl
      · rw [e]
        exact trivial)
    (g := F0 m pc ls (.int n :: .int dp :: .ref (b + a) :: .int sp :: .ref (b + a0) :: st.map (am_v b bs))) rfl (by rw [Re.1.2.2.2.2.1]; exact Re.2.2.2.2.2.2.2.1.1) (rest := st.map (am_v b bs)) rfl (by rw [Re.1.2.2.1]; exact h1) (by omega) (by show 2 * 0 + _ + (7 + 11) ≤ _; omega)
  have e1 : copied (vp_cell (cA 0) (n0', .inl f)) (vp_cell (cA 0) (n1, .inl g)) sp dp n = vp_cell (cA 0) (n1, .inl (va_cpy f g sp.toNatClampNeg dp.toNatClampNeg n.toNatClampNeg)) := va_copied (fun z => .int z) (cA 0) (cA 0) f g g4
  rw [e1] at X' step
  have hl : b + a < H.size := (Array.getElem?_eq_some_iff.mp hc1).1
  have hheap : ((T.setVm vm').setCell (b + a) (vp_cell (cA 0) (n1, .inl (va_cpy f g sp.toNatClampNeg dp.toNatClampNeg n.toNatClampNeg)))).heap = H.setIfInBounds (b + a) (vp_cell (cA 0) (n1, .inl (va_cpy f g sp.toNatClampNeg dp.toNatClampNeg n.toNatClampNeg))) := by rw [← hT]; rfl
  have oq : ∀ q : Nat, q ≠ b + a → (H.setIfInBounds (b + a) (vp_cell (cA 0) (n1, .inl (va_cpy f g sp.toNatClampNeg dp.toNatClampNeg n.toNatClampNeg))))[q]? = H[q]? := fun q hq => by simp [Array.getElem?_setIfInBounds, Ne.symm hq]
  obtain ⟨r1, r2, r3, r4, r5, r6, r7, r8, r9⟩ := Re
  obtain ⟨t, a1, b1⟩ := kk p l e R s m args below meth c D cA b bs _ _ ls cells slots Q ⟨r1, r2, r3, r4, r5, r6.put (show (H.setIfInBounds (b + a) _)[b + a]? = some _ by simp [Array.getElem?_setIfInBounds, hl]; rfl) (by simp) oq, ⟨by simp; exact r7.1, fun q g1 g2 => by
      rw [oq q (fun e => g2 (by rw [e]; exact Nat.le_add_right b a))]
      exact r7.2.1 q g1 g2, fun q hq => by
      rcases List.mem_append.mp hq with h | h
      · exact r7.2.2 q h
      · obtain ⟨z, -, hz⟩ := List.mem_map.mp h
        rw [← hz]
        exact Nat.le_add_right b a⟩, r8, r9⟩ En _ hheap X'
  exact ⟨t, step t a1, b1⟩
theorem am_sld {x : UInt32} {i : Int32} (hown : M.2.2.2.2.1 = 10) (hc : M.2.2.2.2.2 pc = some (.iaload, 1, nx, [])) (hi : vp_in i sc.1) (kk : am_V M sc d mc ms n0 z0 post nx L (.int (sc.2 i.toNatClampNeg) :: st) h) : am_V M sc d mc ms n0 z0 post pc L (.int i :: .float x :: st) h := by
  intro p l e R s m args below meth c D cA b bs H locs ls cells slots Q Re En
  obtain ⟨h1, h2, h3⟩ := Re.1.1 pc _ hc
  have h2 : nx = pc + 1 := h2
  subst h2
  obtain ⟨hX, g1, g2⟩ := Re.2.2.2.1 hown
  exact va_sld Re.1.2.1 Re.1.2.2.1 hX g1 (A := fun q => b ≤ q) (Nat.not_le.mpr g2) Re.2.2.2.2.2.2.1 hi h1 (kk p l e R s m args below meth c D cA b bs H locs ls cells slots Q Re En)
theorem am_slen {x : UInt32} (hown : M.2.2.2.2.1 = 10) (hc : M.2.2.2.2.2 pc = some (.arraylength, 1, nx, [])) (kk : am_V M sc d mc ms n0 z0 post nx L (.int (nI sc.1) :: st) h) : am_V M sc d mc ms n0 z0 post pc L (.float x :: st) h := by
  intro p l e R s m args below meth c D cA b bs H locs ls cells slots Q Re En
  obtain ⟨h1, h2, h3⟩ := Re.1.1 pc _ hc
  have h2 : nx = pc + 1 := h2
  subst h2
  obtain ⟨hX, g1, g2⟩ := Re.2.2.2.1 hown
  exact va_slen Re.1.2.1 Re.1.2.2.1 hX g1 (A := fun q => b ≤ q) (Nat.not_le.mpr g2) Re.2.2.2.2.2.2.1 h1 (kk p l e R s m args below meth c D cA b bs H locs ls cells slots Q Re En)
end AMN
