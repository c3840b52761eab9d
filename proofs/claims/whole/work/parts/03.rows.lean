/-! The rows of the small machine: one an instruction; goal first. Written by gen/p03.py. -/
section AMV
variable {M : am_M} {sc : Nat × (Nat → Int32)} {d mc ms n0 z0 : Nat} {post : Int32 → am_H → Prop} {pc nx : Nat} {L : List (Option Value)} {st : List Value} {h : am_H}
theorem am_iconst {n : Int} (hc : M.2.2.2.2.2 pc = some (.iconst n, 1, nx, [])) (k : am_V M sc d mc ms n0 z0 post nx L (.int (Int32.ofInt n) :: st) h) : am_V M sc d mc ms n0 z0 post pc L (st) h := by
  intro p l e R s m args below meth c D cA b bs H locs ls cells slots Q Re En
  obtain ⟨h1, h2, h3⟩ := Re.1.1 pc _ hc
  have h2 : nx = pc + 1 := h2
  subst h2
  exact lv_iconst Re.1.2.1 Re.1.2.2.1 h1 rfl (k p l e R s m args below meth c D cA b bs H locs ls cells slots Q Re En)
theorem am_bipush {n : Int} (hc : M.2.2.2.2.2 pc = some (.bipush n, 2, nx, [])) (k : am_V M sc d mc ms n0 z0 post nx L (.int (Int8.ofInt n).toInt32 :: st) h) : am_V M sc d mc ms n0 z0 post pc L (st) h := by
  intro p l e R s m args below meth c D cA b bs H locs ls cells slots Q Re En
  obtain ⟨h1, h2, h3⟩ := Re.1.1 pc _ hc
  have h2 : nx = pc + 2 := h2
  subst h2
  exact lv_bipush Re.1.2.1 Re.1.2.2.1 h1 rfl (k p l e R s m args below meth c D cA b bs H locs ls cells slots Q Re En)
theorem am_sipush {n : Int} (hc : M.2.2.2.2.2 pc = some (.sipush n, 3, nx, [])) (k : am_V M sc d mc ms n0 z0 post nx L (.int (Int16.ofInt n).toInt32 :: st) h) : am_V M sc d mc ms n0 z0 post pc L (st) h := by
  intro p l e R s m args below meth c D cA b bs H locs ls cells slots Q Re En
  obtain ⟨h1, h2, h3⟩ := Re.1.1 pc _ hc
  have h2 : nx = pc + 3 := h2
  subst h2
  exact lv_sipush Re.1.2.1 Re.1.2.2.1 h1 rfl (k p l e R s m args below meth c D cA b bs H locs ls cells slots Q Re En)
theorem am_ldc {i : Nat} {v : Int32} (hw : Cond.constant (am_R M.2.2.2.2.1) i v ∈ am_tb) (hc : M.2.2.2.2.2 pc = some (.ldc i, 2, nx, [])) (k : am_V M sc d mc ms n0 z0 post nx L (.int v :: st) h) : am_V M sc d mc ms n0 z0 post pc L (st) h := by
  intro p l e R s m args below meth c D cA b bs H locs ls cells slots Q Re En
  obtain ⟨h1, h2, h3⟩ := Re.1.1 pc _ hc
  have h2 : nx = pc + 2 := h2
  subst h2
  exact lv_ldc Re.1.2.1 Re.1.2.2.1 Re.1.2.2.2.2.2.1 (Re.1.2.2.2.2.2.2.2.2 _ hw) h1 (k p l e R s m args below meth c D cA b bs H locs ls cells slots Q Re En)
theorem am_iload_n {i : Fin 4} {x : Int32} (hc : M.2.2.2.2.2 pc = some (.iload_n i, 1, nx, [])) (hl : L[(i : Nat)]? = some (some (.int x))) (k : am_V M sc d mc ms n0 z0 post nx L (.int x :: st) h) : am_V M sc d mc ms n0 z0 post pc L (st) h := by
  intro p l e R s m args below meth c D cA b bs H locs ls cells slots Q Re En
  obtain ⟨h1, h2, h3⟩ := Re.1.1 pc _ hc
  have h2 : nx = pc + 1 := h2
  subst h2
  exact lv_iload_n Re.1.2.1 Re.1.2.2.1 h1 rfl (Re.2.2.2.2.2.2.2.1.get hl) (k p l e R s m args below meth c D cA b bs H locs ls cells slots Q Re En)
theorem am_iload {i : Nat} {x : Int32} (hc : M.2.2.2.2.2 pc = some (.iload i, 2, nx, [])) (hl : L[i]? = some (some (.int x))) (k : am_V M sc d mc ms n0 z0 post nx L (.int x :: st) h) : am_V M sc d mc ms n0 z0 post pc L (st) h := by
  intro p l e R s m args below meth c D cA b bs H locs ls cells slots Q Re En
  obtain ⟨h1, h2, h3⟩ := Re.1.1 pc _ hc
  have h2 : nx = pc + 2 := h2
  subst h2
  exact lv_iload Re.1.2.1 Re.1.2.2.1 h1 (Re.2.2.2.2.2.2.2.1.get hl) (k p l e R s m args below meth c D cA b bs H locs ls cells slots Q Re En)
theorem am_aload_n {i : Fin 4} {x : Nat} (hc : M.2.2.2.2.2 pc = some (.aload_n i, 1, nx, [])) (hl : L[(i : Nat)]? = some (some (.ref x))) (k : am_V M sc d mc ms n0 z0 post nx L (.ref x :: st) h) : am_V M sc d mc ms n0 z0 post pc L (st) h := by
  intro p l e R s m args below meth c D cA b bs H locs ls cells slots Q Re En
  obtain ⟨h1, h2, h3⟩ := Re.1.1 pc _ hc
  have h2 : nx = pc + 1 := h2
  subst h2
  exact lv_aload_n Re.1.2.1 Re.1.2.2.1 h1 rfl (Re.2.2.2.2.2.2.2.1.get hl) (k p l e R s m args below meth c D cA b bs H locs ls cells slots Q Re En)
theorem am_aload {i : Nat} {x : Nat} (hc : M.2.2.2.2.2 pc = some (.aload i, 2, nx, [])) (hl : L[i]? = some (some (.ref x))) (k : am_V M sc d mc ms n0 z0 post nx L (.ref x :: st) h) : am_V M sc d mc ms n0 z0 post pc L (st) h := by
  intro p l e R s m args below meth c D cA b bs H locs ls cells slots Q Re En
  obtain ⟨h1, h2, h3⟩ := Re.1.1 pc _ hc
  have h2 : nx = pc + 2 := h2
  subst h2
  exact lv_aload Re.1.2.1 Re.1.2.2.1 h1 (Re.2.2.2.2.2.2.2.1.get hl) (k p l e R s m args below meth c D cA b bs H locs ls cells slots Q Re En)
theorem am_sload {i : Fin 4} {x : UInt32} (hc : M.2.2.2.2.2 pc = some (.aload_n i, 1, nx, [])) (hl : L[(i : Nat)]? = some (some (.float x))) (k : am_V M sc d mc ms n0 z0 post nx L (.float x :: st) h) : am_V M sc d mc ms n0 z0 post pc L (st) h := by
  intro p l e R s m args below meth c D cA b bs H locs ls cells slots Q Re En
  obtain ⟨h1, h2, h3⟩ := Re.1.1 pc _ hc
  have h2 : nx = pc + 1 := h2
  subst h2
  exact lv_aload_n Re.1.2.1 Re.1.2.2.1 h1 rfl (Re.2.2.2.2.2.2.2.1.get hl) (k p l e R s m args below meth c D cA b bs H locs ls cells slots Q Re En)
theorem am_istore_n {i : Fin 4} {x : Int32} (hc : M.2.2.2.2.2 pc = some (.istore_n i, 1, nx, [])) (hn : (i : Nat) < M.2.2.1) (k : am_V M sc d mc ms n0 z0 post nx (L.set (i : Nat) (some (.int x))) (st) h) : am_V M sc d mc ms n0 z0 post pc L (.int x :: st) h := by
  intro p l e R s m args below meth c D cA b bs H locs ls cells slots Q Re En
  obtain ⟨h1, h2, h3⟩ := Re.1.1 pc _ hc
  have h2 : nx = pc + 1 := h2
  subst h2
  obtain ⟨r1, r2, r3, r4, r5, r6, r7, r8, r9⟩ := Re
  exact lv_istore_n r1.2.1 r1.2.2.1 h1 rfl (am_L.has r8) hn rfl (fun ls2 h9 => k p l e R s m args below meth c D cA b bs H locs ls2 cells slots Q ⟨r1, r2, r3, r4, r5, r6, r7, am_L.set r8 rfl h9, r9⟩ En)
theorem am_istore {i : Nat} {x : Int32} (hc : M.2.2.2.2.2 pc = some (.istore i, 2, nx, [])) (hn : i < M.2.2.1) (k : am_V M sc d mc ms n0 z0 post nx (L.set i (some (.int x))) (st) h) : am_V M sc d mc ms n0 z0 post pc L (.int x :: st) h := by
  intro p l e R s m args below meth c D cA b bs H locs ls cells slots Q Re En
  obtain ⟨h1, h2, h3⟩ := Re.1.1 pc _ hc
  have h2 : nx = pc + 2 := h2
  subst h2
  obtain ⟨r1, r2, r3, r4, r5, r6, r7, r8, r9⟩ := Re
  exact lv_istore r1.2.1 r1.2.2.1 h1 (am_L.has r8) hn rfl (fun ls2 h9 => k p l e R s m args below meth c D cA b bs H locs ls2 cells slots Q ⟨r1, r2, r3, r4, r5, r6, r7, am_L.set r8 rfl h9, r9⟩ En)
theorem am_astore_n {i : Fin 4} {x : Nat} (hc : M.2.2.2.2.2 pc = some (.astore_n i, 1, nx, [])) (hn : (i : Nat) < M.2.2.1) (k : am_V M sc d mc ms n0 z0 post nx (L.set (i : Nat) (some (.ref x))) (st) h) : am_V M sc d mc ms n0 z0 post pc L (.ref x :: st) h := by
  intro p l e R s m args below meth c D cA b bs H locs ls cells slots Q Re En
  obtain ⟨h1, h2, h3⟩ := Re.1.1 pc _ hc
  have h2 : nx = pc + 1 := h2
  subst h2
  obtain ⟨r1, r2, r3, r4, r5, r6, r7, r8, r9⟩ := Re
  exact lv_astore_n r1.2.1 r1.2.2.1 h1 rfl (am_L.has r8) hn rfl (fun ls2 h9 => k p l e R s m args below meth c D cA b bs H locs ls2 cells slots Q ⟨r1, r2, r3, r4, r5, r6, r7, am_L.set r8 rfl h9, r9⟩ En)
theorem am_astore {i : Nat} {x : Nat} (hc : M.2.2.2.2.2 pc = some (.astore i, 2, nx, [])) (hn : i < M.2.2.1) (k : am_V M sc d mc ms n0 z0 post nx (L.set i (some (.ref x))) (st) h) : am_V M sc d mc ms n0 z0 post pc L (.ref x :: st) h := by
  intro p l e R s m args below meth c D cA b bs H locs ls cells slots Q Re En
  obtain ⟨h1, h2, h3⟩ := Re.1.1 pc _ hc
  have h2 : nx = pc + 2 := h2
  subst h2
  obtain ⟨r1, r2, r3, r4, r5, r6, r7, r8, r9⟩ := Re
  exact lv_astore r1.2.1 r1.2.2.1 h1 (am_L.has r8) hn rfl (fun ls2 h9 => k p l e R s m args below meth c D cA b bs H locs ls2 cells slots Q ⟨r1, r2, r3, r4, r5, r6, r7, am_L.set r8 rfl h9, r9⟩ En)
theorem am_iinc {i : Nat} {n : Int} {x : Int32} (hc : M.2.2.2.2.2 pc = some (.iinc i n, 3, nx, [])) (hl : L[i]? = some (some (.int x))) (hn : i < M.2.2.1) (k : am_V M sc d mc ms n0 z0 post nx (L.set i (some (.int (x + Int32.ofInt n)))) (st) h) : am_V M sc d mc ms n0 z0 post pc L (st) h := by
  intro p l e R s m args below meth c D cA b bs H locs ls cells slots Q Re En
  obtain ⟨h1, h2, h3⟩ := Re.1.1 pc _ hc
  have h2 : nx = pc + 3 := h2
  subst h2
  obtain ⟨r1, r2, r3, r4, r5, r6, r7, r8, r9⟩ := Re
  have hm : (i, Value.int x) ∈ am_l b bs 0 L := (am_l_mem L 0 _).mpr ⟨i, .int x, hl, by rw [Nat.zero_add]; rfl⟩
  obtain ⟨j, hj⟩ := List.getElem?_of_mem hm
  exact lv_iinc r1.2.1 r1.2.2.1 h1 (am_L.has r8) hj rfl hn rfl (fun ls2 h9 => k p l e R s m args below meth c D cA b bs H locs ls2 cells slots Q ⟨r1, r2, r3, r4, r5, r6, r7, am_L.set (v := .int (x + Int32.ofInt n)) r8 rfl h9, r9⟩ En)
theorem am_iadd {x y : Int32} (hc : M.2.2.2.2.2 pc = some (.iadd, 1, nx, [])) (k : am_V M sc d mc ms n0 z0 post nx L (.int (x + y) :: st) h) : am_V M sc d mc ms n0 z0 post pc L (.int y :: .int x :: st) h := by
  intro p l e R s m args below meth c D cA b bs H locs ls cells slots Q Re En
  obtain ⟨h1, h2, h3⟩ := Re.1.1 pc _ hc
  have h2 : nx = pc + 1 := h2
  subst h2
  exact lv_iadd Re.1.2.1 Re.1.2.2.1 h1 (k p l e R s m args below meth c D cA b bs H locs ls cells slots Q Re En)
theorem am_isub {x y : Int32} (hc : M.2.2.2.2.2 pc = some (.isub, 1, nx, [])) (k : am_V M sc d mc ms n0 z0 post nx L (.int (x - y) :: st) h) : am_V M sc d mc ms n0 z0 post pc L (.int y :: .int x :: st) h := by
  intro p l e R s m args below meth c D cA b bs H locs ls cells slots Q Re En
  obtain ⟨h1, h2, h3⟩ := Re.1.1 pc _ hc
  have h2 : nx = pc + 1 := h2
  subst h2
  exact lv_isub Re.1.2.1 Re.1.2.2.1 h1 (k p l e R s m args below meth c D cA b bs H locs ls cells slots Q Re En)
theorem am_imul {x y : Int32} (hc : M.2.2.2.2.2 pc = some (.imul, 1, nx, [])) (k : am_V M sc d mc ms n0 z0 post nx L (.int (x * y) :: st) h) : am_V M sc d mc ms n0 z0 post pc L (.int y :: .int x :: st) h := by
  intro p l e R s m args below meth c D cA b bs H locs ls cells slots Q Re En
  obtain ⟨h1, h2, h3⟩ := Re.1.1 pc _ hc
  have h2 : nx = pc + 1 := h2
  subst h2
  exact lv_imul Re.1.2.1 Re.1.2.2.1 h1 (k p l e R s m args below meth c D cA b bs H locs ls cells slots Q Re En)
theorem am_iand {x y : Int32} (hc : M.2.2.2.2.2 pc = some (.iand, 1, nx, [])) (k : am_V M sc d mc ms n0 z0 post nx L (.int (x &&& y) :: st) h) : am_V M sc d mc ms n0 z0 post pc L (.int y :: .int x :: st) h := by
  intro p l e R s m args below meth c D cA b bs H locs ls cells slots Q Re En
  obtain ⟨h1, h2, h3⟩ := Re.1.1 pc _ hc
  have h2 : nx = pc + 1 := h2
  subst h2
  exact lv_iand Re.1.2.1 Re.1.2.2.1 h1 (k p l e R s m args below meth c D cA b bs H locs ls cells slots Q Re En)
theorem am_ixor {x y : Int32} (hc : M.2.2.2.2.2 pc = some (.ixor, 1, nx, [])) (k : am_V M sc d mc ms n0 z0 post nx L (.int (x ^^^ y) :: st) h) : am_V M sc d mc ms n0 z0 post pc L (.int y :: .int x :: st) h := by
  intro p l e R s m args below meth c D cA b bs H locs ls cells slots Q Re En
  obtain ⟨h1, h2, h3⟩ := Re.1.1 pc _ hc
  have h2 : nx = pc + 1 := h2
  subst h2
  exact lv_ixor Re.1.2.1 Re.1.2.2.1 h1 (k p l e R s m args below meth c D cA b bs H locs ls cells slots Q Re En)
theorem am_ishl {x y : Int32} (hc : M.2.2.2.2.2 pc = some (.ishl, 1, nx, [])) (k : am_V M sc d mc ms n0 z0 post nx L (.int (x <<< (y &&& 31)) :: st) h) : am_V M sc d mc ms n0 z0 post pc L (.int y :: .int x :: st) h := by
  intro p l e R s m args below meth c D cA b bs H locs ls cells slots Q Re En
  obtain ⟨h1, h2, h3⟩ := Re.1.1 pc _ hc
  have h2 : nx = pc + 1 := h2
  subst h2
  exact lv_ishl Re.1.2.1 Re.1.2.2.1 h1 (k p l e R s m args below meth c D cA b bs H locs ls cells slots Q Re En)
theorem am_ishr {x y : Int32} (hc : M.2.2.2.2.2 pc = some (.ishr, 1, nx, [])) (k : am_V M sc d mc ms n0 z0 post nx L (.int (x >>> (y &&& 31)) :: st) h) : am_V M sc d mc ms n0 z0 post pc L (.int y :: .int x :: st) h := by
  intro p l e R s m args below meth c D cA b bs H locs ls cells slots Q Re En
  obtain ⟨h1, h2, h3⟩ := Re.1.1 pc _ hc
  have h2 : nx = pc + 1 := h2
  subst h2
  exact lv_ishr Re.1.2.1 Re.1.2.2.1 h1 (k p l e R s m args below meth c D cA b bs H locs ls cells slots Q Re En)
theorem am_idiv {x y : Int32} (hc : M.2.2.2.2.2 pc = some (.idiv, 1, nx, [])) (hz : ¬ y = 0) (k : am_V M sc d mc ms n0 z0 post nx L (.int (x / y) :: st) h) : am_V M sc d mc ms n0 z0 post pc L (.int y :: .int x :: st) h := by
  intro p l e R s m args below meth c D cA b bs H locs ls cells slots Q Re En
  obtain ⟨h1, h2, h3⟩ := Re.1.1 pc _ hc
  have h2 : nx = pc + 1 := h2
  subst h2
  exact lv_idiv Re.1.2.1 Re.1.2.2.1 h1 hz (k p l e R s m args below meth c D cA b bs H locs ls cells slots Q Re En)
theorem am_irem {x y : Int32} (hc : M.2.2.2.2.2 pc = some (.irem, 1, nx, [])) (hz : ¬ y = 0) (k : am_V M sc d mc ms n0 z0 post nx L (.int (x - x / y * y) :: st) h) : am_V M sc d mc ms n0 z0 post pc L (.int y :: .int x :: st) h := by
  intro p l e R s m args below meth c D cA b bs H locs ls cells slots Q Re En
  obtain ⟨h1, h2, h3⟩ := Re.1.1 pc _ hc
  have h2 : nx = pc + 1 := h2
  subst h2
  exact lv_irem Re.1.2.1 Re.1.2.2.1 h1 hz (k p l e R s m args below meth c D cA b bs H locs ls cells slots Q Re En)
theorem am_ineg {x : Int32} (hc : M.2.2.2.2.2 pc = some (.ineg, 1, nx, [])) (k : am_V M sc d mc ms n0 z0 post nx L (.int (-x) :: st) h) : am_V M sc d mc ms n0 z0 post pc L (.int x :: st) h := by
  intro p l e R s m args below meth c D cA b bs H locs ls cells slots Q Re En
  obtain ⟨h1, h2, h3⟩ := Re.1.1 pc _ hc
  have h2 : nx = pc + 1 := h2
  subst h2
  exact lv_ineg Re.1.2.1 Re.1.2.2.1 h1 (k p l e R s m args below meth c D cA b bs H locs ls cells slots Q Re En)
theorem am_dup {v : Value} (hc : M.2.2.2.2.2 pc = some (.dup, 1, nx, [])) (hv : v.category = 1) (k : am_V M sc d mc ms n0 z0 post nx L (v :: v :: st) h) : am_V M sc d mc ms n0 z0 post pc L (v :: st) h := by
  intro p l e R s m args below meth c D cA b bs H locs ls cells slots Q Re En
  obtain ⟨h1, h2, h3⟩ := Re.1.1 pc _ hc
  have h2 : nx = pc + 1 := h2
  subst h2
  exact lv_dup Re.1.2.1 Re.1.2.2.1 h1 (am_cat hv) (k p l e R s m args below meth c D cA b bs H locs ls cells slots Q Re En)
theorem am_pop {v : Value} (hc : M.2.2.2.2.2 pc = some (.pop, 1, nx, [])) (hv : v.category = 1) (k : am_V M sc d mc ms n0 z0 post nx L (st) h) : am_V M sc d mc ms n0 z0 post pc L (v :: st) h := by
  intro p l e R s m args below meth c D cA b bs H locs ls cells slots Q Re En
  obtain ⟨h1, h2, h3⟩ := Re.1.1 pc _ hc
  have h2 : nx = pc + 1 := h2
  subst h2
  exact lv_pop Re.1.2.1 Re.1.2.2.1 h1 (am_cat hv) (k p l e R s m args below meth c D cA b bs H locs ls cells slots Q Re En)
theorem am_dup2 {v w : Value} (hc : M.2.2.2.2.2 pc = some (.dup2, 1, nx, [])) (hv : v.category = 1) (hw : w.category = 1) (k : am_V M sc d mc ms n0 z0 post nx L (v :: w :: v :: w :: st) h) : am_V M sc d mc ms n0 z0 post pc L (v :: w :: st) h := by
  intro p l e R s m args below meth c D cA b bs H locs ls cells slots Q Re En
  obtain ⟨h1, h2, h3⟩ := Re.1.1 pc _ hc
  have h2 : nx = pc + 1 := h2
  subst h2
  exact lv_dup2_11 Re.1.2.1 Re.1.2.2.1 h1 (am_cat hv) (am_cat hw) (k p l e R s m args below meth c D cA b bs H locs ls cells slots Q Re En)
theorem am_icmp_eq {x y : Int32} {o : Int} {tg : Nat} (hc : M.2.2.2.2.2 pc = some (.if_icmp .eq o, 3, nx, [tg])) (kt : x = y → am_V M sc d mc ms n0 z0 post tg L (st) h) (kf : ¬ x = y → am_V M sc d mc ms n0 z0 post nx L (st) h) : am_V M sc d mc ms n0 z0 post pc L (.int y :: .int x :: st) h := by
  intro p l e R s m args below meth c D cA b bs H locs ls cells slots Q Re En
  obtain ⟨h1, h2, h3⟩ := Re.1.1 pc _ hc
  have h2 : nx = pc + 3 := h2
  subst h2
  have h4 : (pc : Int) + o = (tg : Int) := by simpa [am_off] using h3.symm
  exact lv_icmp_eq Re.1.2.1 Re.1.2.2.1 h1 h4 (fun q => kt q p l e R s m args below meth c D cA b bs H locs ls cells slots Q Re En) (fun q => kf q p l e R s m args below meth c D cA b bs H locs ls cells slots Q Re En)
theorem am_icmp_lt {x y : Int32} {o : Int} {tg : Nat} (hc : M.2.2.2.2.2 pc = some (.if_icmp .lt o, 3, nx, [tg])) (kt : x < y → am_V M sc d mc ms n0 z0 post tg L (st) h) (kf : ¬ x < y → am_V M sc d mc ms n0 z0 post nx L (st) h) : am_V M sc d mc ms n0 z0 post pc L (.int y :: .int x :: st) h := by
  intro p l e R s m args below meth c D cA b bs H locs ls cells slots Q Re En
  obtain ⟨h1, h2, h3⟩ := Re.1.1 pc _ hc
  have h2 : nx = pc + 3 := h2
  subst h2
  have h4 : (pc : Int) + o = (tg : Int) := by simpa [am_off] using h3.symm
  exact lv_icmp_lt Re.1.2.1 Re.1.2.2.1 h1 h4 (fun q => kt q p l e R s m args below meth c D cA b bs H locs ls cells slots Q Re En) (fun q => kf q p l e R s m args below meth c D cA b bs H locs ls cells slots Q Re En)
theorem am_icmp_ge {x y : Int32} {o : Int} {tg : Nat} (hc : M.2.2.2.2.2 pc = some (.if_icmp .ge o, 3, nx, [tg])) (kt : y ≤ x → am_V M sc d mc ms n0 z0 post tg L (st) h) (kf : ¬ y ≤ x → am_V M sc d mc ms n0 z0 post nx L (st) h) : am_V M sc d mc ms n0 z0 post pc L (.int y :: .int x :: st) h := by
  intro p l e R s m args below meth c D cA b bs H locs ls cells slots Q Re En
  obtain ⟨h1, h2, h3⟩ := Re.1.1 pc _ hc
  have h2 : nx = pc + 3 := h2
  subst h2
  have h4 : (pc : Int) + o = (tg : Int) := by simpa [am_off] using h3.symm
  exact lv_icmp_ge Re.1.2.1 Re.1.2.2.1 h1 h4 (fun q => kt q p l e R s m args below meth c D cA b bs H locs ls cells slots Q Re En) (fun q => kf q p l e R s m args below meth c D cA b bs H locs ls cells slots Q Re En)
theorem am_icmp_gt {x y : Int32} {o : Int} {tg : Nat} (hc : M.2.2.2.2.2 pc = some (.if_icmp .gt o, 3, nx, [tg])) (kt : y < x → am_V M sc d mc ms n0 z0 post tg L (st) h) (kf : ¬ y < x → am_V M sc d mc ms n0 z0 post nx L (st) h) : am_V M sc d mc ms n0 z0 post pc L (.int y :: .int x :: st) h := by
  intro p l e R s m args below meth c D cA b bs H locs ls cells slots Q Re En
  obtain ⟨h1, h2, h3⟩ := Re.1.1 pc _ hc
  have h2 : nx = pc + 3 := h2
  subst h2
  have h4 : (pc : Int) + o = (tg : Int) := by simpa [am_off] using h3.symm
  exact lv_icmp_gt Re.1.2.1 Re.1.2.2.1 h1 h4 (fun q => kt q p l e R s m args below meth c D cA b bs H locs ls cells slots Q Re En) (fun q => kf q p l e R s m args below meth c D cA b bs H locs ls cells slots Q Re En)
theorem am_icmp_le {x y : Int32} {o : Int} {tg : Nat} (hc : M.2.2.2.2.2 pc = some (.if_icmp .le o, 3, nx, [tg])) (kt : x ≤ y → am_V M sc d mc ms n0 z0 post tg L (st) h) (kf : ¬ x ≤ y → am_V M sc d mc ms n0 z0 post nx L (st) h) : am_V M sc d mc ms n0 z0 post pc L (.int y :: .int x :: st) h := by
  intro p l e R s m args below meth c D cA b bs H locs ls cells slots Q Re En
  obtain ⟨h1, h2, h3⟩ := Re.1.1 pc _ hc
  have h2 : nx = pc + 3 := h2
  subst h2
  have h4 : (pc : Int) + o = (tg : Int) := by simpa [am_off] using h3.symm
  exact lv_icmp_le Re.1.2.1 Re.1.2.2.1 h1 h4 (fun q => kt q p l e R s m args below meth c D cA b bs H locs ls cells slots Q Re En) (fun q => kf q p l e R s m args below meth c D cA b bs H locs ls cells slots Q Re En)
theorem am_icmp_ne {x y : Int32} {o : Int} {tg : Nat} (hc : M.2.2.2.2.2 pc = some (.if_icmp .ne o, 3, nx, [tg])) (kt : ¬ x = y → am_V M sc d mc ms n0 z0 post tg L (st) h) (kf : x = y → am_V M sc d mc ms n0 z0 post nx L (st) h) : am_V M sc d mc ms n0 z0 post pc L (.int y :: .int x :: st) h := by
  intro p l e R s m args below meth c D cA b bs H locs ls cells slots Q Re En
  obtain ⟨h1, h2, h3⟩ := Re.1.1 pc _ hc
  have h2 : nx = pc + 3 := h2
  subst h2
  have h4 : (pc : Int) + o = (tg : Int) := by simpa [am_off] using h3.symm
  exact lv_icmp_ne Re.1.2.1 Re.1.2.2.1 h1 h4 (fun q => kt q p l e R s m args below meth c D cA b bs H locs ls cells slots Q Re En) (fun q => kf q p l e R s m args below meth c D cA b bs H locs ls cells slots Q Re En)
theorem am_if_eq {x : Int32} {o : Int} {tg : Nat} (hc : M.2.2.2.2.2 pc = some (.ifCond .eq o, 3, nx, [tg])) (kt : x = 0 → am_V M sc d mc ms n0 z0 post tg L (st) h) (kf : ¬ x = 0 → am_V M sc d mc ms n0 z0 post nx L (st) h) : am_V M sc d mc ms n0 z0 post pc L (.int x :: st) h := by
  intro p l e R s m args below meth c D cA b bs H locs ls cells slots Q Re En
  obtain ⟨h1, h2, h3⟩ := Re.1.1 pc _ hc
  have h2 : nx = pc + 3 := h2
  subst h2
  have h4 : (pc : Int) + o = (tg : Int) := by simpa [am_off] using h3.symm
  exact lv_if_eq Re.1.2.1 Re.1.2.2.1 h1 h4 (fun q => kt q p l e R s m args below meth c D cA b bs H locs ls cells slots Q Re En) (fun q => kf q p l e R s m args below meth c D cA b bs H locs ls cells slots Q Re En)
theorem am_if_lt {x : Int32} {o : Int} {tg : Nat} (hc : M.2.2.2.2.2 pc = some (.ifCond .lt o, 3, nx, [tg])) (kt : x < 0 → am_V M sc d mc ms n0 z0 post tg L (st) h) (kf : ¬ x < 0 → am_V M sc d mc ms n0 z0 post nx L (st) h) : am_V M sc d mc ms n0 z0 post pc L (.int x :: st) h := by
  intro p l e R s m args below meth c D cA b bs H locs ls cells slots Q Re En
  obtain ⟨h1, h2, h3⟩ := Re.1.1 pc _ hc
  have h2 : nx = pc + 3 := h2
  subst h2
  have h4 : (pc : Int) + o = (tg : Int) := by simpa [am_off] using h3.symm
  exact lv_if_lt Re.1.2.1 Re.1.2.2.1 h1 h4 (fun q => kt q p l e R s m args below meth c D cA b bs H locs ls cells slots Q Re En) (fun q => kf q p l e R s m args below meth c D cA b bs H locs ls cells slots Q Re En)
theorem am_if_ge {x : Int32} {o : Int} {tg : Nat} (hc : M.2.2.2.2.2 pc = some (.ifCond .ge o, 3, nx, [tg])) (kt : 0 ≤ x → am_V M sc d mc ms n0 z0 post tg L (st) h) (kf : ¬ 0 ≤ x → am_V M sc d mc ms n0 z0 post nx L (st) h) : am_V M sc d mc ms n0 z0 post pc L (.int x :: st) h := by
  intro p l e R s m args below meth c D cA b bs H locs ls cells slots Q Re En
  obtain ⟨h1, h2, h3⟩ := Re.1.1 pc _ hc
  have h2 : nx = pc + 3 := h2
  subst h2
  have h4 : (pc : Int) + o = (tg : Int) := by simpa [am_off] using h3.symm
  exact lv_if_ge Re.1.2.1 Re.1.2.2.1 h1 h4 (fun q => kt q p l e R s m args below meth c D cA b bs H locs ls cells slots Q Re En) (fun q => kf q p l e R s m args below meth c D cA b bs H locs ls cells slots Q Re En)
theorem am_if_gt {x : Int32} {o : Int} {tg : Nat} (hc : M.2.2.2.2.2 pc = some (.ifCond .gt o, 3, nx, [tg])) (kt : 0 < x → am_V M sc d mc ms n0 z0 post tg L (st) h) (kf : ¬ 0 < x → am_V M sc d mc ms n0 z0 post nx L (st) h) : am_V M sc d mc ms n0 z0 post pc L (.int x :: st) h := by
  intro p l e R s m args below meth c D cA b bs H locs ls cells slots Q Re En
  obtain ⟨h1, h2, h3⟩ := Re.1.1 pc _ hc
  have h2 : nx = pc + 3 := h2
  subst h2
  have h4 : (pc : Int) + o = (tg : Int) := by simpa [am_off] using h3.symm
  exact lv_if_gt Re.1.2.1 Re.1.2.2.1 h1 h4 (fun q => kt q p l e R s m args below meth c D cA b bs H locs ls cells slots Q Re En) (fun q => kf q p l e R s m args below meth c D cA b bs H locs ls cells slots Q Re En)
theorem am_if_le {x : Int32} {o : Int} {tg : Nat} (hc : M.2.2.2.2.2 pc = some (.ifCond .le o, 3, nx, [tg])) (kt : x ≤ 0 → am_V M sc d mc ms n0 z0 post tg L (st) h) (kf : ¬ x ≤ 0 → am_V M sc d mc ms n0 z0 post nx L (st) h) : am_V M sc d mc ms n0 z0 post pc L (.int x :: st) h := by
  intro p l e R s m args below meth c D cA b bs H locs ls cells slots Q Re En
  obtain ⟨h1, h2, h3⟩ := Re.1.1 pc _ hc
  have h2 : nx = pc + 3 := h2
  subst h2
  have h4 : (pc : Int) + o = (tg : Int) := by simpa [am_off] using h3.symm
  exact lv_if_le Re.1.2.1 Re.1.2.2.1 h1 h4 (fun q => kt q p l e R s m args below meth c D cA b bs H locs ls cells slots Q Re En) (fun q => kf q p l e R s m args below meth c D cA b bs H locs ls cells slots Q Re En)
theorem am_if_ne {x : Int32} {o : Int} {tg : Nat} (hc : M.2.2.2.2.2 pc = some (.ifCond .ne o, 3, nx, [tg])) (kt : ¬ x = 0 → am_V M sc d mc ms n0 z0 post tg L (st) h) (kf : x = 0 → am_V M sc d mc ms n0 z0 post nx L (st) h) : am_V M sc d mc ms n0 z0 post pc L (.int x :: st) h := by
  intro p l e R s m args below meth c D cA b bs H locs ls cells slots Q Re En
  obtain ⟨h1, h2, h3⟩ := Re.1.1 pc _ hc
  have h2 : nx = pc + 3 := h2
  subst h2
  have h4 : (pc : Int) + o = (tg : Int) := by simpa [am_off] using h3.symm
  exact lv_if_ne Re.1.2.1 Re.1.2.2.1 h1 h4 (fun q => kt q p l e R s m args below meth c D cA b bs H locs ls cells slots Q Re En) (fun q => kf q p l e R s m args below meth c D cA b bs H locs ls cells slots Q Re En)
theorem am_goto {o : Int} {tg : Nat} (hc : M.2.2.2.2.2 pc = some (.goto o, 3, nx, [tg])) (k : am_V M sc d mc ms n0 z0 post tg L (st) h) : am_V M sc d mc ms n0 z0 post pc L (st) h := by
  intro p l e R s m args below meth c D cA b bs H locs ls cells slots Q Re En
  obtain ⟨h1, h2, h3⟩ := Re.1.1 pc _ hc
  have h2 : nx = pc + 3 := h2
  subst h2
  have h4 : (pc : Int) + o = (tg : Int) := by simpa [am_off] using h3.symm
  exact lv_goto Re.1.2.1 Re.1.2.2.1 h1 h4 (k p l e R s m args below meth c D cA b bs H locs ls cells slots Q Re En)
theorem am_tsw {x : Int32} {dft lo hi : Int} {os : Array Int} {ln td : Nat} {tgs : List Nat} (hc : M.2.2.2.2.2 pc = some (.tableswitch dft lo hi os, ln, nx, tgs)) (htd : tgs[0]? = some td) (kd : x.toInt < lo ∨ hi < x.toInt → am_V M sc d mc ms n0 z0 post td L (st) h)
    (kj : ∀ j : Nat, x.toInt = lo + j → lo + j ≤ hi → ∃ t, tgs[j + 1]? = some t ∧ os.toList[j]?.isSome = true ∧ am_V M sc d mc ms n0 z0 post t L (st) h) : am_V M sc d mc ms n0 z0 post pc L (.int x :: st) h := by
  intro p l e R s m args below meth c D cA b bs H locs ls cells slots Q Re En
  obtain ⟨h1, h2, h3⟩ := Re.1.1 pc _ hc
  have h4 : ∀ (j : Nat) (t : Nat) (o : Int), tgs[j]? = some t → (am_off (.tableswitch dft lo hi os))[j]? = some o → (pc : Int) + o = (t : Int) := by
    intro j t o e1 e2
    have e3 : (tgs.map (fun t : Nat => (t : Int)))[j]? = ((am_off (.tableswitch dft lo hi os)).map (fun o : Int => (pc : Int) + o))[j]? := by rw [h3]
    rw [List.getElem?_map, List.getElem?_map, e1, e2] at e3
    exact (Option.some.inj e3).symm
  by_cases q : x.toInt < lo ∨ hi < x.toInt
  · exact lv_tableOut Re.1.2.1 Re.1.2.2.1 h1 q (h4 0 _ _ htd rfl) (kd q p l e R s m args below meth c D cA b bs H locs ls cells slots Q Re En)
  · obtain ⟨q1, q2⟩ := not_or.mp q
    obtain ⟨t, e1, e2, e3⟩ := kj (x.toInt - lo).toNat (by omega) (by omega)
    have e4 : os[(x.toInt - lo).toNat]? = some (os.toList.getD (x.toInt - lo).toNat 0) := by
      rw [← Array.getElem?_toList, List.getD_eq_getElem?_getD]
      cases e5 : os.toList[(x.toInt - lo).toNat]? with
      | none => rw [e5] at e2; cases e2
      | some w => rfl
    refine lv_tableIn Re.1.2.1 Re.1.2.2.1 h1 q1 q2 e4 (h4 ((x.toInt - lo).toNat + 1) t _ e1 ?_) (e3 p l e R s m args below meth c D cA b bs H locs ls cells slots Q Re En)
    show (dft :: os.toList)[(x.toInt - lo).toNat + 1]? = _
    rw [List.getElem?_cons_succ, Array.getElem?_toList]
    exact e4
end AMV
