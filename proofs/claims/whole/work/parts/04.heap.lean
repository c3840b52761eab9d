/-! Rows of the small machine that read and write the world; calls; a contract out of a walk. -/
def am_ty (ci : Nat) : Nat → FieldType := match ci with
  | 0 => tyX0
  | 1 => tyX1
  | 2 => tyX2
  | 3 => tyX3
  | 4 => tyX4
  | 5 => tyX5
  | 6 => tyX6
  | 7 => tyX7
  | 8 => tyX8
  | _ => tyX9
theorem am_cf {ci : Nat} {C : String} {T : u_T} {N : Nat} (h : am_cl[ci]? = some (C, T, N)) : (∀ w ∈ u_ws C T N, w ∈ am_tb) ∧ (∀ k, k < N → parseFieldDescriptor (T k).2.2.1 = some (am_ty ci k)) ∧ (∀ a, a < N → ∀ b, b < N → a ≠ b → (T a).2.1 ≠ (T b).2.1) ∧ C = am_R ci := by
  match ci, h with
  | 0, h => cases h; exact ⟨am_in0, tyX0_ok, nmX0, rfl⟩
  | 1, h => cases h; exact ⟨am_in1, tyX1_ok, nmX1, rfl⟩
  | 2, h => cases h; exact ⟨am_in2, tyX2_ok, nmX2, rfl⟩
  | 3, h => cases h; exact ⟨am_in3, tyX3_ok, nmX3, rfl⟩
  | 4, h => cases h; exact ⟨am_in4, tyX4_ok, nmX4, rfl⟩
  | 5, h => cases h; exact ⟨am_in5, tyX5_ok, nmX5, rfl⟩
  | 6, h => cases h; exact ⟨am_in6, tyX6_ok, nmX6, rfl⟩
  | 7, h => cases h; exact ⟨am_in7, tyX7_ok, nmX7, rfl⟩
  | 8, h => cases h; exact ⟨am_in8, tyX8_ok, nmX8, rfl⟩
  | 9, h => cases h; exact ⟨am_in9, tyX9_ok, nmX9, rfl⟩
  | n + 10, h => simp [am_cl] at h
/-- field i of class o's pool is field k of class ci -/
def am_lF (o i ci k : Nat) : Prop := ∃ (C : String) (T : u_T) (N : Nat), am_cl[ci]? = some (C, T, N) ∧ k < N ∧ Cond.fieldLink (am_R o) i (T k).1 (T k).2.1 (T k).2.2.1 ∈ am_tb
def am_fin (ci k : Nat) : Bool := match am_cl[ci]? with
  | some (_, T, _) => (T k).2.2.2
  | none => false
def am_dec (ci k : Nat) : String := match am_cl[ci]? with
  | some (_, T, _) => (T k).1
  | none => ""
def am_fit (ty : FieldType) (v : Value) : Prop := ∀ b bs : Nat, narrow ty (am_v b bs v) = am_v b bs v ∧ fits ty (am_v b bs v) = true
theorem am_updV_i {f : Nat → Int32} {k : Nat} {x : Int32} : updV (fun j => Value.int (f j)) k (.int x) = fun j => .int (upd f k x j) := by
  funext q
  by_cases hq : q = k
  · subst hq; simp [updV, upd]
  · simp [updV, upd, hq]
section AMH
variable {M : am_M} {sc : Nat × (Nat → Int32)} {d mc ms n0 z0 : Nat} {post : Int32 → am_H → Prop} {pc nx : Nat} {L : List (Option Value)} {st : List Value} {h : am_H}
theorem am_get {ci k a i : Nat} {fs : List Value} {v : Value} (hf : am_lF M.2.2.2.2.1 i ci k) (hc : M.2.2.2.2.2 pc = some (.getfield i, 3, nx, [])) (ha : a < h.2.1) (he : h.1 a = .inr (ci, fs)) (hv : fs[k]? = some v) (kk : am_V M sc d mc ms n0 z0 post nx L (v :: st) h) : am_V M sc d mc ms n0 z0 post pc L (.ref a :: st) h := by
  intro p l e R s m args below meth c D cA b bs H locs ls cells slots Q Re En
  obtain ⟨h1, h2, h3⟩ := Re.1.1 pc _ hc
  have h2 : nx = pc + 3 := h2
  subst h2
  obtain ⟨C, T, N, f1, f2, f3⟩ := hf
  have hP := Re.2.2.2.2.2.1.2 a ha
  rw [he] at hP
  exact va_get (D := D) (cl := am_cl) (ws := [(b + a, am_e b bs cA (.inr (ci, fs)))]) Re.1.2.1 Re.1.2.2.1 Re.1.2.2.2.2.2.2.2.2 (am_cf f1).1 Re.1.2.2.2.2.2.1 Re.2.2.1.1 (fun k q hq => by
    match k, hq with
    | 0, hq => cases hq; exact hP
    | n + 1, hq => simp at hq) 0 (fs := fs.map (am_v b bs)) rfl f1 k f2 (Re.1.2.2.2.2.2.2.2.2 _ f3) (fun _ h9 => h9) (v := am_v b bs v) (by rw [List.getElem?_map, hv]; rfl) h1 (kk p l e R s m args below meth c D cA b bs H locs ls cells slots Q Re En)
/-- a world in which one cell has changed -/
theorem am_Re.put {p : Program} {R : Room} {s : State} {m : MethodId} {args : Array Value} {meth : Method} {c : Code} {D : va_G} {cA : Nat → ClassId} {b bs : Nat} {H H1 : Heap} {locs : List Loc} {ls : Array Slot} {cells slots a j : Nat} {e : va_E}
    (Re : am_Re M sc d mc ms n0 z0 p R s m args meth c D cA b bs H locs ls cells slots L h) (he : va_at D am_cl (b + a, am_e b bs cA e) H1) (z : H1.size = H.size) (oq : ∀ q : Nat, q ≠ b + a → H1[q]? = H[q]?) :
    am_Re M sc d mc ms n0 z0 p R s m args meth c D cA b bs H1 (locs ++ [⟨b + a, j⟩]) ls cells slots L (am_u h a e) := by
  obtain ⟨r1, r2, r3, r4, r5, r6, r7, r8, r9⟩ := Re
  exact ⟨r1, r2, r3, r4, r5, r6.put he z oq, r7.put z oq (Nat.le_add_right b a), r8, r9⟩
theorem am_put {ci k a i : Nat} {fs : List Value} {v : Value} (hf : am_lF M.2.2.2.2.1 i ci k) (hfin : am_fin ci k = false) (hc : M.2.2.2.2.2 pc = some (.putfield i, 3, nx, [])) (ha : a < h.2.1) (he : h.1 a = .inr (ci, fs)) (hk : k < fs.length) (hv : am_fit (am_ty ci k) v) (kk : am_V M sc d mc ms n0 z0 post nx L st (am_u h a (.inr (ci, fs.set k v)))) : am_V M sc d mc ms n0 z0 post pc L (v :: .ref a :: st) h := by
  intro p l e R s m args below meth c D cA b bs H locs ls cells slots Q Re En
  obtain ⟨h1, h2, h3⟩ := Re.1.1 pc _ hc
  have h2 : nx = pc + 3 := h2
  subst h2
  obtain ⟨C, T, N, f1, f2, f3⟩ := hf
  obtain ⟨hin, hty, hnm, -⟩ := am_cf f1
  have hfin : (T k).2.2.2 = false := by simpa [am_fin, f1] using hfin
  have hP := Re.2.2.2.2.2.1.2 a ha
  rw [he] at hP
  have hts := Re.1.2.2.2.2.2.2.2.2
  have hK := Re.2.2.1.1
  have hap := va_apart (own := C) hts hin (am_ty ci) hty hnm hK f1
  obtain ⟨r, g1, cell, q1, q2, q3, q4⟩ := hP
  have hr : r = (C, T, N) := Option.some.inj (g1.symm.trans f1)
  subst hr
  obtain ⟨hS, hfc, kC, hkC, hkind⟩ := hK.1 ci _ f1
  obtain ⟨cf, kf, fi, f, hi, hsl⟩ := hS k f2
  have hlay := hts _ (hin _ (u_in_lay f2))
  unfold u_lay at hlay
  rw [if_neg (by rw [hfin]; decide)] at hlay
  have hst := (u_facts hfc hkC (u_lays hts hin f2) hi).1
  have h6 := u_store hfc hkC hkind hlay hi (hty k f2) (hv b bs).1 (hv b bs).2
  refine W.putK Re.1.2.1 Re.1.2.2.1 (f := f) ⟨Re.1.2.2.2.2.2.1, hts _ f3, ⟨_, _, _, hi⟩, hst⟩ (by rw [q2]; exact h6) q1 q3 (by rw [hsl]; exact k2_hasslot (q4 k f2)) rfl rfl h1 fun H' e1 e2 e3 => ?_
  rw [hsl] at e1 ⊢
  refine kk p l e R s m args below meth c D cA b bs H' _ ls cells slots Q (Re.put ⟨_, f1, t_OB.to (V := updV (vp_V (fs.map (am_v b bs))) k (am_v b bs v)) ⟨_, e1, q2, q3, t_set q4 hap f2 _⟩ (fun j _ => ?_)⟩ e2 e3) En
  rw [vp_updV_set (by rw [List.length_map]; exact hk), ← List.map_set]
theorem am_putF {ci k a i : Nat} {fs : List Value} {v : Value} (hf : am_lF M.2.2.2.2.1 i ci k) (hfin : am_fin ci k = true) (hdc : am_dec ci k = am_R M.2.2.2.2.1) (hin2 : M.1.name = "<init>") (hc : M.2.2.2.2.2 pc = some (.putfield i, 3, nx, [])) (ha : a < h.2.1) (he : h.1 a = .inr (ci, fs)) (hk : k < fs.length) (hv : am_fit (am_ty ci k) v) (kk : am_V M sc d mc ms n0 z0 post nx L st (am_u h a (.inr (ci, fs.set k v)))) : am_V M sc d mc ms n0 z0 post pc L (v :: .ref a :: st) h := by
  intro p l e R s m args below meth c D cA b bs H locs ls cells slots Q Re En
  obtain ⟨h1, h2, h3⟩ := Re.1.1 pc _ hc
  have h2 : nx = pc + 3 := h2
  subst h2
  obtain ⟨C, T, N, f1, f2, f3⟩ := hf
  obtain ⟨hin, hty, hnm, -⟩ := am_cf f1
  have hfin : (T k).2.2.2 = true := by simpa [am_fin, f1] using hfin
  have hdecl : (T k).1 = am_R M.2.2.2.2.1 := by simpa [am_dec, f1] using hdc
  have hP := Re.2.2.2.2.2.1.2 a ha
  rw [he] at hP
  have hts := Re.1.2.2.2.2.2.2.2.2
  have hown := Re.1.2.2.2.2.2.1
  have hK := Re.2.2.1.1
  have hap := va_apart (own := C) hts hin (am_ty ci) hty hnm hK f1
  obtain ⟨r, g1, cell, q1, q2, q3, q4⟩ := hP
  have hr : r = (C, T, N) := Option.some.inj (g1.symm.trans f1)
  subst hr
  obtain ⟨hS, hfc, kC, hkC, hkind⟩ := hK.1 ci _ f1
  obtain ⟨cf, kf, fi, f, hi, hsl⟩ := hS k f2
  have hlay := hts _ (hin _ (u_in_lay f2))
  unfold u_lay at hlay
  rw [if_pos hfin] at hlay
  have hst := (u_facts hfc hkC (u_lays hts hin f2) hi).1
  have hcf : m.cls = cf := by
    obtain ⟨_, _, c', _, _, _, -, -, hf', -, -, -, hown2, -⟩ := Cond.laysFinal_spec hlay
    have e1 : c' = cf := by have := hi.symm.trans hf'; simp at this; exact this.1.symm
    rw [hdecl] at hown2
    rw [← e1]; exact Option.some.inj (hown.symm.trans hown2)
  have h6 := u_fits hfc hkC hkind (Or.inr hlay) hi (hty k f2) (hv b bs).1 (hv b bs).2
  refine W.putFinK Re.1.2.1 Re.1.2.2.1 hown (hts _ f3) hi hst hcf (Re.1.2.2.2.2.2.2.2.1.trans hin2) (by rw [q2]; exact h6) q1 q3 (by rw [hsl]; exact k2_hasslot (q4 k f2)) rfl rfl h1 fun H' e1 e2 e3 => ?_
  rw [hsl] at e1 ⊢
  refine kk p l e R s m args below meth c D cA b bs H' _ ls cells slots Q (Re.put ⟨_, f1, t_OB.to (V := updV (vp_V (fs.map (am_v b bs))) k (am_v b bs v)) ⟨_, e1, q2, q3, t_set q4 hap f2 _⟩ (fun j _ => ?_)⟩ e2 e3) En
  rw [vp_updV_set (by rw [List.length_map]; exact hk), ← List.map_set]
theorem am_iald {a n : Nat} {f : Nat → Int32} {i : Int32} (hc : M.2.2.2.2.2 pc = some (.iaload, 1, nx, [])) (ha : a < h.2.1) (he : h.1 a = .inl (0, n, .inl f)) (hi : vp_in i n) (kk : am_V M sc d mc ms n0 z0 post nx L (.int (f i.toNatClampNeg) :: st) h) : am_V M sc d mc ms n0 z0 post pc L (.int i :: .ref a :: st) h := by
  intro p l e R s m args below meth c D cA b bs H locs ls cells slots Q Re En
  obtain ⟨h1, h2, h3⟩ := Re.1.1 pc _ hc
  have h2 : nx = pc + 1 := h2
  subst h2
  have hP := Re.2.2.2.2.2.1.2 a ha
  rw [he] at hP
  have hlt : i.toNatClampNeg < n := Nat.not_le.mp fun q => hi (Or.inr q)
  exact W.iald (v := .int (f i.toNatClampNeg)) Re.1.2.1 Re.1.2.2.1 hP ((Re.2.2.1.1.2 0 _ rfl).1 n (fun j => .int (f j))) (fun q => by cases q) (by show ¬ (i < 0 ∨ (arrV _ _ _).slots.size ≤ _); rw [arrV_size]; exact hi) (by show (arrV (cA 0) n (fun j => Value.int (f j))).slots[i.toNatClampNeg]? = _; rw [arrV_read _ _ hlt]) rfl rfl h1 (kk p l e R s m args below meth c D cA b bs H locs ls cells slots Q Re En)
theorem am_zald {a n : Nat} {f : Nat → Int32} {i : Int32} (hc : M.2.2.2.2.2 pc = some (.baload, 1, nx, [])) (ha : a < h.2.1) (he : h.1 a = .inl (1, n, .inl f)) (hi : vp_in i n) (kk : am_V M sc d mc ms n0 z0 post nx L (.int (f i.toNatClampNeg) :: st) h) : am_V M sc d mc ms n0 z0 post pc L (.int i :: .ref a :: st) h := by
  intro p l e R s m args below meth c D cA b bs H locs ls cells slots Q Re En
  obtain ⟨h1, h2, h3⟩ := Re.1.1 pc _ hc
  have h2 : nx = pc + 1 := h2
  subst h2
  have hP := Re.2.2.2.2.2.1.2 a ha
  rw [he] at hP
  have hlt : i.toNatClampNeg < n := Nat.not_le.mp fun q => hi (Or.inr q)
  exact W.zald (v := .int (f i.toNatClampNeg)) Re.1.2.1 Re.1.2.2.1 hP ((Re.2.2.1.1.2 1 _ rfl).1 n (fun j => .int (f j))) (fun q => by cases q) (by show ¬ (i < 0 ∨ (arrV _ _ _).slots.size ≤ _); rw [arrV_size]; exact hi) (by show (arrV (cA 1) n (fun j => Value.int (f j))).slots[i.toNatClampNeg]? = _; rw [arrV_read _ _ hlt]) rfl rfl h1 (kk p l e R s m args below meth c D cA b bs H locs ls cells slots Q Re En)
theorem am_aald {a n r : Nat} {f : Nat → Option Nat} {i : Int32} (hc : M.2.2.2.2.2 pc = some (.aaload, 1, nx, [])) (ha : a < h.2.1) (he : h.1 a = .inl (2, n, .inr (.inr (.inr (.inr f))))) (hi : vp_in i n) (hr : f i.toNatClampNeg = some r) (kk : am_V M sc d mc ms n0 z0 post nx L (.ref r :: st) h) : am_V M sc d mc ms n0 z0 post pc L (.int i :: .ref a :: st) h := by
  intro p l e R s m args below meth c D cA b bs H locs ls cells slots Q Re En
  obtain ⟨h1, h2, h3⟩ := Re.1.1 pc _ hc
  have h2 : nx = pc + 1 := h2
  subst h2
  have hP := Re.2.2.2.2.2.1.2 a ha
  rw [he] at hP
  have hlt : i.toNatClampNeg < n := Nat.not_le.mp fun q => hi (Or.inr q)
  exact W.aald (v := .ref (b + r)) (ty := .object RX7) Re.1.2.1 Re.1.2.2.1 hP ((Re.2.2.1.1.2 2 _ rfl).1 n (fun j => va_rf ((f j).map (fun k => b + k)))) rfl (fun q => by cases q) (by show ¬ (i < 0 ∨ (arrV _ _ _).slots.size ≤ _); rw [arrV_size]; exact hi) (by show (arrV (cA 2) n (fun j => va_rf ((f j).map (fun k => b + k)))).slots[i.toNatClampNeg]? = _; rw [arrV_read _ _ hlt, hr]; rfl) rfl rfl h1 (kk p l e R s m args below meth c D cA b bs H locs ls cells slots Q Re En)
theorem am_alen {a n : Nat} {f : Nat → Int32} (hc : M.2.2.2.2.2 pc = some (.arraylength, 1, nx, [])) (ha : a < h.2.1) (he : h.1 a = .inl (0, n, .inl f)) (kk : am_V M sc d mc ms n0 z0 post nx L (.int (nI n) :: st) h) : am_V M sc d mc ms n0 z0 post pc L (.ref a :: st) h := by
  intro p l e R s m args below meth c D cA b bs H locs ls cells slots Q Re En
  obtain ⟨h1, h2, h3⟩ := Re.1.1 pc _ hc
  have h2 : nx = pc + 1 := h2
  subst h2
  have hP := Re.2.2.2.2.2.1.2 a ha
  rw [he] at hP
  exact W.alen (n := Int32.ofNat n) Re.1.2.1 Re.1.2.2.1 hP ((Re.2.2.1.1.2 0 _ rfl).1 n (fun j => .int (f j))) (by show Nat.toInt32 (arrV _ _ _).slots.size = _; rw [arrV_size] <;> rfl) rfl rfl h1 (kk p l e R s m args below meth c D cA b bs H locs ls cells slots Q Re En)
theorem am_iast {a n : Nat} {f : Nat → Int32} {i x : Int32} (hc : M.2.2.2.2.2 pc = some (.iastore, 1, nx, [])) (ha : a < h.2.1) (he : h.1 a = .inl (0, n, .inl f)) (hi : vp_in i n) (kk : am_V M sc d mc ms n0 z0 post nx L st (am_u h a (.inl (0, n, .inl (upd f i.toNatClampNeg x))))) : am_V M sc d mc ms n0 z0 post pc L (.int x :: .int i :: .ref a :: st) h := by
  intro p l e R s m args below meth c D cA b bs H locs ls cells slots Q Re En
  obtain ⟨h1, h2, h3⟩ := Re.1.1 pc _ hc
  have h2 : nx = pc + 1 := h2
  subst h2
  have hP := Re.2.2.2.2.2.1.2 a ha
  rw [he] at hP
  refine W.iast Re.1.2.1 Re.1.2.2.1 hP ((Re.2.2.1.1.2 0 _ rfl).1 n (fun j => .int (f j))) (fun q => by cases q) (by show ¬ (i < 0 ∨ (arrV _ _ _).slots.size ≤ _); rw [arrV_size]; exact hi) rfl rfl h1 fun H1 e1 z oq => ?_
  refine kk p l e R s m args below meth c D cA b bs H1 _ ls cells slots Q (Re.put ?_ z oq) En
  show H1[b + a]? = some (vp_cell _ _)
  rw [e1]
  show some ((vp_cell (cA 0) (n, .inl f)).setSlot _ _) = some (vp_cell (cA 0) (n, .inl (upd f i.toNatClampNeg x)))
  rw [vp_cell_i, vp_cell_i, arrV_store, am_updV_i]
theorem am_zast {a n : Nat} {f : Nat → Int32} {i x : Int32} (hc : M.2.2.2.2.2 pc = some (.bastore, 1, nx, [])) (ha : a < h.2.1) (he : h.1 a = .inl (1, n, .inl f)) (hi : vp_in i n) (hx : x = 0 ∨ x = 1) (kk : am_V M sc d mc ms n0 z0 post nx L st (am_u h a (.inl (1, n, .inl (upd f i.toNatClampNeg x))))) : am_V M sc d mc ms n0 z0 post pc L (.int x :: .int i :: .ref a :: st) h := by
  intro p l e R s m args below meth c D cA b bs H locs ls cells slots Q Re En
  obtain ⟨h1, h2, h3⟩ := Re.1.1 pc _ hc
  have h2 : nx = pc + 1 := h2
  subst h2
  have hP := Re.2.2.2.2.2.1.2 a ha
  rw [he] at hP
  refine W.zast Re.1.2.1 Re.1.2.2.1 hP ((Re.2.2.1.1.2 1 _ rfl).1 n (fun j => .int (f j))) (fun q => by cases q) (by show ¬ (i < 0 ∨ (arrV _ _ _).slots.size ≤ _); rw [arrV_size]; exact hi) rfl rfl h1 fun H1 e1 z oq => ?_
  refine kk p l e R s m args below meth c D cA b bs H1 _ ls cells slots Q (Re.put ?_ z oq) En
  show H1[b + a]? = some (vp_cell _ _)
  rw [e1]
  have hn : narrow .boolean (.int x) = .int x := by rcases hx with rfl | rfl <;> rfl
  rw [hn]
  show some ((vp_cell (cA 1) (n, .inl f)).setSlot _ _) = some (vp_cell (cA 1) (n, .inl (upd f i.toNatClampNeg x)))
  rw [vp_cell_i, vp_cell_i, arrV_store, am_updV_i]
end AMH
