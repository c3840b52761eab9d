/-! The heap as a memory of ints, g: cell, place; over a skeleton that never changes (which cell is which object or array). Written by gen/p09.py. -/
abbrev G : Type := Nat → Nat → Int32
def sk_0 : List ((Nat × Nat) ⊕ (Nat × (Nat → Option Nat)) ⊕ (Nat × List (Option Nat))) := [.inr (.inr (8, [some 1, some 3, some 8, some 13, some 14, some 15, some 27, some 39, some 41, some 45, some 46, none, none, none, none])), .inr (.inr (1, [some 2, none, none])), .inl (0, 200), .inr (.inr (5, [some 4, some 5, some 6, some 7, none])), .inl (0, 24), .inl (0, 24), .inl (0, 24), .inl (0, 96), .inr (.inr (5, [some 9, some 10, some 11, some 12, none])), .inl (0, 24), .inl (0, 24), .inl (0, 24), .inl (0, 96), .inr (.inl (4, fun j => if j < 4 then some (47 + 28 * j) else none)), .inr (.inl (4, fun j => if j < 4 then some (61 + 28 * j) else none)), .inr (.inr (6, [some 16, some 17, some 18, some 19, some 20, some 21, some 22, some 23, some 24, some 25, some 26])), .inl (0, 30), .inl (0, 30), .inl (0, 4), .inl (0, 24), .inl (0, 24), .inl (0, 24), .inl (0, 24), .inl (0, 24), .inl (0, 24), .inl (0, 24), .inl (0, 24), .inr (.inr (0, [some 28, some 29, some 30, some 31, some 32, some 33, some 34, some 35, some 36, some 37, some 38, none, none])), .inl (0, 10), .inl (0, 24), .inl (0, 10), .inl (0, 10), .inl (0, 10), .inl (0, 10), .inl (1, 110), .inl (1, 110), .inl (0, 110), .inl (0, 10), .inl (0, 10), .inr (.inr (3, [some 40])), .inl (0, 24), .inr (.inr (2, [some 42, some 43, some 44])), .inl (0, 4), .inl (0, 4), .inl (0, 200), .inr (.inr (4, [none, none, none, none])), .inl (0, 4)]
def sk_9 : List ((Nat × Nat) ⊕ (Nat × (Nat → Option Nat)) ⊕ (Nat × List (Option Nat))) := [.inr (.inr (9, [none, some 160, none, none, some 161, some 162, some 163, some 164, none, some 165, none, none, some 166, some 167, some 168, some 169, none, some 170, some 171, some 172, some 173, none, none, none, none, none, some 174, some 175, some 176, some 177, none, none, none, none, none, some 178, some 179, some 180, some 181, some 182, some 183, some 184, none])), .inl (0, 200), .inl (0, 24), .inl (0, 24), .inl (0, 24), .inl (0, 96), .inl (0, 1648), .inl (0, 24), .inl (0, 24), .inl (0, 24), .inl (0, 96), .inl (0, 1648), .inl (0, 200), .inl (0, 4), .inl (0, 4), .inl (0, 30), .inl (0, 10), .inl (0, 10), .inl (0, 10), .inl (0, 1024), .inl (0, 1024), .inl (0, 100), .inl (0, 24), .inl (0, 24), .inl (0, 4), .inl (0, 4)]
/-- a tournament at a -/
def sk_t (a : Nat) : List (Option Nat) := [none, none, none, none, some (a + 1), some (a + 2), some (a + 3), some (a + 4), some (a + 5), some (a + 6), some (a + 7), some (a + 8), some (a + 9), some (a + 10), some (a + 11), some (a + 12), some (a + 13)]
def sk_n : List Nat := [0, 10, 24, 5, 6, 6, 6, 30, 30, 60, 60, 60, 60, 60]
def sk (a : Nat) : (Nat × Nat) ⊕ (Nat × (Nat → Option Nat)) ⊕ (Nat × List (Option Nat)) := bif Nat.blt a 47 then sk_0.getD a (.inl (9, 0)) else bif Nat.blt a 159 then (bif Nat.beq ((a - 47) % 14) 0 then .inr (.inr (7, sk_t a)) else .inl (0, sk_n.getD ((a - 47) % 14) 0)) else sk_9.getD (a - 159) (.inl (9, 0))
/-- a is the place of a tournament -/
def isT (a : Nat) : Prop := ∃ q, q < 8 ∧ a = 47 + 14 * q
theorem sk_T {a : Nat} (h : isT a) : sk a = .inr (.inr (7, sk_t a)) := by
  obtain ⟨q, h1, rfl⟩ := h
  have e1 : Nat.blt (47 + 14 * q) 47 = false := Bool.eq_false_iff.mpr (fun e => by rw [Nat.blt_eq] at e; omega)
  have e2 : Nat.blt (47 + 14 * q) 159 = true := by rw [Nat.blt_eq] <;> omega
  have e3 : (47 + 14 * q - 47) % 14 = 0 := by omega
  simp [sk, e1, e2, e3]
theorem sk_A {a j : Nat} (h : isT a) (h0 : 0 < j) (hj : j < 14) : sk (a + j) = .inl (0, sk_n.getD j 0) := by
  obtain ⟨q, h1, rfl⟩ := h
  have e1 : Nat.blt (47 + 14 * q + j) 47 = false := Bool.eq_false_iff.mpr (fun e => by rw [Nat.blt_eq] at e; omega)
  have e2 : Nat.blt (47 + 14 * q + j) 159 = true := by rw [Nat.blt_eq] <;> omega
  have e3 : (47 + 14 * q + j - 47) % 14 = j := by omega
  have e4 : Nat.beq j 0 = false := Bool.eq_false_iff.mpr (fun e => by have := Nat.eq_of_beq_eq_true e; omega)
  simp [sk, e1, e2, e3, e4]
theorem isT_lt {a j : Nat} (h : isT a) (hj : j < 14) : a + j < 185 := by
  obtain ⟨q, h1, rfl⟩ := h
  omega
def am_fl (f : Nat → Int32) : Nat → List (Option Nat) → List Value
  | _, [] => []
  | k, none :: l => .int (f k) :: am_fl f (k + 1) l
  | k, some r :: l => .ref r :: am_fl f (k + 1) l
theorem am_fl_I {f : Nat → Int32} : ∀ (l : List (Option Nat)) (j k : Nat), l[k]? = some none → (am_fl f j l)[k]? = some (.int (f (j + k)))
  | [], _, _, h => by simp at h
  | none :: l, j, 0, _ => rfl
  | some r :: l, j, 0, h => by simp at h
  | none :: l, j, k + 1, h => by
    show (am_fl f (j + 1) l)[k]? = _
    rw [am_fl_I l (j + 1) k (by simpa using h), show j + 1 + k = j + (k + 1) by omega]
  | some r :: l, j, k + 1, h => by
    show (am_fl f (j + 1) l)[k]? = _
    rw [am_fl_I l (j + 1) k (by simpa using h), show j + 1 + k = j + (k + 1) by omega]
theorem am_fl_R {f : Nat → Int32} : ∀ (l : List (Option Nat)) (j k r : Nat), l[k]? = some (some r) → (am_fl f j l)[k]? = some (.ref r)
  | [], _, _, _, h => by simp at h
  | none :: l, j, 0, r, h => by simp at h
  | some q :: l, j, 0, r, h => by
    simp at h
    subst h
    rfl
  | none :: l, j, k + 1, r, h => am_fl_R l (j + 1) k r (by simpa using h)
  | some q :: l, j, k + 1, r, h => am_fl_R l (j + 1) k r (by simpa using h)
theorem am_fl_len {f : Nat → Int32} : ∀ (l : List (Option Nat)) (j : Nat), (am_fl f j l).length = l.length
  | [], _ => rfl
  | none :: l, j => congrArg (· + 1) (am_fl_len l (j + 1))
  | some r :: l, j => congrArg (· + 1) (am_fl_len l (j + 1))
theorem am_fl_congr {f f' : Nat → Int32} : ∀ (l : List (Option Nat)) (j : Nat), (∀ k, j ≤ k → f k = f' k) → am_fl f j l = am_fl f' j l
  | [], _, _ => rfl
  | none :: l, j, h => by
    show Value.int (f j) :: am_fl f (j + 1) l = Value.int (f' j) :: am_fl f' (j + 1) l
    rw [h j (Nat.le_refl j), am_fl_congr l (j + 1) (fun k hk => h k (by omega))]
  | some r :: l, j, h => by
    show Value.ref r :: am_fl f (j + 1) l = Value.ref r :: am_fl f' (j + 1) l
    rw [am_fl_congr l (j + 1) (fun k hk => h k (by omega))]
theorem am_fl_set {f : Nat → Int32} {v : Int32} : ∀ (l : List (Option Nat)) (j k : Nat), l[k]? = some none → (am_fl f j l).set k (.int v) = am_fl (upd f (j + k) v) j l
  | [], _, _, h => by simp at h
  | some r :: l, j, 0, h => by simp at h
  | none :: l, j, 0, _ => by
    show Value.int v :: am_fl f (j + 1) l = Value.int (upd f (j + 0) v j) :: am_fl (upd f (j + 0) v) (j + 1) l
    rw [am_fl_congr (f := f) (f' := upd f (j + 0) v) l (j + 1) (fun k hk => by simp [upd]; intro e; omega)]
    simp [upd]
  | none :: l, j, k + 1, h => by
    show Value.int (f j) :: (am_fl f (j + 1) l).set k (.int v) = Value.int (upd f (j + (k + 1)) v j) :: am_fl (upd f (j + (k + 1)) v) (j + 1) l
    rw [am_fl_set l (j + 1) k (by simpa using h), show j + 1 + k = j + (k + 1) by omega]
    congr 1
    simp [upd]
  | some r :: l, j, k + 1, h => by
    show Value.ref r :: (am_fl f (j + 1) l).set k (.int v) = Value.ref r :: am_fl (upd f (j + (k + 1)) v) (j + 1) l
    rw [am_fl_set l (j + 1) k (by simpa using h), show j + 1 + k = j + (k + 1) by omega]
def hp (g : G) (a : Nat) : va_E := match sk a with
  | .inl q => .inl (q.1, q.2, .inl (g a))
  | .inr (.inl q) => .inl (2, q.1, .inr (.inr (.inr (.inr q.2))))
  | .inr (.inr q) => .inr (q.1, am_fl (g a) 0 q.2)
def up1 (g : G) (a : Nat) (f : Nat → Int32) : G := fun b => if b = a then f else g b
def up2 (g : G) (a k : Nat) (v : Int32) : G := up1 g a (upd (g a) k v)
abbrev hw (g : G) : am_H := (hp g, 185, 11339)
theorem hp_i {g : G} {a t n : Nat} (h : sk a = .inl (t, n)) : hp g a = .inl (t, n, .inl (g a)) := by rw [hp, h]
theorem hp_q {g : G} {a n : Nat} {f : Nat → Option Nat} (h : sk a = .inr (.inl (n, f))) : hp g a = .inl (2, n, .inr (.inr (.inr (.inr f)))) := by rw [hp, h]
theorem hp_o {g : G} {a ci : Nat} {fs : List (Option Nat)} (h : sk a = .inr (.inr (ci, fs))) : hp g a = .inr (ci, am_fl (g a) 0 fs) := by rw [hp, h]
theorem hw_u {g : G} {a : Nat} {f : Nat → Int32} {e : va_E} (h : ∀ g' : G, g' a = f → hp g' a = e) : am_u (hw g) a e = hw (up1 g a f) := by
  refine Prod.ext (funext fun j => ?_) rfl
  show (if j = a then e else hp g j) = hp (up1 g a f) j
  by_cases hj : j = a
  · subst hj
    rw [if_pos rfl, h (up1 g j f) (by simp [up1])]
  · rw [if_neg hj]
    have : up1 g a f j = g j := by simp [up1, hj]
    unfold hp
    rw [this]
/-- a walk over the memory; a contract over it -/
abbrev u_V (M : am_M) (d : Nat) (post : Int32 → G → Prop) (pc : Nat) (L : List (Option Value)) (st : List Value) (g : G) : Prop := am_V M (0, fun _ => 0) d 0 0 185 11339 (fun r h => ∃ g' : G, h = hw g' ∧ post r g') pc L st (hw g)
def Y (M : am_M) (d : Nat) (As : List Value) (g : G) (post : Int32 → G → Prop) : Prop := am_X M d 0 0 As (hw g) (fun r h => ∃ g' : G, h = hw g' ∧ post r g')
theorem Y.mono {M : am_M} {d d2 : Nat} {As : List Value} {g : G} {post : Int32 → G → Prop} (h : Y M d As g post) (hd : d ≤ d2) : Y M d2 As g post := am_X.mono h hd
theorem Y.imp {M : am_M} {d : Nat} {As : List Value} {g : G} {P P' : Int32 → G → Prop} (h : Y M d As g P) (hi : ∀ r g', P r g' → P' r g') : Y M d As g P' := am_X.imp h (fun r _ q => by
  obtain ⟨g', e, q⟩ := q
  exact ⟨g', e, hi r g' q⟩)
theorem Y_of {M : am_M} {d : Nat} {g : G} {post : Int32 → G → Prop} (ok : am_ok M) (hy : plainName M.1.cls = true) (hcl : M.1.cls = am_R M.2.2.2.2.1) (hno : M.2.2.2.2.1 ≠ 10) (hret : M.2.2.2.1 = none ∨ M.2.2.2.1 = some .int ∨ M.2.2.2.1 = some .boolean) {As : List Value} (hA : ∀ v ∈ As, v.category = 1) (hn : As.length ≤ M.2.2.1)
    (hV : u_V M d post 0 (As.map some ++ List.replicate (M.2.2.1 - As.length) none) [] g) : Y M d As g post := am_X_of ok hy hcl hno hret hA hn hV
section UV
variable {M : am_M} {d : Nat} {post : Int32 → G → Prop} {pc nx : Nat} {L : List (Option Value)} {st : List Value} {g : G}
theorem u_getI {ci k a i : Nat} {fs : List (Option Nat)} (hf : am_lF M.2.2.2.2.1 i ci k) (hc : M.2.2.2.2.2 pc = some (.getfield i, 3, nx, [])) (ha : a < 185) (hs : sk a = .inr (.inr (ci, fs))) (hk : fs[k]? = some none) (kk : u_V M d post nx L (.int (g a k) :: st) g) : u_V M d post pc L (.ref a :: st) g :=
  am_get hf hc ha (hp_o hs) (am_fl_I fs 0 k hk) (by rw [Nat.zero_add]; exact kk)
theorem u_getR {ci k a i r : Nat} {fs : List (Option Nat)} (hf : am_lF M.2.2.2.2.1 i ci k) (hc : M.2.2.2.2.2 pc = some (.getfield i, 3, nx, [])) (ha : a < 185) (hs : sk a = .inr (.inr (ci, fs))) (hk : fs[k]? = some (some r)) (kk : u_V M d post nx L (.ref r :: st) g) : u_V M d post pc L (.ref a :: st) g :=
  am_get hf hc ha (hp_o hs) (am_fl_R fs 0 k r hk) kk
theorem u_putI {ci k a i : Nat} {fs : List (Option Nat)} {v : Int32} (hf : am_lF M.2.2.2.2.1 i ci k) (hfin : am_fin ci k = false) (hc : M.2.2.2.2.2 pc = some (.putfield i, 3, nx, [])) (ha : a < 185) (hs : sk a = .inr (.inr (ci, fs))) (hk : fs[k]? = some none) (hv : am_fit (am_ty ci k) (.int v)) (kk : u_V M d post nx L st (up2 g a k v)) : u_V M d post pc L (.int v :: .ref a :: st) g := by
  refine am_put hf hfin hc ha (hp_o hs) (by rw [am_fl_len]; exact (List.getElem?_eq_some_iff.mp hk).1) hv ?_
  rw [am_fl_set fs 0 k hk, Nat.zero_add, hw_u (f := upd (g a) k v) (fun g' e => by rw [hp_o hs, e])]
  exact kk
theorem u_iald {a n : Nat} {i : Int32} (hc : M.2.2.2.2.2 pc = some (.iaload, 1, nx, [])) (ha : a < 185) (hs : sk a = .inl (0, n)) (hi : vp_in i n) (kk : u_V M d post nx L (.int (g a i.toNatClampNeg) :: st) g) : u_V M d post pc L (.int i :: .ref a :: st) g := am_iald hc ha (hp_i hs) hi kk
theorem u_zald {a n : Nat} {i : Int32} (hc : M.2.2.2.2.2 pc = some (.baload, 1, nx, [])) (ha : a < 185) (hs : sk a = .inl (1, n)) (hi : vp_in i n) (kk : u_V M d post nx L (.int (g a i.toNatClampNeg) :: st) g) : u_V M d post pc L (.int i :: .ref a :: st) g := am_zald hc ha (hp_i hs) hi kk
theorem u_aald {a n r : Nat} {f : Nat → Option Nat} {i : Int32} (hc : M.2.2.2.2.2 pc = some (.aaload, 1, nx, [])) (ha : a < 185) (hs : sk a = .inr (.inl (n, f))) (hi : vp_in i n) (hr : f i.toNatClampNeg = some r) (kk : u_V M d post nx L (.ref r :: st) g) : u_V M d post pc L (.int i :: .ref a :: st) g := am_aald hc ha (hp_q hs) hi hr kk
theorem u_alen {a n : Nat} (hc : M.2.2.2.2.2 pc = some (.arraylength, 1, nx, [])) (ha : a < 185) (hs : sk a = .inl (0, n)) (kk : u_V M d post nx L (.int (nI n) :: st) g) : u_V M d post pc L (.ref a :: st) g := am_alen hc ha (hp_i hs) kk
theorem u_iast {a n : Nat} {i x : Int32} (hc : M.2.2.2.2.2 pc = some (.iastore, 1, nx, [])) (ha : a < 185) (hs : sk a = .inl (0, n)) (hi : vp_in i n) (kk : u_V M d post nx L st (up2 g a i.toNatClampNeg x)) : u_V M d post pc L (.int x :: .int i :: .ref a :: st) g := by
  refine am_iast hc ha (hp_i hs) hi ?_
  rw [hw_u (f := upd (g a) i.toNatClampNeg x) (fun g' e => by rw [hp_i hs, e])]
  exact kk
theorem u_zast {a n : Nat} {i x : Int32} (hc : M.2.2.2.2.2 pc = some (.bastore, 1, nx, [])) (ha : a < 185) (hs : sk a = .inl (1, n)) (hi : vp_in i n) (hx : x = 0 ∨ x = 1) (kk : u_V M d post nx L st (up2 g a i.toNatClampNeg x)) : u_V M d post pc L (.int x :: .int i :: .ref a :: st) g := by
  refine am_zast hc ha (hp_i hs) hi hx ?_
  rw [hw_u (f := upd (g a) i.toNatClampNeg x) (fun g' e => by rw [hp_i hs, e])]
  exact kk
theorem u_copy {a0 a n0' n1 i : Nat} {sp dp n : Int32} (hlk : Cond.methodLink (am_R M.2.2.2.2.1) i arraycopyName ∈ am_tb) (hc : M.2.2.2.2.2 pc = some (.invokestatic i, 3, nx, [])) (ha0 : a0 < 185) (hs0 : sk a0 = .inl (0, n0')) (ha : a < 185) (hs : sk a = .inl (0, n1))
    (g1 : ¬ sp < 0) (g2 : ¬ dp < 0) (g3 : ¬ n < 0) (g4 : sp.toNatClampNeg + n.toNatClampNeg ≤ n0') (g5 : dp.toNatClampNeg + n.toNatClampNeg ≤ n1) (hd : 1 ≤ d) (hst : ∀ b bs, ((st.map (am_v b bs)).map (fun v => v.category)).sum ≤ 8) (kk : u_V M d post nx L st (up1 g a (va_cpy (g a0) (g a) sp.toNatClampNeg dp.toNatClampNeg n.toNatClampNeg))) : u_V M d post pc L (.int n :: .int dp :: .ref a :: .int sp :: .ref a0 :: st) g := by
  refine am_copy hlk ac_nat ac_sta ac_ini hc ha0 (hp_i hs0) ha (hp_i hs) g1 g2 g3 g4 g5 hd hst ?_
  rw [hw_u (f := va_cpy (g a0) (g a) sp.toNatClampNeg dp.toNatClampNeg n.toNatClampNeg) (fun g' e => by rw [hp_i hs, e])]
  exact kk
theorem u_iret {r : Int32} (hc : M.2.2.2.2.2 pc = some (.ireturn, 1, nx, [])) (hret : M.2.2.2.1 = some .int) (hp : post r g) : u_V M d post pc L [.int r] g := am_iret hc hret rfl rfl ⟨g, rfl, hp⟩
theorem u_zret {r : Int32} (hc : M.2.2.2.2.2 pc = some (.ireturn, 1, nx, [])) (hret : M.2.2.2.1 = some .boolean) (hr : r = 0 ∨ r = 1) (hp : post r g) : u_V M d post pc L [.int r] g := am_zret hc hret hr rfl rfl ⟨g, rfl, hp⟩
theorem u_vret (hc : M.2.2.2.2.2 pc = some (.return_, 1, nx, [])) (hret : M.2.2.2.1 = none) (hp : post 0 g) : u_V M d post pc L [] g := am_vret hc hret rfl rfl ⟨g, rfl, hp⟩
theorem u_callV {N : am_M} {i n a : Nat} {fs : List (Option Nat)} {As : List Value} {d' : Nat} (hl : am_lV M.2.2.2.2.1 i N n) (hc : M.2.2.2.2.2 pc = some (.invokevirtual i, 3, nx, [])) (hn : As.length = n) (ha : a < 185) (hs : sk a = .inr (.inr (N.2.2.2.2.1, fs))) (hd : d' + 1 ≤ d) (hst : ∀ b bs, ((st.map (am_v b bs)).map (fun v => v.category)).sum ≤ 8)
    (hX : Y N d' (.ref a :: As) g (fun r g' => u_V M d post nx L (am_ps N.2.2.2.1 r st) g')) : u_V M d post pc L (As.reverse ++ .ref a :: st) g :=
  am_callV hl hc hn ha (hp_o hs) hd hst ⟨Nat.le_refl _, Nat.le_refl _⟩ (am_X.imp hX (fun r h q => by
    obtain ⟨g', rfl, q⟩ := q
    exact q))
theorem u_callS {N : am_M} {i n : Nat} {As : List Value} {d' : Nat} (hl : am_lS M.2.2.2.2.1 i N n) (hc : M.2.2.2.2.2 pc = some (.invokestatic i, 3, nx, [])) (hn : As.length = n) (hd : d' + 1 ≤ d) (hst : ∀ b bs, ((st.map (am_v b bs)).map (fun v => v.category)).sum ≤ 8)
    (hX : Y N d' As g (fun r g' => u_V M d post nx L (am_ps N.2.2.2.1 r st) g')) : u_V M d post pc L (As.reverse ++ st) g :=
  am_callS hl hc hn hd hst ⟨Nat.le_refl _, Nat.le_refl _⟩ (am_X.imp hX (fun r h q => by
    obtain ⟨g', rfl, q⟩ := q
    exact q))
end UV
