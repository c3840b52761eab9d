/-! Words of the functions that are read off the code, and what their answers tell; rows of calls by how many values they take. -/
def ck {α : Type} (i : Int32) (n : Nat) (k : Nat → Option α) : Option α := if i < 0 ∨ n ≤ i.toNatClampNeg then none else k i.toNatClampNeg
def dz {α : Type} (y : Int32) (k : Option α) : Option α := if y = 0 then none else k
def bz {α : Type} (x : Int32) (k : Option α) : Option α := if x = 0 ∨ x = 1 then k else none
def cz {α : Type} (sp dp n : Int32) (n0 n1 : Nat) (k : Option α) : Option α := if sp < 0 ∨ dp < 0 ∨ n < 0 ∨ n0 < sp.toNatClampNeg + n.toNatClampNeg ∨ n1 < dp.toNatClampNeg + n.toNatClampNeg then none else k
def wr {α β : Type} (v : α) (k : α → Option β) : Option β := k v
def bd {α β : Type} (x : Option α) (k : α → Option β) : Option β := match x with
  | none => none
  | some a => k a
def bd2 {β : Type} (x : Option (Int32 × G)) (k : Int32 → G → Option β) : Option β := match x with
  | none => none
  | some q => k q.1 q.2
def lp {σ ρ : Type} (body : σ → Option (σ ⊕ ρ)) : Nat → σ → Option ρ
  | 0, _ => none
  | n + 1, s => match body s with
    | none => none
    | some (.inl s') => lp body n s'
    | some (.inr r) => some r
theorem ck_some {α : Type} {i : Int32} {n : Nat} {k : Nat → Option α} {r : α} (h : ck i n k = some r) : ∃ j, j = i.toNatClampNeg ∧ vp_in i n ∧ k j = some r := by
  unfold ck at h
  by_cases c : i < 0 ∨ n ≤ i.toNatClampNeg
  · rw [if_pos c] at h; cases h
  · rw [if_neg c] at h; exact ⟨_, rfl, c, h⟩
theorem vp_lt {i : Int32} {n j : Nat} (h : vp_in i n) (e : j = i.toNatClampNeg) : j < n := by
  rw [e]
  exact Nat.not_le.mp fun q => h (Or.inr q)
theorem dz_some {α : Type} {y : Int32} {k : Option α} {r : α} (h : dz y k = some r) : ¬ y = 0 ∧ k = some r := by
  unfold dz at h
  by_cases c : y = 0
  · rw [if_pos c] at h; cases h
  · rw [if_neg c] at h; exact ⟨c, h⟩
theorem bz_some {α : Type} {x : Int32} {k : Option α} {r : α} (h : bz x k = some r) : (x = 0 ∨ x = 1) ∧ k = some r := by
  unfold bz at h
  by_cases c : x = 0 ∨ x = 1
  · rw [if_pos c] at h; exact ⟨c, h⟩
  · rw [if_neg c] at h; cases h
theorem cz_some {α : Type} {sp dp n : Int32} {n0 n1 : Nat} {k : Option α} {r : α} (h : cz sp dp n n0 n1 k = some r) : ¬ sp < 0 ∧ ¬ dp < 0 ∧ ¬ n < 0 ∧ sp.toNatClampNeg + n.toNatClampNeg ≤ n0 ∧ dp.toNatClampNeg + n.toNatClampNeg ≤ n1 ∧ k = some r := by
  unfold cz at h
  by_cases c : sp < 0 ∨ dp < 0 ∨ n < 0 ∨ n0 < sp.toNatClampNeg + n.toNatClampNeg ∨ n1 < dp.toNatClampNeg + n.toNatClampNeg
  · rw [if_pos c] at h; cases h
  · rw [if_neg c] at h
    simp only [not_or, Nat.not_lt] at c
    exact ⟨c.1, c.2.1, c.2.2.1, c.2.2.2.1, c.2.2.2.2, h⟩
theorem wr_some {α β : Type} {v : α} {k : α → Option β} {r : β} (h : wr v k = some r) : ∃ w, w = v ∧ k w = some r := ⟨v, rfl, h⟩
theorem bd_some {α β : Type} {x : Option α} {k : α → Option β} {r : β} (h : bd x k = some r) : ∃ a, x = some a ∧ k a = some r := by
  cases x with
  | none => cases h
  | some a => exact ⟨a, rfl, h⟩
theorem bd2_some {β : Type} {x : Option (Int32 × G)} {k : Int32 → G → Option β} {r : β} (h : bd2 x k = some r) : ∃ (a : Int32) (g : G), x = some (a, g) ∧ k a g = some r := by
  cases x with
  | none => cases h
  | some q => exact ⟨q.1, q.2, rfl, h⟩
theorem it_pos {c : Prop} [Decidable c] {α : Type} {a b : Option α} {r : α} (hc : c) (h : (if c then a else b) = some r) : a = some r := by rwa [if_pos hc] at h
theorem it_neg {c : Prop} [Decidable c] {α : Type} {a b : Option α} {r : α} (hc : ¬ c) (h : (if c then a else b) = some r) : b = some r := by rwa [if_neg hc] at h
theorem lp_ind {σ ρ : Type} {body : σ → Option (σ ⊕ ρ)} {P : σ → Prop} {Q : ρ → Prop} (hb : ∀ s x, body s = some x → Sum.elim P Q x → P s) : ∀ (n : Nat) (s : σ) (e : ρ), lp body n s = some e → Q e → P s
  | 0, _, _, h, _ => by cases h
  | n + 1, s, e, h, hq => by
    rw [lp] at h
    cases hx : body s with
    | none => rw [hx] at h; cases h
    | some x =>
      rw [hx] at h
      cases x with
      | inl s' => exact hb s _ hx (lp_ind hb n s' e h hq)
      | inr r =>
        have h : some r = some e := h
        cases h
        exact hb s _ hx hq
def am_le : List (Option Value) → List (Option Value) → Prop
  | [], _ => True
  | none :: l', _ :: l => am_le l' l
  | some v :: l', some w :: l => v = w ∧ am_le l' l
  | _, _ => False
theorem am_le_get : ∀ (l' l : List (Option Value)), am_le l' l → ∀ (i : Nat) (v : Value), l'[i]? = some (some v) → l[i]? = some (some v)
  | [], _, _, i, v, h => by simp at h
  | none :: l', [], hl, i, v, h => hl.elim
  | some w :: l', [], hl, i, v, h => hl.elim
  | none :: l', x :: l, hl, 0, v, h => by simp at h
  | none :: l', x :: l, hl, i + 1, v, h => am_le_get l' l hl i v (by simpa using h)
  | some w :: l', none :: l, hl, i, v, h => hl.elim
  | some w :: l', some x :: l, hl, 0, v, h => by
    simp at h
    subst h
    rw [hl.1]
    rfl
  | some w :: l', some x :: l, hl, i + 1, v, h => am_le_get l' l hl.2 i v (by simpa using h)
theorem am_drop {M : am_M} {sc : Nat × (Nat → Int32)} {d mc ms n0 z0 : Nat} {post : Int32 → am_H → Prop} {pc : Nat} {L L' : List (Option Value)} {st : List Value} {h : am_H} (hl : am_le L' L) (k : am_V M sc d mc ms n0 z0 post pc L' st h) : am_V M sc d mc ms n0 z0 post pc L st h := by
  intro p l e R s m args below meth c D cA b bs H locs ls cells slots Q Re En
  obtain ⟨r1, r2, r3, r4, r5, r6, r7, r8, r9⟩ := Re
  exact k p l e R s m args below meth c D cA b bs H locs ls cells slots Q ⟨r1, r2, r3, r4, r5, r6, r7, ⟨r8.1, r8.2.1, fun i v hi => r8.2.2 i v (am_le_get L' L hl i v hi)⟩, r9⟩ En
theorem isT_lt0 {a : Nat} (h : isT a) : a < 185 := isT_lt (j := 0) h (by decide)
theorem isT_l {j n : Nat} (h : j < 4) (e : n = 47 + 28 * j) : isT n := ⟨2 * j, by omega, by omega⟩
theorem isT_s {j n : Nat} (h : j < 4) (e : n = 61 + 28 * j) : isT n := ⟨2 * j + 1, by omega, by omega⟩
section UX
variable {M : am_M} {d : Nat} {post : Int32 → G → Prop} {pc nx : Nat} {L : List (Option Value)} {st : List Value} {g : G}
theorem x_iconst {sc : Nat × (Nat → Int32)} {mc ms n0 z0 : Nat} {post : Int32 → am_H → Prop} {h : am_H} {n : Int} {v : Int32} (hc : M.2.2.2.2.2 pc = some (.iconst n, 1, nx, [])) (hv : Int32.ofInt n = v) (k : am_V M sc d mc ms n0 z0 post nx L (.int v :: st) h) : am_V M sc d mc ms n0 z0 post pc L st h := am_iconst hc (by rw [hv]; exact k)
theorem x_bipush {sc : Nat × (Nat → Int32)} {mc ms n0 z0 : Nat} {post : Int32 → am_H → Prop} {h : am_H} {n : Int} {v : Int32} (hc : M.2.2.2.2.2 pc = some (.bipush n, 2, nx, [])) (hv : (Int8.ofInt n).toInt32 = v) (k : am_V M sc d mc ms n0 z0 post nx L (.int v :: st) h) : am_V M sc d mc ms n0 z0 post pc L st h := am_bipush hc (by rw [hv]; exact k)
theorem x_sipush {sc : Nat × (Nat → Int32)} {mc ms n0 z0 : Nat} {post : Int32 → am_H → Prop} {h : am_H} {n : Int} {v : Int32} (hc : M.2.2.2.2.2 pc = some (.sipush n, 3, nx, [])) (hv : (Int16.ofInt n).toInt32 = v) (k : am_V M sc d mc ms n0 z0 post nx L (.int v :: st) h) : am_V M sc d mc ms n0 z0 post pc L st h := am_sipush hc (by rw [hv]; exact k)
theorem x_iinc {i : Nat} {n : Int} {x v : Int32} (hc : M.2.2.2.2.2 pc = some (.iinc i n, 3, nx, [])) (hl : L[i]? = some (some (.int x))) (hn : i < M.2.2.1) (hv : x + Int32.ofInt n = v) (k : u_V M d post nx (L.set i (some (.int v))) st g) : u_V M d post pc L st g := am_iinc hc hl hn (by rw [hv]; exact k)
theorem x_iald {a n j : Nat} {i : Int32} (hc : M.2.2.2.2.2 pc = some (.iaload, 1, nx, [])) (ha : a < 185) (hs : sk a = .inl (0, n)) (hi : vp_in i n) (hj : j = i.toNatClampNeg) (kk : u_V M d post nx L (.int (g a j) :: st) g) : u_V M d post pc L (.int i :: .ref a :: st) g := by subst hj; exact u_iald hc ha hs hi kk
theorem x_zald {a n j : Nat} {i : Int32} (hc : M.2.2.2.2.2 pc = some (.baload, 1, nx, [])) (ha : a < 185) (hs : sk a = .inl (1, n)) (hi : vp_in i n) (hj : j = i.toNatClampNeg) (kk : u_V M d post nx L (.int (g a j) :: st) g) : u_V M d post pc L (.int i :: .ref a :: st) g := by subst hj; exact u_zald hc ha hs hi kk
theorem x_aald {a n r j : Nat} {f : Nat → Option Nat} {i : Int32} (hc : M.2.2.2.2.2 pc = some (.aaload, 1, nx, [])) (ha : a < 185) (hs : sk a = .inr (.inl (n, f))) (hi : vp_in i n) (hj : j = i.toNatClampNeg) (hr : f j = some r) (kk : u_V M d post nx L (.ref r :: st) g) : u_V M d post pc L (.int i :: .ref a :: st) g := by subst hj; exact u_aald hc ha hs hi hr kk
theorem x_iast {a n j : Nat} {i x : Int32} {g1 : G} (hc : M.2.2.2.2.2 pc = some (.iastore, 1, nx, [])) (ha : a < 185) (hs : sk a = .inl (0, n)) (hi : vp_in i n) (hj : j = i.toNatClampNeg) (hg : g1 = up2 g a j x) (kk : u_V M d post nx L st g1) : u_V M d post pc L (.int x :: .int i :: .ref a :: st) g := by subst hj; subst hg; exact u_iast hc ha hs hi kk
theorem x_zast {a n j : Nat} {i x : Int32} {g1 : G} (hc : M.2.2.2.2.2 pc = some (.bastore, 1, nx, [])) (ha : a < 185) (hs : sk a = .inl (1, n)) (hi : vp_in i n) (hj : j = i.toNatClampNeg) (hx : x = 0 ∨ x = 1) (hg : g1 = up2 g a j x) (kk : u_V M d post nx L st g1) : u_V M d post pc L (.int x :: .int i :: .ref a :: st) g := by subst hj; subst hg; exact u_zast hc ha hs hi hx kk
theorem x_putI {ci k a i : Nat} {fs : List (Option Nat)} {v : Int32} {g1 : G} (hf : am_lF M.2.2.2.2.1 i ci k) (hfin : am_fin ci k = false) (hc : M.2.2.2.2.2 pc = some (.putfield i, 3, nx, [])) (ha : a < 185) (hs : sk a = .inr (.inr (ci, fs))) (hk : fs[k]? = some none) (hv : am_fit (am_ty ci k) (.int v)) (hg : g1 = up2 g a k v) (kk : u_V M d post nx L st g1) : u_V M d post pc L (.int v :: .ref a :: st) g := by subst hg; exact u_putI hf hfin hc ha hs hk hv kk
theorem x_copy {a0 a n0' n1 i : Nat} {sp dp n : Int32} {g' : G} (hlk : Cond.methodLink (am_R M.2.2.2.2.1) i arraycopyName ∈ am_tb) (hc : M.2.2.2.2.2 pc = some (.invokestatic i, 3, nx, [])) (ha0 : a0 < 185) (hs0 : sk a0 = .inl (0, n0')) (ha : a < 185) (hs : sk a = .inl (0, n1))
    (g1 : ¬ sp < 0) (g2 : ¬ dp < 0) (g3 : ¬ n < 0) (g4 : sp.toNatClampNeg + n.toNatClampNeg ≤ n0') (g5 : dp.toNatClampNeg + n.toNatClampNeg ≤ n1) (hd : 1 ≤ d) (hst : ∀ b bs, ((st.map (am_v b bs)).map (fun v => v.category)).sum ≤ 8) (hg : g' = up1 g a (va_cpy (g a0) (g a) sp.toNatClampNeg dp.toNatClampNeg n.toNatClampNeg)) (kk : u_V M d post nx L st g') : u_V M d post pc L (.int n :: .int dp :: .ref a :: .int sp :: .ref a0 :: st) g := by subst hg; exact u_copy hlk hc ha0 hs0 ha hs g1 g2 g3 g4 g5 hd hst kk
end UX
section UC
variable {M : am_M} {d : Nat} {post : Int32 → G → Prop} {pc nx : Nat} {L : List (Option Value)} {st : List Value} {g : G}
theorem cv0i {N : am_M} {i a : Nat} {fs : List (Option Nat)} {ty : FieldType} {d' : Nat} (hl : am_lV M.2.2.2.2.1 i N 0) (hret : N.2.2.2.1 = (some ty)) (hc : M.2.2.2.2.2 pc = some (.invokevirtual i, 3, nx, [])) (ha : a < 185) (hs : sk a = .inr (.inr (N.2.2.2.2.1, fs))) (hd : d' + 1 ≤ d) (hst : ∀ b bs, ((st.map (am_v b bs)).map (fun v => v.category)).sum ≤ 8) (hX : Y N d' (.ref a :: []) g (fun r g' => u_V M d post nx L (.int r :: st) g')) : u_V M d post pc L (.ref a :: st) g := u_callV (As := []) hl hc rfl ha hs hd hst (Y.imp hX (fun r g' q => by rw [hret]; exact q))
theorem cs0i {N : am_M} {i : Nat} {ty : FieldType} {d' : Nat} (hl : am_lS M.2.2.2.2.1 i N 0) (hret : N.2.2.2.1 = (some ty)) (hc : M.2.2.2.2.2 pc = some (.invokestatic i, 3, nx, [])) (hd : d' + 1 ≤ d) (hst : ∀ b bs, ((st.map (am_v b bs)).map (fun v => v.category)).sum ≤ 8) (hX : Y N d' [] g (fun r g' => u_V M d post nx L (.int r :: st) g')) : u_V M d post pc L (st) g := u_callS (As := []) hl hc rfl hd hst (Y.imp hX (fun r g' q => by rw [hret]; exact q))
theorem cv0v {N : am_M} {i a : Nat} {fs : List (Option Nat)} {d' : Nat} (hl : am_lV M.2.2.2.2.1 i N 0) (hret : N.2.2.2.1 = none) (hc : M.2.2.2.2.2 pc = some (.invokevirtual i, 3, nx, [])) (ha : a < 185) (hs : sk a = .inr (.inr (N.2.2.2.2.1, fs))) (hd : d' + 1 ≤ d) (hst : ∀ b bs, ((st.map (am_v b bs)).map (fun v => v.category)).sum ≤ 8) (hX : Y N d' (.ref a :: []) g (fun r g' => u_V M d post nx L (st) g')) : u_V M d post pc L (.ref a :: st) g := u_callV (As := []) hl hc rfl ha hs hd hst (Y.imp hX (fun r g' q => by rw [hret]; exact q))
theorem cs0v {N : am_M} {i : Nat} {d' : Nat} (hl : am_lS M.2.2.2.2.1 i N 0) (hret : N.2.2.2.1 = none) (hc : M.2.2.2.2.2 pc = some (.invokestatic i, 3, nx, [])) (hd : d' + 1 ≤ d) (hst : ∀ b bs, ((st.map (am_v b bs)).map (fun v => v.category)).sum ≤ 8) (hX : Y N d' [] g (fun r g' => u_V M d post nx L (st) g')) : u_V M d post pc L (st) g := u_callS (As := []) hl hc rfl hd hst (Y.imp hX (fun r g' q => by rw [hret]; exact q))
theorem cv1i {N : am_M} {i a : Nat} {fs : List (Option Nat)} {x1 : Value} {ty : FieldType} {d' : Nat} (hl : am_lV M.2.2.2.2.1 i N 1) (hret : N.2.2.2.1 = (some ty)) (hc : M.2.2.2.2.2 pc = some (.invokevirtual i, 3, nx, [])) (ha : a < 185) (hs : sk a = .inr (.inr (N.2.2.2.2.1, fs))) (hd : d' + 1 ≤ d) (hst : ∀ b bs, ((st.map (am_v b bs)).map (fun v => v.category)).sum ≤ 8) (hX : Y N d' (.ref a :: [x1]) g (fun r g' => u_V M d post nx L (.int r :: st) g')) : u_V M d post pc L (x1 :: .ref a :: st) g := u_callV (As := [x1]) hl hc rfl ha hs hd hst (Y.imp hX (fun r g' q => by rw [hret]; exact q))
theorem cs1i {N : am_M} {i : Nat} {x1 : Value} {ty : FieldType} {d' : Nat} (hl : am_lS M.2.2.2.2.1 i N 1) (hret : N.2.2.2.1 = (some ty)) (hc : M.2.2.2.2.2 pc = some (.invokestatic i, 3, nx, [])) (hd : d' + 1 ≤ d) (hst : ∀ b bs, ((st.map (am_v b bs)).map (fun v => v.category)).sum ≤ 8) (hX : Y N d' [x1] g (fun r g' => u_V M d post nx L (.int r :: st) g')) : u_V M d post pc L (x1 :: st) g := u_callS (As := [x1]) hl hc rfl hd hst (Y.imp hX (fun r g' q => by rw [hret]; exact q))
theorem cv1v {N : am_M} {i a : Nat} {fs : List (Option Nat)} {x1 : Value} {d' : Nat} (hl : am_lV M.2.2.2.2.1 i N 1) (hret : N.2.2.2.1 = none) (hc : M.2.2.2.2.2 pc = some (.invokevirtual i, 3, nx, [])) (ha : a < 185) (hs : sk a = .inr (.inr (N.2.2.2.2.1, fs))) (hd : d' + 1 ≤ d) (hst : ∀ b bs, ((st.map (am_v b bs)).map (fun v => v.category)).sum ≤ 8) (hX : Y N d' (.ref a :: [x1]) g (fun r g' => u_V M d post nx L (st) g')) : u_V M d post pc L (x1 :: .ref a :: st) g := u_callV (As := [x1]) hl hc rfl ha hs hd hst (Y.imp hX (fun r g' q => by rw [hret]; exact q))
theorem cs1v {N : am_M} {i : Nat} {x1 : Value} {d' : Nat} (hl : am_lS M.2.2.2.2.1 i N 1) (hret : N.2.2.2.1 = none) (hc : M.2.2.2.2.2 pc = some (.invokestatic i, 3, nx, [])) (hd : d' + 1 ≤ d) (hst : ∀ b bs, ((st.map (am_v b bs)).map (fun v => v.category)).sum ≤ 8) (hX : Y N d' [x1] g (fun r g' => u_V M d post nx L (st) g')) : u_V M d post pc L (x1 :: st) g := u_callS (As := [x1]) hl hc rfl hd hst (Y.imp hX (fun r g' q => by rw [hret]; exact q))
theorem cv2i {N : am_M} {i a : Nat} {fs : List (Option Nat)} {x1 x2 : Value} {ty : FieldType} {d' : Nat} (hl : am_lV M.2.2.2.2.1 i N 2) (hret : N.2.2.2.1 = (some ty)) (hc : M.2.2.2.2.2 pc = some (.invokevirtual i, 3, nx, [])) (ha : a < 185) (hs : sk a = .inr (.inr (N.2.2.2.2.1, fs))) (hd : d' + 1 ≤ d) (hst : ∀ b bs, ((st.map (am_v b bs)).map (fun v => v.category)).sum ≤ 8) (hX : Y N d' (.ref a :: [x1, x2]) g (fun r g' => u_V M d post nx L (.int r :: st) g')) : u_V M d post pc L (x2 :: x1 :: .ref a :: st) g := u_callV (As := [x1, x2]) hl hc rfl ha hs hd hst (Y.imp hX (fun r g' q => by rw [hret]; exact q))
theorem cs2i {N : am_M} {i : Nat} {x1 x2 : Value} {ty : FieldType} {d' : Nat} (hl : am_lS M.2.2.2.2.1 i N 2) (hret : N.2.2.2.1 = (some ty)) (hc : M.2.2.2.2.2 pc = some (.invokestatic i, 3, nx, [])) (hd : d' + 1 ≤ d) (hst : ∀ b bs, ((st.map (am_v b bs)).map (fun v => v.category)).sum ≤ 8) (hX : Y N d' [x1, x2] g (fun r g' => u_V M d post nx L (.int r :: st) g')) : u_V M d post pc L (x2 :: x1 :: st) g := u_callS (As := [x1, x2]) hl hc rfl hd hst (Y.imp hX (fun r g' q => by rw [hret]; exact q))
theorem cv2v {N : am_M} {i a : Nat} {fs : List (Option Nat)} {x1 x2 : Value} {d' : Nat} (hl : am_lV M.2.2.2.2.1 i N 2) (hret : N.2.2.2.1 = none) (hc : M.2.2.2.2.2 pc = some (.invokevirtual i, 3, nx, [])) (ha : a < 185) (hs : sk a = .inr (.inr (N.2.2.2.2.1, fs))) (hd : d' + 1 ≤ d) (hst : ∀ b bs, ((st.map (am_v b bs)).map (fun v => v.category)).sum ≤ 8) (hX : Y N d' (.ref a :: [x1, x2]) g (fun r g' => u_V M d post nx L (st) g')) : u_V M d post pc L (x2 :: x1 :: .ref a :: st) g := u_callV (As := [x1, x2]) hl hc rfl ha hs hd hst (Y.imp hX (fun r g' q => by rw [hret]; exact q))
theorem cs2v {N : am_M} {i : Nat} {x1 x2 : Value} {d' : Nat} (hl : am_lS M.2.2.2.2.1 i N 2) (hret : N.2.2.2.1 = none) (hc : M.2.2.2.2.2 pc = some (.invokestatic i, 3, nx, [])) (hd : d' + 1 ≤ d) (hst : ∀ b bs, ((st.map (am_v b bs)).map (fun v => v.category)).sum ≤ 8) (hX : Y N d' [x1, x2] g (fun r g' => u_V M d post nx L (st) g')) : u_V M d post pc L (x2 :: x1 :: st) g := u_callS (As := [x1, x2]) hl hc rfl hd hst (Y.imp hX (fun r g' q => by rw [hret]; exact q))
theorem cv3i {N : am_M} {i a : Nat} {fs : List (Option Nat)} {x1 x2 x3 : Value} {ty : FieldType} {d' : Nat} (hl : am_lV M.2.2.2.2.1 i N 3) (hret : N.2.2.2.1 = (some ty)) (hc : M.2.2.2.2.2 pc = some (.invokevirtual i, 3, nx, [])) (ha : a < 185) (hs : sk a = .inr (.inr (N.2.2.2.2.1, fs))) (hd : d' + 1 ≤ d) (hst : ∀ b bs, ((st.map (am_v b bs)).map (fun v => v.category)).sum ≤ 8) (hX : Y N d' (.ref a :: [x1, x2, x3]) g (fun r g' => u_V M d post nx L (.int r :: st) g')) : u_V M d post pc L (x3 :: x2 :: x1 :: .ref a :: st) g := u_callV (As := [x1, x2, x3]) hl hc rfl ha hs hd hst (Y.imp hX (fun r g' q => by rw [hret]; exact q))
theorem cs3i {N : am_M} {i : Nat} {x1 x2 x3 : Value} {ty : FieldType} {d' : Nat} (hl : am_lS M.2.2.2.2.1 i N 3) (hret : N.2.2.2.1 = (some ty)) (hc : M.2.2.2.2.2 pc = some (.invokestatic i, 3, nx, [])) (hd : d' + 1 ≤ d) (hst : ∀ b bs, ((st.map (am_v b bs)).map (fun v => v.category)).sum ≤ 8) (hX : Y N d' [x1, x2, x3] g (fun r g' => u_V M d post nx L (.int r :: st) g')) : u_V M d post pc L (x3 :: x2 :: x1 :: st) g := u_callS (As := [x1, x2, x3]) hl hc rfl hd hst (Y.imp hX (fun r g' q => by rw [hret]; exact q))
theorem cv3v {N : am_M} {i a : Nat} {fs : List (Option Nat)} {x1 x2 x3 : Value} {d' : Nat} (hl : am_lV M.2.2.2.2.1 i N 3) (hret : N.2.2.2.1 = none) (hc : M.2.2.2.2.2 pc = some (.invokevirtual i, 3, nx, [])) (ha : a < 185) (hs : sk a = .inr (.inr (N.2.2.2.2.1, fs))) (hd : d' + 1 ≤ d) (hst : ∀ b bs, ((st.map (am_v b bs)).map (fun v => v.category)).sum ≤ 8) (hX : Y N d' (.ref a :: [x1, x2, x3]) g (fun r g' => u_V M d post nx L (st) g')) : u_V M d post pc L (x3 :: x2 :: x1 :: .ref a :: st) g := u_callV (As := [x1, x2, x3]) hl hc rfl ha hs hd hst (Y.imp hX (fun r g' q => by rw [hret]; exact q))
theorem cs3v {N : am_M} {i : Nat} {x1 x2 x3 : Value} {d' : Nat} (hl : am_lS M.2.2.2.2.1 i N 3) (hret : N.2.2.2.1 = none) (hc : M.2.2.2.2.2 pc = some (.invokestatic i, 3, nx, [])) (hd : d' + 1 ≤ d) (hst : ∀ b bs, ((st.map (am_v b bs)).map (fun v => v.category)).sum ≤ 8) (hX : Y N d' [x1, x2, x3] g (fun r g' => u_V M d post nx L (st) g')) : u_V M d post pc L (x3 :: x2 :: x1 :: st) g := u_callS (As := [x1, x2, x3]) hl hc rfl hd hst (Y.imp hX (fun r g' q => by rw [hret]; exact q))
theorem cv4i {N : am_M} {i a : Nat} {fs : List (Option Nat)} {x1 x2 x3 x4 : Value} {ty : FieldType} {d' : Nat} (hl : am_lV M.2.2.2.2.1 i N 4) (hret : N.2.2.2.1 = (some ty)) (hc : M.2.2.2.2.2 pc = some (.invokevirtual i, 3, nx, [])) (ha : a < 185) (hs : sk a = .inr (.inr (N.2.2.2.2.1, fs))) (hd : d' + 1 ≤ d) (hst : ∀ b bs, ((st.map (am_v b bs)).map (fun v => v.category)).sum ≤ 8) (hX : Y N d' (.ref a :: [x1, x2, x3, x4]) g (fun r g' => u_V M d post nx L (.int r :: st) g')) : u_V M d post pc L (x4 :: x3 :: x2 :: x1 :: .ref a :: st) g := u_callV (As := [x1, x2, x3, x4]) hl hc rfl ha hs hd hst (Y.imp hX (fun r g' q => by rw [hret]; exact q))
theorem cs4i {N : am_M} {i : Nat} {x1 x2 x3 x4 : Value} {ty : FieldType} {d' : Nat} (hl : am_lS M.2.2.2.2.1 i N 4) (hret : N.2.2.2.1 = (some ty)) (hc : M.2.2.2.2.2 pc = some (.invokestatic i, 3, nx, [])) (hd : d' + 1 ≤ d) (hst : ∀ b bs, ((st.map (am_v b bs)).map (fun v => v.category)).sum ≤ 8) (hX : Y N d' [x1, x2, x3, x4] g (fun r g' => u_V M d post nx L (.int r :: st) g')) : u_V M d post pc L (x4 :: x3 :: x2 :: x1 :: st) g := u_callS (As := [x1, x2, x3, x4]) hl hc rfl hd hst (Y.imp hX (fun r g' q => by rw [hret]; exact q))
theorem cv4v {N : am_M} {i a : Nat} {fs : List (Option Nat)} {x1 x2 x3 x4 : Value} {d' : Nat} (hl : am_lV M.2.2.2.2.1 i N 4) (hret : N.2.2.2.1 = none) (hc : M.2.2.2.2.2 pc = some (.invokevirtual i, 3, nx, [])) (ha : a < 185) (hs : sk a = .inr (.inr (N.2.2.2.2.1, fs))) (hd : d' + 1 ≤ d) (hst : ∀ b bs, ((st.map (am_v b bs)).map (fun v => v.category)).sum ≤ 8) (hX : Y N d' (.ref a :: [x1, x2, x3, x4]) g (fun r g' => u_V M d post nx L (st) g')) : u_V M d post pc L (x4 :: x3 :: x2 :: x1 :: .ref a :: st) g := u_callV (As := [x1, x2, x3, x4]) hl hc rfl ha hs hd hst (Y.imp hX (fun r g' q => by rw [hret]; exact q))
theorem cs4v {N : am_M} {i : Nat} {x1 x2 x3 x4 : Value} {d' : Nat} (hl : am_lS M.2.2.2.2.1 i N 4) (hret : N.2.2.2.1 = none) (hc : M.2.2.2.2.2 pc = some (.invokestatic i, 3, nx, [])) (hd : d' + 1 ≤ d) (hst : ∀ b bs, ((st.map (am_v b bs)).map (fun v => v.category)).sum ≤ 8) (hX : Y N d' [x1, x2, x3, x4] g (fun r g' => u_V M d post nx L (st) g')) : u_V M d post pc L (x4 :: x3 :: x2 :: x1 :: st) g := u_callS (As := [x1, x2, x3, x4]) hl hc rfl hd hst (Y.imp hX (fun r g' q => by rw [hret]; exact q))
theorem cv5i {N : am_M} {i a : Nat} {fs : List (Option Nat)} {x1 x2 x3 x4 x5 : Value} {ty : FieldType} {d' : Nat} (hl : am_lV M.2.2.2.2.1 i N 5) (hret : N.2.2.2.1 = (some ty)) (hc : M.2.2.2.2.2 pc = some (.invokevirtual i, 3, nx, [])) (ha : a < 185) (hs : sk a = .inr (.inr (N.2.2.2.2.1, fs))) (hd : d' + 1 ≤ d) (hst : ∀ b bs, ((st.map (am_v b bs)).map (fun v => v.category)).sum ≤ 8) (hX : Y N d' (.ref a :: [x1, x2, x3, x4, x5]) g (fun r g' => u_V M d post nx L (.int r :: st) g')) : u_V M d post pc L (x5 :: x4 :: x3 :: x2 :: x1 :: .ref a :: st) g := u_callV (As := [x1, x2, x3, x4, x5]) hl hc rfl ha hs hd hst (Y.imp hX (fun r g' q => by rw [hret]; exact q))
theorem cs5i {N : am_M} {i : Nat} {x1 x2 x3 x4 x5 : Value} {ty : FieldType} {d' : Nat} (hl : am_lS M.2.2.2.2.1 i N 5) (hret : N.2.2.2.1 = (some ty)) (hc : M.2.2.2.2.2 pc = some (.invokestatic i, 3, nx, [])) (hd : d' + 1 ≤ d) (hst : ∀ b bs, ((st.map (am_v b bs)).map (fun v => v.category)).sum ≤ 8) (hX : Y N d' [x1, x2, x3, x4, x5] g (fun r g' => u_V M d post nx L (.int r :: st) g')) : u_V M d post pc L (x5 :: x4 :: x3 :: x2 :: x1 :: st) g := u_callS (As := [x1, x2, x3, x4, x5]) hl hc rfl hd hst (Y.imp hX (fun r g' q => by rw [hret]; exact q))
theorem cv5v {N : am_M} {i a : Nat} {fs : List (Option Nat)} {x1 x2 x3 x4 x5 : Value} {d' : Nat} (hl : am_lV M.2.2.2.2.1 i N 5) (hret : N.2.2.2.1 = none) (hc : M.2.2.2.2.2 pc = some (.invokevirtual i, 3, nx, [])) (ha : a < 185) (hs : sk a = .inr (.inr (N.2.2.2.2.1, fs))) (hd : d' + 1 ≤ d) (hst : ∀ b bs, ((st.map (am_v b bs)).map (fun v => v.category)).sum ≤ 8) (hX : Y N d' (.ref a :: [x1, x2, x3, x4, x5]) g (fun r g' => u_V M d post nx L (st) g')) : u_V M d post pc L (x5 :: x4 :: x3 :: x2 :: x1 :: .ref a :: st) g := u_callV (As := [x1, x2, x3, x4, x5]) hl hc rfl ha hs hd hst (Y.imp hX (fun r g' q => by rw [hret]; exact q))
theorem cs5v {N : am_M} {i : Nat} {x1 x2 x3 x4 x5 : Value} {d' : Nat} (hl : am_lS M.2.2.2.2.1 i N 5) (hret : N.2.2.2.1 = none) (hc : M.2.2.2.2.2 pc = some (.invokestatic i, 3, nx, [])) (hd : d' + 1 ≤ d) (hst : ∀ b bs, ((st.map (am_v b bs)).map (fun v => v.category)).sum ≤ 8) (hX : Y N d' [x1, x2, x3, x4, x5] g (fun r g' => u_V M d post nx L (st) g')) : u_V M d post pc L (x5 :: x4 :: x3 :: x2 :: x1 :: st) g := u_callS (As := [x1, x2, x3, x4, x5]) hl hc rfl hd hst (Y.imp hX (fun r g' q => by rw [hret]; exact q))
theorem cv6i {N : am_M} {i a : Nat} {fs : List (Option Nat)} {x1 x2 x3 x4 x5 x6 : Value} {ty : FieldType} {d' : Nat} (hl : am_lV M.2.2.2.2.1 i N 6) (hret : N.2.2.2.1 = (some ty)) (hc : M.2.2.2.2.2 pc = some (.invokevirtual i, 3, nx, [])) (ha : a < 185) (hs : sk a = .inr (.inr (N.2.2.2.2.1, fs))) (hd : d' + 1 ≤ d) (hst : ∀ b bs, ((st.map (am_v b bs)).map (fun v => v.category)).sum ≤ 8) (hX : Y N d' (.ref a :: [x1, x2, x3, x4, x5, x6]) g (fun r g' => u_V M d post nx L (.int r :: st) g')) : u_V M d post pc L (x6 :: x5 :: x4 :: x3 :: x2 :: x1 :: .ref a :: st) g := u_callV (As := [x1, x2, x3, x4, x5, x6]) hl hc rfl ha hs hd hst (Y.imp hX (fun r g' q => by rw [hret]; exact q))
theorem cs6i {N : am_M} {i : Nat} {x1 x2 x3 x4 x5 x6 : Value} {ty : FieldType} {d' : Nat} (hl : am_lS M.2.2.2.2.1 i N 6) (hret : N.2.2.2.1 = (some ty)) (hc : M.2.2.2.2.2 pc = some (.invokestatic i, 3, nx, [])) (hd : d' + 1 ≤ d) (hst : ∀ b bs, ((st.map (am_v b bs)).map (fun v => v.category)).sum ≤ 8) (hX : Y N d' [x1, x2, x3, x4, x5, x6] g (fun r g' => u_V M d post nx L (.int r :: st) g')) : u_V M d post pc L (x6 :: x5 :: x4 :: x3 :: x2 :: x1 :: st) g := u_callS (As := [x1, x2, x3, x4, x5, x6]) hl hc rfl hd hst (Y.imp hX (fun r g' q => by rw [hret]; exact q))
theorem cv6v {N : am_M} {i a : Nat} {fs : List (Option Nat)} {x1 x2 x3 x4 x5 x6 : Value} {d' : Nat} (hl : am_lV M.2.2.2.2.1 i N 6) (hret : N.2.2.2.1 = none) (hc : M.2.2.2.2.2 pc = some (.invokevirtual i, 3, nx, [])) (ha : a < 185) (hs : sk a = .inr (.inr (N.2.2.2.2.1, fs))) (hd : d' + 1 ≤ d) (hst : ∀ b bs, ((st.map (am_v b bs)).map (fun v => v.category)).sum ≤ 8) (hX : Y N d' (.ref a :: [x1, x2, x3, x4, x5, x6]) g (fun r g' => u_V M d post nx L (st) g')) : u_V M d post pc L (x6 :: x5 :: x4 :: x3 :: x2 :: x1 :: .ref a :: st) g := u_callV (As := [x1, x2, x3, x4, x5, x6]) hl hc rfl ha hs hd hst (Y.imp hX (fun r g' q => by rw [hret]; exact q))
theorem cs6v {N : am_M} {i : Nat} {x1 x2 x3 x4 x5 x6 : Value} {d' : Nat} (hl : am_lS M.2.2.2.2.1 i N 6) (hret : N.2.2.2.1 = none) (hc : M.2.2.2.2.2 pc = some (.invokestatic i, 3, nx, [])) (hd : d' + 1 ≤ d) (hst : ∀ b bs, ((st.map (am_v b bs)).map (fun v => v.category)).sum ≤ 8) (hX : Y N d' [x1, x2, x3, x4, x5, x6] g (fun r g' => u_V M d post nx L (st) g')) : u_V M d post pc L (x6 :: x5 :: x4 :: x3 :: x2 :: x1 :: st) g := u_callS (As := [x1, x2, x3, x4, x5, x6]) hl hc rfl hd hst (Y.imp hX (fun r g' q => by rw [hret]; exact q))
end UC
