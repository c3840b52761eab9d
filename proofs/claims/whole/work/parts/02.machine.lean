/-! THE MACHINE IN SMALL: a world of cells numbered 0, 1, .. (cell k lies at b + k), values whose references are such numbers, locals as a list, a judgement am_V that stands for W, a contract am_X that stands for Met. A float stands for the script (the law alone has it). -/
abbrev am_H : Type := (Nat → va_E) × Nat × Nat
/-- a method: name, bytes, locals, answer's type, class, instructions (instruction, length, next place, targets) -/
abbrev am_M : Type := MethodName × ByteArray × Nat × Option FieldType × Nat × (Nat → Option (Instr × Nat × Nat × List Nat))
def am_v (b bs : Nat) : Value → Value
  | .ref k => .ref (b + k)
  | .float _ => .ref bs
  | v => v
def am_x (b : Nat) : vp_A → vp_A
  | (n, .inr (.inr (.inr (.inr f)))) => (n, .inr (.inr (.inr (.inr (fun j => (f j).map (fun k => b + k))))))
  | x => x
def am_e (b bs : Nat) (cA : Nat → ClassId) : va_E → va_E
  | .inl a => .inl (cA a.1, am_x b a.2)
  | .inr o => .inr (o.1, o.2.map (am_v b bs))
def am_u (h : am_H) (k : Nat) (e : va_E) : am_H := (fun j => if j = k then e else h.1 j, h.2)
def am_n (h : am_H) (e : va_E) (w : Nat) : am_H := (fun j => if j = h.2.1 then e else h.1 j, h.2.1 + 1, h.2.2 + w)
def am_P (D : va_G) (cA : Nat → ClassId) (b bs : Nat) (h : am_H) (H : Heap) : Prop := H.size = b + h.2.1 ∧ ∀ k, k < h.2.1 → va_at D am_cl (b + k, am_e b bs cA (h.1 k)) H
def am_K (D : va_G) (cA : Nat → ClassId) (U : State) : Prop := va_K D am_cl [(cA 0, .int), (cA 1, .boolean), (cA 2, .object RX7)] U ∧ ∀ w ∈ am_nw, va_Nw w U
def am_L (b bs nL : Nat) (L : List (Option Value)) (ls : Array Slot) : Prop := ls.size = nL ∧ lv_wf ls ∧ ∀ (i : Nat) (v : Value), L[i]? = some (some v) → v.category = 1 ∧ ls[i]? = some (.val (am_v b bs v))
def am_off : Instr → List Int
  | .goto o => [o]
  | .if_icmp _ o => [o]
  | .ifCond _ o => [o]
  | .tableswitch d _ _ os => d :: os.toList
  | _ => []
def am_ok (M : am_M) : Prop := ∀ (pc : Nat) (q : Instr × Nat × Nat × List Nat), M.2.2.2.2.2 pc = some q → decode M.2.1 pc = .ok (q.1, q.2.1) ∧ q.2.2.1 = pc + q.2.1 ∧ q.2.2.2.map (fun t : Nat => (t : Int)) = (am_off q.1).map (fun o : Int => (pc : Int) + o)
def am_rm (d mc ms : Nat) : Room := { frames := d, cells := mc, slots := ms, locals := 40 * d }
def am_r (ret : Option FieldType) (r : Int32) : Option Value := match ret with
  | none => none
  | some _ => some (.int r)
def am_Q (ret : Option FieldType) (D : va_G) (cA : Nat → ClassId) (b bs n z : Nat) (post : Int32 → am_H → Prop) : Array Value → State → Outcome → State → Prop := fun _ st oc t =>
  (∃ (r : Int32) (h : am_H), oc = .returned (am_r ret r) ∧ post r h ∧ h.2.1 = n ∧ h.2.2 = z ∧ am_P D cA b bs h t.heap ∧ am_K D cA t) ∧ va_F (fun q => b ≤ q) st t
/-- all that is known of a run of M at a place: budgets, tables, world, locals -/
def am_Re (M : am_M) (sc : Nat × (Nat → Int32)) (d mc ms n0 z0 : Nat) (p : Program) (R : Room) (s : State) (m : MethodId) (args : Array Value) (meth : Method) (c : Code) (D : va_G) (cA : Nat → ClassId) (b bs : Nat) (H : Heap) (locs : List Loc) (ls : Array Slot) (cells slots : Nat) (L : List (Option Value)) (h : am_H) : Prop :=
  (am_ok M ∧ p.tables.exec = Jvm.exec ∧ c.code = M.2.1 ∧ meth.sig.returnType = M.2.2.2.1 ∧ c.maxLocals = M.2.2.1 ∧ s.vm.findClass (am_R M.2.2.2.2.1) = some m.cls ∧ meth.locks = false ∧ meth.name = M.1.name ∧ (∀ w ∈ am_tb, w.before args s = true)) ∧
  (d ≤ R.frames ∧ 40 * d ≤ R.locals ∧ mc ≤ R.cells ∧ ms ≤ R.slots) ∧ am_K D cA s ∧ (M.2.2.2.2.1 = 10 → va_X bs sc.1 sc.2 s s.heap ∧ bs < s.heap.size ∧ bs < b) ∧ (b ≤ s.heap.size ∧ s.heap.size = b + n0) ∧
  am_P D cA b bs h H ∧ va_S (fun q => b ≤ q) s.heap H locs ∧ am_L b bs M.2.2.1 L ls ∧ cells + n0 = h.2.1 ∧ slots + z0 = h.2.2 ∧ h.2.1 ≤ n0 + mc ∧ h.2.2 ≤ z0 + ms
/-- what is asked of a return: Q behind it -/
def am_End (M : am_M) (mc ms n0 z0 : Nat) (post : Int32 → am_H → Prop) (p : Program) (l : Launch) (e : Env) (R : Room) (s : State) (m : MethodId) (args : Array Value) (below : List Frame) (meth : Method) (c : Code) (D : va_G) (cA : Nat → ClassId) (b bs : Nat) (Q : State → Prop) : Prop :=
  ∀ (r : Int32) (h : am_H) (pc : Nat) (H : Heap) (locs : List Loc) (ls : Array Slot) (cells slots : Nat), decode M.2.1 pc = .ok (match M.2.2.2.1 with | none => Instr.return_ | some _ => Instr.ireturn, 1) → post r h → h.2.1 = n0 + mc → h.2.2 = z0 + ms → cells = mc → slots = ms →
    (M.2.2.2.1 = some .boolean → r = 0 ∨ r = 1) → am_P D cA b bs h H → va_S (fun q => b ≤ q) s.heap H locs → W p l e R s m args below meth c H locs cells slots Q (F0 m pc ls (am_r M.2.2.2.1 r).toList)
def am_V (M : am_M) (sc : Nat × (Nat → Int32)) (d mc ms n0 z0 : Nat) (post : Int32 → am_H → Prop) (pc : Nat) (L : List (Option Value)) (st : List Value) (h : am_H) : Prop :=
  ∀ (p : Program) (l : Launch) (e : Env) (R : Room) (s : State) (m : MethodId) (args : Array Value) (below : List Frame) (meth : Method) (c : Code) (D : va_G) (cA : Nat → ClassId) (b bs : Nat) (H : Heap) (locs : List Loc) (ls : Array Slot) (cells slots : Nat) (Q : State → Prop),
    am_Re M sc d mc ms n0 z0 p R s m args meth c D cA b bs H locs ls cells slots L h → am_End M mc ms n0 z0 post p l e R s m args below meth c D cA b bs Q → W p l e R s m args below meth c H locs cells slots Q (F0 m pc ls (st.map (am_v b bs)))
/-- the contract of M: from these values and this world it comes to an end, with post of answer and world -/
def am_X (M : am_M) (d mc ms : Nat) (As : List Value) (h : am_H) (post : Int32 → am_H → Prop) : Prop :=
  ∃ d', d' ≤ d ∧ ∀ (l : Launch) (D : va_G) (cA : Nat → ClassId) (b bs : Nat), Met l M.1 (.code M.1 M.2.1 M.2.2.1 M.2.2.2.1 :: am_tb) (am_rm d' mc ms) (va_Pc (As.map (am_v b bs)) (fun U => am_P D cA b bs h U.heap ∧ am_K D cA U)) (am_Q M.2.2.2.1 D cA b bs (h.2.1 + mc) (h.2.2 + ms) post) mc ms (fun q => b ≤ q)
theorem am_X.mono {M : am_M} {d d2 mc ms : Nat} {As : List Value} {h : am_H} {post : Int32 → am_H → Prop} (hX : am_X M d mc ms As h post) (hd : d ≤ d2) : am_X M d2 mc ms As h post := by
  obtain ⟨d', h1, h2⟩ := hX
  exact ⟨d', Nat.le_trans h1 hd, h2⟩
theorem am_P.put {D : va_G} {cA : Nat → ClassId} {b bs k : Nat} {h : am_H} {H H1 : Heap} {e : va_E} (hP : am_P D cA b bs h H) (he : va_at D am_cl (b + k, am_e b bs cA e) H1) (z : H1.size = H.size) (oq : ∀ q : Nat, q ≠ b + k → H1[q]? = H[q]?) : am_P D cA b bs (am_u h k e) H1 := by
  refine ⟨z.trans hP.1, fun j hj => ?_⟩
  show va_at D am_cl (b + j, am_e b bs cA (if j = k then e else h.1 j)) H1
  by_cases hjk : j = k
  · subst hjk
    rw [if_pos rfl]
    exact he
  · rw [if_neg hjk]
    exact (hP.2 j hj).kept (oq _ (by show b + j ≠ b + k; omega))
theorem am_P.new {D : va_G} {cA : Nat → ClassId} {b bs w : Nat} {h : am_H} {H H1 : Heap} {e : va_E} (hP : am_P D cA b bs h H) (he : va_at D am_cl (H.size, am_e b bs cA e) H1) (z : H1.size = H.size + 1) (oq : ∀ q : Nat, q < H.size → H1[q]? = H[q]?) : am_P D cA b bs (am_n h e w) H1 := by
  refine ⟨?_, fun j hj => ?_⟩
  · show H1.size = b + (h.2.1 + 1)
    rw [z, hP.1]
    omega
  · have hj : j < h.2.1 + 1 := hj
    show va_at D am_cl (b + j, am_e b bs cA (if j = h.2.1 then e else h.1 j)) H1
    by_cases hjk : j = h.2.1
    · subst hjk
      rw [if_pos rfl, ← hP.1]
      exact he
    · rw [if_neg hjk]
      exact (hP.2 j (by omega)).kept (oq _ (by show b + j < H.size; rw [hP.1]; omega))
theorem am_nw_moved {s U : State} (hW : s.WarmedH U.vm) (h : ∀ w ∈ am_nw, va_Nw w s) : ∀ w ∈ am_nw, va_Nw w U := by
  intro w hw
  have h1 := h w hw
  simp only [am_nw, List.mem_cons, List.not_mem_nil, or_false] at hw
  rcases hw with rfl | rfl | rfl | rfl | rfl | rfl | rfl | rfl | rfl
  all_goals first | exact va_Nw.warmM hW h1 | exact va_AO.moved hW.alike h1
theorem am_nw_same {u U : State} (hv : u.vm = U.vm) (h : ∀ w ∈ am_nw, va_Nw w u) : ∀ w ∈ am_nw, va_Nw w U := by
  intro w hw
  have h1 := h w hw
  simp only [am_nw, List.mem_cons, List.not_mem_nil, or_false] at hw
  rcases hw with rfl | rfl | rfl | rfl | rfl | rfl | rfl | rfl | rfl
  all_goals first | exact va_Nw.same rfl hv h1 | exact va_AO.moved (hv ▸ Vm.Alike.refl u.vm) h1
theorem am_K.moved {D : va_G} {cA : Nat → ClassId} {s U : State} (hW : s.WarmedH U.vm) (h : am_K D cA s) : am_K D cA U := ⟨va_K.moved hW.alike h.1, am_nw_moved hW h.2⟩
theorem am_K.same {D : va_G} {cA : Nat → ClassId} {u U : State} (hv : u.vm = U.vm) (h : am_K D cA u) : am_K D cA U := ⟨va_K.moved (hv ▸ Vm.Alike.refl u.vm) h.1, am_nw_same hv h.2⟩
/-- the locals as the kit lists them -/
def am_l (b bs : Nat) : Nat → List (Option Value) → List (Nat × Value)
  | _, [] => []
  | i, none :: L => am_l b bs (i + 1) L
  | i, some v :: L => (i, am_v b bs v) :: am_l b bs (i + 1) L
theorem am_l_mem {b bs : Nat} : ∀ (L : List (Option Value)) (i : Nat) (q : Nat × Value), q ∈ am_l b bs i L ↔ ∃ (j : Nat) (v : Value), L[j]? = some (some v) ∧ q = (i + j, am_v b bs v)
  | [], i, q => by simp [am_l]
  | none :: L, i, q => by
    rw [am_l, am_l_mem L (i + 1) q]
    constructor
    · rintro ⟨j, v, h1, h2⟩
      exact ⟨j + 1, v, by simpa using h1, by rw [h2]; congr 1; omega⟩
    · rintro ⟨j, v, h1, h2⟩
      cases j with
      | zero => simp at h1
      | succ j => exact ⟨j, v, by simpa using h1, by rw [h2]; congr 1; omega⟩
  | some w :: L, i, q => by
    rw [am_l, List.mem_cons, am_l_mem L (i + 1) q]
    constructor
    · rintro (h | ⟨j, v, h1, h2⟩)
      · exact ⟨0, w, by simp, by rw [h]; rfl⟩
      · exact ⟨j + 1, v, by simpa using h1, by rw [h2]; congr 1; omega⟩
    · rintro ⟨j, v, h1, h2⟩
      cases j with
      | zero =>
        simp at h1
        subst h1
        exact Or.inl h2
      | succ j => exact Or.inr ⟨j, v, by simpa using h1, by rw [h2]; congr 1; omega⟩
theorem am_cat {b bs : Nat} {v : Value} (h : v.category = 1) : (am_v b bs v).category = 1 := by
  cases v <;> first | exact h | rfl
theorem am_L.has {b bs nL : Nat} {L : List (Option Value)} {ls : Array Slot} (h : am_L b bs nL L ls) : lv_has ls nL (am_l b bs 0 L) := by
  refine ⟨h.1, h.2.1, fun q hq => ?_⟩
  obtain ⟨j, v, h1, rfl⟩ := (am_l_mem L 0 q).mp hq
  rw [Nat.zero_add]
  exact (h.2.2 j v h1).2
theorem am_L.get {b bs nL : Nat} {L : List (Option Value)} {ls : Array Slot} (h : am_L b bs nL L ls) {i : Nat} {v : Value} (hi : L[i]? = some (some v)) : ls[i]? = some (.val (am_v b bs v)) := (h.2.2 i v hi).2
theorem am_L.set {b bs nL i : Nat} {L : List (Option Value)} {ls ls' : Array Slot} {v : Value} (h : am_L b bs nL L ls) (hc : v.category = 1) (h' : lv_has ls' nL ((i, am_v b bs v) :: (am_l b bs 0 L).filter (fun q => !(q.1 == i) && !(q.1 + 1 == i && q.2.category == 2)))) : am_L b bs nL (L.set i (some v)) ls' := by
  refine ⟨h'.1, h'.2.1, fun j w hj => ?_⟩
  by_cases hij : j = i
  · subst hij
    have hw : w = v := by
      by_cases hl : j < L.length
      · rw [List.getElem?_set_self hl] at hj
        exact (Option.some.inj (Option.some.inj hj)).symm
      · rw [List.getElem?_eq_none (by simp; omega)] at hj
        cases hj
    subst hw
    exact ⟨hc, h'.2.2 _ List.mem_cons_self⟩
  · rw [List.getElem?_set_ne (Ne.symm hij)] at hj
    refine ⟨(h.2.2 j w hj).1, h'.2.2 (j, am_v b bs w) (List.mem_cons_of_mem _ (List.mem_filter.mpr ⟨(am_l_mem L 0 _).mpr ⟨j, w, hj, by rw [Nat.zero_add]⟩, ?_⟩))⟩
    simp [hij, am_cat (h.2.2 j w hj).1]
theorem am_S_lt {b : Nat} {H0 H : Heap} {locs : List Loc} (h : va_S (fun q => b ≤ q) H0 H locs) : H0.size ≤ H.size := h.1
