/-! Calls, returns, a contract out of a walk, new cells, arraycopy, the script. -/
theorem am_goodIn {ws : List Cond} (h : ∀ w ∈ ws, w ∈ am_tb) : GoodIn am_tb ws := fun w hw => am_good w (h w hw)
/-- what the tables tell of M as a callee -/
def am_lM (N : am_M) (n : Nat) : Prop := Cond.initialized N.1.cls ∈ am_tb ∧ Cond.code N.1 N.2.1 N.2.2.1 N.2.2.2.1 ∈ am_tb ∧ N.1.cls = am_R N.2.2.2.2.1 ∧ (N.1.cls ≠ "java/lang/invoke/MethodHandle" ∧ N.1.cls ≠ "java/lang/invoke/VarHandle" ∧ (parseMethodDescriptor N.1.desc).map (fun d => d.parameters.length) = some n) ∧ N.2.2.1 ≤ 21
def am_lV (o i : Nat) (N : am_M) (n : Nat) : Prop := am_lM N n ∧ Cond.methodLink (am_R o) i N.1 ∈ am_tb ∧ Cond.instanceMethod N.1 ∈ am_tb ∧ Cond.selects (am_R N.2.2.2.2.1) N.1 N.1 ∈ am_tb ∧ ∃ (T : u_T) (k : Nat), am_cl[N.2.2.2.2.1]? = some (am_R N.2.2.2.2.1, T, k)
def am_lS (o i : Nat) (N : am_M) (n : Nat) : Prop := am_lM N n ∧ Cond.methodLink (am_R o) i N.1 ∈ am_tb ∧ Cond.static N.1 ∈ am_tb
def am_lI (o i : Nat) (N : am_M) (n : Nat) : Prop := am_lM N n ∧ Cond.methodLink (am_R o) i N.1 ∈ am_tb ∧ Cond.instanceMethod N.1 ∈ am_tb ∧ N.1.name = "<init>"
def am_lN (o i : Nat) (N : am_M) (n : Nat) : Prop := am_lM N n ∧ Cond.methodLinkNest (am_R o) i N.1 "PairingHall" ∈ am_nw ∧ Cond.instanceMethod N.1 ∈ am_tb ∧ N.1.name = "<init>"
theorem am_ws_in {N : am_M} {n : Nat} (h : am_lM N n) : ∀ w ∈ (Cond.code N.1 N.2.1 N.2.2.1 N.2.2.2.1 :: am_tb), w ∈ am_tb := fun w hw => (List.mem_cons.mp hw).elim (fun e => e ▸ h.2.1) id
section AMC
variable {M : am_M} {sc : Nat × (Nat → Int32)} {d mc ms n0 z0 : Nat} {post : Int32 → am_H → Prop} {pc nx : Nat} {L : List (Option Value)} {st : List Value} {h : am_H}
theorem am_iret {r : Int32} (hc : M.2.2.2.2.2 pc = some (.ireturn, 1, nx, [])) (hret : M.2.2.2.1 = some .int) (hn : h.2.1 = n0 + mc) (hz : h.2.2 = z0 + ms) (hp : post r h) : am_V M sc d mc ms n0 z0 post pc L [.int r] h := by
  intro p l e R s m args below meth c D cA b bs H locs ls cells slots Q Re En
  obtain ⟨h1, h2, h3⟩ := Re.1.1 pc _ hc
  obtain ⟨r1, r2, r3, r4, r5, r6, r7, r8, r9, r10, r11, r12⟩ := Re
  have E := En r h pc H locs ls cells slots (by rw [hret]; exact h1) hp hn hz (by omega) (by omega) (fun q => by rw [hret] at q; cases q) r6 r7
  rw [hret] at E
  exact E
theorem am_zret {r : Int32} (hc : M.2.2.2.2.2 pc = some (.ireturn, 1, nx, [])) (hret : M.2.2.2.1 = some .boolean) (hr : r = 0 ∨ r = 1) (hn : h.2.1 = n0 + mc) (hz : h.2.2 = z0 + ms) (hp : post r h) : am_V M sc d mc ms n0 z0 post pc L [.int r] h := by
  intro p l e R s m args below meth c D cA b bs H locs ls cells slots Q Re En
  obtain ⟨h1, h2, h3⟩ := Re.1.1 pc _ hc
  obtain ⟨r1, r2, r3, r4, r5, r6, r7, r8, r9, r10, r11, r12⟩ := Re
  have E := En r h pc H locs ls cells slots (by rw [hret]; exact h1) hp hn hz (by omega) (by omega) (fun _ => hr) r6 r7
  rw [hret] at E
  exact E
theorem am_vret (hc : M.2.2.2.2.2 pc = some (.return_, 1, nx, [])) (hret : M.2.2.2.1 = none) (hn : h.2.1 = n0 + mc) (hz : h.2.2 = z0 + ms) (hp : post 0 h) : am_V M sc d mc ms n0 z0 post pc L [] h := by
  intro p l e R s m args below meth c D cA b bs H locs ls cells slots Q Re En
  obtain ⟨h1, h2, h3⟩ := Re.1.1 pc _ hc
  obtain ⟨r1, r2, r3, r4, r5, r6, r7, r8, r9, r10, r11, r12⟩ := Re
  have E := En 0 h pc H locs ls cells slots (by rw [hret]; exact h1) hp hn hz (by omega) (by omega) (fun q => by rw [hret] at q; cases q) r6 r7
  rw [hret] at E
  exact E
theorem am_args_mem : ∀ (vs : List Value) (i j : Nat) (v : Value), (∀ w ∈ vs, w.category = 1) → vs[j]? = some v → (i + j, v) ∈ lv_args i vs
  | [], _, _, _, _, h => by simp at h
  | w :: vs, i, 0, v, hc, h => by
    simp at h
    subst h
    simp [lv_args]
  | w :: vs, i, j + 1, v, hc, h => by
    have h1 := am_args_mem vs (i + 1) j v (fun x hx => hc x (List.mem_cons_of_mem _ hx)) (by simpa using h)
    have h2 : ¬ w.category = 2 := by rw [hc w List.mem_cons_self]; decide
    rw [lv_args, if_neg h2]
    exact List.mem_cons_of_mem _ (by rw [show i + (j + 1) = i + 1 + j by omega]; exact h1)
theorem am_sl_len : ∀ (vs : List Value), (∀ w ∈ vs, w.category = 1) → (lg_sl vs).length = vs.length
  | [], _ => rfl
  | w :: vs, hc => by
    have h1 := am_sl_len vs (fun x hx => hc x (List.mem_cons_of_mem _ hx))
    have h2 : ¬ w.category = 2 := by rw [hc w List.mem_cons_self]; decide
    simp only [lg_sl, List.flatMap_cons, if_neg h2, List.length_append, List.length_cons, List.length_nil] at h1 ⊢
    omega
theorem am_L.entry {b bs nL : Nat} {As : List Value} (hA : ∀ v ∈ As, v.category = 1) (hn : As.length ≤ nL) : am_L b bs nL (As.map some ++ List.replicate (nL - As.length) none) ((lg_sl (As.map (am_v b bs)) ++ List.replicate (nL - (lg_sl (As.map (am_v b bs))).length) Slot.unset).toArray) := by
  have hc : ∀ w ∈ As.map (am_v b bs), w.category = 1 := by
    intro w hw
    obtain ⟨v, hv, rfl⟩ := List.mem_map.mp hw
    exact am_cat (hA v hv)
  have hl := lv_entry (As.map (am_v b bs)) (n := nL) (by rw [am_sl_len _ hc, List.length_map]; exact hn)
  refine ⟨hl.1, hl.2.1, fun i v hi => ?_⟩
  have hi2 : As[i]? = some v := by
    by_cases q : i < As.length
    · rw [List.getElem?_append_left (by simpa using q), List.getElem?_map] at hi
      cases ha : As[i]? with
      | none => rw [ha] at hi; cases hi
      | some w => rw [ha] at hi; exact congrArg some (Option.some.inj (Option.some.inj hi))
    · rw [List.getElem?_append_right (by simpa using q), List.getElem?_replicate] at hi
      split at hi <;> cases hi
  refine ⟨hA v (List.mem_of_getElem? hi2), hl.2.2 (i, am_v b bs v) ?_⟩
  have h1 := am_args_mem (As.map (am_v b bs)) 0 i (am_v b bs v) hc (by rw [List.getElem?_map, hi2]; rfl)
  rwa [Nat.zero_add] at h1
/-- a contract out of a walk -/
theorem am_X_of (ok : am_ok M) (hy : plainName M.1.cls = true) (hcl : M.1.cls = am_R M.2.2.2.2.1) (hno : M.2.2.2.2.1 ≠ 10) (hret : M.2.2.2.1 = none ∨ M.2.2.2.1 = some .int ∨ M.2.2.2.1 = some .boolean) {As : List Value} (hA : ∀ v ∈ As, v.category = 1) (hn : As.length ≤ M.2.2.1)
    (hV : am_V M (0, fun _ => 0) d mc ms h.2.1 h.2.2 post 0 (As.map some ++ List.replicate (M.2.2.1 - As.length) none) [] h) : am_X M d mc ms As h post := by
  refine ⟨d, Nat.le_refl d, fun l D cA b bs => ?_⟩
  refine Met.ofW (cc := M.2.1) (maxL := M.2.2.1) (ret := M.2.2.2.1) hy rfl ?_
  intro p e s m args below meth c s₁ B hml hv
  obtain ⟨rfl, hP, hK⟩ := hv
  have hts := atoms_spec (ws := .code M.1 M.2.1 M.2.2.1 M.2.2.2.1 :: am_tb) B.pre
  have hown : s.vm.findClass (am_R M.2.2.2.2.1) = some m.cls := hcl ▸ findClass_of_methodNamed B.named
  rw [lg_entry_eq]
  refine hV p l e _ s m _ below meth c D cA b bs s.heap [] _ 0 0 _ ⟨⟨ok, B.exec, B.bytes, B.returns, hml, hown, B.notSynchronized, (name_of_methodNamed B.named B.method).1, fun w hw => hts w (List.mem_cons_of_mem _ hw)⟩, ⟨Nat.le_refl _, Nat.le_refl _, Nat.le_refl _, Nat.le_refl _⟩, hK, fun q => absurd q hno, ⟨by rw [hP.1]; exact Nat.le_add_right _ _, hP.1⟩, hP, va_S.rf, am_L.entry hA hn, Nat.zero_add _, Nat.zero_add _, Nat.le_add_right _ _, Nat.le_add_right _ _⟩ ?_
  intro r h' pc H locs ls cells slots hd hp hn' hz' e1 e2 hbool hP' hS'
  have e1 := e1.symm
  have e2 := e2.symm
  subst e1
  subst e2
  have hq : ∀ t : State, t.heap = H → s.WarmedH t.vm → am_Q M.2.2.2.1 D cA b bs (h.2.1 + mc) (h.2.2 + ms) post (List.map (am_v b bs) As).toArray s (.returned (am_r M.2.2.2.1 r)) t := fun t ht hW => ⟨⟨r, h', rfl, hp, hn', hz', by rw [ht]; exact hP', hK.moved hW⟩, hS'.F ht⟩
  rcases hret with hr | hr | hr
  · rw [hr] at hd hq ⊢
    exact W.vret B.exec B.bytes (B.returns.trans hr) hq hS'.2.2 hd (hlocks := B.notSynchronized)
  · rw [hr] at hd hq ⊢
    exact W.iret B.exec B.bytes (B.returns.trans hr) hq hS'.2.2 hd (hlocks := B.notSynchronized)
  · have hb := hbool hr
    rw [hr] at hd hq ⊢
    exact W.zret B.exec B.bytes (B.returns.trans hr) (by rcases hb with rfl | rfl <;> rfl) hq hS'.2.2 hd (hlocks := B.notSynchronized)
theorem am_blind {D : va_G} {cA : Nat → ClassId} {b bs : Nat} {As : List Value} : FrameBlind (va_Pc As (fun U => am_P D cA b bs h U.heap ∧ am_K D cA U)) := fun a U g mk q => by
  obtain ⟨q0, qP, qK⟩ := q
  exact ⟨q0, qP, am_K.same (u := U) (U := U.calling g mk a) rfl qK⟩
/-- behind a call -/
theorem am_after {p : Program} {l : Launch} {e : Env} {R : Room} {s : State} {m : MethodId} {args : Array Value} {below : List Frame} {meth : Method} {c : Code} {D : va_G} {cA : Nat → ClassId} {b bs : Nat} {H : Heap} {locs : List Loc} {ls : Array Slot} {cells slots : Nat} {Q : State → Prop} {mc' ms' : Nat} {st0 rest : List Value} {a : Array Value} {ret : Option FieldType} {g : JFrame} {post' : Int32 → am_H → Prop}
    (Re : am_Re M sc d mc ms n0 z0 p R s m args meth c D cA b bs H locs ls cells slots L h) (hg : g = F0 m pc ls st0) (hb : h.2.1 + mc' ≤ n0 + mc ∧ h.2.2 + ms' ≤ z0 + ms)
    (run : va_Run p l e R s m args below meth c H locs cells slots mc' ms' g rest (am_Q ret D cA b bs (h.2.1 + mc') (h.2.2 + ms') post' a) (fun q => b ≤ q))
    (kk : ∀ (r : Int32) (h' : am_H) (H1 : Heap) (locs1 : List Loc), post' r h' → am_Re M sc d mc ms n0 z0 p R s m args meth c D cA b bs H1 locs1 ls (cells + mc') (slots + ms') L h' → W p l e R s m args below meth c H1 locs1 (cells + mc') (slots + ms') Q (F0 m (pc + 3) ls ((am_r ret r).toList ++ rest))) : W p l e R s m args below meth c H locs cells slots Q g := by
  intro T hT X
  obtain ⟨v, st₀, t, T', Lc, h0, X', hL, e1, e2, ⟨⟨r, h', hv, hp, hn', hz', hP', hK'⟩, hz, hk⟩, stp⟩ := run T hT X
  have hv : v = am_r ret r := by injection hv
  subst hv
  subst hg
  rw [h0] at hz hk
  obtain ⟨r1, r2, r3, r4, r5, r6, r7, r8, r9, r10, r11, r12⟩ := Re
  obtain ⟨t2, a1, b1⟩ := kk r h' T'.heap (locs ++ Lc) hp ⟨r1, r2, r3, r4, r5, by rw [e1]; exact hP', ⟨Nat.le_trans r7.1 (by rw [e1]; exact hz), fun q g1 g2 => by rw [e1, hk q (Nat.lt_of_lt_of_le g1 r7.1) g2]; exact r7.2.1 q g1 g2, fun q hq => by
      rcases List.mem_append.mp hq with g1 | g1
      · exact r7.2.2 q g1
      · exact hL q g1⟩, r8, by omega, by omega, by omega, by omega⟩ T' rfl X'
  exact ⟨t2, stp t2 a1, b1⟩
theorem am_hR {d d' mc' ms' maxL : Nat} {R : Room} (hd : d' + 1 ≤ d) (h1 : d ≤ R.frames) (h2 : 40 * d ≤ R.locals) (hm : maxL ≤ 21) : (am_rm d' mc' ms').frames + 1 ≤ R.frames ∧ 8 + (maxL + 11) + (am_rm d' mc' ms').locals ≤ R.locals := by
  constructor
  · show d' + 1 ≤ R.frames
    omega
  · show 8 + (maxL + 11) + 40 * d' ≤ R.locals
    omega
def am_ps (ret : Option FieldType) (r : Int32) (st : List Value) : List Value := (am_r ret r).toList ++ st
theorem am_ps_map {b bs : Nat} {ret : Option FieldType} {r : Int32} {st : List Value} : (am_ps ret r st).map (am_v b bs) = (am_r ret r).toList ++ st.map (am_v b bs) := by
  cases ret <;> rfl
theorem am_X.imp {N : am_M} {d' mc' ms' : Nat} {As : List Value} {P P' : Int32 → am_H → Prop} (hX : am_X N d' mc' ms' As h P) (hi : ∀ r h', P r h' → P' r h') : am_X N d' mc' ms' As h P' := by
  obtain ⟨d2, hd2, hM⟩ := hX
  refine ⟨d2, hd2, fun l D cA b bs => MetFree.mono (hM l D cA b bs) (fun _ _ q => q) (fun _ _ _ _ _ q => q) (fun a s o t _ q => ?_)⟩
  obtain ⟨⟨⟨r, h', q1, q2, q3⟩, q4⟩, q5⟩ := q
  exact ⟨⟨⟨r, h', q1, hi r h' q2, q3⟩, q4⟩, q5⟩
theorem am_callV {N : am_M} {i n a : Nat} {fs : List Value} {As : List Value} {d' mc' ms' : Nat} (hl : am_lV M.2.2.2.2.1 i N n) (hc : M.2.2.2.2.2 pc = some (.invokevirtual i, 3, nx, [])) (hn : As.length = n) (ha : a < h.2.1) (he : h.1 a = .inr (N.2.2.2.2.1, fs)) (hd : d' + 1 ≤ d) (hst : ∀ b bs, ((st.map (am_v b bs)).map (fun v => v.category)).sum ≤ 8) (hb : h.2.1 + mc' ≤ n0 + mc ∧ h.2.2 + ms' ≤ z0 + ms)
    (hX : am_X N d' mc' ms' (.ref a :: As) h (fun r h' => am_V M sc d mc ms n0 z0 post nx L (am_ps N.2.2.2.1 r st) h')) : am_V M sc d mc ms n0 z0 post pc L (As.reverse ++ .ref a :: st) h := by
  intro p l e R s m args below meth c D cA b bs H locs ls cells slots Q Re En
  obtain ⟨h1, h2, h3⟩ := Re.1.1 pc _ hc
  have h2 : nx = pc + 3 := h2
  subst h2
  obtain ⟨d2, hd2, hM⟩ := hX
  obtain ⟨hlm, l1, l2, l3, T0, k0, l4⟩ := hl
  have hP := Re.2.2.2.2.2.1
  have hPa := hP.2 a ha
  rw [he] at hPa
  have hK := Re.2.2.1
  refine am_after (st0 := (As.reverse ++ .ref a :: st).map (am_v b bs)) (rest := st.map (am_v b bs)) Re rfl hb (va_runV (As := As.map (am_v b bs)) (b := b + a) (C := am_R N.2.2.2.2.1) (nL := M.2.2.1) ⟨Re.1.2.1, Re.1.2.2.1, Re.1.2.2.2.2.1, Re.1.2.2.2.2.2.1, Re.1.2.2.2.2.2.2.2.2⟩ (hM l D cA b bs) (cwV n Re.1.2.2.2.2.2.2.2.2 (am_goodIn (fun w hw => ?_)) rfl rfl rfl ⟨hlm.2.2.1, hlm.2.2.2.1⟩ (am_hR (d := d) (Nat.le_trans (Nat.add_le_add_right hd2 1) hd) Re.2.1.1 Re.2.1.2.1 hlm.2.2.2.2)) ⟨am_blind, ?_, fun U hU hW => ⟨rfl, by rw [hU]; exact hP, hK.moved hW⟩⟩ rfl (by rw [List.length_map]; exact hn) Re.2.2.2.2.2.2.2.1.1 (by simp [am_v, List.map_reverse]) (lv_room (hst b bs)) h1 ⟨by have := Re.2.1.2.2.1; have := Re.2.2.2.2.2.2.2.2.1; have := hb.1; omega, by have := Re.2.1.2.2.2; have := Re.2.2.2.2.2.2.2.2.2.1; have := hb.2; omega⟩) (fun r h' H1 locs1 hp Re1 => by rw [← am_ps_map]; exact hp p l e R s m args below meth c D cA b bs H1 locs1 ls _ _ Q Re1 En)
  · rcases List.mem_append.mp hw with g | g
    · simp only [List.mem_cons, List.not_mem_nil, or_false] at g
      rcases g with rfl | rfl | rfl | rfl
      · exact l1
      · exact l2
      · exact l3
      · rw [← hlm.2.2.1]; exact hlm.1
    · exact am_ws_in hlm w g
  · obtain ⟨q', g1, cell, g2, g3, g4, -⟩ := hPa
    have := (hK.1.1 _ _ l4).2.1
    exact ⟨cell, g2, by rw [g4]; rfl, by rw [g3]; exact this⟩
theorem am_callS {N : am_M} {i n : Nat} {As : List Value} {d' mc' ms' : Nat} (hl : am_lS M.2.2.2.2.1 i N n) (hc : M.2.2.2.2.2 pc = some (.invokestatic i, 3, nx, [])) (hn : As.length = n) (hd : d' + 1 ≤ d) (hst : ∀ b bs, ((st.map (am_v b bs)).map (fun v => v.category)).sum ≤ 8) (hb : h.2.1 + mc' ≤ n0 + mc ∧ h.2.2 + ms' ≤ z0 + ms)
    (hX : am_X N d' mc' ms' As h (fun r h' => am_V M sc d mc ms n0 z0 post nx L (am_ps N.2.2.2.1 r st) h')) : am_V M sc d mc ms n0 z0 post pc L (As.reverse ++ st) h := by
  intro p l e R s m args below meth c D cA b bs H locs ls cells slots Q Re En
  obtain ⟨h1, h2, h3⟩ := Re.1.1 pc _ hc
  have h2 : nx = pc + 3 := h2
  subst h2
  obtain ⟨d2, hd2, hM⟩ := hX
  obtain ⟨hlm, l1, l2⟩ := hl
  have hP := Re.2.2.2.2.2.1
  have hK := Re.2.2.1
  refine am_after (st0 := (As.reverse ++ st).map (am_v b bs)) (rest := st.map (am_v b bs)) Re rfl hb (va_runS (As := As.map (am_v b bs)) (nL := M.2.2.1) ⟨Re.1.2.1, Re.1.2.2.1, Re.1.2.2.2.2.1, Re.1.2.2.2.2.2.1, Re.1.2.2.2.2.2.2.2.2⟩ (hM l D cA b bs) (va_cwS n Re.1.2.2.2.2.2.2.2.2 (am_goodIn (fun w hw => ?_)) rfl rfl rfl hlm.2.2.2.1 (am_hR (d := d) (Nat.le_trans (Nat.add_le_add_right hd2 1) hd) Re.2.1.1 Re.2.1.2.1 hlm.2.2.2.2)) ⟨am_blind, fun U hU hW => ⟨rfl, by rw [hU]; exact hP, hK.moved hW⟩⟩ rfl (by rw [List.length_map]; exact hn) Re.2.2.2.2.2.2.2.1.1 (by simp [am_v, List.map_reverse]) (lv_room (hst b bs)) h1 ⟨by have := Re.2.1.2.2.1; have := Re.2.2.2.2.2.2.2.2.1; have := hb.1; omega, by have := Re.2.1.2.2.2; have := Re.2.2.2.2.2.2.2.2.2.1; have := hb.2; omega⟩) (fun r h' H1 locs1 hp Re1 => by rw [← am_ps_map]; exact hp p l e R s m args below meth c D cA b bs H1 locs1 ls _ _ Q Re1 En)
  rcases List.mem_append.mp hw with g | g
  · simp only [List.mem_cons, List.not_mem_nil, or_false] at g
    rcases g with rfl | rfl | rfl
    · exact l1
    · exact l2
    · exact hlm.1
  · exact am_ws_in hlm w g
theorem am_callI {N : am_M} {i n a : Nat} {As : List Value} {d' mc' ms' : Nat} (hl : am_lI M.2.2.2.2.1 i N n) (hret : N.2.2.2.1 = none) (hc : M.2.2.2.2.2 pc = some (.invokespecial i, 3, nx, [])) (hn : As.length = n) (hd : d' + 1 ≤ d) (hst : ∀ b bs, ((st.map (am_v b bs)).map (fun v => v.category)).sum ≤ 8) (hb : h.2.1 + mc' ≤ n0 + mc ∧ h.2.2 + ms' ≤ z0 + ms)
    (hX : am_X N d' mc' ms' (.ref a :: As) h (fun _ h' => am_V M sc d mc ms n0 z0 post nx L st h')) : am_V M sc d mc ms n0 z0 post pc L (As.reverse ++ .ref a :: st) h := by
  intro p l e R s m args below meth c D cA b bs H locs ls cells slots Q Re En
  obtain ⟨h1, h2, h3⟩ := Re.1.1 pc _ hc
  have h2 : nx = pc + 3 := h2
  subst h2
  obtain ⟨d2, hd2, hM⟩ := hX
  obtain ⟨hlm, l1, l2, l3⟩ := hl
  have hP := Re.2.2.2.2.2.1
  have hK := Re.2.2.1
  have hts := Re.1.2.2.2.2.2.2.2.2
  have hM := hM l D cA b bs
  have hw0 := am_ws_in hlm
  rw [hret] at hM hw0
  exact am_after (ret := none) (st0 := (As.reverse ++ .ref a :: st).map (am_v b bs)) (rest := st.map (am_v b bs)) Re rfl hb (va_runI (As := As.map (am_v b bs)) (b := b + a) (nL := M.2.2.1) ⟨Re.1.2.1, Re.1.2.2.1, Re.1.2.2.2.2.1, Re.1.2.2.2.2.2.1, hts⟩ hM (cwI n hts (am_goodIn hw0) rfl rfl rfl (hts _ hlm.1) (hts _ l1) (hts _ l2) l3 hlm.2.2.2.1 (am_hR (d := d) (Nat.le_trans (Nat.add_le_add_right hd2 1) hd) Re.2.1.1 Re.2.1.2.1 hlm.2.2.2.2)) ⟨am_blind, fun U hU hW => ⟨rfl, by rw [hU]; exact hP, hK.moved hW⟩⟩ rfl (by rw [List.length_map]; exact hn) Re.2.2.2.2.2.2.2.1.1 (by simp [am_v, List.map_reverse]) (lv_room (hst b bs)) h1 ⟨by have := Re.2.1.2.2.1; have := Re.2.2.2.2.2.2.2.2.1; have := hb.1; omega, by have := Re.2.1.2.2.2; have := Re.2.2.2.2.2.2.2.2.2.1; have := hb.2; omega⟩) (fun r h' H1 locs1 hp Re1 => hp p l e R s m args below meth c D cA b bs H1 locs1 ls _ _ Q Re1 En)
theorem am_callN {N : am_M} {i n a : Nat} {As : List Value} {d' mc' ms' : Nat} (hl : am_lN M.2.2.2.2.1 i N n) (hret : N.2.2.2.1 = none) (hc : M.2.2.2.2.2 pc = some (.invokespecial i, 3, nx, [])) (hn : As.length = n) (hd : d' + 1 ≤ d) (hst : ∀ b bs, ((st.map (am_v b bs)).map (fun v => v.category)).sum ≤ 8) (hb : h.2.1 + mc' ≤ n0 + mc ∧ h.2.2 + ms' ≤ z0 + ms)
    (hX : am_X N d' mc' ms' (.ref a :: As) h (fun _ h' => am_V M sc d mc ms n0 z0 post nx L st h')) : am_V M sc d mc ms n0 z0 post pc L (As.reverse ++ .ref a :: st) h := by
  intro p l e R s m args below meth c D cA b bs H locs ls cells slots Q Re En
  obtain ⟨h1, h2, h3⟩ := Re.1.1 pc _ hc
  have h2 : nx = pc + 3 := h2
  subst h2
  obtain ⟨d2, hd2, hM⟩ := hX
  obtain ⟨hlm, l1, l2, l3⟩ := hl
  have hP := Re.2.2.2.2.2.1
  have hK := Re.2.2.1
  have hts := Re.1.2.2.2.2.2.2.2.2
  have hM := hM l D cA b bs
  have hw0 := am_ws_in hlm
  rw [hret] at hM hw0
  exact am_after (ret := none) (st0 := (As.reverse ++ .ref a :: st).map (am_v b bs)) (rest := st.map (am_v b bs)) Re rfl hb (va_runIN (As := As.map (am_v b bs)) (b := b + a) (nL := M.2.2.1) ⟨Re.1.2.1, Re.1.2.2.1, Re.1.2.2.2.2.1, Re.1.2.2.2.2.2.1, hts⟩ hM ⟨va_cnB n hts (am_goodIn hw0) rfl rfl rfl (hK.2 _ l1) (hts _ hlm.1) hlm.2.2.2.1 (am_hR (d := d) (Nat.le_trans (Nat.add_le_add_right hd2 1) hd) Re.2.1.1 Re.2.1.2.1 hlm.2.2.2.2), l3, hts _ l2⟩ ⟨am_blind, fun U hU hW => ⟨rfl, by rw [hU]; exact hP, hK.moved hW⟩⟩ rfl (by rw [List.length_map]; exact hn) Re.2.2.2.2.2.2.2.1.1 (by simp [am_v, List.map_reverse]) (lv_room (hst b bs)) h1 ⟨by have := Re.2.1.2.2.1; have := Re.2.2.2.2.2.2.2.2.1; have := hb.1; omega, by have := Re.2.1.2.2.2; have := Re.2.2.2.2.2.2.2.2.2.1; have := hb.2; omega⟩) (fun r h' H1 locs1 hp Re1 => hp p l e R s m args below meth c D cA b bs H1 locs1 ls _ _ Q Re1 En)
/-- Object's constructor -/
theorem am_obj {i a : Nat} (hl : Cond.methodLink (am_R M.2.2.2.2.1) i objectInit ∈ am_tb) (hi : Cond.instanceMethod objectInit ∈ am_tb) (hk : Cond.code objectInit ⟨#[0xb1]⟩ 1 none ∈ am_tb) (hc : M.2.2.2.2.2 pc = some (.invokespecial i, 3, nx, [])) (hd : 1 ≤ d) (hst : ∀ b bs, ((st.map (am_v b bs)).map (fun v => v.category)).sum ≤ 8) (k : am_V M sc d mc ms n0 z0 post nx L st h) : am_V M sc d mc ms n0 z0 post pc L (.ref a :: st) h := by
  intro p l e R s m args below meth c D cA b bs H locs ls cells slots Q Re En
  obtain ⟨h1, h2, h3⟩ := Re.1.1 pc _ hc
  have h2 : nx = pc + 3 := h2
  subst h2
  have hts := Re.1.2.2.2.2.2.2.2.2
  have g1 := Re.2.1.1
  have g2 := Re.2.1.2.1
  have g3 := hst b bs
  refine W.objInit Re.1.2.1 Re.1.2.2.1 Re.1.2.2.2.2.2.1 (hts _ hl) (hts _ hi) (hts _ hk) rfl (by rw [Re.1.2.2.2.2.1]; exact Re.2.2.2.2.2.2.2.1.1) rfl h1 (by omega) (by show 2 * 0 + ((st.map (am_v b bs)).map (fun v => v.category)).sum + 12 ≤ R.locals; omega) ?_
  exact k p l e R s m args below meth c D cA b bs H locs ls cells slots Q Re En
end AMC
