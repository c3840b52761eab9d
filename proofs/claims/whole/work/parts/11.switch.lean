/-! A switch, arm by arm; names of classes that are plain. -/
section USW
variable {M : am_M} {sc : Nat × (Nat → Int32)} {d mc ms n0 z0 : Nat} {post : Int32 → am_H → Prop} {pc nx : Nat} {L : List (Option Value)} {st : List Value} {h : am_H}
theorem am_tsw1 {x k : Int32} {dft lo hi : Int} {os : Array Int} {ln t td j : Nat} {tgs : List Nat} (hc : M.2.2.2.2.2 pc = some (.tableswitch dft lo hi os, ln, nx, tgs)) (hx : x = k) (hk : k.toInt = lo + j ∧ lo + j ≤ hi ∧ j < os.size) (ht : tgs[j + 1]? = some t) (htd : tgs[0]? = some td) (kk : am_V M sc d mc ms n0 z0 post t L st h) : am_V M sc d mc ms n0 z0 post pc L (.int x :: st) h := by
  subst hx
  refine am_tsw hc htd (fun q => ?_) (fun i e1 e2 => ?_)
  · have h0 : lo ≤ lo + (j : Int) := by omega
    rcases q with q | q <;> omega
  · have e : i = j := by omega
    subst e
    exact ⟨t, ht, by simp [hk.2.2], kk⟩
theorem am_tswD {x : Int32} {dft lo hi : Int} {os : Array Int} {ln td : Nat} {tgs : List Nat} (hc : M.2.2.2.2.2 pc = some (.tableswitch dft lo hi os, ln, nx, tgs)) (htd : tgs[0]? = some td) (hx : x.toInt < lo ∨ hi < x.toInt) (kk : am_V M sc d mc ms n0 z0 post td L st h) : am_V M sc d mc ms n0 z0 post pc L (.int x :: st) h := by
  refine am_tsw hc htd (fun _ => kk) (fun i e1 e2 => ?_)
  rcases hx with q | q <;> omega
end USW
/-- x is none of lo, lo + 1, .. -/
def am_all (x : Int32) (lo : Int) : Nat → Prop
  | 0 => True
  | n + 1 => ¬ x = Int32.ofInt (lo + n) ∧ am_all x lo n
theorem am_out {x : Int32} {lo : Int} : ∀ (n : Nat), am_all x lo n → x.toInt < lo ∨ lo + (n : Int) ≤ x.toInt
  | 0, _ => by omega
  | n + 1, h => by
    rcases am_out n h.2 with q | q
    · exact Or.inl q
    · by_cases e : x.toInt = lo + n
      · exact absurd (by rw [← e, Int32.ofInt_toInt]) h.1
      · refine Or.inr ?_
        have : ((n + 1 : Nat) : Int) = (n : Int) + 1 := by omega
        omega
theorem pn_0 : plainName RX0 = true := by decide +kernel
theorem pn_1 : plainName RX1 = true := by decide +kernel
theorem pn_2 : plainName RX2 = true := by decide +kernel
theorem pn_3 : plainName RX3 = true := by decide +kernel
theorem pn_4 : plainName RX4 = true := by decide +kernel
theorem pn_5 : plainName RX5 = true := by decide +kernel
theorem pn_6 : plainName RX6 = true := by decide +kernel
theorem pn_7 : plainName RX7 = true := by decide +kernel
theorem pn_8 : plainName RX8 = true := by decide +kernel
theorem pn_9 : plainName RX9 = true := by decide +kernel
theorem pn_12 : plainName RJ7 = true := by decide +kernel
theorem Met_ofWF {l : Launch} {y : MethodName} {ws ws' : List Cond} {rm : Room} {Pc : Array Value → State → Prop} {Qc : Array Value → State → Outcome → State → Prop} {mc ms : Nat} {free : Addr → Prop} {cc : ByteArray} {maxL : Nat} {ret : Option FieldType}
    (hy : plainFor y = true) (hw : ws = Cond.code y cc maxL ret :: ws')
    (body : ∀ p e s m args below meth c s₁, BodyLoose p l y (headSpec ws rm) cc maxL ret e s m args below meth c s₁ → c.maxLocals = maxL → Pc args s →
      W p l e (headSpec ws rm).room s m args below meth c s.heap [] 0 0 (MQ below Qc args s mc ms free) (entryFrame m args maxL)) : Met l y ws rm Pc Qc mc ms free := by
  refine MetFree.of_bodySF (code := cc) (maxLocals := maxL) (ret := ret) hy ?_ ?_
  · intro args s m h hn
    obtain ⟨meth, c, h1, h2, h3, h4, h5, h6, -, -⟩ := Cond.code_spec hn (atoms_spec (ws := ws) h _ (by rw [hw]; exact List.mem_cons_self))
    exact ⟨meth, c, h1, h2, h3, h4, h5, h6⟩
  · intro p e s m args below meth c s₁ B hml hP _
    have hh0 : s₁.heap = s.heap := by rw [B.state]; rfl
    obtain ⟨t, a1, o, b1, b2, b3⟩ := body p e s m args below meth c s₁ B hml hP s₁ hh0 (Stand.of_body B)
    exact ⟨t, o, a1, b1, b2, ⟨b3.1, b3.2⟩⟩
/-- a contract out of a walk, of a method that no entry runs instead -/
theorem am_X_ofF {M : am_M} {d mc ms : Nat} {h : am_H} {post : Int32 → am_H → Prop} (ok : am_ok M) (hy : plainFor M.1 = true) (hcl : M.1.cls = am_R M.2.2.2.2.1) (hno : M.2.2.2.2.1 ≠ 10) (hret : M.2.2.2.1 = none ∨ M.2.2.2.1 = some .int ∨ M.2.2.2.1 = some .boolean) {As : List Value} (hA : ∀ v ∈ As, v.category = 1) (hn : As.length ≤ M.2.2.1)
    (hV : am_V M (0, fun _ => 0) d mc ms h.2.1 h.2.2 post 0 (As.map some ++ List.replicate (M.2.2.1 - As.length) none) [] h) : am_X M d mc ms As h post := by
  refine ⟨d, Nat.le_refl d, fun l D cA b bs => ?_⟩
  refine Met_ofWF (cc := M.2.1) (maxL := M.2.2.1) (ret := M.2.2.2.1) hy rfl ?_
  intro p e s m args below meth c s₁ B hml hv
  obtain ⟨rfl, hP, hK⟩ := hv
  have hts := atoms_spec (ws := .code M.1 M.2.1 M.2.2.1 M.2.2.2.1 :: am_tb) B.pre
  have hown : s.vm.findClass (am_R M.2.2.2.2.1) = some m.cls := hcl ▸ findClass_of_methodNamed B.named
  rw [lg_entry_eq]
  refine hV p l e _ s m _ below meth c D cA b bs s.heap [] _ 0 0 _ ⟨⟨ok, B.exec, B.bytes, B.returns, hml, hown, B.notSynchronized, (name_of_methodNamed B.named B.method).1, fun w hw => hts w (List.mem_cons_of_mem _ hw)⟩, ⟨Nat.le_refl _, Nat.le_refl _, Nat.le_refl _, Nat.le_refl _⟩, hK, fun q => absurd q hno, ⟨by rw [hP.1]; exact Nat.le_add_right _ _, hP.1⟩, hP, va_S.rf, am_L.entry hA hn, Nat.zero_add _, Nat.zero_add _, Nat.le_add_right _ _, Nat.le_add_right _ _⟩ ?_
  intro r h' pc H locs ls cells slots hd hp hn' hz' e1 e2 hbool hP' hS'
  have e1 := e1.symm
  have e2 := e2.symm
  subst e1
  subst e2
  have hq : ∀ t : State, t.heap = H → s.WarmedH t.vm → am_Q M.2.2.2.1 D cA b bs (h.2.1 + mc) (h.2.2 + ms) post (List.map (am_v b bs) As).toArray s (.returned (am_r M.2.2.2.1 r)) t := fun t ht hW => ⟨⟨r, h', rfl, hp, hn', hz', by rw [ht]; exact hP', hK.moved hW⟩, hS'.F ht⟩
  rcases hret with hr | hr | hr
  · rw [hr] at hd hq ⊢
    exact W.vret B.exec B.bytes (B.returns.trans hr) hq hS'.2.2 hd (hlocks := B.notSynchronized)
  · rw [hr] at hd hq ⊢
    exact W.iret B.exec B.bytes (B.returns.trans hr) hq hS'.2.2 hd (hlocks := B.notSynchronized)
  · have hb := hbool hr
    rw [hr] at hd hq ⊢
    exact W.zret B.exec B.bytes (B.returns.trans hr) (by rcases hb with rfl | rfl <;> rfl) hq hS'.2.2 hd (hlocks := B.notSynchronized)
theorem Y_ofF {M : am_M} {d : Nat} {g : G} {post : Int32 → G → Prop} (ok : am_ok M) (hy : plainFor M.1 = true) (hcl : M.1.cls = am_R M.2.2.2.2.1) (hno : M.2.2.2.2.1 ≠ 10) (hret : M.2.2.2.1 = none ∨ M.2.2.2.1 = some .int ∨ M.2.2.2.1 = some .boolean) {As : List Value} (hA : ∀ v ∈ As, v.category = 1) (hn : As.length ≤ M.2.2.1)
    (hV : u_V M d post 0 (As.map some ++ List.replicate (M.2.2.1 - As.length) none) [] g) : Y M d As g post := am_X_ofF ok hy hcl hno hret hA hn hV
