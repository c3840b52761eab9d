/-! Pure words: Ev (it comes to an answer with Q), its rules; memory rows; numbers. -/
def Ev {α : Type} (x : Option α) (Q : α → Prop) : Prop := ∃ a, x = some a ∧ Q a
theorem Ev.of {α : Type} {x : Option α} {Q : α → Prop} {a : α} (h : x = some a) (q : Q a) : Ev x Q := ⟨a, h, q⟩
theorem Ev.imp {α : Type} {x : Option α} {P Q : α → Prop} (h : Ev x P) (i : ∀ a, P a → Q a) : Ev x Q := by
  obtain ⟨a, h1, h2⟩ := h
  exact ⟨a, h1, i a h2⟩
theorem ev_some {α : Type} {a : α} {Q : α → Prop} (q : Q a) : Ev (some a) Q := ⟨a, rfl, q⟩
theorem ev_wr {α β : Type} {v : α} {k : α → Option β} {Q : β → Prop} (h : Ev (k v) Q) : Ev (wr v k) Q := h
theorem ev_bd {α β : Type} {x : Option α} {k : α → Option β} {Q : β → Prop} (h : Ev x (fun a => Ev (k a) Q)) : Ev (bd x k) Q := by
  obtain ⟨a, rfl, h⟩ := h
  exact h
theorem ev_bd2 {β : Type} {x : Option (Int32 × G)} {k : Int32 → G → Option β} {Q : β → Prop} (h : Ev x (fun q => Ev (k q.1 q.2) Q)) : Ev (bd2 x k) Q := by
  obtain ⟨a, rfl, h⟩ := h
  exact h
/-- a call whose answer is known -/
theorem ev_call {β : Type} {x : Option (Int32 × G)} {r : Int32} {g' : G} {k : Int32 → G → Option β} {Q : β → Prop} (e : x = some (r, g')) (h : Ev (k r g') Q) : Ev (bd2 x k) Q := by
  subst e
  exact h
theorem ev_if {α : Type} {c : Prop} [Decidable c] {a b : Option α} {Q : α → Prop} (h1 : c → Ev a Q) (h2 : ¬ c → Ev b Q) : Ev (if c then a else b) Q := by
  by_cases h : c
  · rw [if_pos h]; exact h1 h
  · rw [if_neg h]; exact h2 h
theorem ev_t {α : Type} {c : Prop} [Decidable c] {a b : Option α} {Q : α → Prop} (hc : c) (h : Ev a Q) : Ev (if c then a else b) Q := by rw [if_pos hc]; exact h
theorem ev_f {α : Type} {c : Prop} [Decidable c] {a b : Option α} {Q : α → Prop} (hc : ¬ c) (h : Ev b Q) : Ev (if c then a else b) Q := by rw [if_neg hc]; exact h
theorem ck_nI {α : Type} {i : Int32} {n : Nat} {k : Nat → Option α} (j : Nat) (e : i = nI j) (hj : j < n) (hn : n < 2 ^ 31) : ck i n k = k j := by
  subst e
  have h := vp_in_nI hj hn
  unfold ck
  rw [if_neg h, nI_clamp (by omega)]
theorem ev_ck {α : Type} {i : Int32} {n : Nat} {k : Nat → Option α} {Q : α → Prop} (j : Nat) (e : i = nI j) (hj : j < n) (hn : n < 2 ^ 31) (h : Ev (k j) Q) : Ev (ck i n k) Q := by
  rw [ck_nI j e hj hn]
  exact h
theorem ev_dz {α : Type} {y : Int32} {k : Option α} {Q : α → Prop} (hy : ¬ y = 0) (h : Ev k Q) : Ev (dz y k) Q := by
  unfold dz; rw [if_neg hy]; exact h
theorem ev_bz {α : Type} {x : Int32} {k : Option α} {Q : α → Prop} (hx : x = 0 ∨ x = 1) (h : Ev k Q) : Ev (bz x k) Q := by
  unfold bz; rw [if_pos hx]; exact h
theorem ev_cz {α : Type} {sp dp n : Int32} {n0 n1 : Nat} {k : Option α} {Q : α → Prop} (a b c : Nat) (e1 : sp = nI a) (e2 : dp = nI b) (e3 : n = nI c) (h1 : a + c ≤ n0) (h2 : b + c ≤ n1) (hn : n0 < 2 ^ 31 ∧ n1 < 2 ^ 31) (h : Ev k Q) : Ev (cz sp dp n n0 n1 k) Q := by
  subst e1; subst e2; subst e3
  unfold cz
  rw [if_neg]
  · exact h
  · rw [nI_clamp (by omega), nI_clamp (by omega), nI_clamp (by omega)]
    simp only [not_or]
    exact ⟨nI_pos (by omega), nI_pos (by omega), nI_pos (by omega), by omega, by omega⟩
/-- a loop that counts from k to n, or goes out before -/
theorem ev_lp {σ ρ : Type} {body : σ → Option (σ ⊕ ρ)} {Q : ρ → Prop} (I : Nat → σ → Prop) (n : Nat) (hb : ∀ k s, k < n → I k s → Ev (body s) (Sum.elim (I (k + 1)) Q)) (he : ∀ s, I n s → Ev (body s) (Sum.elim (fun _ => False) Q)) : ∀ (fuel k : Nat) (s : σ), k ≤ n → n - k < fuel → I k s → Ev (lp body fuel s) Q := by
  intro fuel
  induction fuel with
  | zero => intro k s h1 h2; exact absurd h2 (Nat.not_lt_zero _)
  | succ f ih =>
    intro k s hk hf hI
    by_cases h : k < n
    · obtain ⟨x, h1, h2⟩ := hb k s h hI
      cases x with
      | inl s' =>
        have := ih (k + 1) s' h (by omega) h2
        obtain ⟨r, e1, e2⟩ := this
        exact ⟨r, by rw [lp, h1]; exact e1, e2⟩
      | inr r => exact ⟨r, by rw [lp, h1], h2⟩
    · have hkn : k = n := by omega
      subst hkn
      obtain ⟨x, h1, h2⟩ := he s hI
      cases x with
      | inl s' => exact h2.elim
      | inr r => exact ⟨r, by rw [lp, h1], h2⟩
/-- a loop by a measure that falls -/
theorem ev_lpm {σ ρ : Type} {body : σ → Option (σ ⊕ ρ)} {Q : ρ → Prop} (I : σ → Prop) (μ : σ → Nat) (hb : ∀ s, I s → Ev (body s) (Sum.elim (fun s' => I s' ∧ μ s' < μ s) Q)) : ∀ (fuel : Nat) (s : σ), μ s < fuel → I s → Ev (lp body fuel s) Q := by
  intro fuel
  induction fuel with
  | zero => intro s h; exact absurd h (Nat.not_lt_zero _)
  | succ f ih =>
    intro s hf hI
    obtain ⟨x, h1, h2⟩ := hb s hI
    cases x with
    | inl s' =>
      obtain ⟨r, e1, e2⟩ := ih s' (by have := h2.2; omega) h2.1
      exact ⟨r, by rw [lp, h1]; exact e1, e2⟩
    | inr r => exact ⟨r, by rw [lp, h1], h2⟩
-- memory
theorem up1_eq (g : G) (a : Nat) (f : Nat → Int32) : up1 g a f a = f := if_pos rfl
theorem up1_ne {g : G} {a b : Nat} {f : Nat → Int32} (h : b ≠ a) : up1 g a f b = g b := if_neg h
theorem up2_eq (g : G) (a k : Nat) (v : Int32) : up2 g a k v a = upd (g a) k v := if_pos rfl
theorem up2_ne {g : G} {a b k : Nat} {v : Int32} (h : b ≠ a) : up2 g a k v b = g b := if_neg h
theorem upd_eq (f : Nat → Int32) (k : Nat) (x : Int32) : upd f k x k = x := if_pos rfl
theorem upd_ne {f : Nat → Int32} {k j : Nat} {x : Int32} (h : j ≠ k) : upd f k x j = f j := if_neg h
theorem up2_at (g : G) (a k : Nat) (v : Int32) : up2 g a k v a k = v := by rw [up2_eq, upd_eq]
theorem up2_at_ne {g : G} {a k j : Nat} {v : Int32} (h : j ≠ k) : up2 g a k v a j = g a j := by rw [up2_eq, upd_ne h]
-- numbers
theorem nI_inj {a b : Nat} (ha : a < 2 ^ 31) (hb : b < 2 ^ 31) (h : nI a = nI b) : a = b := (nI_eq ha hb).mp h
theorem nI_ne {a b : Nat} (ha : a < 2 ^ 31) (hb : b < 2 ^ 31) (h : a ≠ b) : nI a ≠ nI b := fun q => h (nI_inj ha hb q)
theorem nI_nneg {a : Nat} {m : Int32} (ha : a < 2 ^ 31) (hm : m < 0) : nI a ≠ m := fun q => nI_pos ha (by rw [q]; exact hm)
theorem i32_cases (x : Int32) (n : Nat) (hn : n < 2 ^ 31) : (x < 0 ∨ nI n ≤ x) ∨ ∃ j, j < n ∧ x = nI j := by
  rcases pk_ix x hn with h | h | h
  · exact Or.inl (Or.inl h)
  · exact Or.inl (Or.inr h)
  · exact Or.inr h
theorem nI_lit (n : Nat) : (OfNat.ofNat n : Int32) = nI n := rfl
