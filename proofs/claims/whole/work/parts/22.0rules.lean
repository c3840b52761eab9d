/-! Rules for equations with a known answer, goal first; literals as nI. -/
theorem q_if_t {α : Type} {c : Prop} [Decidable c] {a b : Option α} {r : α} (hc : c) (h : a = some r) : (if c then a else b) = some r := by rw [if_pos hc]; exact h
theorem q_if_f {α : Type} {c : Prop} [Decidable c] {a b : Option α} {r : α} (hc : ¬ c) (h : b = some r) : (if c then a else b) = some r := by rw [if_neg hc]; exact h
theorem q_ck {α : Type} {i : Int32} {n : Nat} {k : Nat → Option α} {r : α} (j : Nat) (e : i = nI j) (hj : j < n) (hn : n < 2 ^ 31) (h : k j = some r) : ck i n k = some r := by rw [ck_nI j e hj hn]; exact h
theorem q_wr {α β : Type} {v : α} {k : α → Option β} {r : β} (h : k v = some r) : wr v k = some r := h
theorem q_wre {α β : Type} {v w : α} {k : α → Option β} {r : β} (e : v = w) (h : k w = some r) : wr v k = some r := by rw [e]; exact h
theorem q_call {β : Type} {x : Option (Int32 × G)} {v : Int32} {g' : G} {k : Int32 → G → Option β} {r : β} (e : x = some (v, g')) (h : k v g' = some r) : bd2 x k = some r := by rw [e]; exact h
theorem q_bd {α β : Type} {x : Option α} {a : α} {k : α → Option β} {r : β} (e : x = some a) (h : k a = some r) : bd x k = some r := by rw [e]; exact h
theorem q_bz {α : Type} {x : Int32} {k : Option α} {r : α} (hx : x = 0 ∨ x = 1) (h : k = some r) : bz x k = some r := by unfold bz; rw [if_pos hx]; exact h
theorem q_dz {α : Type} {y : Int32} {k : Option α} {r : α} (hy : ¬ y = 0) (h : k = some r) : dz y k = some r := by unfold dz; rw [if_neg hy]; exact h
theorem q_some {r r' : Int32} {g g' : G} (h1 : r = r') (h2 : g = g') : some (r, g) = some (r', g') := by rw [h1, h2]
theorem q_of {x : Option (Int32 × G)} {r : Int32} {g' : G} (h : Ev x (fun q => q = (r, g'))) : x = some (r, g') := by
  obtain ⟨a, h1, h2⟩ := h
  rw [h1, h2]
theorem l_0 : (0 : Int32) = nI 0 := rfl
theorem l_1 : (1 : Int32) = nI 1 := rfl
theorem l_2 : (2 : Int32) = nI 2 := rfl
theorem l_3 : (3 : Int32) = nI 3 := rfl
theorem l_4 : (4 : Int32) = nI 4 := rfl
theorem l_5 : (5 : Int32) = nI 5 := rfl
theorem l_6 : (6 : Int32) = nI 6 := rfl
theorem l_7 : (7 : Int32) = nI 7 := rfl
theorem l_8 : (8 : Int32) = nI 8 := rfl
theorem l_9 : (9 : Int32) = nI 9 := rfl
theorem l_10 : (10 : Int32) = nI 10 := rfl
theorem l_11 : (11 : Int32) = nI 11 := rfl
theorem l_12 : (12 : Int32) = nI 12 := rfl
theorem l_13 : (13 : Int32) = nI 13 := rfl
theorem l_20 : (20 : Int32) = nI 20 := rfl
theorem l_21 : (21 : Int32) = nI 21 := rfl
theorem l_22 : (22 : Int32) = nI 22 := rfl
theorem l_23 : (23 : Int32) = nI 23 := rfl
theorem l_24 : (24 : Int32) = nI 24 := rfl
theorem l_25 : (25 : Int32) = nI 25 := rfl
theorem l_26 : (26 : Int32) = nI 26 := rfl
theorem l_30 : (30 : Int32) = nI 30 := rfl
theorem l_32 : (32 : Int32) = nI 32 := rfl
theorem l_38 : (38 : Int32) = nI 38 := rfl
theorem l_40 : (40 : Int32) = nI 40 := rfl
theorem l_44 : (44 : Int32) = nI 44 := rfl
theorem l_50 : (50 : Int32) = nI 50 := rfl
theorem l_59 : (59 : Int32) = nI 59 := rfl
theorem l_60 : (60 : Int32) = nI 60 := rfl
theorem l_80 : (80 : Int32) = nI 80 := rfl
theorem l_96 : (96 : Int32) = nI 96 := rfl
theorem l_99 : (99 : Int32) = nI 99 := rfl
theorem l_110 : (110 : Int32) = nI 110 := rfl
theorem l_111 : (111 : Int32) = nI 111 := rfl
theorem l_171 : (171 : Int32) = nI 171 := rfl
theorem l_200 : (200 : Int32) = nI 200 := rfl
theorem l_231 : (231 : Int32) = nI 231 := rfl
theorem l_291 : (291 : Int32) = nI 291 := rfl
theorem l_351 : (351 : Int32) = nI 351 := rfl
theorem l_400 : (400 : Int32) = nI 400 := rfl
theorem l_411 : (411 : Int32) = nI 411 := rfl
theorem l_412 : (412 : Int32) = nI 412 := rfl
theorem l_500 : (500 : Int32) = nI 500 := rfl
theorem l_1000 : (1000 : Int32) = nI 1000 := rfl
theorem l_1500 : (1500 : Int32) = nI 1500 := rfl
theorem l_1648 : (1648 : Int32) = nI 1648 := rfl
theorem l_3000 : (3000 : Int32) = nI 3000 := rfl
theorem l_1000000 : (1000000 : Int32) = nI 1000000 := rfl
theorem l_2147483647 : (2147483647 : Int32) = nI 2147483647 := rfl
theorem nI_lt0 {n : Nat} (h : n < 2 ^ 31) : ¬ nI n < (0 : Int32) := nI_pos h
theorem nI_nz {n : Nat} (h0 : 0 < n) (h : n < 2 ^ 31) : ¬ nI n = 0 := nI_ne0 h0 h
