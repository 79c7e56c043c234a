/-! the cells: 0 FIRST_ELEMENTS, 1 the rows of the law's object, 2 the script (its length is left open here), 3 the store's object and what it reaches, 52 the law's own object and what it reaches -/
def skC : List SD := [.inl (0, 10), .inl (62, 40), .inl (0, 0), .inr (13, [some 4, some 19, none, some 34, some 36, some 38, some 43, some 45, some 46, some 48, some 50]), .inr (10, [some 5, some 10]), .inr (5, [none, some 6, some 7, some 8, some 9]), .inl (0, 138), .inl (0, 138), .inl (0, 552), .inl (1, 138), .inr (12, [none, some 11, some 12, some 13, some 14, some 15, some 16, some 17, some 18]), .inl (0, 40), .inl (0, 40), .inl (0, 40), .inl (0, 40), .inl (0, 40), .inl (0, 40), .inl (0, 64), .inl (1, 40), .inr (10, [some 20, some 25]), .inr (5, [none, some 21, some 22, some 23, some 24]), .inl (0, 138), .inl (0, 138), .inl (0, 552), .inl (1, 138), .inr (12, [none, some 26, some 27, some 28, some 29, some 30, some 31, some 32, some 33]), .inl (0, 40), .inl (0, 40), .inl (0, 40), .inl (0, 40), .inl (0, 40), .inl (0, 40), .inl (0, 64), .inl (1, 40), .inr (7, [some 4, some 35]), .inl (1, 138), .inr (2, [some 4, some 34, some 37]), .inl (1, 138), .inr (3, [none, none, some 39, some 40, some 41, some 42]), .inl (0, 8), .inl (0, 8), .inl (1, 320), .inl (1, 1104), .inr (4, [none, some 44]), .inl (0, 600), .inr (11, [some 43, none, none, none, none, none, none, none]), .inr (9, [some 45, none, none, some 47, none]), .inl (0, 64), .inr (8, [some 45, some 49, none, none, none, none]), .inl (0, 120), .inr (6, [none, some 51]), .inl (0, 321)]
def skW0 : List SD := [.inr (14, [some 1, some 53, some 54, some 55, some 56, some 57, none, none]), .inl (0, 40), .inl (0, 40), .inl (1, 40), .inl (102, 200), .inl (1, 200)]
def skR : List SD := List.replicate 40 (.inl (0, 64)) ++ List.replicate 200 (.inl (0, 4))
def skW : List SD := skW0 ++ skR
def Ext (sk : List SD) : Prop := ∀ (k : Nat) (d : SD), k ≠ 2 ∧ k ≠ 1 → nth skC k = some d → sk[k]? = some d
def ExtL (sk : List SD) : Prop := ∀ (k : Nat) (d : SD), k ≠ 2 → nth (skC ++ skW) k = some d → sk[k]? = some d
theorem nth_app {α : Type} : ∀ {a b : List α} {k : Nat} {x : α}, nth a k = some x → nth (a ++ b) k = some x
  | [], _, _, _, h => by cases h
  | _ :: _, _, 0, _, h => h
  | _ :: a, b, k + 1, x, h => nth_app (a := a) (b := b) (k := k) h
theorem ExtL.c {sk : List SD} (h : ExtL sk) : Ext sk := fun k d h2 hk => h k d h2.1 (nth_app hk)
theorem nth_skip {α : Type} : ∀ (a b : List α) (k : Nat), nth (a ++ b) (a.length + k) = nth b k
  | [], b, k => by
    rw [List.length_nil, Nat.zero_add]
    rfl
  | x :: a, b, k => by
    rw [List.length_cons, show a.length + 1 + k = (a.length + k) + 1 by omega]
    exact nth_skip a b k
theorem nth_rep {α : Type} {a : α} : ∀ {n v : Nat}, v < n → nth (List.replicate n a) v = some a
  | 0, v, h => absurd h (Nat.not_lt_zero v)
  | n + 1, 0, _ => rfl
  | n + 1, v + 1, h => nth_rep (n := n) (v := v) (Nat.lt_of_succ_lt_succ h)
theorem nth_R (k : Nat) : nth (skC ++ skW) (58 + k) = nth skR k := by
  have e1 := nth_skip skC skW (6 + k)
  have e2 := nth_skip skW0 skR k
  rw [show skC.length = 52 from rfl, show 52 + (6 + k) = 58 + k by omega] at e1
  rw [show skW0.length = 6 from rfl] at e2
  rw [e1]
  exact e2
theorem nth_row (v : Nat) (h : v < 40) : nth (skC ++ skW) (58 + v) = some (.inl (0, 64)) := by
  rw [nth_R]
  exact nth_app (nth_rep h)
theorem nth_seen (v : Nat) (h : v < 200) : nth (skC ++ skW) (98 + v) = some (.inl (0, 4)) := by
  rw [show 98 + v = 58 + (40 + v) by omega, nth_R]
  have e := nth_skip (List.replicate 40 (.inl (0, 64) : SD)) (List.replicate 200 (.inl (0, 4))) v
  rw [List.length_replicate] at e
  exact e.trans (nth_rep h)
theorem ExtL.row {sk : List SD} (h : ExtL sk) {i : Int} (hi : 0 ≤ i ∧ i < (40 : Nat)) : sk[58 + i.toNat]? = some (.inl (0, 64)) := h _ _ (by omega) (nth_row i.toNat (by omega))
theorem ExtL.seen {sk : List SD} (h : ExtL sk) {i : Int} (hi : 0 ≤ i ∧ i < (200 : Nat)) : sk[98 + i.toNat]? = some (.inl (0, 4)) := h _ _ (by omega) (nth_seen i.toNat (by omega))
theorem nat_rng {n : Nat} (h : n ≤ 2147483647) : rng (n : Int) := ⟨by omega, by omega⟩
theorem imax_rng {x y : Int} (hx : rng x) (hy : rng y) : rng (imax x y) := by
  unfold imax
  split
  · exact hy
  · exact hx
theorem imin_rng {x y : Int} (hx : rng x) (hy : rng y) : rng (imin x y) := by
  unfold imin
  split
  · exact hy
  · exact hx
theorem lcmp_rng (x y : Int) : rng (lcmpI x y) := by
  unfold lcmpI
  split
  · decide
  · split <;> decide
theorem shl_rng {x y : Int} (h : 0 ≤ x ∧ (0 ≤ y ∧ y ≤ 31) ∧ x * (2 ^ (y : Int).toNat : Nat) ≤ 2147483647) : rng (x * (2 ^ (y : Int).toNat : Nat)) :=
  ⟨by
    have h0 : 0 ≤ x * ((2 ^ y.toNat : Nat) : Int) := Int.mul_nonneg h.1 (Int.natCast_nonneg _)
    omega, h.2.2⟩
theorem fb_rngX (x : Int32) : -2147483648 ≤ x.toInt ∧ x.toInt < 2147483648 := ⟨x.minValue_le_toInt, x.toInt_lt⟩
def vs (Γ : GG) (q : Nat) : Value := .ref (Γ.2.2.1 q)
def slen (q : Nat) : Int := ((lensL.getD q 0 : Nat) : Int)
def schar (q j : Nat) : Int := ((bytL.getD q []).getD j 0).toInt
theorem slen_rng (q : Nat) : rng (slen q) := by
  have h : ∀ i : Nat, i < 12 → lensL.getD i 0 ≤ 2147483647 := by decide
  unfold slen
  by_cases hq : q < 12
  · exact nat_rng (h q hq)
  · have e : lensL.getD q 0 = 0 := by
      rw [List.getD_eq_getElem?_getD, List.getElem?_eq_none (by show 12 ≤ q; omega)]
      rfl
    rw [e]
    decide
theorem schar_rng (q j : Nat) : rng (schar q j) := ⟨by have := (fb_rngX ((bytL.getD q []).getD j 0)).1; exact this, by have := (fb_rngX ((bytL.getD q []).getD j 0)).2; show _ ≤ _; unfold schar; omega⟩
set_option maxRecDepth 20000 in
theorem inX0 : ∀ w ∈ u_ws RX0 TX0 3, w ∈ wsA := show ∀ w ∈ ([u_lay RX0 TX0 0, u_lay RX0 TX0 1, u_lay RX0 TX0 2] : List Cond), w ∈ wsA from List.forall_mem_cons.mpr ⟨tb_1 (List.mem_of_getElem? (i := 151) (by decide +kernel)) (by decide +kernel), List.forall_mem_cons.mpr ⟨tb_1 (List.mem_of_getElem? (i := 153) (by decide +kernel)) (by decide +kernel), List.forall_mem_cons.mpr ⟨tb_1 (List.mem_of_getElem? (i := 155) (by decide +kernel)) (by decide +kernel), fun _ h => absurd h List.not_mem_nil⟩⟩⟩
set_option maxRecDepth 20000 in
theorem inX1 : ∀ w ∈ u_ws RX1 TX1 6, w ∈ wsA := show ∀ w ∈ ([u_lay RX1 TX1 0, u_lay RX1 TX1 1, u_lay RX1 TX1 2, u_lay RX1 TX1 3, u_lay RX1 TX1 4, u_lay RX1 TX1 5] : List Cond), w ∈ wsA from List.forall_mem_cons.mpr ⟨tb_1 (List.mem_of_getElem? (i := 170) (by decide +kernel)) (by decide +kernel), List.forall_mem_cons.mpr ⟨tb_1 (List.mem_of_getElem? (i := 172) (by decide +kernel)) (by decide +kernel), List.forall_mem_cons.mpr ⟨tb_1 (List.mem_of_getElem? (i := 174) (by decide +kernel)) (by decide +kernel), List.forall_mem_cons.mpr ⟨tb_1 (List.mem_of_getElem? (i := 176) (by decide +kernel)) (by decide +kernel), List.forall_mem_cons.mpr ⟨tb_1 (List.mem_of_getElem? (i := 178) (by decide +kernel)) (by decide +kernel), List.forall_mem_cons.mpr ⟨tb_1 (List.mem_of_getElem? (i := 180) (by decide +kernel)) (by decide +kernel), fun _ h => absurd h List.not_mem_nil⟩⟩⟩⟩⟩⟩
set_option maxRecDepth 20000 in
theorem inX2 : ∀ w ∈ u_ws RX2 TX2 2, w ∈ wsA := show ∀ w ∈ ([u_lay RX2 TX2 0, u_lay RX2 TX2 1] : List Cond), w ∈ wsA from List.forall_mem_cons.mpr ⟨tb_1 (List.mem_of_getElem? (i := 193) (by decide +kernel)) (by decide +kernel), List.forall_mem_cons.mpr ⟨tb_1 (List.mem_of_getElem? (i := 195) (by decide +kernel)) (by decide +kernel), fun _ h => absurd h List.not_mem_nil⟩⟩
set_option maxRecDepth 20000 in
theorem inX3 : ∀ w ∈ u_ws RX3 TX3 5, w ∈ wsA := show ∀ w ∈ ([u_lay RX3 TX3 0, u_lay RX3 TX3 1, u_lay RX3 TX3 2, u_lay RX3 TX3 3, u_lay RX3 TX3 4] : List Cond), w ∈ wsA from List.forall_mem_cons.mpr ⟨tb_1 (List.mem_of_getElem? (i := 62) (by decide +kernel)) (by decide +kernel), List.forall_mem_cons.mpr ⟨tb_1 (List.mem_of_getElem? (i := 64) (by decide +kernel)) (by decide +kernel), List.forall_mem_cons.mpr ⟨tb_1 (List.mem_of_getElem? (i := 66) (by decide +kernel)) (by decide +kernel), List.forall_mem_cons.mpr ⟨tb_1 (List.mem_of_getElem? (i := 68) (by decide +kernel)) (by decide +kernel), List.forall_mem_cons.mpr ⟨tb_1 (List.mem_of_getElem? (i := 70) (by decide +kernel)) (by decide +kernel), fun _ h => absurd h List.not_mem_nil⟩⟩⟩⟩⟩
set_option maxRecDepth 20000 in
theorem inX4 : ∀ w ∈ u_ws RX4 TX4 2, w ∈ wsA := show ∀ w ∈ ([u_lay RX4 TX4 0, u_lay RX4 TX4 1] : List Cond), w ∈ wsA from List.forall_mem_cons.mpr ⟨tb_2 (List.mem_of_getElem? (i := 44) (by decide +kernel)) (by decide +kernel), List.forall_mem_cons.mpr ⟨tb_2 (List.mem_of_getElem? (i := 46) (by decide +kernel)) (by decide +kernel), fun _ h => absurd h List.not_mem_nil⟩⟩
set_option maxRecDepth 20000 in
theorem inX5 : ∀ w ∈ u_ws RX5 TX5 2, w ∈ wsA := show ∀ w ∈ ([u_lay RX5 TX5 0, u_lay RX5 TX5 1] : List Cond), w ∈ wsA from List.forall_mem_cons.mpr ⟨tb_1 (List.mem_of_getElem? (i := 137) (by decide +kernel)) (by decide +kernel), List.forall_mem_cons.mpr ⟨tb_1 (List.mem_of_getElem? (i := 139) (by decide +kernel)) (by decide +kernel), fun _ h => absurd h List.not_mem_nil⟩⟩
set_option maxRecDepth 20000 in
theorem inX6 : ∀ w ∈ u_ws RX6 TX6 6, w ∈ wsA := show ∀ w ∈ ([u_lay RX6 TX6 0, u_lay RX6 TX6 1, u_lay RX6 TX6 2, u_lay RX6 TX6 3, u_lay RX6 TX6 4, u_lay RX6 TX6 5] : List Cond), w ∈ wsA from List.forall_mem_cons.mpr ⟨tb_2 (List.mem_of_getElem? (i := 24) (by decide +kernel)) (by decide +kernel), List.forall_mem_cons.mpr ⟨tb_2 (List.mem_of_getElem? (i := 26) (by decide +kernel)) (by decide +kernel), List.forall_mem_cons.mpr ⟨tb_2 (List.mem_of_getElem? (i := 28) (by decide +kernel)) (by decide +kernel), List.forall_mem_cons.mpr ⟨tb_2 (List.mem_of_getElem? (i := 30) (by decide +kernel)) (by decide +kernel), List.forall_mem_cons.mpr ⟨tb_2 (List.mem_of_getElem? (i := 32) (by decide +kernel)) (by decide +kernel), List.forall_mem_cons.mpr ⟨tb_2 (List.mem_of_getElem? (i := 34) (by decide +kernel)) (by decide +kernel), fun _ h => absurd h List.not_mem_nil⟩⟩⟩⟩⟩⟩
set_option maxRecDepth 20000 in
theorem inX7 : ∀ w ∈ u_ws RX7 TX7 5, w ∈ wsA := show ∀ w ∈ ([u_lay RX7 TX7 0, u_lay RX7 TX7 1, u_lay RX7 TX7 2, u_lay RX7 TX7 3, u_lay RX7 TX7 4] : List Cond), w ∈ wsA from List.forall_mem_cons.mpr ⟨tb_2 (List.mem_of_getElem? (i := 5) (by decide +kernel)) (by decide +kernel), List.forall_mem_cons.mpr ⟨tb_2 (List.mem_of_getElem? (i := 7) (by decide +kernel)) (by decide +kernel), List.forall_mem_cons.mpr ⟨tb_2 (List.mem_of_getElem? (i := 9) (by decide +kernel)) (by decide +kernel), List.forall_mem_cons.mpr ⟨tb_2 (List.mem_of_getElem? (i := 11) (by decide +kernel)) (by decide +kernel), List.forall_mem_cons.mpr ⟨tb_2 (List.mem_of_getElem? (i := 13) (by decide +kernel)) (by decide +kernel), fun _ h => absurd h List.not_mem_nil⟩⟩⟩⟩⟩
set_option maxRecDepth 20000 in
theorem inX8 : ∀ w ∈ u_ws RX8 TX8 2, w ∈ wsA := show ∀ w ∈ ([u_lay RX8 TX8 0, u_lay RX8 TX8 1] : List Cond), w ∈ wsA from List.forall_mem_cons.mpr ⟨tb_1 (List.mem_of_getElem? (i := 124) (by decide +kernel)) (by decide +kernel), List.forall_mem_cons.mpr ⟨tb_1 (List.mem_of_getElem? (i := 126) (by decide +kernel)) (by decide +kernel), fun _ h => absurd h List.not_mem_nil⟩⟩
set_option maxRecDepth 20000 in
theorem inX9 : ∀ w ∈ u_ws RX9 TX9 8, w ∈ wsA := show ∀ w ∈ ([u_lay RX9 TX9 0, u_lay RX9 TX9 1, u_lay RX9 TX9 2, u_lay RX9 TX9 3, u_lay RX9 TX9 4, u_lay RX9 TX9 5, u_lay RX9 TX9 6, u_lay RX9 TX9 7] : List Cond), w ∈ wsA from List.forall_mem_cons.mpr ⟨tb_1 (List.mem_of_getElem? (i := 215) (by decide +kernel)) (by decide +kernel), List.forall_mem_cons.mpr ⟨tb_1 (List.mem_of_getElem? (i := 217) (by decide +kernel)) (by decide +kernel), List.forall_mem_cons.mpr ⟨tb_1 (List.mem_of_getElem? (i := 219) (by decide +kernel)) (by decide +kernel), List.forall_mem_cons.mpr ⟨tb_1 (List.mem_of_getElem? (i := 221) (by decide +kernel)) (by decide +kernel), List.forall_mem_cons.mpr ⟨tb_1 (List.mem_of_getElem? (i := 223) (by decide +kernel)) (by decide +kernel), List.forall_mem_cons.mpr ⟨tb_1 (List.mem_of_getElem? (i := 225) (by decide +kernel)) (by decide +kernel), List.forall_mem_cons.mpr ⟨tb_1 (List.mem_of_getElem? (i := 227) (by decide +kernel)) (by decide +kernel), List.forall_mem_cons.mpr ⟨tb_1 (List.mem_of_getElem? (i := 229) (by decide +kernel)) (by decide +kernel), fun _ h => absurd h List.not_mem_nil⟩⟩⟩⟩⟩⟩⟩⟩
set_option maxRecDepth 20000 in
theorem inX10 : ∀ w ∈ u_ws RX10 TX10 9, w ∈ wsA := show ∀ w ∈ ([u_lay RX10 TX10 0, u_lay RX10 TX10 1, u_lay RX10 TX10 2, u_lay RX10 TX10 3, u_lay RX10 TX10 4, u_lay RX10 TX10 5, u_lay RX10 TX10 6, u_lay RX10 TX10 7, u_lay RX10 TX10 8] : List Cond), w ∈ wsA from List.forall_mem_cons.mpr ⟨tb_1 (List.mem_of_getElem? (i := 95) (by decide +kernel)) (by decide +kernel), List.forall_mem_cons.mpr ⟨tb_1 (List.mem_of_getElem? (i := 97) (by decide +kernel)) (by decide +kernel), List.forall_mem_cons.mpr ⟨tb_1 (List.mem_of_getElem? (i := 99) (by decide +kernel)) (by decide +kernel), List.forall_mem_cons.mpr ⟨tb_1 (List.mem_of_getElem? (i := 101) (by decide +kernel)) (by decide +kernel), List.forall_mem_cons.mpr ⟨tb_1 (List.mem_of_getElem? (i := 103) (by decide +kernel)) (by decide +kernel), List.forall_mem_cons.mpr ⟨tb_1 (List.mem_of_getElem? (i := 105) (by decide +kernel)) (by decide +kernel), List.forall_mem_cons.mpr ⟨tb_1 (List.mem_of_getElem? (i := 107) (by decide +kernel)) (by decide +kernel), List.forall_mem_cons.mpr ⟨tb_1 (List.mem_of_getElem? (i := 109) (by decide +kernel)) (by decide +kernel), List.forall_mem_cons.mpr ⟨tb_1 (List.mem_of_getElem? (i := 111) (by decide +kernel)) (by decide +kernel), fun _ h => absurd h List.not_mem_nil⟩⟩⟩⟩⟩⟩⟩⟩⟩
set_option maxRecDepth 20000 in
theorem inX11 : ∀ w ∈ u_ws RX11 TX11 11, w ∈ wsA := show ∀ w ∈ ([u_lay RX11 TX11 0, u_lay RX11 TX11 1, u_lay RX11 TX11 2, u_lay RX11 TX11 3, u_lay RX11 TX11 4, u_lay RX11 TX11 5, u_lay RX11 TX11 6, u_lay RX11 TX11 7, u_lay RX11 TX11 8, u_lay RX11 TX11 9, u_lay RX11 TX11 10] : List Cond), w ∈ wsA from List.forall_mem_cons.mpr ⟨tb_2 (List.mem_of_getElem? (i := 120) (by decide +kernel)) (by decide +kernel), List.forall_mem_cons.mpr ⟨tb_2 (List.mem_of_getElem? (i := 122) (by decide +kernel)) (by decide +kernel), List.forall_mem_cons.mpr ⟨tb_2 (List.mem_of_getElem? (i := 124) (by decide +kernel)) (by decide +kernel), List.forall_mem_cons.mpr ⟨tb_2 (List.mem_of_getElem? (i := 126) (by decide +kernel)) (by decide +kernel), List.forall_mem_cons.mpr ⟨tb_2 (List.mem_of_getElem? (i := 128) (by decide +kernel)) (by decide +kernel), List.forall_mem_cons.mpr ⟨tb_2 (List.mem_of_getElem? (i := 130) (by decide +kernel)) (by decide +kernel), List.forall_mem_cons.mpr ⟨tb_2 (List.mem_of_getElem? (i := 132) (by decide +kernel)) (by decide +kernel), List.forall_mem_cons.mpr ⟨tb_2 (List.mem_of_getElem? (i := 134) (by decide +kernel)) (by decide +kernel), List.forall_mem_cons.mpr ⟨tb_2 (List.mem_of_getElem? (i := 136) (by decide +kernel)) (by decide +kernel), List.forall_mem_cons.mpr ⟨tb_2 (List.mem_of_getElem? (i := 138) (by decide +kernel)) (by decide +kernel), List.forall_mem_cons.mpr ⟨tb_2 (List.mem_of_getElem? (i := 140) (by decide +kernel)) (by decide +kernel), fun _ h => absurd h List.not_mem_nil⟩⟩⟩⟩⟩⟩⟩⟩⟩⟩⟩
set_option maxRecDepth 20000 in
theorem inL : ∀ w ∈ u_ws RL TL 8, w ∈ wsA := show ∀ w ∈ ([u_lay RL TL 0, u_lay RL TL 1, u_lay RL TL 2, u_lay RL TL 3, u_lay RL TL 4, u_lay RL TL 5, u_lay RL TL 6, u_lay RL TL 7] : List Cond), w ∈ wsA from List.forall_mem_cons.mpr ⟨tb_3 (List.mem_of_getElem? (i := 41) (by decide +kernel)) (by decide +kernel), List.forall_mem_cons.mpr ⟨tb_3 (List.mem_of_getElem? (i := 43) (by decide +kernel)) (by decide +kernel), List.forall_mem_cons.mpr ⟨tb_3 (List.mem_of_getElem? (i := 45) (by decide +kernel)) (by decide +kernel), List.forall_mem_cons.mpr ⟨tb_3 (List.mem_of_getElem? (i := 47) (by decide +kernel)) (by decide +kernel), List.forall_mem_cons.mpr ⟨tb_3 (List.mem_of_getElem? (i := 49) (by decide +kernel)) (by decide +kernel), List.forall_mem_cons.mpr ⟨tb_3 (List.mem_of_getElem? (i := 51) (by decide +kernel)) (by decide +kernel), List.forall_mem_cons.mpr ⟨tb_3 (List.mem_of_getElem? (i := 53) (by decide +kernel)) (by decide +kernel), List.forall_mem_cons.mpr ⟨tb_3 (List.mem_of_getElem? (i := 55) (by decide +kernel)) (by decide +kernel), fun _ h => absurd h List.not_mem_nil⟩⟩⟩⟩⟩⟩⟩⟩
set_option maxRecDepth 20000 in
theorem inJ0 : ∀ w ∈ u_ws RJ0 TJ0 4, w ∈ wsA := show ∀ w ∈ ([u_lay RJ0 TJ0 0, u_lay RJ0 TJ0 1, u_lay RJ0 TJ0 2, u_lay RJ0 TJ0 3] : List Cond), w ∈ wsA from List.forall_mem_cons.mpr ⟨tb_6 (List.mem_of_getElem? (i := 120) (by decide +kernel)) (by decide +kernel), List.forall_mem_cons.mpr ⟨tb_6 (List.mem_of_getElem? (i := 122) (by decide +kernel)) (by decide +kernel), List.forall_mem_cons.mpr ⟨tb_6 (List.mem_of_getElem? (i := 124) (by decide +kernel)) (by decide +kernel), List.forall_mem_cons.mpr ⟨tb_6 (List.mem_of_getElem? (i := 126) (by decide +kernel)) (by decide +kernel), fun _ h => absurd h List.not_mem_nil⟩⟩⟩⟩
set_option maxRecDepth 20000 in
theorem inJ4 : ∀ w ∈ u_ws RJ4 TJ4 4, w ∈ wsA := show ∀ w ∈ ([u_lay RJ4 TJ4 0, u_lay RJ4 TJ4 1, u_lay RJ4 TJ4 2, u_lay RJ4 TJ4 3] : List Cond), w ∈ wsA from List.forall_mem_cons.mpr ⟨tb_6 (List.mem_of_getElem? (i := 25) (by decide +kernel)) (by decide +kernel), List.forall_mem_cons.mpr ⟨tb_6 (List.mem_of_getElem? (i := 27) (by decide +kernel)) (by decide +kernel), List.forall_mem_cons.mpr ⟨tb_6 (List.mem_of_getElem? (i := 29) (by decide +kernel)) (by decide +kernel), List.forall_mem_cons.mpr ⟨tb_6 (List.mem_of_getElem? (i := 31) (by decide +kernel)) (by decide +kernel), fun _ h => absurd h List.not_mem_nil⟩⟩⟩⟩
theorem math_max : Cond.static Lib.Math.max.name ∈ wsA ∧ Cond.initialized "java/lang/Math" ∈ wsA ∧ Cond.code Lib.Math.max.name Lib.Math.max.code 2 (some .int) ∈ wsA := ⟨tb_2 (List.mem_of_getElem? (i := 84) (by decide +kernel)) (by decide +kernel), tb_1 (List.mem_of_getElem? (i := 13) (by decide +kernel)) (by decide +kernel), tb_2 (List.mem_of_getElem? (i := 85) (by decide +kernel)) (by decide +kernel)⟩
theorem math_min : Cond.static Lib.Math.min.name ∈ wsA ∧ Cond.initialized "java/lang/Math" ∈ wsA ∧ Cond.code Lib.Math.min.name Lib.Math.min.code 2 (some .int) ∈ wsA := ⟨tb_4 (List.mem_of_getElem? (i := 28) (by decide +kernel)) (by decide +kernel), tb_1 (List.mem_of_getElem? (i := 13) (by decide +kernel)) (by decide +kernel), tb_4 (List.mem_of_getElem? (i := 29) (by decide +kernel)) (by decide +kernel)⟩
