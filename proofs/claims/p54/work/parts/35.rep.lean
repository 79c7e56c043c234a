/-! the class's memory holds a state -/
def repR (F : Nat → Nat → Int) (A : AS) : Prop :=
  (∀ k, 0 ≤ k → k < aN A → F 1 k.toNat = lvA A k ∧ F 2 k.toNat = flA A k ∧ ∀ j, 0 ≤ j → j < flA A k → F 3 (k * 4 + j).toNat = enA A k j) ∧
  (∀ v, 0 ≤ v → v < aV A → F 6 v.toNat = paA A v ∧ F 7 v.toNat = rtA A v ∧ F 8 v.toNat = szA A v ∧ F 9 v.toNat = crA A v) ∧
  (F 10 0 = -1 ∧ ∀ i, 0 ≤ i → i < szA A 0 → F 12 i.toNat = ev A 0 i) ∧
  (∀ v, 0 < v → v < aV A → ∀ i, 0 ≤ i → i < szA A v → (F 10 v.toNat = i ∧ F 11 v.toNat = ev A v i) ∨ (F 10 v.toNat ≠ i ∧ i < szA A (paA A v) ∧ ev A v i = ev A (paA A v) i))
def RC (M : Mem) (A : AS) : Prop := M 5 0 = aN A ∧ M 10 0 = aV A ∧ repR (fun j => M (5 + j)) A ∧ (∀ k, 0 ≤ k → k < aN A → M 9 k.toNat = coA A k) ∧ (∀ v, 0 ≤ v → v < aV A → M 18 v.toNat = rlA A v)
def CM (M : Mem) (A : AS) : Prop := RC M A ∧ Good A
theorem RC_congr {M M' : Mem} {A : AS} (h : RC M A) (hk : ∀ k, 5 ≤ k → k ≤ 18 → M' k = M k) : RC M' A := by
  obtain ⟨h1, h2, h3, h4, h5⟩ := h
  have e : ∀ j, j ≤ 13 → M' (5 + j) = M (5 + j) := fun j hj => hk _ (by omega) (by omega)
  refine ⟨by rw [hk 5 (by decide) (by decide)]; exact h1, by rw [hk 10 (by decide) (by decide)]; exact h2, ?_, fun k h0 hn => by rw [hk 9 (by decide) (by decide)]; exact h4 k h0 hn, fun k h0 hn => by rw [hk 18 (by decide) (by decide)]; exact h5 k h0 hn⟩
  obtain ⟨r1, r2, r3, r4⟩ := h3
  refine ⟨fun k h0 hn => ?_, fun k h0 hn => ?_, ?_, fun v h0 hn i hi hi2 => ?_⟩
  · show M' (5 + 1) k.toNat = _ ∧ M' (5 + 2) k.toNat = _ ∧ ∀ j : Int, _ → _ → M' (5 + 3) (k * 4 + j).toNat = _
    rw [e 1 (by decide), e 2 (by decide), e 3 (by decide)]
    exact r1 k h0 hn
  · show M' (5 + 6) k.toNat = _ ∧ M' (5 + 7) k.toNat = _ ∧ M' (5 + 8) k.toNat = _ ∧ M' (5 + 9) k.toNat = _
    rw [e 6 (by decide), e 7 (by decide), e 8 (by decide), e 9 (by decide)]
    exact r2 k h0 hn
  · show M' (5 + 10) 0 = -1 ∧ ∀ i : Int, _ → _ → M' (5 + 12) i.toNat = _
    rw [e 10 (by decide), e 12 (by decide)]
    exact r3
  · show (M' (5 + 10) v.toNat = i ∧ M' (5 + 11) v.toNat = _) ∨ (M' (5 + 10) v.toNat ≠ i ∧ _)
    rw [e 10 (by decide), e 11 (by decide)]
    exact r4 v h0 hn i hi hi2
theorem CM_congr {M M' : Mem} {A : AS} (h : CM M A) (hk : ∀ k, 5 ≤ k → k ≤ 18 → M' k = M k) : CM M' A := ⟨RC_congr h.1 hk, h.2⟩
section Base
variable {M : Mem} {A : AS} {fu : Nat}
theorem CM_n (h : CM M A) : M 5 0 = aN A := h.1.1
theorem CM_v (h : CM M A) : M 10 0 = aV A := h.1.2.1
theorem CM_nr (h : CM M A) : 0 ≤ aN A ∧ aN A ≤ 138 := ⟨h.2.2.1.1, Good_N h.2⟩
theorem CM_vr (h : CM M A) : 1 ≤ aV A ∧ aV A ≤ 40 := h.2.1
theorem CM_lv (h : CM M A) {k : Int} (h0 : 0 ≤ k) (h1 : k < aN A) : M 6 k.toNat = lvA A k := (h.1.2.2.1.1 k h0 h1).1
theorem CM_fl (h : CM M A) {k : Int} (h0 : 0 ≤ k) (h1 : k < aN A) : M 7 k.toNat = flA A k := (h.1.2.2.1.1 k h0 h1).2.1
theorem CM_en (h : CM M A) {k j : Int} (h0 : 0 ≤ k) (h1 : k < aN A) (h2 : 0 ≤ j) (h3 : j < flA A k) : M 8 (k * 4 + j).toNat = enA A k j := (h.1.2.2.1.1 k h0 h1).2.2 j h2 h3
theorem CM_co (h : CM M A) {k : Int} (h0 : 0 ≤ k) (h1 : k < aN A) : M 9 k.toNat = coA A k := h.1.2.2.2.1 k h0 h1
theorem CM_rl (h : CM M A) {k : Int} (h0 : 0 ≤ k) (h1 : k < aV A) : M 18 k.toNat = rlA A k := h.1.2.2.2.2 k h0 h1
theorem CM_pa (h : CM M A) {k : Int} (h0 : 0 ≤ k) (h1 : k < aV A) : M 11 k.toNat = paA A k := (h.1.2.2.1.2.1 k h0 h1).1
theorem CM_rt (h : CM M A) {k : Int} (h0 : 0 ≤ k) (h1 : k < aV A) : M 12 k.toNat = rtA A k := (h.1.2.2.1.2.1 k h0 h1).2.1
theorem CM_sz (h : CM M A) {k : Int} (h0 : 0 ≤ k) (h1 : k < aV A) : M 13 k.toNat = szA A k := (h.1.2.2.1.2.1 k h0 h1).2.2.1
theorem CM_cr (h : CM M A) {k : Int} (h0 : 0 ≤ k) (h1 : k < aV A) : M 14 k.toNat = crA A k := (h.1.2.2.1.2.1 k h0 h1).2.2.2
theorem G_fl (h : Good A) {k : Int} (h0 : 0 ≤ k) (h1 : k < aN A) : 1 ≤ flA A k ∧ flA A k ≤ 4 := by
  obtain ⟨-, l, -, -, q1, q2, -⟩ := h.2.2.1 k h0 h1
  exact ⟨q1, q2⟩
theorem G_lv (h : Good A) {k : Int} (h0 : 0 ≤ k) (h1 : k < aN A) : 1 ≤ lvA A k ∧ lvA A k ≤ 3 := by
  obtain ⟨-, l, q1, q2, -⟩ := h.2.2.1 k h0 h1
  omega
theorem G_co (h : Good A) {k : Int} (h0 : 0 ≤ k) (h1 : k < aN A) : 0 ≤ coA A k ∧ coA A k ≤ 1 := (h.2.2.1 k h0 h1).1
theorem G_V (h : Good A) {v : Int} (h0 : 0 ≤ v) (h1 : v < aV A) : (0 ≤ szA A v ∧ szA A v ≤ 64) ∧ (0 ≤ rlA A v ∧ rlA A v ≤ 1) ∧ (0 ≤ crA A v ∧ crA A v ≤ 21) ∧ (v = 0 → paA A v = -1) ∧ (0 < v → 0 ≤ paA A v ∧ paA A v < v) ∧ okV A v ∧ (rlA A v = 0 → ∀ m, 0 < muA A (hgt (szA A v)) (rtA A v) m → coA A m = 0) := h.2.2.2.1 v h0 h1
/-! rows -/
theorem flagAt_in {k n : Nat} {a : Int} (h0 : 0 ≤ a) (h1 : a < n) : f_X11_flagAt fu M k n a = some (M, if M k a.toNat = 0 then 0 else 1) := by
  unfold f_X11_flagAt
  rw [if_neg (by omega), if_neg (by omega), grd_pos ⟨h0, h1⟩]
  split <;> rfl
theorem flagAt_out {k n : Nat} {a : Int} (h : a < 0 ∨ n ≤ a) : f_X11_flagAt fu M k n a = some (M, 0) := by
  unfold f_X11_flagAt
  by_cases h0 : a < 0
  · rw [if_pos h0]
  · rw [if_neg h0, if_pos (by omega)]
theorem at_in {k n : Nat} {a : Int} (h0 : 0 ≤ a) (h1 : a < n) : f_X11_at fu M k n a = some (M, M k a.toNat) := by
  unfold f_X11_at
  rw [if_neg (by omega), if_neg (by omega), grd_pos ⟨h0, h1⟩]
theorem at_out {k n : Nat} {a : Int} (h : a < 0 ∨ n ≤ a) : f_X11_at fu M k n a = some (M, -1) := by
  unfold f_X11_at
  by_cases h0 : a < 0
  · rw [if_pos h0]
  · rw [if_neg h0, if_pos (by omega)]
theorem put_in {k n : Nat} {a x : Int} (h0 : 0 ≤ a) (h1 : a < n) : f_X11_put fu M k n a x = some (up M k a.toNat x, 0) := by
  unfold f_X11_put
  rw [if_neg (by omega), if_neg (by omega), grd_pos ⟨h0, h1⟩]
theorem putFlag_in {k n : Nat} {a x : Int} (h0 : 0 ≤ a) (h1 : a < n) (hx : 0 ≤ x ∧ x ≤ 1) : f_X11_putFlag fu M k n a x = some (up M k a.toNat x, 0) := by
  unfold f_X11_putFlag
  rw [if_neg (by omega), if_neg (by omega), grd_pos ⟨h0, h1⟩, grd_pos hx]
theorem putFlag_out {k n : Nat} {a x : Int} (h : a < 0 ∨ n ≤ a) : f_X11_putFlag fu M k n a x = some (M, 0) := by
  unfold f_X11_putFlag
  by_cases h0 : a < 0
  · rw [if_pos h0]
  · rw [if_neg h0, if_pos (by omega)]
theorem heightFor_C {s : Int} (h : s ≤ 64) : f_X11_heightFor fu M s = some (M, (hgt s : Int)) := by
  have c1 : f_X11_capacity fu M 1 = some (M, 4) := by
    unfold f_X11_capacity
    rw [grd_pos (by decide)]
    rfl
  have c2 : f_X11_capacity fu M 2 = some (M, 16) := by
    unfold f_X11_capacity
    rw [grd_pos (by decide)]
    rfl
  unfold f_X11_heightFor
  rcases hgt_cases h with q | q | q | q
  · rw [if_neg (by omega), q.2]; rfl
  · rw [if_pos (by omega), c1, cal_some, if_neg (by omega), q.2.2]; rfl
  · rw [if_pos (by omega), c1, cal_some, if_pos (by omega), c2, cal_some, if_neg (by omega), q.2.2]; rfl
  · rw [if_pos (by omega), c1, cal_some, if_pos (by omega), c2, cal_some, if_pos (by omega), q.2.2]; rfl
theorem positionIn_C {l : Nat} (hl : l < 3) (i : Int) : f_X11_positionIn fu M ((l : Int) + 1) i = some (M, i / pw l % 4) := by
  unfold f_X11_positionIn
  rcases l_cases hl with rfl | rfl | rfl
  · rw [grd_pos (by decide), grd_pos (show rng _ by show _ ∧ _; simp; omega)]
    rfl
  · rw [grd_pos (by decide), grd_pos (show rng _ by show _ ∧ _; simp; omega)]
    rfl
  · rw [grd_pos (by decide), grd_pos (show rng _ by show _ ∧ _; simp; omega)]
    rfl
theorem positionIn_1 (i : Int) : f_X11_positionIn fu M 1 i = some (M, i % 4) := by
  have := positionIn_C (M := M) (fu := fu) (l := 0) (by decide) i
  rw [pw0, Int.ediv_one] at this
  exact this
theorem capacity_C {l : Nat} (hl : l ≤ 3) : f_X11_capacity fu M (l : Int) = some (M, pw l) := by
  unfold f_X11_capacity
  have : l = 0 ∨ l = 1 ∨ l = 2 ∨ l = 3 := by omega
  rcases this with rfl | rfl | rfl | rfl <;> (rw [grd_pos (by decide)]; rfl)
/-! nodes -/
theorem isStored_C (h : CM M A) (k : Int) : f_X3_isStored fu M k = some (M, ind (0 ≤ k ∧ k < aN A ∧ coA A k = 0)) := by
  unfold f_X3_isStored
  have hn := CM_nr h
  by_cases h0 : k < 0
  · rw [if_pos h0, ind_f (by omega)]
  · rw [if_neg h0, CM_n h]
    by_cases h1 : aN A ≤ k
    · rw [if_pos h1, ind_f (by omega)]
    · rw [if_neg h1, flagAt_in (by omega) (by omega), cal_some, CM_co h (by omega) (by omega)]
      by_cases h2 : coA A k = 0
      · rw [if_pos h2, if_pos rfl, ind_t ⟨by omega, by omega, h2⟩]
      · rw [if_neg h2, if_neg (by decide), ind_f (fun q => h2 q.2.2)]
theorem isStored_C1 (h : CM M A) {k : Int} (h0 : 0 ≤ k) (h1 : k < aN A) : f_X3_isStored fu M k = some (M, ind (coA A k = 0)) := by
  rw [isStored_C h, ind_congr (show (0 ≤ k ∧ k < aN A ∧ coA A k = 0) ↔ coA A k = 0 from ⟨fun q => q.2.2, fun q => ⟨h0, h1, q⟩⟩)]
def nSto (A : AS) : Int := sm (fun k => ind (coA A k = 0)) (aN A).toNat 0
theorem countStored_C (h : CM M A) (hfu : 1000 ≤ fu) : f_X3_countStored fu M = some (M, nSto A) := by
  have hn := CM_nr h
  unfold f_X3_countStored nSto
  have := lp_sum (F := fun n x i => f_X3_countStored_L4 fu n x i M) (M := M) (fun k => ind (coA A k = 0)) (aN A) 1 (fun k _ _ => by have := ind_rng (coA A k = 0); omega)
    (fun n x i h0 h1 h2 h3 => by
      show f_X3_countStored_L4 fu (n + 1) x i M = f_X3_countStored_L4 fu n (x + ind (coA A i = 0)) (i + 1) M
      rw [f_X3_countStored_L4, CM_n h, if_neg (by omega), isStored_C1 h h0 h1, cal_some]
      by_cases hc : coA A i = 0
      · rw [ind_t hc, if_neg (by decide), grd_pos (by omega), grd_pos (by omega)]
      · rw [ind_f hc, if_pos rfl, grd_pos (by omega), Int.add_zero])
    (fun n x i h0 h1 h2 h3 => by
      show f_X3_countStored_L4 fu (n + 1) x i M = some (M, x)
      rw [f_X3_countStored_L4, CM_n h, if_pos (by omega)]) fu 0 0 (by omega) (by omega) (by omega) (by omega) (by omega)
  simpa using this
theorem levelAt_C (h : CM M A) {k : Int} (h0 : 0 ≤ k) (h1 : k < aN A) : f_X3_levelAt fu M k = some (M, lvA A k) := by
  have hn := CM_nr h
  unfold f_X3_levelAt
  rw [at_in h0 (by omega), cal_some, CM_lv h h0 h1]
theorem fillAt_C (h : CM M A) {k : Int} (h0 : 0 ≤ k) (h1 : k < aN A) : f_X3_fillAt fu M k = some (M, flA A k) := by
  have hn := CM_nr h
  unfold f_X3_fillAt
  rw [if_neg (by omega), if_neg (by omega), grd_pos (by omega), CM_fl h h0 h1]
theorem fillAt_none {k : Int} (h0 : k < 0) : f_X3_fillAt fu M k = some (M, 0) := by
  unfold f_X3_fillAt
  rw [if_pos h0]
theorem entryAt_C (h : CM M A) {k : Int} (h0 : 0 ≤ k) (h1 : k < aN A) (j : Int) : f_X3_entryAt fu M k j = some (M, if 0 ≤ j ∧ j < flA A k then enA A k j else -1) := by
  have hn := CM_nr h
  have hf := G_fl h.2 h0 h1
  unfold f_X3_entryAt
  by_cases hj : j < 0
  · rw [if_pos hj, if_neg (by omega)]
  · rw [if_neg hj, fillAt_C h h0 h1, cal_some]
    by_cases hj2 : j < flA A k
    · rw [if_pos hj2, grd_pos (by omega), at_in (by omega) (by omega), cal_some, if_pos (by omega), CM_en h h0 h1 (by omega) hj2]
    · rw [if_neg hj2, if_neg (by omega)]
theorem entryAt_in (h : CM M A) {k : Int} (h0 : 0 ≤ k) (h1 : k < aN A) {j : Int} (h2 : 0 ≤ j) (h3 : j < flA A k) : f_X3_entryAt fu M k j = some (M, enA A k j) := by
  rw [entryAt_C h h0 h1, if_pos ⟨h2, h3⟩]
theorem entryAt_none {k : Int} (h0 : k < 0) (j : Int) : f_X3_entryAt fu M k j = some (M, -1) := by
  unfold f_X3_entryAt
  by_cases hj : j < 0
  · rw [if_pos hj]
  · rw [if_neg hj, fillAt_none h0, cal_some, if_neg hj]
/-- the child at a place, or none -/
def chA (A : AS) (k j : Int) : Int := if 1 < lvA A k ∧ 0 ≤ j ∧ j < flA A k then enA A k j else -1
theorem childAt_C (h : CM M A) {k : Int} (h0 : 0 ≤ k) (h1 : k < aN A) (j : Int) : f_X3_childAt fu M k j = some (M, chA A k j) := by
  unfold f_X3_childAt chA
  rw [levelAt_C h h0 h1, cal_some]
  by_cases hl : lvA A k ≤ 1
  · rw [if_pos hl, if_neg (by omega)]
  · rw [if_neg hl, entryAt_C h h0 h1, cal_some]
    by_cases hj : 0 ≤ j ∧ j < flA A k
    · rw [if_pos hj, if_pos ⟨by omega, hj⟩]
    · rw [if_neg hj, if_neg (fun q => hj q.2)]
theorem childAt_none {k : Int} (h0 : k < 0) (j : Int) : f_X3_childAt fu M k j = some (M, -1) := by
  unfold f_X3_childAt f_X3_levelAt
  rw [at_out (Or.inl h0), cal_some, cal_some, if_pos (by decide)]
/-- whether a node has a child -/
def hcA (A : AS) (k c : Int) : Prop := ∃ j, 0 ≤ j ∧ j < flA A k ∧ 1 < lvA A k ∧ enA A k j = c
def hcB (A : AS) (k c : Int) : Int := ff (fun j => chA A k j == c) (fun _ => 1) 0 (flA A k).toNat 0
theorem refersTo_C (h : CM M A) {k : Int} (h0 : 0 ≤ k) (h1 : k < aN A) (c : Int) (hfu : 1000 ≤ fu) : f_X3_refersTo fu M k c = some (M, hcB A k c) := by
  have hf := G_fl h.2 h0 h1
  unfold f_X3_refersTo hcB
  have := lp_find (F := fun n i => f_X3_refersTo_L2 fu n k c i M) (M := M) (fun j => chA A k j == c) (fun _ => 1) 0 (flA A k)
    (fun n i hi hi2 hp => by
      show f_X3_refersTo_L2 fu (n + 1) k c i M = some (M, 1)
      rw [f_X3_refersTo_L2, fillAt_C h h0 h1, cal_some, if_neg (by omega), childAt_C h h0 h1, cal_some, if_pos (by simpa using hp)])
    (fun n i hi hi2 hp => by
      show f_X3_refersTo_L2 fu (n + 1) k c i M = f_X3_refersTo_L2 fu n k c (i + 1) M
      rw [f_X3_refersTo_L2, fillAt_C h h0 h1, cal_some, if_neg (by omega), childAt_C h h0 h1, cal_some, if_neg (by simpa using hp), grd_pos (by omega)])
    (fun n => by
      show f_X3_refersTo_L2 fu (n + 1) k c (flA A k) M = some (M, 0)
      rw [f_X3_refersTo_L2, fillAt_C h h0 h1, cal_some, if_pos (Int.le_refl _)]) fu 0 (by omega) (by omega) (by omega)
  simpa using this
theorem ff_01 {p : Int → Bool} : ∀ (n : Nat) (a : Int), (ff p (fun _ => 1) 0 n a = 1 ∧ ∃ k, a ≤ k ∧ k < a + n ∧ p k = true) ∨ (ff p (fun _ => 1) 0 n a = 0 ∧ ∀ k, a ≤ k → k < a + n → p k = false)
  | 0, a => Or.inr ⟨rfl, fun k h1 h2 => by omega⟩
  | n + 1, a => by
    simp only [ff]
    by_cases hp : p a = true
    · rw [if_pos hp]
      exact Or.inl ⟨rfl, a, by omega, by omega, hp⟩
    · rw [if_neg hp]
      rcases ff_01 n (a + 1) with ⟨h1, k, h2, h3, h4⟩ | ⟨h1, h2⟩
      · exact Or.inl ⟨h1, k, by omega, by omega, h4⟩
      · refine Or.inr ⟨h1, fun k h3 h4 => ?_⟩
        by_cases hk : k = a
        · subst hk; simpa using hp
        · exact h2 k (by omega) (by omega)
theorem hcB_iff (A : AS) (k : Int) {c : Int} (hc : 0 ≤ c) : (hcB A k c = 1 ∧ hcA A k c) ∨ (hcB A k c = 0 ∧ ¬ hcA A k c) := by
  unfold hcB
  rcases ff_01 (p := fun j => chA A k j == c) (flA A k).toNat 0 with ⟨h1, j, h2, h3, h4⟩ | ⟨h1, h2⟩
  · refine Or.inl ⟨h1, j, h2, by omega, ?_⟩
    have h5 : chA A k j = c := by simpa using h4
    unfold chA at h5
    by_cases hq : 1 < lvA A k ∧ 0 ≤ j ∧ j < flA A k
    · rw [if_pos hq] at h5
      exact ⟨hq.1, h5⟩
    · rw [if_neg hq] at h5
      omega
  · refine Or.inr ⟨h1, fun ⟨j, q1, q2, q3, q4⟩ => ?_⟩
    have := h2 j q1 (by omega)
    unfold chA at this
    rw [if_pos ⟨q3, q1, q2⟩] at this
    simp [q4] at this
def nRef (A : AS) (c : Int) : Int := sm (fun k => if coA A k = 0 then hcB A k c else 0) (aN A).toNat 0
theorem hcB_rng (A : AS) (k c : Int) : 0 ≤ hcB A k c ∧ hcB A k c ≤ 1 := by
  unfold hcB
  rcases ff_01 (p := fun j => chA A k j == c) (flA A k).toNat 0 with h | h <;> omega
theorem countReferrers_C (h : CM M A) (c : Int) (hfu : 1000 ≤ fu) : f_X3_countReferrers fu M c = some (M, nRef A c) := by
  have hn := CM_nr h
  unfold f_X3_countReferrers nRef
  have hg : ∀ k, 0 ≤ (if coA A k = 0 then hcB A k c else 0) ∧ (if coA A k = 0 then hcB A k c else 0) ≤ 1 := fun k => by
    have := hcB_rng A k c
    split <;> omega
  have := lp_sum (F := fun n x i => f_X3_countReferrers_L4 fu n c x i M) (M := M) (fun k => if coA A k = 0 then hcB A k c else 0) (aN A) 1 (fun k _ _ => by have := hg k; omega)
    (fun n x i h0 h1 h2 h3 => by
      show f_X3_countReferrers_L4 fu (n + 1) c x i M = f_X3_countReferrers_L4 fu n c (x + if coA A i = 0 then hcB A i c else 0) (i + 1) M
      rw [f_X3_countReferrers_L4, CM_n h, if_neg (by omega), isStored_C1 h h0 h1, cal_some]
      by_cases hc : coA A i = 0
      · rw [ind_t hc, if_neg (by decide), refersTo_C h h0 h1 c hfu, cal_some, if_pos hc]
        have hb := hcB_rng A i c
        by_cases hh : hcB A i c = 0
        · rw [if_pos hh, grd_pos (by omega), hh, Int.add_zero]
        · rw [if_neg hh, grd_pos (by omega), grd_pos (by omega)]
          have : hcB A i c = 1 := by omega
          rw [this]
      · rw [ind_f hc, if_pos rfl, grd_pos (by omega), if_neg hc, Int.add_zero])
    (fun n x i h0 h1 h2 h3 => by
      show f_X3_countReferrers_L4 fu (n + 1) c x i M = some (M, x)
      rw [f_X3_countReferrers_L4, CM_n h, if_pos (by omega)]) fu 0 0 (by omega) (by omega) (by omega) (by omega) (by omega)
  simpa using this
end Base
