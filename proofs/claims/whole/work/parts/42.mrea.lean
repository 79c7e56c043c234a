/-! the model: comparing, reaching -/
theorem sm_split {g : Int → Int} : ∀ (n : Nat) (k : Nat) (a : Int), sm g (n + k) a = sm g n a + sm g k (a + n)
  | 0, k, a => by simp [sm]
  | n + 1, k, a => by
    have e : n + 1 + k = (n + k) + 1 := by omega
    rw [e, sm, sm, sm_split n k (a + 1)]
    have e2 : a + 1 + (n : Int) = a + ((n + 1 : Nat) : Int) := by omega
    rw [e2]
    omega
theorem ff_split {p : Int → Bool} {v : Int → Int} {d : Int} : ∀ (n k : Nat) (a : Int), ff p v d (n + k) a = ff p v (ff p v d k (a + n)) n a
  | 0, k, a => by simp [ff]
  | n + 1, k, a => by
    have e : n + 1 + k = (n + k) + 1 := by omega
    have e2 : a + 1 + (n : Int) = a + ((n + 1 : Nat) : Int) := by omega
    rw [e, ff, ff, ff_split n k (a + 1), e2]
theorem ff_none {p : Int → Bool} {v : Int → Int} {d : Int} : ∀ (n : Nat) (a : Int), (∀ k, a ≤ k → k < a + n → p k = false) → ff p v d n a = d
  | 0, _, _ => rfl
  | n + 1, a, H => by
    simp only [ff]
    rw [if_neg (by simp [H a (Int.le_refl a) (by omega)]), ff_none n (a + 1) (fun k h1 h2 => H k (by omega) (by omega))]
def dtA (A : AS) (v w i : Int) : Int := if (i < szA A v ↔ i < szA A w) then (if i < szA A v then ind (ev A v i ≠ ev A w i) else 0) else 1
section MRea
variable {A : AS} {fu : Nat}
theorem dtA_rng (v w i : Int) : 0 ≤ dtA A v w i ∧ dtA A v w i ≤ 1 := by
  unfold dtA
  have := ind_rng (ev A v i ≠ ev A w i)
  split
  · split
    · exact this
    · decide
  · decide
theorem differAt_M {M : Mem} (h : MM M A) {v w i : Int} (h0 : 0 ≤ v) (h1 : v < aV A) (h2 : 0 ≤ w) (h3 : w < aV A) (hi : 0 ≤ i) : f_X12_differAt fu M v w i = some (M, dtA A v w i) := by
  have hJ : ∀ a b, (a = 0 ∨ a = 1) → (b = 0 ∨ b = 1) → (a = 1 ↔ i < szA A v) → (b = 1 ↔ i < szA A w) → f_X12_differAt_J30 fu v w i a b M = some (M, dtA A v w i) := fun a b ha hb ha1 hb1 => by
    unfold f_X12_differAt_J30 dtA
    by_cases hab : a = b
    · rw [if_pos hab, if_pos (show (i < szA A v ↔ i < szA A w) by rw [← ha1, ← hb1, hab])]
      by_cases hz : a = 0
      · rw [if_pos hz, if_neg (by omega)]
      · have hv : i < szA A v := ha1.mp (by omega)
        have hw : i < szA A w := hb1.mp (by omega)
        rw [if_neg hz, if_pos hv, element_M h h0 h1 hi hv, cal_some, element_M h h2 h3 hi hw, cal_some]
        by_cases he : ev A v i = ev A w i
        · rw [if_pos he, ind_f (fun q => q he)]
        · rw [if_neg he, ind_t he]
    · rw [if_neg hab, if_neg (show ¬ (i < szA A v ↔ i < szA A w) from fun q => hab (by rw [← ha1, ← hb1] at q; omega))]
  unfold f_X12_differAt f_X12_differAt_J14
  rw [lengthOf_M h h0 h1, cal_some]
  by_cases c1 : szA A v ≤ i
  · rw [if_pos c1, lengthOf_M h h2 h3, cal_some]
    by_cases c2 : szA A w ≤ i
    · rw [if_pos c2]; exact hJ 0 0 (by omega) (by omega) (by omega) (by omega)
    · rw [if_neg c2]; exact hJ 0 1 (by omega) (by omega) (by omega) (by omega)
  · rw [if_neg c1, lengthOf_M h h2 h3, cal_some]
    by_cases c2 : szA A w ≤ i
    · rw [if_pos c2]; exact hJ 1 0 (by omega) (by omega) (by omega) (by omega)
    · rw [if_neg c2]; exact hJ 1 1 (by omega) (by omega) (by omega) (by omega)
theorem dt_sum {v w : Int} (hs : 0 ≤ szA A v ∧ szA A v ≤ 64) (hs2 : 0 ≤ szA A w ∧ szA A w ≤ 64) : sm (dtA A v w) 64 0 = dfA A v w := by
  have hi := imin_le (szA A v) (szA A w)
  have ha := iabs_rng (szA A v - szA A w)
  obtain ⟨a, ha0⟩ : ∃ a : Nat, (imin (szA A v) (szA A w)).toNat = a := ⟨_, rfl⟩
  obtain ⟨d, hd⟩ : ∃ d : Nat, (iabs (szA A v - szA A w)).toNat = d := ⟨_, rfl⟩
  have e : (64 : Nat) = a + (d + (64 - a - d)) := by omega
  unfold dfA
  rw [e, sm_split, sm_split, ha0]
  have e1 : sm (dtA A v w) a 0 = sm (fun i => ind (ev A v i ≠ ev A w i)) a 0 := sm_congr _ _ (fun k k0 k1 => by
    unfold dtA
    rw [if_pos (by omega), if_pos (by omega)])
  have e2 : sm (dtA A v w) d (0 + (a : Int)) = d := by
    rw [sm_congr (h := fun _ => 1) _ _ (fun k k0 k1 => by
      unfold dtA
      rw [if_neg (by omega)]), sm_const]
    omega
  have e3 : sm (dtA A v w) (64 - a - d) (0 + (a : Int) + (d : Int)) = 0 := sm_zero _ _ (fun k k0 k1 => by
    unfold dtA
    rw [if_pos (by omega), if_neg (by omega)])
  rw [e1, e2, e3]
  omega
theorem differences_M {M : Mem} (h : MM M A) (v w : Int) (hfu : 1000 ≤ fu) : f_X12_differences fu M v w = some (up M 52 6 (thR (fltRB A v w)), if fltRB A v w = 0 then dfA A v w else 0) := by
  unfold f_X12_differences
  rw [checkTwo_M h, cal_some]
  by_cases h0 : fltRB A v w = 0
  · obtain ⟨⟨v0, v1, -⟩, w0, w1, -⟩ := fltRB_0 h0
    have h' := MM_t h (thR (fltRB A v w))
    rw [ind_t h0, if_neg (by decide), if_pos h0, ← dt_sum (G_V h.2 v0 v1).1 (G_V h.2 w0 w1).1]
    generalize up M 52 6 (thR (fltRB A v w)) = M' at h'
    have := lp_sum (F := fun n x i => f_X12_differences_L16 fu n v w x i M') (M := M') (dtA A v w) 64 1 (fun k _ _ => by have := dtA_rng (A := A) v w k; omega)
      (fun n x i i0 i1 x0 x1 => by
        have hd := dtA_rng (A := A) v w i
        show f_X12_differences_L16 fu (n + 1) v w x i M' = f_X12_differences_L16 fu n v w (x + dtA A v w i) (i + 1) M'
        rw [f_X12_differences_L16, if_neg (by omega), differAt_M h' v0 v1 w0 w1 i0, cal_some, one_M, cal_some]
        by_cases hz : dtA A v w i = 0
        · rw [if_pos hz, grd_pos (by omega), grd_pos (by omega), hz]
        · have : dtA A v w i = 1 := by omega
          rw [if_neg hz, grd_pos (by omega), grd_pos (by omega), this])
      (fun n x i i0 i1 x0 x1 => by
        show f_X12_differences_L16 fu (n + 1) v w x i M' = some (M', x)
        rw [f_X12_differences_L16, if_pos (by omega)]) fu 0 0 (by omega) (by omega) (by omega) (by omega) (by omega)
    simpa using this
  · rw [ind_f h0, if_pos rfl, if_neg h0]
theorem dt_find {v w : Int} (hs : 0 ≤ szA A v ∧ szA A v ≤ 64) (hs2 : 0 ≤ szA A w ∧ szA A w ≤ 64) : ff (fun i => dtA A v w i != 0) (fun i => i) (-1) 64 0 = fdA A v w := by
  have hi := imin_le (szA A v) (szA A w)
  obtain ⟨a, ha0⟩ : ∃ a : Nat, (imin (szA A v) (szA A w)).toNat = a := ⟨_, rfl⟩
  have e : (64 : Nat) = a + (64 - a) := by omega
  unfold fdA
  rw [e, ff_split, ha0]
  have e2 : ff (fun i => dtA A v w i != 0) (fun i => i) (-1) (64 - a) (0 + (a : Int)) = if szA A v = szA A w then -1 else imin (szA A v) (szA A w) := by
    by_cases hq : szA A v = szA A w
    · rw [if_pos hq, ff_none _ _ (fun k k0 k1 => by
        have : dtA A v w k = 0 := by
          unfold dtA
          rw [if_pos (by omega), if_neg (by omega)]
        simp [this])]
    · rw [if_neg hq]
      obtain ⟨c, hc⟩ : ∃ c, 64 - a = c + 1 := ⟨64 - a - 1, by omega⟩
      rw [hc, ff, if_pos]
      · omega
      · have : dtA A v w (0 + (a : Int)) = 1 := by
          unfold dtA
          rw [if_neg (by omega)]
        show (dtA A v w (0 + (a : Int)) != 0) = true
        rw [this]
        rfl
  rw [e2]
  refine ff_congr _ _ (fun k k0 k1 => ⟨?_, fun _ => rfl⟩)
  have : dtA A v w k = ind (ev A v k ≠ ev A w k) := by
    unfold dtA
    rw [if_pos (by omega), if_pos (by omega)]
  rw [this]
  by_cases he : ev A v k = ev A w k
  · rw [ind_f (fun q => q he)]
    simp [he]
  · rw [ind_t he]
    simp [he]
theorem firstDifference_M {M : Mem} (h : MM M A) (v w : Int) (hfu : 1000 ≤ fu) : f_X12_firstDifference fu M v w = some (up M 52 6 (thR (fltRB A v w)), if fltRB A v w = 0 then fdA A v w else 0) := by
  unfold f_X12_firstDifference
  rw [checkTwo_M h, cal_some]
  by_cases h0 : fltRB A v w = 0
  · obtain ⟨⟨v0, v1, -⟩, w0, w1, -⟩ := fltRB_0 h0
    have h' := MM_t h (thR (fltRB A v w))
    rw [ind_t h0, if_neg (by decide), if_pos h0, ← dt_find (G_V h.2 v0 v1).1 (G_V h.2 w0 w1).1]
    generalize up M 52 6 (thR (fltRB A v w)) = M' at h'
    have := lp_find (F := fun n i => f_X12_firstDifference_L13 fu n v w i M') (M := M') (fun i => dtA A v w i != 0) (fun i => i) (-1) 64
      (fun n i i0 i1 hp => by
        show f_X12_firstDifference_L13 fu (n + 1) v w i M' = some (M', i)
        rw [f_X12_firstDifference_L13, if_neg (by omega), differAt_M h' v0 v1 w0 w1 i0, cal_some, if_neg (by simpa using hp)])
      (fun n i i0 i1 hp => by
        show f_X12_firstDifference_L13 fu (n + 1) v w i M' = f_X12_firstDifference_L13 fu n v w (i + 1) M'
        rw [f_X12_firstDifference_L13, if_neg (by omega), differAt_M h' v0 v1 w0 w1 i0, cal_some, if_pos (by simpa using hp), grd_pos (by omega)])
      (fun n => by
        show f_X12_firstDifference_L13 fu (n + 1) v w 64 M' = some (M', -1)
        rw [f_X12_firstDifference_L13, if_pos (by decide)]) fu 0 (by omega) (by omega) (by omega)
    simpa using this
  · rw [ind_f h0, if_pos rfl, if_neg h0]
theorem cost_M {M : Mem} (h : MM M A) (hfu : 1000 ≤ fu) : ∀ (l d : Nat) {b b' x y : Int}, b ≤ aN A → okB A b (l + 1) x → b' ≤ aN A → okB A b' (l + 1) y → l < d → f_X12_cost fu d M x y = some (M, cpA A (l + 1) x y)
  | l, 0, _, _, _, _, _, _, _, _, h => by omega
  | l, d + 1, b, b', x, y, hb, hx, hb', hy, hd => by
    have hN := h.2.2.2.1
    obtain ⟨k1, k2, k3, k4⟩ := okB_nod hN hb hx
    obtain ⟨k1', k2', k3', k4'⟩ := okB_nod hN hb' hy
    have hxb := hx.2.1
    have hyb := hy.2.1
    have hxl := hx.2.2
    have him := imin_le (flA A x) (flA A y)
    rw [f_X12_cost, cpA]
    by_cases hxy : x = y
    · rw [if_pos hxy, if_pos hxy]
    · rw [if_neg hxy, if_neg hxy, isLeafNode_M h hx.1 (by omega), cal_some]
      cases l with
      | zero =>
        rw [ind_t (by exact hxl), if_neg (by decide), sm_zero (g := fun i => cpA A 0 (enA A x i) (enA A y i)) _ _ (fun _ _ _ => rfl)]
        rfl
      | succ l =>
        rw [ind_f (by omega), if_pos rfl, countOf_M h hx.1 (by omega), cal_some, countOf_M h hy.1 (by omega), cal_some]
        have hr : ∀ j, 0 ≤ j → j < imin (flA A x) (flA A y) → 0 ≤ cpA A (l + 1) (enA A x j) (enA A y j) ∧ cpA A (l + 1) (enA A x j) (enA A y j) ≤ 84 := fun j h1 h2 => by
          have h3 := cpA_rng A hN (l + 1) (b := x) (b' := y) (by omega) (k4 j h1 (by omega)).1 (by omega) (k4' j h1 (by omega)).1
          refine ⟨h3.1, ?_⟩
          have : l = 0 ∨ l = 1 := by omega
          rcases this with rfl | rfl <;> simp only [pw] at h3 <;> omega
        have := lp_sumk (F := fun n z i => f_X12_cost_L37 fu (f_X12_cost fu d) n x y z (imin (flA A x) (flA A y)) i M) (M := M) (fun j => cpA A (l + 1) (enA A x j) (enA A y j)) (imin (flA A x) (flA A y)) 84 1 (fun j h1 h2 => by have := hr j h1 h2; omega)
          (fun n z i i0 i1 h2 h3 => by
            have hrr := hr i i0 i1
            show f_X12_cost_L37 fu (f_X12_cost fu d) (n + 1) x y z (imin (flA A x) (flA A y)) i M = f_X12_cost_L37 fu (f_X12_cost fu d) n x y (z + cpA A (l + 1) (enA A x i) (enA A y i)) (imin (flA A x) (flA A y)) (i + 1) M
            rw [f_X12_cost_L37, if_neg (by omega), entry_M h hx.1 (by omega) i0 (by omega), cal_some, entry_M h hy.1 (by omega) i0 (by omega), cal_some]
            rw [cost_M h hfu l d (b := x) (b' := y) (by omega) (k4 i i0 (by omega)).1 (by omega) (k4' i i0 (by omega)).1 (by omega), cal_some, grd_pos (by omega), grd_pos (by omega)])
          (fun n z i i0 i1 h2 h3 => by
            show f_X12_cost_L37 fu (f_X12_cost fu d) (n + 1) x y z (imin (flA A x) (flA A y)) i M = some (M, z)
            rw [f_X12_cost_L37, if_pos (by omega)]) fu 1 0 (by omega) (by omega) (by omega) (by omega) (by omega)
        simp only [Int.sub_zero] at this
        exact this
theorem comparisonCost_M {M : Mem} (h : MM M A) (v w : Int) (hfu : 1000 ≤ fu) : f_X12_comparisonCost fu M v w = some (up M 52 6 (thR (fltRB A v w)), if fltRB A v w = 0 then coV A v w else 0) := by
  unfold f_X12_comparisonCost
  rw [checkTwo_M h, cal_some]
  by_cases hz : fltRB A v w = 0
  · obtain ⟨⟨h0, h1, -⟩, h2, h3, -⟩ := fltRB_0 hz
    have h' := MM_t h (thR (fltRB A v w))
    rw [ind_t hz, if_neg (by decide), if_pos hz]
    generalize up M 52 6 (thR (fltRB A v w)) = M' at h'
    have hs := (G_V h.2 h0 h1).1
    have hs2 := (G_V h.2 h2 h3).1
    unfold coV
    rw [heightOf_M h' h0 h1, cal_some, heightOf_M h' h2 h3, cal_some]
    by_cases hh : hgt (szA A v) = hgt (szA A w)
    · rw [if_pos (by rw [hh]), if_pos hh, root_M h' h0 h1, cal_some, root_M h' h2 h3, cal_some]
      by_cases hp : 0 < szA A v
      · have hp2 : 0 < szA A w := by
          have := hgt_pos hp
          by_cases hw : 0 < szA A w
          · exact hw
          · rw [hgt_0 (s := szA A w) (by omega)] at hh; omega
        obtain ⟨l, l1, l2, l3, -⟩ := G_tree h.2 h0 h1 hp
        obtain ⟨l', l1', l2', l3', -⟩ := G_tree h.2 h2 h3 hp2
        have el : l = l' := by omega
        subst el
        rw [l1, cost_M h' hfu l 8 (Int.le_refl _) l3 (Int.le_refl _) l3' (by omega), cal_some]
      · have hz : szA A v = 0 := by omega
        have hz2 : szA A w = 0 := by
          by_cases hw : 0 < szA A w
          · have := hgt_pos hw
            rw [hgt_0 (s := szA A v) (by omega)] at hh; omega
          · omega
        rw [(G_V h.2 h0 h1).2.2.2.2.2.1.1 hz, (G_V h.2 h2 h3).2.2.2.2.2.1.1 hz2, hz]
        rw [f_X12_cost, if_pos rfl, cal_some]
        rfl
    · rw [if_neg (by omega), if_neg hh]
  · rw [ind_f hz, if_pos rfl, if_neg hz]
/-! reaching -/
theorem clearReached_M (M : Mem) (hfu : 1000 ≤ fu) : ∃ M', f_X12_clearReached fu M = some (M', 0) ∧ only 60 M M' ∧ ∀ m : Int, 0 ≤ m → m < 200 → M' 60 m.toNat = 0 := by
  unfold f_X12_clearReached
  have := lp_mem (F := fun n i M => f_X12_clearReached_L2 fu n i M) (fun i M' => only 60 M M' ∧ ∀ m : Int, 0 ≤ m → m < i → M' 60 m.toNat = 0) 200 (Q := fun o => ∃ M', o = (M', 0) ∧ only 60 M M' ∧ ∀ m : Int, 0 ≤ m → m < 200 → M' 60 m.toNat = 0)
    (fun n i M1 i0 i1 hP => by
      refine ⟨up M1 60 i.toNat 0, ?_, only_trans hP.1 (only_up _ _ _ _), fun m m0 m1 => ?_⟩
      · show f_X12_clearReached_L2 fu (n + 1) i M1 = _
        rw [f_X12_clearReached_L2, if_neg (by omega), grd_pos ⟨i0, i1⟩, grd_pos (by omega)]
      · rw [up_toNat i0 m0]
        split
        · rfl
        · exact hP.2 m m0 (by omega))
    (fun n M1 hP => by
      refine ⟨(M1, 0), ?_, M1, rfl, hP⟩
      show f_X12_clearReached_L2 fu (n + 1) 200 M1 = _
      rw [f_X12_clearReached_L2, if_pos (Int.le_refl _)]) fu 0 M (by omega) (by omega) (by omega) ⟨only_refl _ _, fun m m0 m1 => by omega⟩
  obtain ⟨o, e, M', rfl, h⟩ := this
  exact ⟨M', e, h⟩
theorem MM_only {k : Nat} {M M' : Mem} {A : AS} (h : MM M A) (ho : only k M M') (hk : 53 ≠ k) : MM M' A := MM_congr h (ho 53 hk)
theorem reach_M (hfu : 1000 ≤ fu) : ∀ (l d : Nat) {b x : Int} {M : Mem}, MM M A → b ≤ aN A → okB A b (l + 1) x → (∀ m, 0 ≤ m → m < aN A → 0 ≤ M 60 m.toNat ∧ M 60 m.toNat + muA A (l + 1) x m ≤ 100000) → l < d → ∃ M', f_X12_reach fu d M x = some (M', 0) ∧ only 60 M M' ∧ ∀ m, 0 ≤ m → m < aN A → M' 60 m.toNat = M 60 m.toNat + muA A (l + 1) x m
  | _, 0, _, _, _, _, _, _, _, h => by omega
  | l, d + 1, b, x, M, h, hb, hx, hB, hd => by
    have hN := h.2.2.2.1
    have hn := MM_nr h
    obtain ⟨k1, k2, k3, k4⟩ := okB_nod hN hb hx
    have hx0 := hx.1
    have hxb := hx.2.1
    have hxl := hx.2.2
    have hBx := hB x hx0 (by omega)
    have hself := muA_self (A := A) l x
    rw [f_X12_reach, if_neg (by omega), grd_pos (by omega), grd_pos (by omega), grd_pos (by omega)]
    have h1 : MM (up M 60 x.toNat (M 60 x.toNat + 1)) A := MM_up h (by decide)
    have hmark : ∀ m, 0 ≤ m → up M 60 x.toNat (M 60 x.toNat + 1) 60 m.toNat = M 60 m.toNat + ind (x = m) := fun m m0 => by
      rw [up_toNat hx0 m0]
      by_cases hmx : m = x
      · rw [if_pos hmx, hmx, ind_t rfl]
      · rw [if_neg hmx, ind_f (fun q => hmx q.symm)]; omega
    rw [isLeafNode_M h1 hx0 (by omega), cal_some]
    cases l with
    | zero =>
      rw [ind_t (by exact hxl), if_neg (by decide)]
      refine ⟨_, rfl, only_up _ _ _ _, fun m m0 m1 => ?_⟩
      rw [hmark m m0]
      show _ = _ + (ind (x = m) + sm (fun j => muA A 0 (enA A x j) m) (flA A x).toNat 0)
      rw [sm_zero (g := fun j => muA A 0 (enA A x j) m) _ _ (fun _ _ _ => rfl)]
      omega
    | succ l =>
      rw [ind_f (by omega), if_pos rfl]
      have hpart : ∀ (i : Int) (m : Int), 0 ≤ i → i < flA A x → sm (fun j => muA A (l + 1) (enA A x j) m) i.toNat 0 + muA A (l + 1) (enA A x i) m ≤ sm (fun j => muA A (l + 1) (enA A x j) m) (flA A x).toNat 0 := fun i m i0 i1 => by
        have e : (flA A x).toNat = i.toNat + ((flA A x).toNat - i.toNat - 1 + 1) := by omega
        rw [e, sm_split, sm]
        have e2 : (0 : Int) + ((i.toNat : Nat) : Int) = i := by omega
        rw [e2]
        have := sm_nonneg (g := fun j => muA A (l + 1) (enA A x j) m) ((flA A x).toNat - i.toNat - 1) (i + 1) (fun j _ _ => muA_nonneg A _ _ m)
        omega
      have hmu : ∀ m, muA A (l + 1 + 1) x m = ind (x = m) + sm (fun j => muA A (l + 1) (enA A x j) m) (flA A x).toNat 0 := fun m => rfl
      have hloop := lp_mem (F := fun n i M' => f_X12_reach_L27 fu (f_X12_reach fu d) n x i M')
        (fun i M' => only 60 M M' ∧ ∀ m, 0 ≤ m → m < aN A → M' 60 m.toNat = M 60 m.toNat + ind (x = m) + sm (fun j => muA A (l + 1) (enA A x j) m) i.toNat 0) (flA A x)
        (Q := fun o => ∃ M', o = (M', 0) ∧ only 60 M M' ∧ ∀ m, 0 ≤ m → m < aN A → M' 60 m.toNat = M 60 m.toNat + ind (x = m) + sm (fun j => muA A (l + 1) (enA A x j) m) (flA A x).toNat 0)
        (fun n i M1 i0 i1 hP => by
          have g1 : MM M1 A := MM_only h hP.1 (by decide)
          obtain ⟨M2, e2, o2, m2⟩ := reach_M hfu l d (b := x) (x := enA A x i) g1 (by omega) (k4 i i0 i1).1 (fun m m0 m1 => by
            have hbm := hB m m0 m1
            have hp := hpart i m i0 i1
            have hi := (ind_rng (x = m)).1
            have hnn := sm_nonneg (g := fun j => muA A (l + 1) (enA A x j) m) i.toNat 0 (fun j _ _ => muA_nonneg A _ _ m)
            rw [hmu m] at hbm
            rw [hP.2 m m0 m1]
            omega) (by omega)
          refine ⟨M2, ?_, only_trans hP.1 o2, fun m m0 m1 => ?_⟩
          · show f_X12_reach_L27 fu (f_X12_reach fu d) (n + 1) x i M1 = _
            rw [f_X12_reach_L27, countOf_M g1 hx0 (by omega), cal_some, if_neg (by omega), entry_M g1 hx0 (by omega) i0 i1, cal_some, e2, cal_some, grd_pos (by omega)]
          · have e : (i + 1).toNat = i.toNat + 1 := by omega
            have e3 : (0 : Int) + ((i.toNat : Nat) : Int) = i := by omega
            rw [m2 m m0 m1, hP.2 m m0 m1, e, sm_snoc, e3]
            omega)
        (fun n M1 hP => by
          have g1 : MM M1 A := MM_only h hP.1 (by decide)
          refine ⟨(M1, 0), ?_, M1, rfl, hP⟩
          show f_X12_reach_L27 fu (f_X12_reach fu d) (n + 1) x (flA A x) M1 = _
          rw [f_X12_reach_L27, countOf_M g1 hx0 (by omega), cal_some, if_pos (Int.le_refl _)]) fu 0 (up M 60 x.toNat (M 60 x.toNat + 1)) (by omega) (by omega) (by omega)
        ⟨only_up _ _ _ _, fun m m0 m1 => by rw [hmark m m0]; simp [sm]⟩
      obtain ⟨o, e, M', rfl, o1, m1⟩ := hloop
      exact ⟨M', e, o1, fun m m0 mn => by rw [m1 m m0 mn, hmu m]; omega⟩
theorem mvA_le1 (h : Good A) {v : Int} (h0 : 0 ≤ v) (h1 : v < aV A) (m : Int) : 0 ≤ mvA A v m ∧ mvA A v m ≤ 1 :=
  ⟨muA_nonneg A _ _ m, okV_mu v m (G_V h h0 h1).2.2.2.2.2.1 (G_V h h0 h1).1.1⟩
theorem reachV_M (hfu : 1000 ≤ fu) {M : Mem} (h : MM M A) {v : Int} (h0 : 0 ≤ v) (h1 : v < aV A) (hB : ∀ m, 0 ≤ m → m < aN A → 0 ≤ M 60 m.toNat ∧ M 60 m.toNat ≤ 1000) : ∃ M', f_X12_reach fu 8 M (rtA A v) = some (M', 0) ∧ only 60 M M' ∧ ∀ m, 0 ≤ m → m < aN A → M' 60 m.toNat = M 60 m.toNat + mvA A v m := by
  have hm := fun m => mvA_le1 h.2 h0 h1 m
  unfold mvA at hm ⊢
  by_cases hs : 0 < szA A v
  · obtain ⟨l, l1, l2, l3, -⟩ := G_tree h.2 h0 h1 hs
    rw [l1] at hm ⊢
    exact reach_M hfu l 8 h (Int.le_refl _) l3 (fun m m0 m1 => by have := hB m m0 m1; have := hm m; omega) (by omega)
  · have hz : szA A v = 0 := by have := (G_V h.2 h0 h1).1.1; omega
    rw [(G_V h.2 h0 h1).2.2.2.2.2.1.1 hz, hz]
    refine ⟨M, ?_, only_refl _ _, fun m m0 m1 => ?_⟩
    · rw [f_X12_reach, if_pos rfl]
    · show _ = _ + (0 : Int)
      omega
theorem reachAll_M (hfu : 1000 ≤ fu) {M : Mem} (h : MM M A) : ∃ M', f_X12_reachAll fu M = some (M', 0) ∧ only 60 M M' ∧ ∀ m, 0 ≤ m → m < aN A → M' 60 m.toNat = rsA A (-1) m := by
  have hv := MM_vr h
  have hn := MM_nr h
  unfold f_X12_reachAll
  obtain ⟨M1, e1, o1, z1⟩ := clearReached_M M hfu
  rw [e1, cal_some]
  have hq : ∀ (m : Int) (i : Int), 0 ≤ i → i ≤ aV A → 0 ≤ sm (fun v => if rlA A v = 0 ∧ v ≠ -1 then mvA A v m else 0) i.toNat 0 ∧ sm (fun v => if rlA A v = 0 ∧ v ≠ -1 then mvA A v m else 0) i.toNat 0 ≤ 1 * i.toNat := fun m i i0 i1 => by
    have hr : ∀ k, 0 ≤ k → k < 0 + ((i.toNat : Nat) : Int) → 0 ≤ (if rlA A k = 0 ∧ k ≠ -1 then mvA A k m else 0) ∧ (if rlA A k = 0 ∧ k ≠ -1 then mvA A k m else 0) ≤ 1 := fun k k0 k1 => by
      have := mvA_le1 h.2 (v := k) k0 (by omega) m
      split <;> omega
    exact ⟨sm_nonneg _ _ (fun k k0 k1 => (hr k k0 k1).1), sm_le _ _ (fun k k0 k1 => (hr k k0 k1).2)⟩
  have := lp_mem (F := fun n i M' => f_X12_reachAll_L6 fu n i M')
    (fun i M' => only 60 M M' ∧ ∀ m, 0 ≤ m → m < aN A → M' 60 m.toNat = sm (fun v => if rlA A v = 0 ∧ v ≠ -1 then mvA A v m else 0) i.toNat 0) (aV A)
    (Q := fun o => ∃ M', o = (M', 0) ∧ only 60 M M' ∧ ∀ m, 0 ≤ m → m < aN A → M' 60 m.toNat = rsA A (-1) m)
    (fun n i M2 i0 i1 hP => by
      have h2 : MM M2 A := MM_only h hP.1 (by decide)
      have e : (i + 1).toNat = i.toNat + 1 := by omega
      have e3 : (0 : Int) + ((i.toNat : Nat) : Int) = i := by omega
      by_cases hr : rlA A i = 0
      · obtain ⟨M3, e4, o3, m3⟩ := reachV_M hfu h2 i0 i1 (fun m m0 m1 => by
          have := hq m i i0 (by omega)
          rw [hP.2 m m0 m1]
          omega)
        refine ⟨M3, ?_, only_trans hP.1 o3, fun m m0 m1 => ?_⟩
        · show f_X12_reachAll_L6 fu (n + 1) i M2 = _
          rw [f_X12_reachAll_L6, grd_pos (by decide), MM_v h2, if_neg (by omega), isGone_M h2 i0 i1, cal_some, if_pos hr, root_M h2 i0 i1, cal_some, e4, cal_some, grd_pos (by omega)]
        · rw [m3 m m0 m1, hP.2 m m0 m1, e, sm_snoc, e3, if_pos ⟨hr, by omega⟩]
      · refine ⟨M2, ?_, hP.1, fun m m0 m1 => ?_⟩
        · show f_X12_reachAll_L6 fu (n + 1) i M2 = _
          rw [f_X12_reachAll_L6, grd_pos (by decide), MM_v h2, if_neg (by omega), isGone_M h2 i0 i1, cal_some, if_neg hr, grd_pos (by omega)]
        · rw [hP.2 m m0 m1, e, sm_snoc, e3, if_neg (fun q => hr q.1)]
          omega)
    (fun n M2 hP => by
      have h2 : MM M2 A := MM_only h hP.1 (by decide)
      refine ⟨(M2, 0), ?_, M2, rfl, hP.1, hP.2⟩
      show f_X12_reachAll_L6 fu (n + 1) (aV A) M2 = _
      rw [f_X12_reachAll_L6, grd_pos (by decide), MM_v h2, if_pos (Int.le_refl _)]) fu 0 M1 (by omega) (by omega) (by omega)
    ⟨o1, fun m m0 m1 => by rw [z1 m m0 (by omega)]; rfl⟩
  obtain ⟨o, e, M', rfl, h9⟩ := this
  exact ⟨M', e, h9⟩
theorem countReachedM_M (hfu : 1000 ≤ fu) {M : Mem} (h : MM M A) (many : Int) (f : Int → Int) (hp : ∀ m, 0 ≤ m → m < aN A → M 60 m.toNat = f m) : f_X12_countReached fu M many = some (M, sm (fun m => ind (f m = many)) (aN A).toNat 0) := by
  have hn := MM_nr h
  unfold f_X12_countReached
  have := lp_sum (F := fun n x i => f_X12_countReached_L4 fu n many x i M) (M := M) (fun m => ind (f m = many)) (aN A) 1 (fun k _ _ => by have := ind_rng (f k = many); omega)
    (fun n x i h0 h1 h2 h3 => by
      show f_X12_countReached_L4 fu (n + 1) many x i M = f_X12_countReached_L4 fu n many (x + ind (f i = many)) (i + 1) M
      rw [f_X12_countReached_L4, grd_pos (by decide), MM_n h, if_neg (by omega), grd_pos (by omega), hp i h0 h1]
      by_cases hc : f i = many
      · rw [ind_t hc, if_pos hc, one_1, cal_some, grd_pos (by omega), grd_pos (by omega)]
      · rw [ind_f hc, if_neg hc, one_0, cal_some, grd_pos (by omega), grd_pos (by omega)])
    (fun n x i h0 h1 h2 h3 => by
      show f_X12_countReached_L4 fu (n + 1) many x i M = some (M, x)
      rw [f_X12_countReached_L4, grd_pos (by decide), MM_n h, if_pos (by omega)]) fu 0 0 (by omega) (by omega) (by omega) (by omega) (by omega)
  simpa using this
theorem tvA_mv (h : Good A) {v : Int} (h0 : 0 ≤ v) (h1 : v < aV A) : sm (fun m => mvA A v m) (aN A).toNat 0 = tvA A v := by
  have hn := h.2.1.1
  unfold tvA mvA
  by_cases hs : 0 < szA A v
  · obtain ⟨l, l1, l2, l3, -⟩ := G_tree h h0 h1 hs
    rw [l1]
    exact tnA_mu h.2.2.1 _ (l + 1) (Int.le_refl _) (by omega) l3
  · rw [hgt_0 (by omega)]
    exact sm_zero _ _ (fun _ _ _ => rfl)
theorem nodesOf_M {M : Mem} (h : MM M A) (v : Int) (hfu : 1000 ≤ fu) : ∃ M', f_X12_nodesOf fu M v = some (M', if fltR A v = 0 then tvA A v else 0) ∧ only 60 (up M 52 6 (thR (fltR A v))) M' := by
  unfold f_X12_nodesOf
  rw [checkLive_M h, cal_some]
  have h' := MM_t h (thR (fltR A v))
  by_cases h0 : fltR A v = 0
  · have hh := fltR_0 h0
    have hn := MM_nr h
    rw [ind_t h0, if_neg (by decide), if_pos h0]
    generalize up M 52 6 (thR (fltR A v)) = M' at h' ⊢
    unfold f_X12_countNodes
    obtain ⟨M1, e1, o1, z1⟩ := clearReached_M M' hfu
    have g1 := MM_only h' o1 (by decide)
    obtain ⟨M2, e2, o2, m2⟩ := reachV_M hfu g1 hh.1 hh.2.1 (fun m m0 m1 => by rw [z1 m m0 (by omega)]; omega)
    have g2 := MM_only g1 o2 (by decide)
    refine ⟨M2, ?_, only_trans o1 o2⟩
    rw [e1, cal_some, root_M g1 hh.1 hh.2.1, cal_some, e2, cal_some, countReachedM_M hfu g2 1 (fun m => mvA A v m) (fun m m0 m1 => by rw [m2 m m0 m1, z1 m m0 (by omega)]; omega), cal_some, cal_some, ← tvA_mv h.2 hh.1 hh.2.1]
    rw [sm_congr (h := fun m => mvA A v m) _ _ (fun k _ _ => by
      show ind (mvA A v k = 1) = mvA A v k
      have := mvA_le1 h.2 hh.1 hh.2.1 k
      by_cases hc : mvA A v k = 1
      · rw [ind_t hc, hc]
      · rw [ind_f hc]; omega)]
  · rw [ind_f h0, if_pos rfl, if_neg h0]
    exact ⟨_, rfl, only_refl _ _⟩
theorem sharedNodes_M {M : Mem} (h : MM M A) (v w : Int) (hfu : 1000 ≤ fu) : ∃ M', f_X12_sharedNodes fu M v w = some (M', if fltRB A v w = 0 then shA A v w else 0) ∧ only 60 (up M 52 6 (thR (fltRB A v w))) M' := by
  unfold f_X12_sharedNodes
  rw [checkTwo_M h, cal_some]
  have h' := MM_t h (thR (fltRB A v w))
  by_cases h0 : fltRB A v w = 0
  · obtain ⟨⟨v0, v1, -⟩, w0, w1, -⟩ := fltRB_0 h0
    have hn := MM_nr h
    rw [ind_t h0, if_neg (by decide), if_pos h0]
    generalize up M 52 6 (thR (fltRB A v w)) = M' at h' ⊢
    obtain ⟨M1, e1, o1, z1⟩ := clearReached_M M' hfu
    have g1 := MM_only h' o1 (by decide)
    obtain ⟨M2, e2, o2, m2⟩ := reachV_M hfu g1 v0 v1 (fun m m0 m1 => by rw [z1 m m0 (by omega)]; omega)
    have g2 := MM_only g1 o2 (by decide)
    obtain ⟨M3, e3, o3, m3⟩ := reachV_M hfu g2 w0 w1 (fun m m0 m1 => by
      have := mvA_le1 h.2 v0 v1 m
      rw [m2 m m0 m1, z1 m m0 (by omega)]; omega)
    have g3 := MM_only g2 o3 (by decide)
    refine ⟨M3, ?_, only_trans (only_trans o1 o2) o3⟩
    rw [e1, cal_some, root_M g1 v0 v1, cal_some, e2, cal_some, root_M g2 w0 w1, cal_some, e3, cal_some, countReachedM_M hfu g3 2 (fun m => mvA A v m + mvA A w m) (fun m m0 m1 => by rw [m3 m m0 m1, m2 m m0 m1, z1 m m0 (by omega)]; omega), cal_some]
    unfold shA
    rw [← tvA_mv h.2 v0 v1, ← tvA_mv h.2 w0 w1, ← sm_add, ← sm_sub]
    rw [sm_congr (h := fun m => mvA A v m + mvA A w m - ind (0 < mvA A v m ∨ 0 < mvA A w m)) _ _ (fun k _ _ => by
      show ind (mvA A v k + mvA A w k = 2) = mvA A v k + mvA A w k - ind (0 < mvA A v k ∨ 0 < mvA A w k)
      have q1 := mvA_le1 h.2 v0 v1 k
      have q2 := mvA_le1 h.2 w0 w1 k
      by_cases hc : mvA A v k + mvA A w k = 2
      · rw [ind_t hc, ind_t (by omega)]; omega
      · rw [ind_f hc]
        by_cases hd : 0 < mvA A v k ∨ 0 < mvA A w k
        · rw [ind_t hd]; omega
        · rw [ind_f hd]; omega)]
  · rw [ind_f h0, if_pos rfl, if_neg h0]
    exact ⟨_, rfl, only_refl _ _⟩
/-! garbage -/
theorem countGarbage_M (hfu : 1000 ≤ fu) {M : Mem} (h : MM M A) : ∃ M', f_X12_countGarbage fu M = some (M', nRem A) ∧ only 60 M M' ∧ ∀ m, 0 ≤ m → m < aN A → M' 60 m.toNat = rsA A (-1) m := by
  have hn := MM_nr h
  unfold f_X12_countGarbage nRem
  obtain ⟨M1, e1, o1, m1⟩ := reachAll_M hfu h
  have g1 := MM_only h o1 (by decide)
  refine ⟨M1, ?_, o1, m1⟩
  rw [e1, cal_some]
  have := lp_sum (F := fun n x i => f_X12_countGarbage_L8 fu n x i M1) (M := M1) (fun k => ind (coA A k = 0 ∧ rsA A (-1) k = 0)) (aN A) 1 (fun k _ _ => by have := ind_rng (coA A k = 0 ∧ rsA A (-1) k = 0); omega)
    (fun n x i h0 h1 h2 h3 => by
      show f_X12_countGarbage_L8 fu (n + 1) x i M1 = f_X12_countGarbage_L8 fu n (x + ind (coA A i = 0 ∧ rsA A (-1) i = 0)) (i + 1) M1
      rw [f_X12_countGarbage_L8, grd_pos (by decide), MM_n g1, if_neg (by omega), isStored_M1 g1 h0 h1, cal_some]
      by_cases hc : coA A i = 0
      · rw [ind_t hc, if_neg (by decide), grd_pos (by omega), m1 i h0 h1]
        by_cases hr : rsA A (-1) i = 0
        · rw [ind_t ⟨hc, hr⟩, if_pos hr, one_1, cal_some, grd_pos (by omega), grd_pos (by omega)]
        · rw [ind_f (fun q => hr q.2), if_neg hr, one_0, cal_some, grd_pos (by omega), grd_pos (by omega)]
      · rw [ind_f hc, if_pos rfl, one_0, cal_some, grd_pos (by omega), grd_pos (by omega), ind_f (fun q => hc q.1)])
    (fun n x i h0 h1 h2 h3 => by
      show f_X12_countGarbage_L8 fu (n + 1) x i M1 = some (M1, x)
      rw [f_X12_countGarbage_L8, grd_pos (by decide), MM_n g1, if_pos (by omega)]) fu 0 0 (by omega) (by omega) (by omega) (by omega) (by omega)
  simpa using this
theorem nGar_eq (h : Good A) : nGar A = nRem A := by
  unfold nGar nSto nRch nRem
  rw [← sm_sub]
  refine sm_congr _ _ (fun k _ _ => ?_)
  show ind (coA A k = 0) - ind (0 < rsA A (-1) k) = ind (coA A k = 0 ∧ rsA A (-1) k = 0)
  have hr := rsA_nonneg A (-1) k
  by_cases hp : 0 < rsA A (-1) k
  · have hc := rsA_co h hp
    rw [ind_t hc, ind_t hp, ind_f (by omega)]
    rfl
  · rw [ind_f hp]
    by_cases hc : coA A k = 0
    · rw [ind_t hc, ind_t ⟨hc, by omega⟩]; rfl
    · rw [ind_f hc, ind_f (fun q => hc q.1)]; rfl
theorem garbageNodes_M {M : Mem} (h : MM M A) (hfu : 1000 ≤ fu) : ∃ M', f_X12_garbageNodes fu M = some (M', nGar A) ∧ only 60 (up M 52 6 0) M' := by
  obtain ⟨M1, e1, o1, -⟩ := countGarbage_M hfu (MM_t h 0)
  refine ⟨M1, ?_, o1⟩
  unfold f_X12_garbageNodes
  rw [e1, cal_some, nGar_eq h.2]
theorem countGarbageOf_M (hfu : 1000 ≤ fu) {M : Mem} (h : MM M A) (f : Int → Int) (hp : ∀ m, 0 ≤ m → m < aN A → M 60 m.toNat = f m) : f_X12_countGarbageOf fu M = some (M, sm (fun k => ind (coA A k = 0 ∧ f k = 0)) (aN A).toNat 0) := by
  have hn := MM_nr h
  unfold f_X12_countGarbageOf
  have := lp_sum (F := fun n x i => f_X12_countGarbageOf_L4 fu n x i M) (M := M) (fun k => ind (coA A k = 0 ∧ f k = 0)) (aN A) 1 (fun k _ _ => by have := ind_rng (coA A k = 0 ∧ f k = 0); omega)
    (fun n x i h0 h1 h2 h3 => by
      show f_X12_countGarbageOf_L4 fu (n + 1) x i M = f_X12_countGarbageOf_L4 fu n (x + ind (coA A i = 0 ∧ f i = 0)) (i + 1) M
      rw [f_X12_countGarbageOf_L4, grd_pos (by decide), MM_n h, if_neg (by omega), isStored_M1 h h0 h1, cal_some]
      by_cases hc : coA A i = 0
      · rw [ind_t hc, if_neg (by decide), grd_pos (by omega), hp i h0 h1]
        by_cases hr : f i = 0
        · rw [ind_t ⟨hc, hr⟩, if_pos hr, one_1, cal_some, grd_pos (by omega), grd_pos (by omega)]
        · rw [ind_f (fun q => hr q.2), if_neg hr, one_0, cal_some, grd_pos (by omega), grd_pos (by omega)]
      · rw [ind_f hc, if_pos rfl, one_0, cal_some, grd_pos (by omega), grd_pos (by omega), ind_f (fun q => hc q.1)])
    (fun n x i h0 h1 h2 h3 => by
      show f_X12_countGarbageOf_L4 fu (n + 1) x i M = some (M, x)
      rw [f_X12_countGarbageOf_L4, grd_pos (by decide), MM_n h, if_pos (by omega)]) fu 0 0 (by omega) (by omega) (by omega) (by omega) (by omega)
  simpa using this
/-- one version released -/
theorem MM_mkR {M : Mem} (h : MM M A) {v : Int} (h0 : 0 ≤ v) (h1 : v < aV A) : MM (up M 53 (10 + 6 * v + 4).toNat 1) (mkR A v) := by
  have hv := MM_vr h
  obtain ⟨⟨r1, r2, r3, r4⟩, hG⟩ := h
  have key : ∀ i : Int, 0 ≤ i → i ≠ 10 + 6 * v + 4 → up M 53 (10 + 6 * v + 4).toNat 1 53 i.toNat = M 53 i.toNat := fun i i0 hi => by
    rw [up_toNat (by omega) i0, if_neg hi]
  refine ⟨⟨?_, ?_, fun w w0 w1 => ?_, fun k k0 k1 => ?_⟩, Good_mkR hG ⟨h0, h1⟩⟩
  · have := key 0 (by omega) (by omega)
    exact this.trans r1
  · have := key 1 (by omega) (by omega)
    exact this.trans r2
  · have w1' : w < aV A := w1
    obtain ⟨q0, q1, q2, q3, q4, q5, q6⟩ := r3 w w0 w1
    have hvf : ∀ j, j ≠ 3 → vf (mkR A v) w j = vf A w j := fun j hj => if_neg (fun z => hj z.2)
    have e0 : szA (mkR A v) w = szA A w := hvf 0 (by decide)
    rw [key _ (by omega) (by omega), key _ (by omega) (by omega), key _ (by omega) (by omega), key _ (by omega) (by omega), key (10 + 6 * w + 5) (by omega) (by omega), e0]
    refine ⟨q0, q1.trans (hvf 1 (by decide)).symm, q2, q3.trans (hvf 2 (by decide)).symm, ?_, q5.trans (hvf 4 (by decide)).symm, fun i i0 i1 => ?_⟩
    · by_cases hw : w = v
      · subst hw
        rw [up_same]
        exact (if_pos ⟨rfl, rfl⟩ : rlA (mkR A w) w = 1).symm
      · rw [key _ (by omega) (by omega), q4]
        exact (if_neg (fun z => hw z.1) : rlA (mkR A v) w = rlA A w).symm
    · rw [key _ (by omega) (by omega)]
      exact q6 i i0 i1
  · obtain ⟨q0, q1, q2, q3⟩ := r4 k k0 k1
    have k1' : k < aN A := k1
    have hfl := G_fl hG k0 k1'
    rw [key _ (by omega) (by omega), key _ (by omega) (by omega), key (2810 + 7 * k + 6) (by omega) (by omega)]
    refine ⟨q0, q1, fun j j0 j1 => ?_, q3⟩
    rw [key _ (by omega) (by omega)]
    exact q2 j j0 j1
theorem rsA_mkR (v : Int) (hv : 0 ≤ v) (m : Int) : rsA (mkR A v) (-1) m = rsA A v m := by
  unfold rsA
  show sm _ (aV A).toNat 0 = _
  refine sm_congr _ _ (fun w w0 _ => ?_)
  have hvf : ∀ j, j ≠ 3 → vf (mkR A v) w j = vf A w j := fun j hj => if_neg (fun z => hj z.2)
  have hmu : muA (mkR A v) (hgt (szA (mkR A v) w)) (rtA (mkR A v) w) m = muA A (hgt (szA A w)) (rtA A w) m := by
    rw [show szA (mkR A v) w = szA A w from hvf 0 (by decide), show rtA (mkR A v) w = rtA A w from hvf 1 (by decide)]
    have gen : ∀ (l : Nat) (x : Int), muA (mkR A v) l x m = muA A l x m := by
      intro l
      induction l with
      | zero => intro x; rfl
      | succ l ih =>
        intro x
        show ind (x = m) + sm (fun j => muA (mkR A v) l (enA A x j) m) (flA A x).toNat 0 = ind (x = m) + sm (fun j => muA A l (enA A x j) m) (flA A x).toNat 0
        rw [sm_congr (h := fun j => muA A l (enA A x j) m) _ _ (fun k _ _ => ih _)]
    exact gen _ _
  show (if rlA (mkR A v) w = 0 ∧ w ≠ -1 then muA (mkR A v) (hgt (szA (mkR A v) w)) (rtA (mkR A v) w) m else 0) = if rlA A w = 0 ∧ w ≠ v then muA A (hgt (szA A w)) (rtA A w) m else 0
  rw [hmu]
  by_cases hw : w = v
  · have e : rlA (mkR A v) w = 1 := if_pos ⟨hw, rfl⟩
    rw [e, if_neg (fun q => absurd q.1 (by decide)), if_neg (fun q => q.2 hw)]
  · have e : rlA (mkR A v) w = rlA A w := if_neg (fun z => hw z.1)
    rw [e]
    by_cases hr : rlA A w = 0
    · rw [if_pos ⟨hr, by omega⟩, if_pos ⟨hr, hw⟩]
    · rw [if_neg (fun q => hr q.1), if_neg (fun q => hr q.1)]
theorem rsA_le (w m : Int) : rsA A w m ≤ rsA A (-1) m := sm_mono _ _ (fun v v0 _ => by
  show (if rlA A v = 0 ∧ v ≠ w then muA A (hgt (szA A v)) (rtA A v) m else 0) ≤ if rlA A v = 0 ∧ v ≠ -1 then muA A (hgt (szA A v)) (rtA A v) m else 0
  have := muA_nonneg A (hgt (szA A v)) (rtA A v) m
  by_cases hc : rlA A v = 0 ∧ v ≠ w
  · rw [if_pos hc, if_pos ⟨hc.1, by omega⟩]
    exact Int.le_refl _
  · rw [if_neg hc]
    split
    · exact this
    · exact Int.le_refl 0)
theorem exc_eq (h : Good A) (v : Int) : sm (fun k => ind (coA A k = 0 ∧ rsA A v k = 0)) (aN A).toNat 0 - sm (fun k => ind (coA A k = 0 ∧ rsA A (-1) k = 0)) (aN A).toNat 0 = nRch A (-1) - nRch A v := by
  unfold nRch
  rw [← sm_sub, ← sm_sub]
  refine sm_congr _ _ (fun k _ _ => ?_)
  show ind (coA A k = 0 ∧ rsA A v k = 0) - ind (coA A k = 0 ∧ rsA A (-1) k = 0) = ind (0 < rsA A (-1) k) - ind (0 < rsA A v k)
  have h1 := rsA_nonneg A v k
  have h2 := rsA_le (A := A) v k
  by_cases hp : 0 < rsA A (-1) k
  · have hc := rsA_co h hp
    rw [ind_t hp, ind_f (show ¬ (coA A k = 0 ∧ rsA A (-1) k = 0) by omega)]
    by_cases hq : 0 < rsA A v k
    · rw [ind_t hq, ind_f (by omega)]; rfl
    · rw [ind_f hq, ind_t ⟨hc, by omega⟩]
  · rw [ind_f hp, ind_f (show ¬ 0 < rsA A v k by omega)]
    have e1 : rsA A v k = 0 := by omega
    have e2 : rsA A (-1) k = 0 := by omega
    rw [e1, e2]
    exact Int.sub_self _
theorem countExclusive_M (hfu : 1000 ≤ fu) {M : Mem} (h : MM M A) {v : Int} (h0 : 0 ≤ v) (h1 : v < aV A) (hl : rlA A v = 0) : ∃ M', f_X12_countExclusive fu M v = some (M', nRch A (-1) - nRch A v) ∧ only 60 M M' := by
  have hv := MM_vr h
  have hn := MM_nr h
  obtain ⟨M1, e1, o1, m1⟩ := reachAll_M hfu h
  have g1 := MM_only h o1 (by decide)
  have g2 := MM_mkR g1 h0 h1
  obtain ⟨M2, e2, o2, m2⟩ := reachAll_M hfu g2
  have g3 := MM_only g2 o2 (by decide)
  have hr := nRch_rng h.2 (-1)
  have hr2 := nRch_rng h.2 v
  have e := exc_eq h.2 v
  refine ⟨up M2 53 (10 + 6 * v + 4).toNat 0, ?_, fun q hq => ?_⟩
  · unfold f_X12_countExclusive
    rw [e1, cal_some, countGarbageOf_M hfu g1 (fun m => rsA A (-1) m) m1, cal_some, v_M h0 (by omega), cal_some, grd_pos (by omega), grd_pos (by omega), e2, cal_some]
    rw [countGarbageOf_M hfu g3 (fun m => rsA A v m) (fun m m0 mn => by rw [m2 m m0 mn, rsA_mkR v h0 m]), cal_some, v_M h0 (by omega), cal_some, grd_pos (by omega), grd_pos (by omega)]
    have e9 : sm (fun k => ind (coA (mkR A v) k = 0 ∧ (fun m => rsA A v m) k = 0)) (aN (mkR A v)).toNat 0 = sm (fun k => ind (coA A k = 0 ∧ rsA A v k = 0)) (aN A).toNat 0 := rfl
    rw [e9, grd_pos (by omega), e]
  · by_cases h53 : q = 53
    · subst h53
      funext i
      have ho2 : M2 53 = up M1 53 (10 + 6 * v + 4).toNat 1 53 := o2 53 (by decide)
      have hrl : M1 53 (10 + 6 * v + 4).toNat = 0 := by rw [(g1.1.2.2.1 v h0 h1).2.2.2.2.1]; exact hl
      by_cases hi : i = (10 + 6 * v + 4).toNat
      · subst hi
        rw [up_same, ← o1 53 hq, hrl]
      · rw [up_at (Or.inr hi), ho2, up_at (Or.inr hi), o1 53 hq]
    · rw [up_cell _ _ h53, o2 q hq, up_cell _ _ h53, o1 q hq]
theorem exclusiveNodes_M {M : Mem} (h : MM M A) (v : Int) (hfu : 1000 ≤ fu) : ∃ M', f_X12_exclusiveNodes fu M v = some (M', if fltR A v = 0 then nRch A (-1) - nRch A v else 0) ∧ only 60 (up M 52 6 (thR (fltR A v))) M' := by
  unfold f_X12_exclusiveNodes
  rw [checkLive_M h, cal_some]
  by_cases h0 : fltR A v = 0
  · have hh := fltR_0 h0
    obtain ⟨M1, e1, o1⟩ := countExclusive_M hfu (MM_t h (thR (fltR A v))) hh.1 hh.2.1 hh.2.2
    rw [ind_t h0, if_neg (by decide), if_pos h0, e1, cal_some]
    exact ⟨M1, rfl, o1⟩
  · rw [ind_f h0, if_pos rfl, if_neg h0]
    exact ⟨_, rfl, only_refl _ _⟩
theorem garbageIfReleased_M {M : Mem} (h : MM M A) (v : Int) (hfu : 1000 ≤ fu) : ∃ M', f_X12_garbageIfReleased fu M v = some (M', if fltR A v = 0 then nRch A (-1) - nRch A v else 0) ∧ only 60 (up M 52 6 (thR (fltR A v))) M' := by
  unfold f_X12_garbageIfReleased
  rw [checkLive_M h, cal_some]
  by_cases h0 : fltR A v = 0
  · have hh := fltR_0 h0
    obtain ⟨M1, e1, o1⟩ := countExclusive_M hfu (MM_t h (thR (fltR A v))) hh.1 hh.2.1 hh.2.2
    rw [ind_t h0, if_neg (by decide), if_pos h0, e1, cal_some]
    exact ⟨M1, rfl, o1⟩
  · rw [ind_f h0, if_pos rfl, if_neg h0]
    exact ⟨_, rfl, only_refl _ _⟩
end MRea
