/-! isLike answers true -/
def frV (M M' : Mem) : Prop := (∀ q, q ≠ 35 → q ≠ 37 → q ≠ 52 → q ≠ 57 → q < 98 ∨ 298 ≤ q → M' q = M q) ∧ M' 52 6 = M 52 6
theorem frV_of {M M' : Mem} (h : frG9 M M') : frV M M' := ⟨fun q _ _ q1 q2 q3 => h.1 q q1 q2 q3, h.2⟩
theorem frV_trans {M M1 M2 : Mem} (h : frV M M1) (h2 : frV M1 M2) : frV M M2 := ⟨fun q q1 q2 q3 q4 q5 => by rw [h2.1 q q1 q2 q3 q4 q5, h.1 q q1 q2 q3 q4 q5], h2.2.trans h.2⟩
theorem LR_V {M M' : Mem} {A : AS} (h : LR M A) (hV : aV A ≤ 40) (f : frV M M') : LR M' A := by
  refine ⟨f.2.trans h.1, fun v v0 v1 => ?_, fun v v0 v1 => by rw [f.1 55 (by decide) (by decide) (by decide) (by decide) (by decide)]; exact h.2.2 v v0 v1⟩
  obtain ⟨⟨h1, h2, h3⟩, h4⟩ := h.2.1 v v0 v1
  rw [f.1 53 (by decide) (by decide) (by decide) (by decide) (by decide), f.1 54 (by decide) (by decide) (by decide) (by decide) (by decide), f.1 55 (by decide) (by decide) (by decide) (by decide) (by decide), f.1 (58 + v.toNat) (by omega) (by omega) (by omega) (by omega) (Or.inl (by omega))]
  exact ⟨⟨h1, h2, h3⟩, h4⟩
theorem CM_V {M M' : Mem} {A : AS} (h : CM M A) (f : frV M M') : CM M' A := CM_congr h (fun q _ q1 => f.1 q (by omega) (by omega) (by omega) (by omega) (by omega))
theorem HC_congr {M M' : Mem} {H : Int → AS} {c : Int} (h : HC M H c) (f : ∀ q, 38 ≤ q → q ≤ 42 → M' q = M q) : HC M' H c := by
  unfold HC at h ⊢
  rw [f 38 (by decide) (by decide), f 39 (by decide) (by decide), f 40 (by decide) (by decide), f 41 (by decide) (by decide), f 42 (by decide) (by decide)]
  exact h
theorem HC_V {M M' : Mem} {H : Int → AS} {c : Int} (h : HC M H c) (f : frV M M') : HC M' H c := HC_congr h (fun q _ q1 => f.1 q (by omega) (by omega) (by omega) (by omega) (by omega))
theorem hgt_T {fu : Nat} {M : Mem} {x : Int} (h : 0 ≤ x) : f_L_height fu M x = some (M, ((hgt x : Nat) : Int)) := by
  unfold f_L_height
  by_cases h0 : x = 0
  · rw [if_pos h0, hgt_0 (by omega)]
    rfl
  · rw [if_neg h0]
    by_cases h1 : 4 < x
    · rw [if_pos h1]
      by_cases h2 : 16 < x
      · rw [if_pos h2, hgt_3 h2]
        rfl
      · rw [if_neg h2, hgt_2 h1 (by omega)]
        rfl
    · rw [if_neg h1, hgt_1 (by omega) (by omega)]
      rfl
section Like
variable {fu : Nat} {A : AS} {v : Int}
theorem size_T {M : Mem} (h : CM M A) (v0 : 0 ≤ v) (v1 : v < aV A) (hl : rlA A v = 0) : f_X11_size fu M v = some (M, ((0 : Nat), szA A v)) := by
  rw [size_X h, ox_0 (fltR_t v0 v1 hl)]
theorem height_T {M : Mem} (h : CM M A) (v0 : 0 ≤ v) (v1 : v < aV A) (hl : rlA A v = 0) : f_X11_height fu M v = some (M, ((0 : Nat), ((hgt (szA A v) : Nat) : Int))) := by
  rw [height_X h, ox_0 (fltR_t v0 v1 hl)]
theorem rootOf_T {M : Mem} (h : CM M A) (v0 : 0 ≤ v) (v1 : v < aV A) (hl : rlA A v = 0) : f_X11_rootOf fu M v = some (M, ((0 : Nat), rtA A v)) := by
  rw [rootOf_X h, ox_0 (fltR_t v0 v1 hl)]
theorem sum_T {M : Mem} (h : CM M A) (hfu : 1000 ≤ fu) (v0 : 0 ≤ v) (v1 : v < aV A) (hl : rlA A v = 0) : f_X11_sum fu M v = some (M, ((0 : Nat), sm (ev A v) (szA A v).toNat 0)) := by
  rw [sum_X h _ hfu, ox_0 (fltR_t v0 v1 hl)]
theorem isReleased_T {M : Mem} (h : CM M A) (v0 : 0 ≤ v) (v1 : v < aV A) : f_X11_isReleased fu M v = some (M, ((0 : Nat), rlA A v)) := by
  rw [isReleased_X h, ox_0 (xI_t ⟨v0, v1⟩), if_pos ⟨v0, v1⟩]
theorem parentOf_T {M : Mem} (h : CM M A) (v0 : 0 ≤ v) (v1 : v < aV A) : f_X11_parentOf fu M v = some (M, ((0 : Nat), paA A v)) := by
  rw [parentOf_X h, ox_0 (xI_t ⟨v0, v1⟩)]
theorem LS_52 {M : Mem} {i : Nat} {y : Int} (h : LSn M A) : LSn (up M 52 i y) A := by
  intro n n0 n1
  rw [up_cell _ _ (show 57 ≠ 52 by decide), up_cell _ _ (show 98 + n.toNat ≠ 52 by omega)]
  exact h n n0 n1
theorem J167_ok (hfu : 2000 ≤ fu) {k15 : Int → Mem → Option (Mem × Int)} {k70 : Int → Int → Int → Mem → Option (Mem × Int)} {M : Mem} {y : Int} (hC : CM M A) (hR : LR M A) (hS : LSn M A) (v0 : 0 ≤ v) (v1 : v < aV A) (hl : rlA A v = 0) :
    ∃ M', f_L_isLike_J167 fu k15 k70 v y y M = k15 (v + 1) M' ∧ LSn M' A ∧ frG9 M M' := by
  have hV := hC.2.1.2
  have hG := hC.2
  have f1 : frG9 M (up M 52 7 0) := ⟨fun q q1 _ _ => up_cell _ _ q1, up_at (Or.inr (by decide))⟩
  have hC1 := CM_W hC f1
  have hR1 := LR_W hR hV f1
  have hS1 : LSn (up M 52 7 0) A := LS_52 hS
  unfold f_L_isLike_J167
  rw [if_pos rfl, grd_pos ⟨v0, by omega⟩, (hR1.2.1 v v0 v1).1.1]
  obtain ⟨⟨s0, s64⟩, -, -, -, -, hok, -⟩ := hG.2.2.2.1 v v0 v1
  by_cases hs : szA A v ≤ 0
  · rw [if_pos hs, grd_pos ⟨by omega, by omega⟩]
    exact ⟨_, rfl, hS1, f1⟩
  · have hp := hgt_pos (s := szA A v) (by omega)
    have h3 := hgt_le (szA A v)
    have hT := TW_root hG ⟨v0, v1⟩ hl (by omega)
    have e0 : ((hgt (szA A v) - 1 : Nat) : Int) + 1 = ((hgt (szA A v) : Nat) : Int) := by omega
    have e2 : hgt (szA A v) - 1 + 1 = hgt (szA A v) := by omega
    have href : 1 ≤ nLRt A (rtA A v) + nRef A (rtA A v) := by
      have k1 := nLRt_root v0 v1 hl
      have k2 := (nRef_rng hG (rtA A v)).1
      omega
    obtain ⟨M2, c1, c2, c3, c4⟩ := isTree_ok (fu := fu) hfu v0 v1 hl (hgt (szA A v) - 1) 8 (by omega) hC1 hR1 hS1 (off := 0) (up_same _ _ _ _) hT href
    have hR2 := LR_W hR1 hV c3
    rw [if_neg hs, rootOf_T hC1 v0 v1 hl, cax_ret, grd_pos ⟨v0, by omega⟩, (hR1.2.1 v v0 v1).1.1, hgt_T s0, cal_some, ← e0, c1, cal_some, if_neg (by decide), grd_pos ⟨v0, by omega⟩, c4, e2, (hok.2 (by omega)).2.1, (hR2.2.1 v v0 v1).1.1, if_pos (Int.zero_add _), grd_pos ⟨by omega, by omega⟩]
    exact ⟨M2, rfl, c2, frG9_trans f1 c3⟩
theorem L70_ok (hfu : 2000 ≤ fu) {k15 : Int → Mem → Option (Mem × Int)} {M : Mem} (hC : CM M A) (hR : LR M A) (hS : LSn M A) (v0 : 0 ≤ v) (v1 : v < aV A) (hl : rlA A v = 0) :
    ∀ (n : Nat) (s k : Int), 0 ≤ k → k ≤ szA A v → szA A v - k < n → -(999 * k) ≤ s → s ≤ 999 * k → s + sm (ev A v) (szA A v - k).toNat k = sm (ev A v) (szA A v).toNat 0 →
    ∃ M', f_L_isLike_L70 fu k15 n v s k M = k15 (v + 1) M' ∧ LSn M' A ∧ frG9 M M'
  | 0, s, k, _, _, h, _, _, _ => by omega
  | n + 1, s, k, k0, k1, hn, b0, b1, hsum => by
    have hV := hC.2.1.2
    obtain ⟨⟨s0, s64⟩, -, -, -, -, hok, -⟩ := hC.2.2.2.2.1 v v0 v1
    rw [f_L_isLike_L70, grd_pos ⟨v0, by omega⟩, (hR.2.1 v v0 v1).1.1]
    by_cases hk : szA A v ≤ k
    · have hk2 : k = szA A v := by omega
      have hs2 : s = sm (ev A v) (szA A v).toNat 0 := by
        rw [← hsum, hk2, Int.sub_self]
        simp [sm]
      have hj : ∀ y, y = (if szA A v = 0 then (1 : Int) else 0) → ∃ M', f_L_isLike_J153 fu k15 (f_L_isLike_L70 fu k15 n) v y M = k15 (v + 1) M' ∧ LSn M' A ∧ frG9 M M' := fun y hy => by
        unfold f_L_isLike_J153
        rw [grd_pos ⟨v0, by omega⟩, (hR.2.1 v v0 v1).1.1]
        by_cases hs : szA A v = 0
        · rw [if_pos hs] at hy ⊢
          rw [hy]
          exact J167_ok hfu hC hR hS v0 v1 hl
        · rw [if_neg hs] at hy ⊢
          rw [hy]
          exact J167_ok hfu hC hR hS v0 v1 hl
      rw [if_pos hk, size_T hC v0 v1 hl, cax_ret, grd_pos ⟨v0, by omega⟩, (hR.2.1 v v0 v1).1.1, if_pos rfl, height_T hC v0 v1 hl, cax_ret, grd_pos ⟨v0, by omega⟩, (hR.2.1 v v0 v1).1.1, hgt_T s0, cal_some, if_pos rfl, sum_T hC (by omega) v0 v1 hl, cax_ret, if_pos hs2.symm, rootOf_T hC v0 v1 hl, cax_ret]
      by_cases hs : szA A v = 0
      · rw [if_neg (by rw [hok.1 hs]; decide)]
        exact hj 1 (by rw [if_pos hs])
      · rw [if_pos (by
          have := (hok.2 (by omega)).1
          have hp := hgt_pos (s := szA A v) (by omega)
          obtain ⟨l, hl9⟩ : ∃ l, hgt (szA A v) = l + 1 := ⟨hgt (szA A v) - 1, by omega⟩
          rw [hl9] at this
          exact this.1)]
        exact hj 0 (by rw [if_neg hs])
    · have hev := ev_rng hC.2 v0 v1 k0 (by omega : k < szA A v)
      rw [if_neg hk, grd_pos ⟨v0, by omega⟩, grd_pos ⟨k0, by omega⟩, (hR.2.1 v v0 v1).2 k k0 (by omega), grd_pos ⟨by omega, by omega⟩, grd_pos ⟨by omega, by omega⟩]
      refine L70_ok hfu hC hR hS v0 v1 hl n (s + ev A v k) (k + 1) (by omega) (by omega) (by omega) (by omega) (by omega) ?_
      rw [← hsum, show (szA A v - k).toNat = (szA A v - (k + 1)).toNat + 1 by omega, sm]
      omega
theorem L15_ok (hfu : 2000 ≤ fu) : ∀ (n : Nat) (w : Int) (M : Mem), 0 ≤ w → w ≤ aV A → aV A - w < n → CM M A → LR M A → LSn M A → ∃ M', f_L_isLike_L15 fu n w M = some (M', 1) ∧ LSn M' A ∧ frV M M'
  | 0, w, M, _, _, h, _, _, _ => by omega
  | n + 1, w, M, w0, w1, hn, hC, hR, hS => by
    have hV := hC.2.1.2
    rw [f_L_isLike_L15, hR.1]
    by_cases hw : aV A ≤ w
    · obtain ⟨M1, e1, f1⟩ := passes_C (fu := fu) (by omega) hC
      have eX : f_X11_isConsistent fu M = some (M1, 1) := by
        unfold f_X11_isConsistent
        rw [e1, cal_some, grd_pos (by decide)]
      rw [if_pos hw, eX, cal_some, grd_pos (by decide)]
      refine ⟨M1, rfl, fun m m0 m1 => ?_, fun q q1 q2 _ _ _ => f1 q q1 q2, by rw [f1 52 (by decide) (by decide)]⟩
      rw [f1 57 (by decide) (by decide), f1 (98 + m.toNat) (by omega) (by omega)]
      exact hS m m0 m1
    · obtain ⟨h1, h2, h3⟩ := (hR.2.1 w w0 (by omega)).1
      rw [if_neg hw, isReleased_T hC w0 (by omega), cax_ret, grd_pos ⟨w0, by omega⟩, h3, if_pos rfl, parentOf_T hC w0 (by omega), cax_ret, grd_pos ⟨w0, by omega⟩, h2, if_pos rfl, grd_pos ⟨w0, by omega⟩, h3]
      by_cases hl : rlA A w = 0
      · have hz := (hC.2.2.2.2.1 w w0 (by omega)).1
        obtain ⟨M1, e1, s1, f1⟩ := L70_ok (fu := fu) (k15 := f_L_isLike_L15 fu n) hfu hC hR hS w0 (by omega) hl fu 0 0 (Int.le_refl 0) hz.1 (by omega) (by decide) (by decide) (by rw [Int.sub_zero, Int.zero_add])
        obtain ⟨M2, e2, s2, f2⟩ := L15_ok hfu n (w + 1) M1 (by omega) (by omega) (by omega) (CM_W hC f1) (LR_W hR hV f1) s1
        rw [if_pos hl, e1, e2]
        exact ⟨M2, rfl, s2, frV_trans (frV_of f1) f2⟩
      · rw [if_neg hl, grd_pos ⟨by omega, by omega⟩]
        exact L15_ok hfu n (w + 1) M (by omega) (by omega) (by omega) hC hR hS
theorem isLike_ok (hfu : 2000 ≤ fu) {M : Mem} (hC : CM M A) (hR : LR M A) (hS : LSn M A) : ∃ M', f_L_isLike fu M = some (M', 1) ∧ LSn M' A ∧ frV M M' := by
  have hV := hC.2.1
  unfold f_L_isLike f_X11_versionCount
  rw [cal_some, hR.1, hC.1.2.1, if_pos rfl]
  exact L15_ok hfu fu 0 M (Int.le_refl 0) (by omega) (by omega) hC hR hS
end Like
