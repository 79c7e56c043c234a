/-! append and truncate, the model -/
section Apt
variable {fu : Nat} {M : Mem} {A B : AS} {H : Int → AS} {c : Int} {T TO : TX} {e o s : Int}
theorem chk_0 (y1 y2 : Int) : chk y1 y2 0 ≠ 0 := by
  unfold chk
  split
  · decide
  · split
    · decide
    · rw [if_pos rfl]; decide
theorem append_RM (h : RM1 M A H c T TO e o s B) (hg : RG A H c s B) (hfu : 40000 ≤ fu) (v x : Int) :
    (fltA A v x = 0 → ∃ M', f_X12_append fu M v x = some (M', aV A) ∧ RM1 M' (mkA A v x) (hPush H c A) (imin (c + 1) 8) T TO e o s B ∧ M' 52 6 = 0 ∧ frHi M M') ∧
    (fltA A v x ≠ 0 → f_X12_append fu M v x = some (up M 52 6 (fltA A v x), 0)) := by
  have hm := h.1
  have j : ∀ y1 y2 : Int, f_X12_append_J52 fu v x y1 y2 M = some (up M 52 6 (chk y1 y2 0), 0) := by
    intro y1 y2
    unfold f_X12_append_J52 f_X12_append_J53
    rw [check_M, cal_some, ind_f (chk_0 y1 y2), if_pos rfl]
  unfold f_X12_append
  rw [isVersion_M hm, cal_some, isWithin_M, cal_some]
  by_cases hv : 0 ≤ v ∧ v < aV A
  · rw [ind_t hv, if_neg (by decide), isGone_M hm hv.1 hv.2, cal_some]
    by_cases hx : -999 ≤ x ∧ x ≤ 999
    · rw [ind_t hx]
      by_cases hb : rlA A v ≠ 0 ∨ 64 ≤ szA A v ∨ 40 ≤ aV A
      · have hf : fltA A v x = 3 := by unfold fltA; rw [if_pos hv, if_pos hx, if_pos hb]
        refine ⟨fun h9 => by rw [hf] at h9; exact absurd h9 (by decide), fun _ => ?_⟩
        rw [hf]
        by_cases hl : rlA A v = 0
        · rw [if_pos hl, lengthOf_M hm hv.1 hv.2, cal_some]
          by_cases h6 : 64 ≤ szA A v
          · rw [if_pos h6, j]; rfl
          · rw [if_neg h6, hasRoom_M hm, cal_some, ind_f (by omega), if_pos rfl, j]; rfl
        · rw [if_neg hl, j]; rfl
      · have hf : fltA A v x = 0 := by unfold fltA; rw [if_pos hv, if_pos hx, if_neg hb]
        refine ⟨fun _ => ?_, fun h9 => absurd hf h9⟩
        obtain ⟨M1, e1, m1, k1⟩ := chg_RM (fu := fu) h hg hfu
        obtain ⟨M2, e2, m2, f2⟩ := makeAppend_M (fu := fu) (by omega) m1 (by omega) hv (by omega) (by omega) hx
        obtain ⟨k2, k3, k4⟩ := k1 M2 _ m2 (frM_Xm f2)
        rw [if_pos (by omega), lengthOf_M hm hv.1 hv.2, cal_some, if_neg (by omega), hasRoom_M hm, cal_some, ind_t (by omega), if_neg (by decide)]
        unfold f_X12_append_J53
        rw [check_M, show chk 1 1 1 = 0 from rfl, ind_t rfl, cal_some, if_neg (by decide), e1, cal_some, e2, cal_some]
        exact ⟨M2, rfl, k2, k3, k4⟩
    · have hf : fltA A v x = 2 := by unfold fltA; rw [if_pos hv, if_neg hx]
      refine ⟨fun h9 => by rw [hf] at h9; exact absurd h9 (by decide), fun _ => ?_⟩
      rw [hf, ind_f hx]
      by_cases hl : rlA A v = 0
      · rw [if_pos hl, lengthOf_M hm hv.1 hv.2, cal_some]
        by_cases h6 : 64 ≤ szA A v
        · rw [if_pos h6, j]; rfl
        · rw [if_neg h6, hasRoom_M hm, cal_some]
          by_cases h4 : aV A < 40
          · rw [ind_t h4, if_neg (by decide)]
            unfold f_X12_append_J53
            rw [check_M, show chk 1 0 1 = 2 from rfl, ind_f (by decide), cal_some, if_pos rfl]
          · rw [ind_f h4, if_pos rfl, j]; rfl
      · rw [if_neg hl, j]; rfl
  · have hf : fltA A v x = 1 := by unfold fltA; rw [if_neg hv]
    refine ⟨fun h9 => by rw [hf] at h9; exact absurd h9 (by decide), fun _ => ?_⟩
    rw [hf, ind_f hv, if_pos rfl, j]
    rfl
theorem truncate_RM (h : RM1 M A H c T TO e o s B) (hg : RG A H c s B) (hfu : 40000 ≤ fu) (v x : Int) :
    (fltT A v x = 0 → ∃ M', f_X12_truncate fu M v x = some (M', aV A) ∧ RM1 M' (mkT A v x) (hPush H c A) (imin (c + 1) 8) T TO e o s B ∧ M' 52 6 = 0 ∧ frHi M M') ∧
    (fltT A v x ≠ 0 → f_X12_truncate fu M v x = some (up M 52 6 (fltT A v x), 0)) := by
  have hm := h.1
  have j66 : ∀ y1 y2 : Int, f_X12_truncate_J66 fu v x y1 y2 M = some (up M 52 6 (chk y1 y2 0), 0) := by
    intro y1 y2
    unfold f_X12_truncate_J66 f_X12_truncate_J67
    rw [check_M, cal_some, ind_f (chk_0 y1 y2), if_pos rfl]
  have j35 : ∀ y1 : Int, f_X12_truncate_J35 fu v x y1 M = some (up M 52 6 (chk y1 0 0), 0) := by
    intro y1
    unfold f_X12_truncate_J35 f_X12_truncate_J36
    rw [if_pos rfl, j66]
  unfold f_X12_truncate
  rw [isVersion_M hm, cal_some]
  by_cases hv : 0 ≤ v ∧ v < aV A
  · rw [ind_t hv, if_neg (by decide)]
    by_cases hd : x < 0 ∨ (rlA A v = 0 ∧ szA A v < x)
    · have hf : fltT A v x = 2 := by unfold fltT; rw [if_pos hv, if_pos hd]
      refine ⟨fun h9 => by rw [hf] at h9; exact absurd h9 (by decide), fun _ => ?_⟩
      rw [hf]
      by_cases hx : x < 0
      · rw [if_pos hx, j35]; rfl
      · rw [if_neg hx, isGone_M hm hv.1 hv.2, cal_some, if_pos (by omega), lengthOf_M hm hv.1 hv.2, cal_some, if_pos (by omega), j35]; rfl
    · have hx : ¬ x < 0 := by omega
      have j31 : (if x < 0 then f_X12_truncate_J35 fu v x 1 M else cal (some (M, rlA A v)) fun M25 r26 => if r26 = 0 then (cal (f_X12_lengthOf fu M25 v) fun M29 r30 => if r30 < x then f_X12_truncate_J35 fu v x 1 M29 else f_X12_truncate_J31 fu v x 1 M29) else f_X12_truncate_J31 fu v x 1 M25) = f_X12_truncate_J31 fu v x 1 M := by
        rw [if_neg hx, cal_some]
        by_cases hl : rlA A v = 0
        · rw [if_pos hl, lengthOf_M hm hv.1 hv.2, cal_some, if_neg (by omega)]
        · rw [if_neg hl]
      rw [isGone_M hm hv.1 hv.2, j31]
      unfold f_X12_truncate_J31 f_X12_truncate_J36
      rw [if_neg (by decide), isGone_M hm hv.1 hv.2, cal_some]
      by_cases hb : rlA A v ≠ 0 ∨ 40 ≤ aV A
      · have hf : fltT A v x = 3 := by unfold fltT; rw [if_pos hv, if_neg hd, if_pos hb]
        refine ⟨fun h9 => by rw [hf] at h9; exact absurd h9 (by decide), fun _ => ?_⟩
        rw [hf]
        by_cases hl : rlA A v = 0
        · rw [if_pos hl, hasRoom_M hm, cal_some, ind_f (by omega), if_pos rfl, j66]; rfl
        · rw [if_neg hl, j66]; rfl
      · have hf : fltT A v x = 0 := by unfold fltT; rw [if_pos hv, if_neg hd, if_neg hb]
        refine ⟨fun _ => ?_, fun h9 => absurd hf h9⟩
        obtain ⟨M1, e1, m1, k1⟩ := chg_RM (fu := fu) h hg hfu
        obtain ⟨M2, e2, m2, f2⟩ := makeTruncate_M (fu := fu) (by omega) m1 (by omega) hv (by omega) (s := x) (by omega)
        obtain ⟨k2, k3, k4⟩ := k1 M2 _ m2 (frM_Xm f2)
        rw [if_pos (by omega), hasRoom_M hm, cal_some, ind_t (by omega), if_neg (by decide)]
        unfold f_X12_truncate_J67
        rw [check_M, show chk 1 1 1 = 0 from rfl, ind_t rfl, cal_some, if_neg (by decide), e1, cal_some, e2, cal_some]
        exact ⟨M2, rfl, k2, k3, k4⟩
  · have hf : fltT A v x = 1 := by unfold fltT; rw [if_neg hv]
    refine ⟨fun h9 => by rw [hf] at h9; exact absurd h9 (by decide), fun _ => ?_⟩
    rw [hf, ind_f hv, if_pos rfl, j35]
    rfl
end Apt
