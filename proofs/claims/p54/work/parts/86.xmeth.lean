/-! the class's readers that may refuse, as outcomes -/
section MethX
variable {fu : Nat} {M : Mem} {A : AS}
theorem parentOf_X (h : CM M A) (v : Int) : f_X11_parentOf fu M v = some (M, ox (xI (0 ≤ v ∧ v < aV A)) (paA A v)) := by
  unfold f_X11_parentOf
  rw [requireVersion_X h, cax_thru (xI_rng _)]
  by_cases h0 : xI (0 ≤ v ∧ v < aV A) = 0
  · have hv := xI_0 h0
    rw [if_pos h0, parentAt_C h hv.1 hv.2, cal_some, ox_0 h0]
  · rw [if_neg h0, ox_1 h0]
theorem nodesCreatedFor_X (h : CM M A) (v : Int) : f_X11_nodesCreatedFor fu M v = some (M, ox (xI (0 ≤ v ∧ v < aV A)) (crA A v)) := by
  unfold f_X11_nodesCreatedFor
  rw [requireVersion_X h, cax_thru (xI_rng _)]
  by_cases h0 : xI (0 ≤ v ∧ v < aV A) = 0
  · have hv := xI_0 h0
    rw [if_pos h0, createdForAt_C h hv.1 hv.2, cal_some, ox_0 h0]
  · rw [if_neg h0, ox_1 h0]
theorem isReleased_X (h : CM M A) (v : Int) : f_X11_isReleased fu M v = some (M, ox (xI (0 ≤ v ∧ v < aV A)) (if 0 ≤ v ∧ v < aV A then rlA A v else 0)) := by
  unfold f_X11_isReleased
  rw [requireVersion_X h, cax_thru (xI_rng _)]
  by_cases h0 : xI (0 ≤ v ∧ v < aV A) = 0
  · have hv := xI_0 h0
    rw [if_pos h0, isLive_C h, cal_some, ox_0 h0, if_pos hv]
    have hr := (h.2.2.2.2.1 v hv.1 hv.2).2.1
    by_cases hl : rlA A v = 0
    · rw [show ind (0 ≤ v ∧ v < aV A ∧ rlA A v = 0) = 1 from if_pos ⟨hv.1, hv.2, hl⟩, if_neg (by decide), hl]
    · rw [show ind (0 ≤ v ∧ v < aV A ∧ rlA A v = 0) = 0 from if_neg (fun z => hl z.2.2), if_pos rfl, show rlA A v = 1 by omega]
  · rw [if_neg h0, ox_1 h0]
theorem size_X (h : CM M A) (v : Int) : f_X11_size fu M v = some (M, ox (fltR A v) (szA A v)) := by
  unfold f_X11_size
  rw [requireReadable_X h, cax_thru (r013 (fltR_rng v))]
  by_cases h0 : fltR A v = 0
  · have hv := fltR_0 h0
    rw [if_pos h0, sizeAt_C h hv.1 hv.2.1, cal_some, ox_0 h0]
  · rw [if_neg h0, ox_1 h0]
theorem height_X (h : CM M A) (v : Int) : f_X11_height fu M v = some (M, ox (fltR A v) ((hgt (szA A v) : Int))) := by
  unfold f_X11_height
  rw [requireReadable_X h, cax_thru (r013 (fltR_rng v))]
  by_cases h0 : fltR A v = 0
  · have hv := fltR_0 h0
    rw [if_pos h0, heightAt_C h hv.1 hv.2.1, cal_some, ox_0 h0]
  · rw [if_neg h0, ox_1 h0]
theorem rootOf_X (h : CM M A) (v : Int) : f_X11_rootOf fu M v = some (M, ox (fltR A v) (rtA A v)) := by
  unfold f_X11_rootOf
  rw [requireReadable_X h, cax_thru (r013 (fltR_rng v))]
  by_cases h0 : fltR A v = 0
  · have hv := fltR_0 h0
    rw [if_pos h0, rootAt_C h hv.1 hv.2.1, cal_some, ox_0 h0]
  · rw [if_neg h0, ox_1 h0]
theorem sum_X (h : CM M A) (v : Int) (hfu : 1000 ≤ fu) : f_X11_sum fu M v = some (M, ox (fltR A v) (sm (ev A v) (szA A v).toNat 0)) := by
  unfold f_X11_sum
  rw [requireReadable_X h, cax_thru (r013 (fltR_rng v))]
  by_cases h0 : fltR A v = 0
  · have hv := fltR_0 h0
    rw [if_pos h0, addUp_C h hv.1 hv.2.1 hfu, cal_some, ox_0 h0]
  · rw [if_neg h0, ox_1 h0]
theorem get_X (h : CM M A) (v i : Int) (hfu : 1000 ≤ fu) : f_X11_get fu M v i = some (M, ox (fltE A v i) (ev A v i)) := by
  unfold f_X11_get
  rw [faultOfElement_C h, cal_some, refuse_X, cax_thru (r013 (fltE_rng v i))]
  by_cases h0 : fltE A v i = 0
  · have hv := fltE_0 h0
    rw [if_pos h0, elementAt_C h hv.1 hv.2.1 hv.2.2.2.1 hv.2.2.2.2 hfu, cal_some, ox_0 h0]
  · rw [if_neg h0, ox_1 h0]
theorem leafOf_X (h : CM M A) (v i : Int) (hfu : 1000 ≤ fu) : f_X11_leafOf fu M v i = some (M, ox (fltE A v i) (lfA A (hgt (szA A v) - 1) (rtA A v) i)) := by
  unfold f_X11_leafOf
  rw [faultOfElement_C h, cal_some, refuse_X, cax_thru (r013 (fltE_rng v i))]
  by_cases h0 : fltE A v i = 0
  · have hv := fltE_0 h0
    rw [if_pos h0, leafAt_C h hv.1 hv.2.1 hv.2.2.2.1 hv.2.2.2.2 hfu, cal_some, ox_0 h0]
  · rw [if_neg h0, ox_1 h0]
theorem garbageIfReleased_X (h : CM M A) (v : Int) (hfu : 1000 ≤ fu) : ∃ M1, f_X11_garbageIfReleased fu M v = some (M1, ox (fltR A v) (nRch A (-1) - nRch A v)) ∧ only 35 M M1 := by
  unfold f_X11_garbageIfReleased
  rw [requireReadable_X h, cax_thru (r013 (fltR_rng v))]
  by_cases h0 : fltR A v = 0
  · have hv := fltR_0 h0
    obtain ⟨M1, e1, f1⟩ := countExclusive_C hfu h v
    rw [if_pos h0, e1, cal_some, ox_0 h0]
    exact ⟨M1, rfl, f1⟩
  · rw [if_neg h0, ox_1 h0]
    exact ⟨M, rfl, fun _ _ => rfl⟩
theorem entryCount_X (h : CM M A) (v : Int) : f_X11_entryCount fu M v = some (M, ox (xI (0 ≤ v ∧ v < aN A ∧ coA A v = 0)) (flA A v)) := by
  unfold f_X11_entryCount
  rw [requireNode_X h, cax_thru (xI_rng _)]
  by_cases h0 : xI (0 ≤ v ∧ v < aN A ∧ coA A v = 0) = 0
  · have hv := xI_0 h0
    rw [if_pos h0, fillAt_C h hv.1 hv.2.1, cal_some, ox_0 h0]
  · rw [if_neg h0, ox_1 h0]
theorem childOf_X (h : CM M A) (v j : Int) : f_X11_childOf fu M v j = some (M, ox (xI (0 ≤ v ∧ v < aN A ∧ coA A v = 0)) (chA A v j)) := by
  unfold f_X11_childOf
  rw [requireNode_X h, cax_thru (xI_rng _)]
  by_cases h0 : xI (0 ≤ v ∧ v < aN A ∧ coA A v = 0) = 0
  · have hv := xI_0 h0
    rw [if_pos h0, childAt_C h hv.1 hv.2.1, cal_some, ox_0 h0]
  · rw [if_neg h0, ox_1 h0]
theorem isLeaf_X (h : CM M A) (v : Int) : f_X11_isLeaf fu M v = some (M, ox (xI (0 ≤ v ∧ v < aN A ∧ coA A v = 0)) (if 0 ≤ v ∧ v < aN A ∧ coA A v = 0 then ind (lvA A v = 1) else 0)) := by
  unfold f_X11_isLeaf
  rw [requireNode_X h, cax_thru (xI_rng _)]
  by_cases h0 : xI (0 ≤ v ∧ v < aN A ∧ coA A v = 0) = 0
  · have hv := xI_0 h0
    rw [if_pos h0, levelAt_C h hv.1 hv.2.1, cal_some, ox_0 h0, if_pos hv]
    by_cases hl : lvA A v = 1
    · rw [if_pos hl, show ind (lvA A v = 1) = 1 from if_pos hl]
    · rw [if_neg hl, show ind (lvA A v = 1) = 0 from if_neg hl]
  · rw [if_neg h0, ox_1 h0]
theorem nLRt_le (h : Good A) (m : Int) : nLRt A m ≤ 40 := by
  have := h.1
  have h1 : nLRt A m ≤ 1 * (aV A).toNat := sm_le _ _ (fun k _ _ => (ind_rng _).2)
  omega
theorem nRef_rng (h : Good A) (m : Int) : 0 ≤ nRef A m ∧ nRef A m ≤ 138 := by
  have h1 := h.1
  have h2 := h.2.1
  have h3 : 0 ≤ nRef A m := sm_nonneg _ _ (fun k _ _ => by
    have := hcB_rng A k m
    split <;> omega)
  have h4 : nRef A m ≤ 1 * (aN A).toNat := sm_le _ _ (fun k _ _ => by
    have := hcB_rng A k m
    split <;> omega)
  omega
theorem referencesTo_X (h : CM M A) (v : Int) (hfu : 1000 ≤ fu) : f_X11_referencesTo fu M v = some (M, ox (xI (0 ≤ v ∧ v < aN A ∧ coA A v = 0)) (nLRt A v + nRef A v)) := by
  have hb := nLRt_nonneg (A := A) v
  have hb2 := nLRt_le h.2 v
  have hb3 := nRef_rng h.2 v
  unfold f_X11_referencesTo
  rw [requireNode_X h, cax_thru (xI_rng _)]
  by_cases h0 : xI (0 ≤ v ∧ v < aN A ∧ coA A v = 0) = 0
  · rw [if_pos h0, countLiveRoots_C h v hfu, cal_some, countReferrers_C h v hfu, cal_some, grd_pos ⟨by omega, by omega⟩, ox_0 h0]
  · rw [if_neg h0, ox_1 h0]
theorem fltP_rng (v i x : Int) : fltP A v i x = 0 ∨ fltP A v i x = 1 ∨ fltP A v i x = 2 ∨ fltP A v i x = 3 := by
  have := fltE_rng (A := A) v i
  unfold fltP
  split
  · exact Or.inr (Or.inr (Or.inl rfl))
  · exact r013 this
theorem nodesForSet_X (h : CM M A) (v i x : Int) (hfu : 1000 ≤ fu) : f_X11_nodesForSet fu M v i x = some (M, ox (fltP A v i x) (if ev A v i = x then 0 else (hgt (szA A v) : Int))) := by
  unfold f_X11_nodesForSet
  rw [faultOfReplacement_C h, cal_some, refuse_X, cax_thru (fltP_rng v i x)]
  by_cases h0 : fltP A v i x = 0
  · have hv := fltE_0 (fltP_0 h0).1
    rw [if_pos h0, elementAt_C h hv.1 hv.2.1 hv.2.2.2.1 hv.2.2.2.2 hfu, cal_some, ox_0 h0]
    by_cases hx : ev A v i = x
    · rw [if_pos hx, if_pos hx]
    · rw [if_neg hx, if_neg hx, heightAt_C h hv.1 hv.2.1, cal_some]
  · rw [if_neg h0, ox_1 h0]
theorem nodesForAppend_X (h : CM M A) (v : Int) : f_X11_nodesForAppend fu M v = some (M, ox (fltR A v) (if szA A v = 64 then -1 else (hgt (szA A v + 1) : Int))) := by
  unfold f_X11_nodesForAppend
  rw [requireReadable_X h, cax_thru (r013 (fltR_rng v))]
  by_cases h0 : fltR A v = 0
  · have hv := fltR_0 h0
    have hs := (h.2.2.2.2.1 v hv.1 hv.2.1).1
    rw [if_pos h0, sizeAt_C h hv.1 hv.2.1, cal_some, grd_pos ⟨by omega, by omega⟩, ox_0 h0]
    by_cases hz : szA A v = 64
    · rw [if_neg (by omega), if_pos hz]
    · rw [if_pos (by omega), heightFor_C (by omega), cal_some, if_neg hz]
  · rw [if_neg h0, ox_1 h0]
end MethX
