/-! changes, input and output: the model's side and the class's input -/
section RelC
variable {fu : Nat} {M : Mem} {A B : AS} {H : Int → AS} {c : Int} {T TO : TX} {e o s : Int}
theorem chg_RM (h : RM1 M A H c T TO e o s B) (hg : RG A H c s B) (hfu : 40000 ≤ fu) : ∃ M1, f_X12_remember fu (up M 52 6 0) = some (M1, 0) ∧ MM M1 A ∧ ∀ M2 A', MM M2 A' → frXm M1 M2 → RM1 M2 A' (hPush H c A) (imin (c + 1) 8) T TO e o s B ∧ M2 52 6 = 0 ∧ frHi M M2 := by
  obtain ⟨h1, h2, h3, h4, h5, h6, h7, h8⟩ := RM1_6 h 0
  obtain ⟨M1, e1, r1, f1⟩ := remember_M (fu := fu) h1 h2 hg.1 hfu
  refine ⟨M1, e1, MM_congr h1 (f1.1 53 (by decide) (by decide)), fun M2 A' m2 f2 => ?_⟩
  have e52 : M2 52 = M1 52 := f2 52 (by decide) (by decide) (by decide)
  have g : ∀ q, q ≠ 52 → q ≠ 53 → q ≠ 56 → q ≠ 57 → q ≠ 60 → M2 q = up M 52 6 0 q := fun q q1 q2 q3 q4 q5 => by rw [f2 q q2 q4 q5, f1.1 q q1 q3]
  have gs : ∀ i, i ≠ 4 → M2 52 i = up M 52 6 0 52 i := fun i hi => by rw [e52, f1.2 i hi]
  exact ⟨⟨m2, HM_congr r1 (by rw [e52]) (f2 56 (by decide) (by decide) (by decide)), iM_cg h3 (gs 13 (by decide)) (g 61 (by decide) (by decide) (by decide) (by decide) (by decide)), oM_cg h4 (gs 27 (by decide)) (g 64 (by decide) (by decide) (by decide) (by decide) (by decide)), by rw [gs 14 (by decide)]; exact h5, by rw [gs 15 (by decide)]; exact h6, by rw [gs 5 (by decide)]; exact h7, fun hs => by rw [g 55 (by decide) (by decide) (by decide) (by decide) (by decide)]; exact h8 hs⟩, by rw [gs 6 (by decide), up_same], fun q hq => by rw [g q (by omega) (by omega) (by omega) (by omega) (by omega), up_cell _ _ (by omega)]⟩
theorem chg_RG (hA : Good A) (hg : RG A H c s B) (hc : 0 ≤ c ∧ c ≤ 8) {A' : AS} (hs : sub A A') : RG A' (hPush H c A) (imin (c + 1) 8) s B := ⟨HI_sub (HI_push hA hg.1 hc) hs, hg.2⟩
theorem frM_Xm {M M' : Mem} (h : frM M M') : frXm M M' := fun q q1 q2 _ => h q q1 q2
theorem release_RM (h : RM1 M A H c T TO e o s B) (hg : RG A H c s B) (hfu : 40000 ≤ fu) (v : Int) :
    (fltR A v = 0 → ∃ M', f_X12_release fu M v = some (M', nGar (mkR A v)) ∧ RM1 M' (mkR A v) (hPush H c A) (imin (c + 1) 8) T TO e o s B ∧ M' 52 6 = 0 ∧ frHi M M') ∧
    (fltR A v ≠ 0 → f_X12_release fu M v = some (up M 52 6 (thR (fltR A v)), 0)) := by
  unfold f_X12_release
  rw [checkLive_M h.1, cal_some]
  refine ⟨fun hf => ?_, fun hf => by rw [ind_f hf, if_pos rfl]⟩
  obtain ⟨M1, e1, m1, k1⟩ := chg_RM (fu := fu) h hg hfu
  obtain ⟨M2, e2, m2, f2⟩ := releaseVersion_M (fu := fu) (by omega) m1 (fltR_iff.mp hf).1
  have e0 : thR (fltR A v) = 0 := by rw [hf]; rfl
  rw [ind_t hf, if_neg (by decide), e0, e1, cal_some, e2, cal_some]
  obtain ⟨k2, k3, k4⟩ := k1 M2 _ m2 (fun q q1 _ q3 => f2 q q1 q3)
  exact ⟨M2, rfl, k2, k3, k4⟩
theorem set_RM (h : RM1 M A H c T TO e o s B) (hg : RG A H c s B) (hfu : 40000 ≤ fu) (v i x : Int) :
    (fltS A v i x = 0 → ∃ M', f_X12_set fu M v i x = some (M', aV A) ∧ RM1 M' (mkS A v i x) (hPush H c A) (imin (c + 1) 8) T TO e o s B ∧ M' 52 6 = 0 ∧ frHi M M') ∧
    (fltS A v i x ≠ 0 → f_X12_set fu M v i x = some (up M 52 6 (fltS A v i x), 0)) := by
  have hm := h.1
  unfold f_X12_set
  rw [hasElement_M hm, cal_some, isWithin_M, cal_some]
  refine ⟨fun hf => ?_, fun hf => ?_⟩
  · obtain ⟨h1, h2, h3, h4⟩ := fltS_iff.mp hf
    obtain ⟨h5, h6⟩ := fltR_iff.mp h1
    have hE : fltE A v i ≠ 1 := by
      unfold fltE
      rw [if_neg (fun z => z.2 h2), h1]
      decide
    obtain ⟨M1, e1, m1, k1⟩ := chg_RM (fu := fu) h hg hfu
    obtain ⟨M2, e2, m2, f2⟩ := makeSet_M (fu := fu) (by omega) m1 h4 h5 h6 h2 h3
    obtain ⟨k2, k3, k4⟩ := k1 M2 _ m2 (frM_Xm f2)
    rw [ind_t hE, ind_t h3, if_neg (by decide), if_neg (by decide), isGone_M hm h5.1 h5.2, cal_some, if_pos h6, hasRoom_M hm, cal_some, ind_t h4, if_neg (by decide)]
    unfold f_X12_set_J56
    rw [check_M, show chk 1 1 1 = 0 from rfl, ind_t rfl, cal_some, if_neg (by decide), e1, cal_some, e2, cal_some]
    exact ⟨M2, rfl, k2, k3, k4⟩
  · have j : ∀ y1 y2 : Int, f_X12_set_J55 fu v i x y1 y2 M = some (up M 52 6 (chk y1 y2 0), 0) := by
      intro y1 y2
      unfold f_X12_set_J55 f_X12_set_J56
      have : chk y1 y2 0 ≠ 0 := by
        unfold chk
        split
        · decide
        · split
          · decide
          · rw [if_pos rfl]; decide
      rw [check_M, cal_some, ind_f this, if_pos rfl]
    by_cases hE : fltE A v i = 1
    · have : fltS A v i x = 1 := by
        have hP : fltP A v i x = 1 := by
          unfold fltP
          rw [hE, if_neg (fun z => z.1 rfl)]
        unfold fltS
        rw [hP, if_neg (fun z => absurd z.1 (by decide))]
      rw [ind_f (fun z => z hE), if_pos rfl, j, this]
      rfl
    · by_cases hx : -999 ≤ x ∧ x ≤ 999
      · have hP : fltP A v i x = fltE A v i := by
          unfold fltP
          rw [if_neg (fun z => z.2 hx)]
        rw [ind_t hE, if_neg (by decide), ind_t hx, if_neg (by decide)]
        have hE2 : fltR A v ≠ 1 := by
          intro h9
          apply hE
          unfold fltE
          rw [if_neg (fun z => by rw [h9] at z; exact absurd z.1 (by decide)), h9]
        have hv : 0 ≤ v ∧ v < aV A := by
          refine Classical.byContradiction fun h9 => hE2 ?_
          unfold fltR
          rw [if_neg h9]
        rw [isGone_M hm hv.1 hv.2, cal_some]
        have hR : fltS A v i x = 3 := by
          unfold fltS
          by_cases hz : fltP A v i x = 0 ∧ 40 ≤ aV A
          · rw [if_pos hz]
          · rw [if_neg hz, hP]
            have hz0 : fltS A v i x = fltE A v i := by unfold fltS; rw [if_neg hz, hP]
            have n0 : fltE A v i ≠ 0 := by rw [← hz0]; exact hf
            unfold fltE at n0 hE ⊢
            by_cases hq : fltR A v = 0 ∧ ¬ (0 ≤ i ∧ i < szA A v)
            · rw [if_pos hq] at hE; exact absurd rfl hE
            · rw [if_neg hq] at n0 ⊢
              unfold fltR at n0 ⊢
              rw [if_pos hv] at n0 ⊢
              by_cases hl : rlA A v = 0
              · rw [if_pos hl] at n0; exact absurd rfl n0
              · rw [if_neg hl]
        by_cases hl : rlA A v = 0
        · rw [if_pos hl, hasRoom_M hm, cal_some]
          by_cases h4 : aV A < 40
          · exfalso
            have r0 : fltR A v = 0 := fltR_iff.mpr ⟨hv, hl⟩
            have i0 : 0 ≤ i ∧ i < szA A v := Classical.byContradiction fun h9 => hE (by unfold fltE; rw [if_pos ⟨r0, h9⟩])
            exact hf (fltS_iff.mpr ⟨r0, i0, hx, h4⟩)
          · rw [ind_f h4, if_pos rfl, j, hR]; rfl
        · rw [if_neg hl, j, hR]; rfl
      · have : fltS A v i x = 2 := by
          have hP : fltP A v i x = 2 := by
            unfold fltP
            rw [if_pos ⟨hE, hx⟩]
          unfold fltS
          rw [hP, if_neg (fun z => absurd z.1 (by decide))]
        rw [ind_t hE, if_neg (by decide), ind_f hx, if_pos rfl, j, this]
        rfl
theorem appendInput_RM (h : RM1 M A H c T TO e o s B) {a b c' d e' : Int} (ha : rng a) (hb : rng b) (hc : rng c') (hd : rng d) (he : rng e') (hfu : 1000 ≤ fu) :
    (580 < T.1 → f_X12_appendInput fu M a b c' d e' = some (up M 52 6 0, -1)) ∧ (T.1 ≤ 580 → ∃ M', f_X12_appendInput fu M a b c' d e' = some (M', T.1 + 20) ∧ RM1 M' A H c (wB (wB (wB (wB (wB T a) b) c') d) e') TO e o s B ∧ M' 52 6 = 0 ∧ frHi M M') := by
  obtain ⟨h1, h2, h3, h4, h5, h6, h7, h8⟩ := RM1_6 h 0
  obtain ⟨x1, x2⟩ := appendInput_M (fu := fu) h.2.2.1 ha hb hc hd he hfu
  refine ⟨x1, fun hT => ?_⟩
  obtain ⟨M', e1, i1, f⟩ := x2 hT
  exact ⟨M', e1, ⟨MM_congr h1 (f.1 53 (by decide) (by decide)), HM_congr h2 (f.2 4 (by decide)) (f.1 56 (by decide) (by decide)), i1, oM_cg h4 (f.2 27 (by decide)) (f.1 64 (by decide) (by decide)), by rw [f.2 14 (by decide)]; exact h5, by rw [f.2 15 (by decide)]; exact h6, by rw [f.2 5 (by decide)]; exact h7, fun hs => by rw [f.1 55 (by decide) (by decide)]; exact h8 hs⟩, by rw [f.2 6 (by decide), up_same], fun q hq => by rw [f.1 q (by omega) (by omega), up_cell _ _ (by omega)]⟩
theorem appendInput_RC (h : RC1 M A H c T TO e o s B) (a b c' d e' : Int) :
    (580 < T.1 → f_X11_appendInput fu M a b c' d e' = some (M, -1)) ∧ (T.1 ≤ 580 → ∃ M', f_X11_appendInput fu M a b c' d e' = some (M', T.1 + 20) ∧ RC1 M' A H c (wB (wB (wB (wB (wB T a) b) c') d) e') TO e o s B ∧ frLo M M') := by
  obtain ⟨h1, h2, h3, h4, h5, h6, h7, h8, h9⟩ := h
  obtain ⟨x1, x2⟩ := appendInput_C (fu := fu) h3 a b c' d e'
  refine ⟨x1, fun hT => ?_⟩
  obtain ⟨M', e1, i1, f⟩ := x2 hT
  exact ⟨M', e1, ⟨CM_cg h1 (fun q _ q1 => f q (by omega) (by omega)), HC_congr h2 (fun q _ q1 => f q (by omega) (by omega)), i1, oC_cg h4 (f 50 (by decide) (by decide)) (f 51 (by decide) (by decide)), by rw [f 45 (by decide) (by decide)]; exact h5, by rw [f 45 (by decide) (by decide)]; exact h6, fun i i0 i1 => by rw [f 1 (by decide) (by decide)]; exact h7 i i0 i1, by rw [f 3 (by decide) (by decide)]; exact h8, fun hs => RS_cg (h9 hs) (fun q _ q1 => f q (by omega) (by omega))⟩, fun q hq => f q (by omega) (by omega)⟩
end RelC
