/-! calls on each side that keep the relation -/
section RelM
variable {fu : Nat} {M : Mem} {A B : AS} {H : Int → AS} {c : Int} {T TO : TX} {e o s : Int}
theorem RM1_6 (h : RM1 M A H c T TO e o s B) (x : Int) : RM1 (up M 52 6 x) A H c T TO e o s B := by
  obtain ⟨h1, h2, h3, h4, h5, h6, h7, h8⟩ := h
  exact ⟨MM_up h1 (by decide), HM_congr h2 (up_at (Or.inr (by decide))) (up_cell _ _ (by decide)), iM_cg h3 (up_at (Or.inr (by decide))) (up_cell _ _ (by decide)), oM_cg h4 (up_at (Or.inr (by decide))) (up_cell _ _ (by decide)), by rw [up_at (Or.inr (by decide))]; exact h5, by rw [up_at (Or.inr (by decide))]; exact h6, by rw [up_at (Or.inr (by decide))]; exact h7, fun hs => by rw [up_cell _ _ (by decide)]; exact h8 hs⟩
theorem frHi_up {i : Nat} {x : Int} {k : Nat} (hk : 52 ≤ k ∧ k ≤ 64) : frHi M (up M k i x) := fun q hq => up_cell _ _ (by omega)
theorem frHi_trans {M' M2 : Mem} (h : frHi M M') (h2 : frHi M' M2) : frHi M M2 := fun q hq => by rw [h2 q hq, h q hq]
theorem errorCode_RM (h : RM1 M A H c T TO e o s B) : f_X12_errorCode fu M = some (up M 52 6 0, e) := by
  unfold f_X12_errorCode
  rw [(RM1_6 h 0).2.2.2.2.1]
theorem errorOffset_RM (h : RM1 M A H c T TO e o s B) : f_X12_errorOffset fu M = some (up M 52 6 0, o) := by
  unfold f_X12_errorOffset
  rw [(RM1_6 h 0).2.2.2.2.2.1]
theorem errorCode_RC (h : RC1 M A H c T TO e o s B) : f_X11_errorCode fu M = some (M, e) := by
  unfold f_X11_errorCode
  rw [h.2.2.2.2.1]
theorem errorOffset_RC (h : RC1 M A H c T TO e o s B) : f_X11_errorOffset fu M = some (M, o) := by
  unfold f_X11_errorOffset
  rw [h.2.2.2.2.2.1]
theorem saveState_RC (h : RC1 M A H c T TO e o s B) (hfu : 2000 ≤ fu) : ∃ M', f_X11_saveState fu M = some (M', aV A) ∧ RC1 M' A H c T TO e o 1 A ∧ frLo M M' := by
  obtain ⟨h1, h2, h3, h4, h5, h6, h7, h8, h9⟩ := h
  obtain ⟨M1, e1, r1, f1⟩ := save_C (fu := fu) h1 hfu
  have g : ∀ q, q ≠ 3 → q < 20 ∨ 33 < q → up M1 3 2 1 q = M q := fun q q1 q2 => by rw [up_cell _ _ q1]; exact f1 q q2
  refine ⟨up M1 3 2 1, ?_, ⟨CM_cg h1 (fun q _ q1 => g q (by omega) (by omega)), HC_congr h2 (fun q _ q1 => g q (by omega) (by omega)), iC_cg h3 (g 43 (by decide) (by decide)) (g 44 (by decide) (by decide)), oC_cg h4 (g 50 (by decide) (by decide)) (g 51 (by decide) (by decide)), by rw [g 45 (by decide) (by decide)]; exact h5, by rw [g 45 (by decide) (by decide)]; exact h6, fun i i0 i1 => by rw [g 1 (by decide) (by decide)]; exact h7 i i0 i1, up_same _ _ _ _, fun _ => RS_cg r1 (fun q _ q1 => up_cell _ _ (by omega))⟩, fun q hq => g q (by omega) (by omega)⟩
  unfold f_X11_saveState
  rw [e1, cal_some, grd_pos (by decide), g 10 (by decide) (by decide), h1.1.2.1]
theorem saveState_RM (h : RM1 M A H c T TO e o s B) (hfu : 40000 ≤ fu) : ∃ M', f_X12_saveState fu M = some (M', aV A) ∧ RM1 M' A H c T TO e o 1 A ∧ M' 52 6 = 0 ∧ frHi M M' := by
  have h0 := RM1_6 h 0
  obtain ⟨h1, h2, h3, h4, h5, h6, h7, h8⟩ := h0
  obtain ⟨M1, e1, o1, c1⟩ := copyTo_M (fu := fu) (up M 52 6 0) hfu
  have g : ∀ q, q ≠ 52 → q ≠ 55 → up M1 52 5 1 q = up M 52 6 0 q := fun q q1 q2 => by rw [up_cell _ _ q1, o1 q q2]
  have gs : ∀ i, i ≠ 5 → up M1 52 5 1 52 i = up M 52 6 0 52 i := fun i hi => by rw [up_at (Or.inr hi), o1 52 (by decide)]
  refine ⟨up M1 52 5 1, ?_, ⟨MM_congr h1 (g 53 (by decide) (by decide)), HM_congr h2 (gs 4 (by decide)) (g 56 (by decide) (by decide)), iM_cg h3 (gs 13 (by decide)) (g 61 (by decide) (by decide)), oM_cg h4 (gs 27 (by decide)) (g 64 (by decide) (by decide)), by rw [gs 14 (by decide)]; exact h5, by rw [gs 15 (by decide)]; exact h6, up_same _ _ _ _, fun _ => ?_⟩, by rw [gs 6 (by decide), up_same], fun q hq => by rw [g q (by omega) (by omega), up_cell _ _ (by omega)]⟩
  · unfold f_X12_saveState
    rw [e1, cal_some, grd_pos (by decide), grd_pos (by decide), g 53 (by decide) (by decide), MM_v h1]
  · rw [up_cell _ _ (by decide)]
    exact repM_congr h1.1 h1.2 c1
theorem restoreState_RM (h : RM1 M A H c T TO e o s B) (hg : RG A H c s B) (hfu : 40000 ≤ fu) :
    (s = 0 → ∃ M', f_X12_restoreState fu M = some (M', 0) ∧ RM1 M' A H c T TO e o s B ∧ M' 52 6 = 1 ∧ frHi M M') ∧
    (s = 1 → ∃ M', f_X12_restoreState fu M = some (M', aV B) ∧ RM1 M' B H 0 T TO e o s B ∧ M' 52 6 = 0 ∧ frHi M M') := by
  have h7 := h.2.2.2.2.2.2.1
  refine ⟨fun hs => ?_, fun hs => ?_⟩
  · refine ⟨up M 52 6 1, ?_, RM1_6 h 1, up_same _ _ _ _, frHi_up (by decide)⟩
    unfold f_X12_restoreState
    have e1 : chk s 1 1 = 1 := by rw [hs]; rfl
    rw [h7, check_M, e1, ind_f (by decide), cal_some, if_pos rfl]
  · have e1 : chk s 1 1 = 0 := by rw [hs]; rfl
    have hB := hg.2.2 hs
    obtain ⟨h1, h2, h3, h4, h5, h6, h7', h8⟩ := RM1_6 h 0
    obtain ⟨M1, e2, o1, c1⟩ := copyFrom_M (fu := fu) (up M 52 6 0) hfu
    have m1 : MM M1 B := ⟨repM_congr (h8 hs) hB c1, hB⟩
    have g : ∀ q, q ≠ 52 → q ≠ 53 → up M1 52 4 0 q = up M 52 6 0 q := fun q q1 q2 => by rw [up_cell _ _ q1, o1 q q2]
    have gs : ∀ i, i ≠ 4 → up M1 52 4 0 52 i = up M 52 6 0 52 i := fun i hi => by rw [up_at (Or.inr hi), o1 52 (by decide)]
    refine ⟨up M1 52 4 0, ?_, ⟨MM_up m1 (by decide), ⟨up_same _ _ _ _, by decide, fun j j0 j1 => absurd j1 (Int.not_lt.mpr j0)⟩, iM_cg h3 (gs 13 (by decide)) (g 61 (by decide) (by decide)), oM_cg h4 (gs 27 (by decide)) (g 64 (by decide) (by decide)), by rw [gs 14 (by decide)]; exact h5, by rw [gs 15 (by decide)]; exact h6, by rw [gs 5 (by decide)]; exact h7', fun _ => by rw [g 55 (by decide) (by decide)]; exact h8 hs⟩, by rw [gs 6 (by decide), up_same], fun q hq => by rw [g q (by omega) (by omega), up_cell _ _ (by omega)]⟩
    unfold f_X12_restoreState
    rw [h7, check_M, e1, ind_t rfl, cal_some, if_neg (by decide), e2, cal_some, grd_pos (by decide), up_cell _ _ (by decide), MM_v m1]
theorem collect_RM (h : RM1 M A H c T TO e o s B) (hg : RG A H c s B) (hfu : 40000 ≤ fu) : ∃ M', f_X12_collect fu M = some (M', nRem A) ∧ RM1 M' (mkC A) (hPush H c A) (imin (c + 1) 8) T TO e o s B ∧ M' 52 6 = 0 ∧ frHi M M' := by
  obtain ⟨h1, h2, h3, h4, h5, h6, h7, h8⟩ := RM1_6 h 0
  obtain ⟨M1, e1, r1, f1⟩ := remember_M (fu := fu) h1 h2 hg.1 hfu
  obtain ⟨M2, e2, r2, f2⟩ := collectAll_M (fu := fu) (by omega) (MM_congr h1 (f1.1 53 (by decide) (by decide)))
  have e52 : M2 52 = M1 52 := f2 52 (by decide) (by decide)
  have g : ∀ q, q ≠ 52 → q ≠ 53 → q ≠ 56 → q ≠ 60 → M2 q = up M 52 6 0 q := fun q q1 q2 q3 q4 => by rw [f2 q q2 q4, f1.1 q q1 q3]
  have gs : ∀ i, i ≠ 4 → M2 52 i = up M 52 6 0 52 i := fun i hi => by rw [e52, f1.2 i hi]
  refine ⟨M2, ?_, ⟨r2, HM_congr r1 (by rw [e52]) (f2 56 (by decide) (by decide)), iM_cg h3 (gs 13 (by decide)) (g 61 (by decide) (by decide) (by decide) (by decide)), oM_cg h4 (gs 27 (by decide)) (g 64 (by decide) (by decide) (by decide) (by decide)), by rw [gs 14 (by decide)]; exact h5, by rw [gs 15 (by decide)]; exact h6, by rw [gs 5 (by decide)]; exact h7, fun hs => by rw [g 55 (by decide) (by decide) (by decide) (by decide)]; exact h8 hs⟩, by rw [gs 6 (by decide), up_same], fun q hq => by rw [g q (by omega) (by omega) (by omega) (by omega), up_cell _ _ (by omega)]⟩
  unfold f_X12_collect
  rw [e1, cal_some, e2, cal_some]
theorem undo_RM (h : RM1 M A H c T TO e o s B) (hg : RG A H c s B) (hfu : 40000 ≤ fu) :
    (c = 0 → ∃ M', f_X12_undo fu M = some (M', 0) ∧ RM1 M' A H c T TO e o s B ∧ M' 52 6 = 1 ∧ frHi M M') ∧
    (0 < c → ∃ M', f_X12_undo fu M = some (M', c - 1) ∧ RM1 M' (H (c - 1)) H (c - 1) T TO e o s B ∧ M' 52 6 = 0 ∧ frHi M M') := by
  obtain ⟨x1, x2⟩ := undo_M (fu := fu) h.2.1 hg.1 hfu
  refine ⟨fun hc => ⟨_, x1 hc, RM1_6 h 1, up_same _ _ _ _, frHi_up (by decide)⟩, fun hc => ?_⟩
  obtain ⟨M', e1, m1, m2, z6, f, f2⟩ := x2 hc
  obtain ⟨h1, h2, h3, h4, h5, h6, h7, h8⟩ := h
  exact ⟨M', e1, ⟨m1, m2, iM_cg h3 (f2 13 (by decide) (by decide)) (f 61 (by decide) (by decide)), oM_cg h4 (f2 27 (by decide) (by decide)) (f 64 (by decide) (by decide)), by rw [f2 14 (by decide) (by decide)]; exact h5, by rw [f2 15 (by decide) (by decide)]; exact h6, by rw [f2 5 (by decide) (by decide)]; exact h7, fun hs => by rw [f 55 (by decide) (by decide)]; exact h8 hs⟩, z6, fun q hq => f q (by omega) (by omega)⟩
theorem undo_RG (hg : RG A H c s B) (hc : 0 < c) : RG (H (c - 1)) H (c - 1) s B := ⟨fun j j0 j1 => ⟨(hg.1 j j0 (by omega)).1, (hg.1 (c - 1) (by omega) (by omega)).2.2 j j0 (by omega), (hg.1 j j0 (by omega)).2.2⟩, hg.2⟩
end RelM
