/-! the class's changes -/
section RelD
variable {fu : Nat} {M : Mem} {A B : AS} {H : Int → AS} {c : Int} {T TO : TX} {e o s : Int}
theorem chg_RC (h : RC1 M A H c T TO e o s B) (hg : RG A H c s B) (hfu : 2000 ≤ fu) : ∃ M1, f_X1_keep fu M = some (M1, 0) ∧ CM M1 A ∧ ∀ M2 A', CM M2 A' → frXq M1 M2 → RC1 M2 A' (hPush H c A) (imin (c + 1) 8) T TO e o s B ∧ frLo M M2 := by
  obtain ⟨h1, h2, h3, h4, h5, h6, h7, h8, h9⟩ := h
  obtain ⟨M1, e1, r1, f1⟩ := keep_C (fu := fu) h1 h2 hfu hg.1
  refine ⟨M1, e1, CM_cg h1 (fun q _ q1 => f1 q (by omega)), fun M2 A' m2 f2 => ?_⟩
  have g : ∀ q, q < 5 ∨ 18 < q → q ≠ 35 → q < 38 ∨ 42 < q → M2 q = M q := fun q q1 q2 q3 => by rw [f2 q q1 q2, f1 q q3]
  exact ⟨⟨m2, HC_congr r1 (fun q _ q1 => f2 q (by omega) (by omega)), iC_cg h3 (g 43 (by decide) (by decide) (by decide)) (g 44 (by decide) (by decide) (by decide)), oC_cg h4 (g 50 (by decide) (by decide) (by decide)) (g 51 (by decide) (by decide) (by decide)), by rw [g 45 (by decide) (by decide) (by decide)]; exact h5, by rw [g 45 (by decide) (by decide) (by decide)]; exact h6, fun i i0 i1 => by rw [g 1 (by decide) (by decide) (by decide)]; exact h7 i i0 i1, by rw [g 3 (by decide) (by decide) (by decide)]; exact h8, fun hs => RS_cg (h9 hs) (fun q _ q1 => g q (by omega) (by omega) (by omega))⟩, fun q hq => g q (by omega) (by omega) (by omega)⟩
theorem goBack_RC (h : RC1 M A H c T TO e o s B) (hg : RG A H c s B) (hc : 0 < c) (hfu : 2000 ≤ fu) : ∃ M', f_X1_goBack fu M = some (M', 0) ∧ RC1 M' (H (c - 1)) H (c - 1) T TO e o s B ∧ frLo M M' := by
  obtain ⟨h1, h2, h3, h4, h5, h6, h7, h8, h9⟩ := h
  obtain ⟨M', e1, m1, m2, -, f⟩ := goBack_C (fu := fu) h1 h2 hg.1 hc hfu
  exact ⟨M', e1, ⟨m1, m2, iC_cg h3 (f 43 (by decide) (by decide)) (f 44 (by decide) (by decide)), oC_cg h4 (f 50 (by decide) (by decide)) (f 51 (by decide) (by decide)), by rw [f 45 (by decide) (by decide)]; exact h5, by rw [f 45 (by decide) (by decide)]; exact h6, fun i i0 i1 => by rw [f 1 (by decide) (by decide)]; exact h7 i i0 i1, by rw [f 3 (by decide) (by decide)]; exact h8, fun hs => RS_cg (h9 hs) (fun q _ q1 => f q (by omega) (by omega))⟩, fun q hq => f q (by omega) (by omega)⟩
theorem restore_RC (h : RC1 M A H c T TO e o s B) (hg : RG A H c s B) (hs : s = 1) (hfu : 2000 ≤ fu) : ∃ M', f_X8_copyFrom_i1 fu M = some (M', 0) ∧ RC1 (up M' 38 0 0) B H 0 T TO e o s B ∧ frLo M (up M' 38 0 0) := by
  obtain ⟨h1, h2, h3, h4, h5, h6, h7, h8, h9⟩ := h
  obtain ⟨M', e1, m1, f⟩ := restore_C (fu := fu) (h9 hs) (hg.2.2 hs) hfu
  have g : ∀ q, q ≠ 38 → q < 5 ∨ 18 < q → up M' 38 0 0 q = M q := fun q q1 q2 => by rw [up_cell _ _ q1]; exact f q q2
  have e38 : up M' 38 0 0 38 1 = M 38 1 := by rw [up_at (Or.inr (by decide)), f 38 (by decide)]
  refine ⟨M', e1, ⟨CM_cg m1 (fun q _ q1 => up_cell _ _ (by omega)), ⟨up_same _ _ _ _, by decide, by rw [e38]; exact h2.2.2.1, fun j j0 j1 => absurd j1 (Int.not_lt.mpr j0)⟩, iC_cg h3 (g 43 (by decide) (by decide)) (g 44 (by decide) (by decide)), oC_cg h4 (g 50 (by decide) (by decide)) (g 51 (by decide) (by decide)), by rw [g 45 (by decide) (by decide)]; exact h5, by rw [g 45 (by decide) (by decide)]; exact h6, fun i i0 i1 => by rw [g 1 (by decide) (by decide)]; exact h7 i i0 i1, by rw [g 3 (by decide) (by decide)]; exact h8, fun z => RS_cg (h9 z) (fun q _ q1 => g q (by omega) (by omega))⟩, fun q hq => g q (by omega) (by omega)⟩
theorem write_RC (h : RC1 M A H c T TO e o s B) (hfu : 1000 ≤ fu) {v : Int} (h0 : 0 ≤ v) (hv : v < aV A) : ∃ M', f_X4_write fu M v = some (M', 0) ∧ RC1 M' A H c T (vText A v) e o s B ∧ frLo M M' := by
  obtain ⟨h1, h2, h3, h4, h5, h6, h7, h8, h9⟩ := h
  obtain ⟨M', e1, o1, f⟩ := write_C (fu := fu) hfu h1 h0 hv
  exact ⟨M', e1, ⟨CM_cg h1 (fun q _ q1 => f q (by omega) (by omega)), HC_congr h2 (fun q _ q1 => f q (by omega) (by omega)), iC_cg h3 (f 43 (by decide) (by decide)) (f 44 (by decide) (by decide)), o1, by rw [f 45 (by decide) (by decide)]; exact h5, by rw [f 45 (by decide) (by decide)]; exact h6, fun i i0 i1 => by rw [f 1 (by decide) (by decide)]; exact h7 i i0 i1, by rw [f 3 (by decide) (by decide)]; exact h8, fun hs => RS_cg (h9 hs) (fun q _ q1 => f q (by omega) (by omega))⟩, fun q hq => f q (by omega) (by omega)⟩
theorem writeVersion_RM (h : RM1 M A H c T TO e o s B) (hfu : 1000 ≤ fu) (v : Int) :
    (fltR A v ≠ 0 → f_X12_writeVersion fu M v = some (up M 52 6 (thR (fltR A v)), 0)) ∧ (fltR A v = 0 → ∃ M', f_X12_writeVersion fu M v = some (M', (vText A v).1) ∧ RM1 M' A H c T (vText A v) e o s B ∧ M' 52 6 = 0 ∧ frHi M M') := by
  obtain ⟨x1, x2⟩ := writeVersion_M (fu := fu) (v := v) hfu h.1
  refine ⟨x1, fun hf => ?_⟩
  obtain ⟨h1, h2, h3, h4, h5, h6, h7, h8⟩ := h
  obtain ⟨M', e1, o1, z6, f, f2⟩ := x2 hf
  exact ⟨M', e1, ⟨MM_congr h1 (f 53 (by decide) (by decide)), HM_congr h2 (f2 4 (by decide) (by decide)) (f 56 (by decide) (by decide)), iM_cg h3 (f2 13 (by decide) (by decide)) (f 61 (by decide) (by decide)), o1, by rw [f2 14 (by decide) (by decide)]; exact h5, by rw [f2 15 (by decide) (by decide)]; exact h6, by rw [f2 5 (by decide) (by decide)]; exact h7, fun hs => by rw [f 55 (by decide) (by decide)]; exact h8 hs⟩, z6, fun q hq => f q (by omega) (by omega)⟩
theorem truncateInput_RC (h : RC1 M A H c T TO e o s B) (n : Int) : ∃ M', f_X11_truncateInput fu M n = some (M', if 0 ≤ n ∧ n ≤ T.1 then 1 else 0) ∧ RC1 M' A H c (if 0 ≤ n ∧ n ≤ T.1 then (n, T.2) else T) TO e o s B ∧ frLo M M' := by
  obtain ⟨x1, x2⟩ := truncateInput_C (fu := fu) h.2.2.1 n
  by_cases hn : 0 ≤ n ∧ n ≤ T.1
  · rw [if_pos hn] at x1
    rw [if_pos hn, if_pos hn]
    obtain ⟨h1, h2, h3, h4, h5, h6, h7, h8, h9⟩ := h
    have f : ∀ q, q ≠ 43 → up M 43 0 n q = M q := fun q hq => up_cell _ _ hq
    exact ⟨_, x1, ⟨CM_cg h1 (fun q _ q1 => f q (by omega)), HC_congr h2 (fun q _ q1 => f q (by omega)), x2 hn, oC_cg h4 (f 50 (by decide)) (f 51 (by decide)), by rw [f 45 (by decide)]; exact h5, by rw [f 45 (by decide)]; exact h6, fun i i0 i1 => by rw [f 1 (by decide)]; exact h7 i i0 i1, by rw [f 3 (by decide)]; exact h8, fun hs => RS_cg (h9 hs) (fun q _ q1 => f q (by omega))⟩, fun q hq => f q (by omega)⟩
  · rw [if_neg hn] at x1
    rw [if_neg hn, if_neg hn]
    exact ⟨M, x1, h, fun _ _ => rfl⟩
end RelD
