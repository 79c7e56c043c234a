/-! readers -/
section RelE
variable {fu : Nat} {M : Mem} {A B : AS} {H : Int → AS} {c : Int} {T TO : TX} {e o s : Int}
theorem RC1_scr {M' : Mem} (h : RC1 M A H c T TO e o s B) (f : ∀ q, q < 34 ∨ 37 < q → M' q = M q) : RC1 M' A H c T TO e o s B ∧ frLo M M' := by
  obtain ⟨h1, h2, h3, h4, h5, h6, h7, h8, h9⟩ := h
  exact ⟨⟨CM_cg h1 (fun q _ q1 => f q (by omega)), HC_congr h2 (fun q _ q1 => f q (by omega)), iC_cg h3 (f 43 (by decide)) (f 44 (by decide)), oC_cg h4 (f 50 (by decide)) (f 51 (by decide)), by rw [f 45 (by decide)]; exact h5, by rw [f 45 (by decide)]; exact h6, fun i i0 i1 => by rw [f 1 (by decide)]; exact h7 i i0 i1, by rw [f 3 (by decide)]; exact h8, fun hs => RS_cg (h9 hs) (fun q _ q1 => f q (by omega))⟩, fun q hq => f q (by omega)⟩
theorem RM1_scr {M' : Mem} (h : RM1 M A H c T TO e o s B) (f : ∀ q, q ≠ 52 → q ≠ 57 → q ≠ 59 → q ≠ 60 → q ≠ 63 → M' q = M q) (f2 : ∀ i, i ≠ 6 → i < 24 ∨ 26 < i → M' 52 i = M 52 i) : RM1 M' A H c T TO e o s B ∧ frHi M M' := by
  obtain ⟨h1, h2, h3, h4, h5, h6, h7, h8⟩ := h
  exact ⟨⟨MM_congr h1 (f 53 (by decide) (by decide) (by decide) (by decide) (by decide)), HM_congr h2 (f2 4 (by decide) (by decide)) (f 56 (by decide) (by decide) (by decide) (by decide) (by decide)), iM_cg h3 (f2 13 (by decide) (by decide)) (f 61 (by decide) (by decide) (by decide) (by decide) (by decide)), oM_cg h4 (f2 27 (by decide) (by decide)) (f 64 (by decide) (by decide) (by decide) (by decide) (by decide)), by rw [f2 14 (by decide) (by decide)]; exact h5, by rw [f2 15 (by decide) (by decide)]; exact h6, by rw [f2 5 (by decide) (by decide)]; exact h7, fun hs => by rw [f 55 (by decide) (by decide) (by decide) (by decide) (by decide)]; exact h8 hs⟩, fun q hq => f q (by omega) (by omega) (by omega) (by omega) (by omega)⟩
theorem truncateInput_RM (h : RM1 M A H c T TO e o s B) (n : Int) : ∃ M', f_X12_truncateInput fu M n = some (M', if 0 ≤ n ∧ n ≤ T.1 then 1 else 0) ∧ RM1 M' A H c (if 0 ≤ n ∧ n ≤ T.1 then (n, T.2) else T) TO e o s B ∧ M' 52 6 = 0 ∧ frHi M M' := by
  obtain ⟨x1, x2⟩ := truncateInput_M (fu := fu) h.2.2.1 n
  by_cases hn : 0 ≤ n ∧ n ≤ T.1
  · rw [if_pos hn] at x1
    rw [if_pos hn, if_pos hn]
    obtain ⟨h1, h2, h3, h4, h5, h6, h7, h8⟩ := RM1_6 h 0
    have f : ∀ q, q ≠ 52 → up (up M 52 6 0) 52 13 n q = up M 52 6 0 q := fun q hq => up_cell _ _ hq
    have f2 : ∀ i, i ≠ 13 → up (up M 52 6 0) 52 13 n 52 i = up M 52 6 0 52 i := fun i hi => up_at (Or.inr hi)
    exact ⟨_, x1, ⟨MM_congr h1 (f 53 (by decide)), HM_congr h2 (f2 4 (by decide)) (f 56 (by decide)), x2 hn, oM_cg h4 (f2 27 (by decide)) (f 64 (by decide)), by rw [f2 14 (by decide)]; exact h5, by rw [f2 15 (by decide)]; exact h6, by rw [f2 5 (by decide)]; exact h7, fun hs => by rw [f 55 (by decide)]; exact h8 hs⟩, by rw [f2 6 (by decide), up_same], fun q hq => by rw [f q (by omega), up_cell _ _ (by omega)]⟩
  · rw [if_neg hn] at x1
    rw [if_neg hn, if_neg hn]
    exact ⟨_, x1, RM1_6 h 0, up_same _ _ _ _, frHi_up (by decide)⟩
theorem outputByte_RC (h : RC1 M A H c T TO e o s B) (i : Int) : f_X11_outputByte fu M i = some (M, if 0 ≤ i ∧ i < TO.1 then TO.2 i else -1) := outByte_C h.2.2.2.1 i
theorem outputByte_RM (h : RM1 M A H c T TO e o s B) (i : Int) : f_X12_outputByte fu M i = some (up M 52 6 0, if 0 ≤ i ∧ i < TO.1 then TO.2 i else -1) := outByte_M h.2.2.2.1 i
end RelE
