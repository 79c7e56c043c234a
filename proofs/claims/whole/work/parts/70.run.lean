/-! a script on both sides -/
theorem HC_congr {M M' : Mem} {H : Int → AS} {c : Int} (h : HC M H c) (f : ∀ q, 38 ≤ q → q ≤ 42 → M' q = M q) : HC M' H c := by
  unfold HC at h ⊢
  rw [f 38 (by decide) (by decide), f 39 (by decide) (by decide), f 40 (by decide) (by decide), f 41 (by decide) (by decide), f 42 (by decide) (by decide)]
  exact h
theorem HM_congr {M M' : Mem} {H : Int → AS} {c : Int} (h : HM M H c) (f : M' 52 4 = M 52 4) (f2 : M' 56 = M 56) : HM M' H c := by
  unfold HM pG at h ⊢
  rw [f, f2]
  exact h
theorem CM_cg {M M' : Mem} {A : AS} (h : CM M A) (f : ∀ q, 5 ≤ q → q ≤ 18 → M' q = M q) : CM M' A := ⟨RC_congr h.1 f, h.2⟩
section RunS
variable {fu : Nat}
theorem runScript_C {M : Mem} {T : TX} {r : PRes} {m : Nat} {S : Int → Int} {A : AS} {H : Int → AS} {c : Int} (h : iC M T) (hG : gC M) (hA : CM M A) (hH : HC M H c) (hI : HI A H c) (hP : PR T m 0 0 0 0 0 S r) (hfu : 2000 ≤ fu) :
    (r.1 ≠ 0 → ∃ M', f_X11_runScript fu M = some (M', -1) ∧ iC M' (0, T.2) ∧ M' 45 6 = r.1 ∧ M' 45 7 = r.2.1 ∧ ∀ q, q ≠ 43 → q ≠ 45 → q ≠ 48 → q ≠ 49 → M' q = M q) ∧
    (r.1 = 0 → ∃ M', f_X11_runScript fu M = some (M', (rnA r.2.2.2 r.2.2.1 31 0 A).1) ∧ iC M' (0, T.2) ∧ M' 45 6 = 0 ∧ M' 45 7 = r.2.1 ∧ CM M' (rnA r.2.2.2 r.2.2.1 31 0 A).2 ∧ HC M' (hPush H c A) (imin (c + 1) 8) ∧ ∀ q, (q < 5 ∨ 18 < q) → q ≠ 35 → (q < 38 ∨ 42 < q) → q ≠ 43 → q ≠ 45 → q ≠ 48 → q ≠ 49 → M' q = M q) := by
  obtain ⟨M1, e1, s1, s2, s3, f1⟩ := scriptParse_C (fu := fu) h hG hP (by omega)
  have i2 : iC (up M1 43 0 0) (0, T.2) := ⟨up_same _ _ _ _, Int.le_refl 0, by show (0 : Int) ≤ 600; decide, fun i i0 i1 => absurd i1 (Int.not_lt.mpr i0)⟩
  have fA : ∀ q, q ≠ 43 → q ≠ 45 → q ≠ 48 → q ≠ 49 → up M1 43 0 0 q = M q := fun q q1 q2 q3 q4 => by rw [up_cell _ _ q1]; exact f1 q q2 q3 q4
  unfold f_X11_runScript
  refine ⟨fun h0 => ?_, fun h0 => ?_⟩
  · rw [e1, cal_some, ind_f h0, if_pos rfl]
    exact ⟨_, rfl, i2, by rw [up_cell _ _ (by decide)]; exact s1, by rw [up_cell _ _ (by decide)]; exact s2, fA⟩
  · obtain ⟨k5, g5⟩ := s3 h0
    obtain ⟨-, b0⟩ := PR_b m 0 0 0 0 0 S hP (Int.le_refl 0) (by decide) (fun q q0 q1 => absurd q1 (Int.not_lt.mpr q0)) (fun h9 => absurd h9 (by decide))
    obtain ⟨b1, b2, b3, b4⟩ := b0 h0
    obtain ⟨M2, e2, r2, f2⟩ := keep_C (fu := fu) (M := up M1 43 0 0) (CM_cg hA (fun q q0 q1 => fA q (by omega) (by omega) (by omega) (by omega))) (HC_congr hH (fun q q0 q1 => fA q (by omega) (by omega) (by omega) (by omega))) hfu hI
    have er : rd M2 = rd M1 := by unfold rd; rw [f2 49 (by decide), up_cell _ _ (by decide)]
    obtain ⟨M3, e3, r3, f3⟩ := run_C (fu := fu) (S := r.2.2.2) (c := r.2.2.1) b3 (by omega) fu 31 0 M2 A (CM_cg hA (fun q q0 q1 => by rw [f2 q (by omega)]; exact fA q (by omega) (by omega) (by omega) (by omega))) (by rw [er]; exact g5) (by rw [f2 48 (by decide), up_cell _ _ (by decide)]; exact k5) (Int.le_refl 0) b2 (by omega) (by omega)
    rw [e1, cal_some, ind_t h0, if_neg (by decide), e2, cal_some, e3]
    have e43 : M3 43 = up M1 43 0 0 43 := by rw [f3 43 (by decide) (by decide), f2 43 (by decide)]
    have e45 : M3 45 = M1 45 := by rw [f3 45 (by decide) (by decide), f2 45 (by decide), up_cell _ _ (by decide)]
    refine ⟨M3, rfl, ⟨by rw [e43]; exact up_same _ _ _ _, Int.le_refl 0, by show (0 : Int) ≤ 600; decide, fun i i0 i1 => absurd i1 (Int.not_lt.mpr i0)⟩, by rw [e45, s1]; exact h0, by rw [e45]; exact s2, r3, HC_congr r2 (fun q q0 q1 => f3 q (by omega) (by omega)), fun q q0 q1 q2 q3 q4 q5 q6 => by rw [f3 q q0 q1, f2 q q2]; exact fA q q3 q4 q5 q6⟩
def frR (M M' : Mem) : Prop := (∀ q, q ≠ 52 → q ≠ 53 → q ≠ 56 → q ≠ 57 → q ≠ 58 → q ≠ 60 → q ≠ 62 → M' q = M q) ∧ ∀ i, i ≠ 4 → i ≠ 6 → i ≠ 9 → i < 13 ∨ 24 ≤ i → M' 52 i = M 52 i
theorem runScript_M {M : Mem} {T : TX} {r : PRes} {m : Nat} {S : Int → Int} {A : AS} {H : Int → AS} {c : Int} (h : iM M T) (hA : MM M A) (hH : HM M H c) (hI : HI A H c) (hP : PR T m 0 0 0 0 0 S r) (hfu : 40000 ≤ fu) :
    (r.1 ≠ 0 → ∃ M', f_X12_runScript fu M = some (M', -1) ∧ iM M' (0, T.2) ∧ M' 52 14 = r.1 ∧ M' 52 15 = r.2.1 ∧ M' 52 6 = 0 ∧ (∀ q, q ≠ 52 → q ≠ 58 → q ≠ 62 → M' q = M q) ∧ ∀ i, i ≠ 6 → i ≠ 9 → i < 13 ∨ 24 ≤ i → M' 52 i = M 52 i) ∧
    (r.1 = 0 → ∃ M', f_X12_runScript fu M = some (M', (rnA r.2.2.2 r.2.2.1 31 0 A).1) ∧ iM M' (0, T.2) ∧ M' 52 14 = 0 ∧ M' 52 15 = r.2.1 ∧ M' 52 6 = 0 ∧ MM M' (rnA r.2.2.2 r.2.2.1 31 0 A).2 ∧ HM M' (hPush H c A) (imin (c + 1) 8) ∧ frR M M') := by
  have i0 : iM (up (up M 52 6 0) 52 23 0) T := by
    obtain ⟨g1, g2, g3, g4⟩ := h
    exact ⟨by rw [up_at (Or.inr (by decide)), up_at (Or.inr (by decide))]; exact g1, g2, g3, fun i i0 i1 => by rw [up_cell _ _ (by decide), up_cell _ _ (by decide)]; exact g4 i i0 i1⟩
  obtain ⟨M1, e1, a1, k1, f1⟩ := beginText_M (fu := fu) i0 (by omega)
  have i1 := iM_E i0 f1
  have hT := h.2.2.1
  obtain ⟨M2, e2, f2, k2, k3, k4, k5⟩ := stop_M (fu := fu) (by omega) m m fu 0 0 S M1 (Nat.le_refl m) hP i1 (Int.le_refl 0) h.2.1 k1 a1 (by rw [f1.2 23 (by decide)]; exact up_same _ _ _ _) (fun q q0 q1 => absurd q1 (Int.not_lt.mpr q0)) (Int.le_refl 0) (by decide) (by omega)
  obtain ⟨-, b0⟩ := PR_b m 0 0 0 0 0 S hP (Int.le_refl 0) (by decide) (fun q q0 q1 => absurd q1 (Int.not_lt.mpr q0)) (fun h9 => absurd h9 (by decide))
  obtain ⟨M3, e3, i3, n14, n15, g3, g4⟩ := endText_M (fu := fu) (iM_Q i1 f2) k2 k4 (fun h9 => (b0 h9).1)
  have fall : ∀ q, q ≠ 52 → q ≠ 58 → q ≠ 62 → M3 q = M q := fun q q1 q2 q3 => by rw [g3 q q1, f2.1 q q1 q2 q3, f1.1 q q1, up_cell _ _ q1, up_cell _ _ q1]
  have fsl : ∀ i, i ≠ 6 → i ≠ 9 → i < 13 ∨ 24 ≤ i → M3 52 i = M 52 i := fun i i1 i2 i3 => by rw [g4 i (by omega) (by omega) (by omega), f2.2 i i2 (by omega) (by omega), f1.2 i (by omega), up_at (Or.inr (by omega)), up_at (Or.inr i1)]
  have z6 : M3 52 6 = 0 := by rw [g4 6 (by decide) (by decide) (by decide), f2.2 6 (by decide) (by decide) (by decide), f1.2 6 (by decide), up_at (Or.inr (by decide)), up_same]
  have z20 : M3 52 20 = r.1 := by rw [g4 20 (by decide) (by decide) (by decide)]; exact k2
  unfold f_X12_runScript
  rw [e1, cal_some, e2]
  unfold f_X12_runScript_J35
  rw [e3, cal_some, z20]
  refine ⟨fun h0 => ?_, fun h0 => ?_⟩
  · rw [if_neg (by omega)]
    exact ⟨M3, rfl, i3, n14, n15, z6, fall, fsl⟩
  · obtain ⟨k23, g5⟩ := k5 h0
    obtain ⟨b1, b2, b3, b4⟩ := b0 h0
    obtain ⟨M4, e4, r4, f4⟩ := remember_M (fu := fu) (M := M3) (MM_congr hA (fall 53 (by decide) (by decide) (by decide))) (HM_congr hH (fsl 4 (by decide) (by decide) (by decide)) (fall 56 (by decide) (by decide) (by decide))) hI hfu
    have er : rdm M4 = rdm M2 := by unfold rdm; rw [f4.1 62 (by decide) (by decide), g3 62 (by decide)]
    obtain ⟨M5, e5, r5, f5⟩ := run_M (fu := fu) (S := r.2.2.2) (c := r.2.2.1) b3 b4 (by omega) fu 31 0 M4 A (MM_congr hA (by rw [f4.1 53 (by decide) (by decide)]; exact fall 53 (by decide) (by decide) (by decide))) (by rw [er]; exact g5) (by rw [f4.2 23 (by decide), g4 23 (by decide) (by decide) (by decide)]; exact k23) (Int.le_refl 0) b2 (by omega) (by omega)
    have e52 : M5 52 = M4 52 := f5 52 (by decide) (by decide) (by decide)
    rw [if_pos (by omega), e4, cal_some, e5]
    refine ⟨M5, rfl, ⟨by rw [e52, f4.2 13 (by decide)]; exact i3.1, Int.le_refl 0, by show (0 : Int) ≤ 600; decide, fun i i0 i1 => absurd i1 (Int.not_lt.mpr i0)⟩, by rw [e52, f4.2 14 (by decide), n14, h0], by rw [e52, f4.2 15 (by decide)]; exact n15, by rw [e52, f4.2 6 (by decide)]; exact z6, r5, HM_congr r4 (by rw [e52]) (f5 56 (by decide) (by decide) (by decide)), ⟨fun q q1 q2 q3 q4 q5 q6 q7 => by rw [f5 q q2 q4 q6, f4.1 q q1 q3]; exact fall q q1 q5 q7, fun i h1 h2 h3 h4 => by rw [e52, f4.2 i h1]; exact fsl i h2 h3 h4⟩⟩
end RunS
