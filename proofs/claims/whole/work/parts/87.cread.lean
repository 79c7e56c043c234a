/-! the law's cases of readers: both sides answer the same -/
section Cases
variable {fu : Nat} {M : Mem} {A B : AS} {H : Int → AS} {c : Int} {T TO : TX} {e o s : Int}
theorem thR_z {f : Int} (h : thR f = 0) : f = 0 := by
  unfold thR at h
  split at h
  · cases h
  · exact h
theorem tail_okb {M9 : Mem} {r4 r10 : Int} (hr : r10 = 0 ∨ r10 = 1) (h6 : M9 52 6 = r4) (h65 : r4 = 0 → M9 65 0 = r10) : (cal (f_X12_thrown fu M9) fun M12 r13 => if r13 = r4 then (if r4 = (0 : Int) then (if r10 = (0 : Int) then (if lcmpI (M12 65 ((0 : Int) : Int).toNat) (0 : Int) = (0 : Int) then (some (M12, (0 : Int))) else (none)) else (if lcmpI (M12 65 ((0 : Int) : Int).toNat) (1 : Int) = (0 : Int) then (some (M12, (0 : Int))) else (none))) else (some (M12, 0))) else (none)) = some (M9, (0 : Int)) := by
  rw [thrown_M, cal_some, if_pos h6]
  by_cases h0 : r4 = 0
  · rw [if_pos h0]
    have h7 := h65 h0
    rcases hr with rfl | rfl
    · rw [if_pos rfl, if_pos]
      show lcmpI (M9 65 0) 0 = 0
      rw [h7]; rfl
    · rw [if_neg (by decide), if_pos]
      show lcmpI (M9 65 0) 1 = 0
      rw [h7]; rfl
  · rw [if_neg h0]
theorem case8_ok (hI : INV M A H c T TO e o s B) (hfu : 40000 ≤ fu) {nS : Nat} {x4 : Int} (hx : 0 ≤ x4) (hn : x4 + 6 ≤ nS) (hS : nS ≤ 3072) : ∃ M', f_L_case8 fu nS M x4 = some (M', 0) ∧ LOK M M' := by
  have g1 : rng (x4 + (1 : Int)) := ⟨by omega, by omega⟩
  have b1 : 0 ≤ x4 + (1 : Int) ∧ x4 + (1 : Int) < nS := ⟨by omega, by omega⟩
  unfold f_L_case8
  rw [grd_pos g1, grd_pos b1]
  generalize ha1 : M 2 (x4 + (1 : Int)).toNat = a1
  obtain ⟨M3, e3, i3, s3, o3⟩ := wrp_rd (w := w1) hI (isReleased_X (fu := fu) hI.1.1 a1) (fun _ _ => rfl) (xI_rng _) (k := xI (0 ≤ a1 ∧ a1 < aV A)) (fun z => z) (fun z => w1_ok z)
  have hr : (if 0 ≤ a1 ∧ a1 < aV A then rlA A a1 else 0) = 0 ∨ (if 0 ≤ a1 ∧ a1 < aV A then rlA A a1 else 0) = 1 := by
    by_cases hv : 0 ≤ a1 ∧ a1 < aV A
    · have := (hI.1.1.2.2.2.2.1 a1 hv.1 hv.2).2.1
      rw [if_pos hv]; omega
    · rw [if_neg hv]; exact Or.inl rfl
  have e4 : f_L_isReleased fu M a1 = some (M3, xI (0 ≤ a1 ∧ a1 < aV A)) := by
    unfold f_L_isReleased
    rw [wrp_b (isReleased_X (fu := fu) hI.1.1 a1) hr]
    exact e3
  rw [e4, cal_some, grd_pos g1, grd_pos b1, s3, ha1]
  have eM := isReleased_M (fu := fu) i3.2.1.1 a1
  rw [xI_ind] at eM
  rw [eM, cal_some]
  obtain ⟨i9, s9, o9⟩ := md_6 i3 (xI (0 ≤ a1 ∧ a1 < aV A))
  refine ⟨_, tail_okb hr (up_same _ _ _ _) (fun hz => ?_), by rw [s9, s3], A, H, c, T, TO, e, o, s, B, i9⟩
  rw [o9, o3 hz]
theorem case9_ok (hI : INV M A H c T TO e o s B) (hfu : 40000 ≤ fu) {nS : Nat} {x4 : Int} (hx : 0 ≤ x4) (hn : x4 + 6 ≤ nS) (hS : nS ≤ 3072) : ∃ M', f_L_case9 fu nS M x4 = some (M', 0) ∧ LOK M M' := by
  have g1 : rng (x4 + (1 : Int)) := ⟨by omega, by omega⟩
  have b1 : 0 ≤ x4 + (1 : Int) ∧ x4 + (1 : Int) < nS := ⟨by omega, by omega⟩
  unfold f_L_case9
  rw [grd_pos g1, grd_pos b1]
  generalize ha1 : M 2 (x4 + (1 : Int)).toNat = a1
  obtain ⟨M3, e3, i3, s3, o3⟩ := wrp_rd (w := w1) hI (parentOf_X (fu := fu) hI.1.1 a1) (fun _ _ => rfl) (xI_rng _) (k := xI (0 ≤ a1 ∧ a1 < aV A)) (fun z => z) (fun z => w1_ok z)
  have e4 : f_L_parentOf fu M a1 = some (M3, xI (0 ≤ a1 ∧ a1 < aV A)) := by
    unfold f_L_parentOf
    rw [wrp_1]
    exact e3
  rw [e4, cal_some, grd_pos g1, grd_pos b1, s3, ha1]
  have eM := parentOf_M (fu := fu) i3.2.1.1 a1
  rw [xI_ind] at eM
  rw [eM, cal_some]
  obtain ⟨i9, s9, o9⟩ := md_6 i3 (xI (0 ≤ a1 ∧ a1 < aV A))
  refine ⟨_, tail_ok (up_same _ _ _ _) (fun hz => ?_), by rw [s9, s3], A, H, c, T, TO, e, o, s, B, i9⟩
  rw [o9, o3 hz, if_pos (xI_0 hz)]
theorem case10_ok (hI : INV M A H c T TO e o s B) (hfu : 40000 ≤ fu) {nS : Nat} {x4 : Int} (hx : 0 ≤ x4) (hn : x4 + 6 ≤ nS) (hS : nS ≤ 3072) : ∃ M', f_L_case10 fu nS M x4 = some (M', 0) ∧ LOK M M' := by
  have g1 : rng (x4 + (1 : Int)) := ⟨by omega, by omega⟩
  have b1 : 0 ≤ x4 + (1 : Int) ∧ x4 + (1 : Int) < nS := ⟨by omega, by omega⟩
  unfold f_L_case10
  rw [grd_pos g1, grd_pos b1]
  generalize ha1 : M 2 (x4 + (1 : Int)).toNat = a1
  obtain ⟨M3, e3, i3, s3, o3⟩ := wrp_rd (w := w1) hI (depthOf_X (fu := fu) hI.1.1 a1 (by omega)) (fun _ _ => rfl) (xI_rng _) (k := xI (0 ≤ a1 ∧ a1 < aV A)) (fun z => z) (fun z => w1_ok z)
  have e4 : f_L_depthOf fu M a1 = some (M3, xI (0 ≤ a1 ∧ a1 < aV A)) := by
    unfold f_L_depthOf
    rw [wrp_1]
    exact e3
  rw [e4, cal_some, grd_pos g1, grd_pos b1, s3, ha1]
  have eM := depthOf_M (fu := fu) i3.2.1.1 a1 (by omega)
  rw [xI_ind] at eM
  rw [eM, cal_some]
  obtain ⟨i9, s9, o9⟩ := md_6 i3 (xI (0 ≤ a1 ∧ a1 < aV A))
  refine ⟨_, tail_ok (up_same _ _ _ _) (fun hz => ?_), by rw [s9, s3], A, H, c, T, TO, e, o, s, B, i9⟩
  rw [o9, o3 hz, if_pos (xI_0 hz)]
theorem case11_ok (hI : INV M A H c T TO e o s B) (hfu : 40000 ≤ fu) {nS : Nat} {x4 : Int} (hx : 0 ≤ x4) (hn : x4 + 6 ≤ nS) (hS : nS ≤ 3072) : ∃ M', f_L_case11 fu nS M x4 = some (M', 0) ∧ LOK M M' := by
  have g1 : rng (x4 + (1 : Int)) := ⟨by omega, by omega⟩
  have b1 : 0 ≤ x4 + (1 : Int) ∧ x4 + (1 : Int) < nS := ⟨by omega, by omega⟩
  unfold f_L_case11
  rw [grd_pos g1, grd_pos b1]
  generalize ha1 : M 2 (x4 + (1 : Int)).toNat = a1
  obtain ⟨M3, e3, i3, s3, o3⟩ := wrp_rd (w := w1) hI (childCount_X (fu := fu) hI.1.1 a1 (by omega)) (fun _ _ => rfl) (xI_rng _) (k := xI (0 ≤ a1 ∧ a1 < aV A)) (fun z => z) (fun z => w1_ok z)
  have e4 : f_L_childCount fu M a1 = some (M3, xI (0 ≤ a1 ∧ a1 < aV A)) := by
    unfold f_L_childCount
    rw [wrp_1]
    exact e3
  rw [e4, cal_some, grd_pos g1, grd_pos b1, s3, ha1]
  have eM := childCount_M (fu := fu) i3.2.1.1 a1 (by omega)
  rw [xI_ind] at eM
  rw [eM, cal_some]
  obtain ⟨i9, s9, o9⟩ := md_6 i3 (xI (0 ≤ a1 ∧ a1 < aV A))
  refine ⟨_, tail_ok (up_same _ _ _ _) (fun hz => ?_), by rw [s9, s3], A, H, c, T, TO, e, o, s, B, i9⟩
  rw [o9, o3 hz, if_pos (xI_0 hz)]
theorem case12_ok (hI : INV M A H c T TO e o s B) (hfu : 40000 ≤ fu) {nS : Nat} {x4 : Int} (hx : 0 ≤ x4) (hn : x4 + 6 ≤ nS) (hS : nS ≤ 3072) : ∃ M', f_L_case12 fu nS M x4 = some (M', 0) ∧ LOK M M' := by
  have g1 : rng (x4 + (1 : Int)) := ⟨by omega, by omega⟩
  have b1 : 0 ≤ x4 + (1 : Int) ∧ x4 + (1 : Int) < nS := ⟨by omega, by omega⟩
  have g2 : rng (x4 + (2 : Int)) := ⟨by omega, by omega⟩
  have b2 : 0 ≤ x4 + (2 : Int) ∧ x4 + (2 : Int) < nS := ⟨by omega, by omega⟩
  unfold f_L_case12
  rw [grd_pos g1, grd_pos b1, grd_pos g2, grd_pos b2]
  generalize ha1 : M 2 (x4 + (1 : Int)).toNat = a1
  generalize ha2 : M 2 (x4 + (2 : Int)).toNat = a2
  obtain ⟨M3, e3, i3, s3, o3⟩ := wrp_rd (w := w1) hI (commonAncestor_X (fu := fu) hI.1.1 a1 a2 (by omega)) (fun _ _ => rfl) (xI_rng _) (k := xI ((0 ≤ a1 ∧ a1 < aV A) ∧ 0 ≤ a2 ∧ a2 < aV A)) (fun z => z) (fun z => w1_ok z)
  have e4 : f_L_commonAncestor fu M a1 a2 = some (M3, xI ((0 ≤ a1 ∧ a1 < aV A) ∧ 0 ≤ a2 ∧ a2 < aV A)) := by
    unfold f_L_commonAncestor
    rw [wrp_1]
    exact e3
  rw [e4, cal_some, grd_pos g1, grd_pos b1, grd_pos g2, grd_pos b2, s3, ha1, ha2]
  have eM := commonAncestor_M (fu := fu) i3.2.1.1 a1 a2 (by omega)
  rw [xI_ind] at eM
  rw [eM, cal_some]
  obtain ⟨i9, s9, o9⟩ := md_6 i3 (xI ((0 ≤ a1 ∧ a1 < aV A) ∧ 0 ≤ a2 ∧ a2 < aV A))
  refine ⟨_, tail_ok (up_same _ _ _ _) (fun hz => ?_), by rw [s9, s3], A, H, c, T, TO, e, o, s, B, i9⟩
  rw [o9, o3 hz, if_pos (xI_0 hz)]
theorem case13_ok (hI : INV M A H c T TO e o s B) (hfu : 40000 ≤ fu) {nS : Nat} {x4 : Int} (hx : 0 ≤ x4) (hn : x4 + 6 ≤ nS) (hS : nS ≤ 3072) : ∃ M', f_L_case13 fu nS M x4 = some (M', 0) ∧ LOK M M' := by
  have g1 : rng (x4 + (1 : Int)) := ⟨by omega, by omega⟩
  have b1 : 0 ≤ x4 + (1 : Int) ∧ x4 + (1 : Int) < nS := ⟨by omega, by omega⟩
  unfold f_L_case13
  rw [grd_pos g1, grd_pos b1]
  generalize ha1 : M 2 (x4 + (1 : Int)).toNat = a1
  obtain ⟨M3, e3, i3, s3, o3⟩ := wrp_rd (w := w2) hI (size_X (fu := fu) hI.1.1 a1) (fun _ _ => rfl) (r013 (fltR_rng a1)) (k := thR (fltR A a1)) (fun z => by rw [z]; rfl) (fun z => w2_ok (fltR_rng a1) z)
  have e4 : f_L_size fu M a1 = some (M3, thR (fltR A a1)) := by
    unfold f_L_size
    rw [wrp_2]
    exact e3
  rw [e4, cal_some, grd_pos g1, grd_pos b1, s3, ha1]
  have eM := size_M (fu := fu) i3.2.1.1 a1
  rw [eM, cal_some]
  obtain ⟨i9, s9, o9⟩ := md_6 i3 (thR (fltR A a1))
  refine ⟨_, tail_ok (up_same _ _ _ _) (fun hz => ?_), by rw [s9, s3], A, H, c, T, TO, e, o, s, B, i9⟩
  rw [o9, o3 hz, if_pos (thR_z hz)]
theorem case14_ok (hI : INV M A H c T TO e o s B) (hfu : 40000 ≤ fu) {nS : Nat} {x4 : Int} (hx : 0 ≤ x4) (hn : x4 + 6 ≤ nS) (hS : nS ≤ 3072) : ∃ M', f_L_case14 fu nS M x4 = some (M', 0) ∧ LOK M M' := by
  have g1 : rng (x4 + (1 : Int)) := ⟨by omega, by omega⟩
  have b1 : 0 ≤ x4 + (1 : Int) ∧ x4 + (1 : Int) < nS := ⟨by omega, by omega⟩
  unfold f_L_case14
  rw [grd_pos g1, grd_pos b1]
  generalize ha1 : M 2 (x4 + (1 : Int)).toNat = a1
  obtain ⟨M3, e3, i3, s3, o3⟩ := wrp_rd (w := w2) hI (height_X (fu := fu) hI.1.1 a1) (fun _ _ => rfl) (r013 (fltR_rng a1)) (k := thR (fltR A a1)) (fun z => by rw [z]; rfl) (fun z => w2_ok (fltR_rng a1) z)
  have e4 : f_L_height fu M a1 = some (M3, thR (fltR A a1)) := by
    unfold f_L_height
    rw [wrp_2]
    exact e3
  rw [e4, cal_some, grd_pos g1, grd_pos b1, s3, ha1]
  have eM := height_M (fu := fu) i3.2.1.1 a1
  rw [eM, cal_some]
  obtain ⟨i9, s9, o9⟩ := md_6 i3 (thR (fltR A a1))
  refine ⟨_, tail_ok (up_same _ _ _ _) (fun hz => ?_), by rw [s9, s3], A, H, c, T, TO, e, o, s, B, i9⟩
  rw [o9, o3 hz, if_pos (thR_z hz)]
theorem case15_ok (hI : INV M A H c T TO e o s B) (hfu : 40000 ≤ fu) {nS : Nat} {x4 : Int} (hx : 0 ≤ x4) (hn : x4 + 6 ≤ nS) (hS : nS ≤ 3072) : ∃ M', f_L_case15 fu nS M x4 = some (M', 0) ∧ LOK M M' := by
  have g1 : rng (x4 + (1 : Int)) := ⟨by omega, by omega⟩
  have b1 : 0 ≤ x4 + (1 : Int) ∧ x4 + (1 : Int) < nS := ⟨by omega, by omega⟩
  unfold f_L_case15
  rw [grd_pos g1, grd_pos b1]
  generalize ha1 : M 2 (x4 + (1 : Int)).toNat = a1
  obtain ⟨M3, e3, i3, s3, o3⟩ := wrp_rd (w := w2) hI (rootOf_X (fu := fu) hI.1.1 a1) (fun _ _ => rfl) (r013 (fltR_rng a1)) (k := thR (fltR A a1)) (fun z => by rw [z]; rfl) (fun z => w2_ok (fltR_rng a1) z)
  have e4 : f_L_rootOf fu M a1 = some (M3, thR (fltR A a1)) := by
    unfold f_L_rootOf
    rw [wrp_2]
    exact e3
  rw [e4, cal_some, grd_pos g1, grd_pos b1, s3, ha1]
  have eM := rootOf_M (fu := fu) i3.2.1.1 a1
  rw [eM, cal_some]
  obtain ⟨i9, s9, o9⟩ := md_6 i3 (thR (fltR A a1))
  refine ⟨_, tail_ok (up_same _ _ _ _) (fun hz => ?_), by rw [s9, s3], A, H, c, T, TO, e, o, s, B, i9⟩
  rw [o9, o3 hz, if_pos (thR_z hz)]
theorem case16_ok (hI : INV M A H c T TO e o s B) (hfu : 40000 ≤ fu) {nS : Nat} {x4 : Int} (hx : 0 ≤ x4) (hn : x4 + 6 ≤ nS) (hS : nS ≤ 3072) : ∃ M', f_L_case16 fu nS M x4 = some (M', 0) ∧ LOK M M' := by
  have g1 : rng (x4 + (1 : Int)) := ⟨by omega, by omega⟩
  have b1 : 0 ≤ x4 + (1 : Int) ∧ x4 + (1 : Int) < nS := ⟨by omega, by omega⟩
  have g2 : rng (x4 + (2 : Int)) := ⟨by omega, by omega⟩
  have b2 : 0 ≤ x4 + (2 : Int) ∧ x4 + (2 : Int) < nS := ⟨by omega, by omega⟩
  unfold f_L_case16
  rw [grd_pos g1, grd_pos b1, grd_pos g2, grd_pos b2]
  generalize ha1 : M 2 (x4 + (1 : Int)).toNat = a1
  generalize ha2 : M 2 (x4 + (2 : Int)).toNat = a2
  obtain ⟨M3, e3, i3, s3, o3⟩ := wrp_rd (w := w2) hI (get_X (fu := fu) hI.1.1 a1 a2 (by omega)) (fun _ _ => rfl) (r013 (fltE_rng a1 a2)) (k := thR (fltE A a1 a2)) (fun z => by rw [z]; rfl) (fun z => w2_ok (fltE_rng a1 a2) z)
  have e4 : f_L_get fu M a1 a2 = some (M3, thR (fltE A a1 a2)) := by
    unfold f_L_get
    rw [wrp_2]
    exact e3
  rw [e4, cal_some, grd_pos g1, grd_pos b1, grd_pos g2, grd_pos b2, s3, ha1, ha2]
  have eM := get_M (fu := fu) i3.2.1.1 a1 a2
  rw [eM, cal_some]
  obtain ⟨i9, s9, o9⟩ := md_6 i3 (thR (fltE A a1 a2))
  refine ⟨_, tail_ok (up_same _ _ _ _) (fun hz => ?_), by rw [s9, s3], A, H, c, T, TO, e, o, s, B, i9⟩
  rw [o9, o3 hz, if_pos (thR_z hz)]
theorem case17_ok (hI : INV M A H c T TO e o s B) (hfu : 40000 ≤ fu) {nS : Nat} {x4 : Int} (hx : 0 ≤ x4) (hn : x4 + 6 ≤ nS) (hS : nS ≤ 3072) : ∃ M', f_L_case17 fu nS M x4 = some (M', 0) ∧ LOK M M' := by
  have g1 : rng (x4 + (1 : Int)) := ⟨by omega, by omega⟩
  have b1 : 0 ≤ x4 + (1 : Int) ∧ x4 + (1 : Int) < nS := ⟨by omega, by omega⟩
  have g2 : rng (x4 + (2 : Int)) := ⟨by omega, by omega⟩
  have b2 : 0 ≤ x4 + (2 : Int) ∧ x4 + (2 : Int) < nS := ⟨by omega, by omega⟩
  unfold f_L_case17
  rw [grd_pos g1, grd_pos b1, grd_pos g2, grd_pos b2]
  generalize ha1 : M 2 (x4 + (1 : Int)).toNat = a1
  generalize ha2 : M 2 (x4 + (2 : Int)).toNat = a2
  obtain ⟨M3, e3, i3, s3, o3⟩ := wrp_rd (w := w2) hI (leafOf_X (fu := fu) hI.1.1 a1 a2 (by omega)) (fun _ _ => rfl) (r013 (fltE_rng a1 a2)) (k := thR (fltE A a1 a2)) (fun z => by rw [z]; rfl) (fun z => w2_ok (fltE_rng a1 a2) z)
  have e4 : f_L_leafOf fu M a1 a2 = some (M3, thR (fltE A a1 a2)) := by
    unfold f_L_leafOf
    rw [wrp_2]
    exact e3
  rw [e4, cal_some, grd_pos g1, grd_pos b1, grd_pos g2, grd_pos b2, s3, ha1, ha2]
  have eM := leafOf_M (fu := fu) i3.2.1.1 a1 a2 (by omega)
  rw [eM, cal_some]
  obtain ⟨i9, s9, o9⟩ := md_6 i3 (thR (fltE A a1 a2))
  refine ⟨_, tail_ok (up_same _ _ _ _) (fun hz => ?_), by rw [s9, s3], A, H, c, T, TO, e, o, s, B, i9⟩
  rw [o9, o3 hz, if_pos (thR_z hz)]
theorem case18_ok (hI : INV M A H c T TO e o s B) (hfu : 40000 ≤ fu) {nS : Nat} {x4 : Int} (hx : 0 ≤ x4) (hn : x4 + 6 ≤ nS) (hS : nS ≤ 3072) : ∃ M', f_L_case18 fu nS M x4 = some (M', 0) ∧ LOK M M' := by
  have g1 : rng (x4 + (1 : Int)) := ⟨by omega, by omega⟩
  have b1 : 0 ≤ x4 + (1 : Int) ∧ x4 + (1 : Int) < nS := ⟨by omega, by omega⟩
  unfold f_L_case18
  rw [grd_pos g1, grd_pos b1]
  generalize ha1 : M 2 (x4 + (1 : Int)).toNat = a1
  obtain ⟨M3, e3, i3, s3, o3⟩ := wrp_rd (w := w2) hI (sum_X (fu := fu) hI.1.1 a1 (by omega)) (fun _ _ => rfl) (r013 (fltR_rng a1)) (k := thR (fltR A a1)) (fun z => by rw [z]; rfl) (fun z => w2_ok (fltR_rng a1) z)
  have e4 : f_L_sum fu M a1 = some (M3, thR (fltR A a1)) := by
    unfold f_L_sum
    rw [wrp_2]
    exact e3
  rw [e4, cal_some, grd_pos g1, grd_pos b1, s3, ha1]
  have eM := sum_M (fu := fu) i3.2.1.1 a1 (by omega)
  rw [eM, cal_some]
  obtain ⟨i9, s9, o9⟩ := md_6 i3 (thR (fltR A a1))
  refine ⟨_, tail_ok (up_same _ _ _ _) (fun hz => ?_), by rw [s9, s3], A, H, c, T, TO, e, o, s, B, i9⟩
  rw [o9, o3 hz, if_pos (thR_z hz)]
theorem case19_ok (hI : INV M A H c T TO e o s B) (hfu : 40000 ≤ fu) {nS : Nat} {x4 : Int} (hx : 0 ≤ x4) (hn : x4 + 6 ≤ nS) (hS : nS ≤ 3072) : ∃ M', f_L_case19 fu nS M x4 = some (M', 0) ∧ LOK M M' := by
  have g1 : rng (x4 + (1 : Int)) := ⟨by omega, by omega⟩
  have b1 : 0 ≤ x4 + (1 : Int) ∧ x4 + (1 : Int) < nS := ⟨by omega, by omega⟩
  have g2 : rng (x4 + (2 : Int)) := ⟨by omega, by omega⟩
  have b2 : 0 ≤ x4 + (2 : Int) ∧ x4 + (2 : Int) < nS := ⟨by omega, by omega⟩
  unfold f_L_case19
  rw [grd_pos g1, grd_pos b1, grd_pos g2, grd_pos b2]
  generalize ha1 : M 2 (x4 + (1 : Int)).toNat = a1
  generalize ha2 : M 2 (x4 + (2 : Int)).toNat = a2
  obtain ⟨M3, e3, i3, s3, o3⟩ := wrp_rd (w := w2) hI (indexOf_X (fu := fu) hI.1.1 a1 a2 (by omega)) (fun _ _ => rfl) (r013 (fltR_rng a1)) (k := thR (fltR A a1)) (fun z => by rw [z]; rfl) (fun z => w2_ok (fltR_rng a1) z)
  have e4 : f_L_indexOf fu M a1 a2 = some (M3, thR (fltR A a1)) := by
    unfold f_L_indexOf
    rw [wrp_2]
    exact e3
  rw [e4, cal_some, grd_pos g1, grd_pos b1, grd_pos g2, grd_pos b2, s3, ha1, ha2]
  have eM := indexOf_M (fu := fu) i3.2.1.1 a1 a2 (by omega)
  rw [eM, cal_some]
  obtain ⟨i9, s9, o9⟩ := md_6 i3 (thR (fltR A a1))
  refine ⟨_, tail_ok (up_same _ _ _ _) (fun hz => ?_), by rw [s9, s3], A, H, c, T, TO, e, o, s, B, i9⟩
  rw [o9, o3 hz, if_pos (thR_z hz)]
theorem case23_ok (hI : INV M A H c T TO e o s B) (hfu : 40000 ≤ fu) {nS : Nat} {x4 : Int} (hx : 0 ≤ x4) (hn : x4 + 6 ≤ nS) (hS : nS ≤ 3072) : ∃ M', f_L_case23 fu nS M x4 = some (M', 0) ∧ LOK M M' := by
  have g1 : rng (x4 + (1 : Int)) := ⟨by omega, by omega⟩
  have b1 : 0 ≤ x4 + (1 : Int) ∧ x4 + (1 : Int) < nS := ⟨by omega, by omega⟩
  unfold f_L_case23
  rw [grd_pos g1, grd_pos b1]
  generalize ha1 : M 2 (x4 + (1 : Int)).toNat = a1
  obtain ⟨M3, e3, i3, s3, o3⟩ := wrp_rd (w := w1) hI (nodesCreatedFor_X (fu := fu) hI.1.1 a1) (fun _ _ => rfl) (xI_rng _) (k := xI (0 ≤ a1 ∧ a1 < aV A)) (fun z => z) (fun z => w1_ok z)
  have e4 : f_L_nodesCreatedFor fu M a1 = some (M3, xI (0 ≤ a1 ∧ a1 < aV A)) := by
    unfold f_L_nodesCreatedFor
    rw [wrp_1]
    exact e3
  rw [e4, cal_some, grd_pos g1, grd_pos b1, s3, ha1]
  have eM := nodesCreatedFor_M (fu := fu) i3.2.1.1 a1
  rw [xI_ind] at eM
  rw [eM, cal_some]
  obtain ⟨i9, s9, o9⟩ := md_6 i3 (xI (0 ≤ a1 ∧ a1 < aV A))
  refine ⟨_, tail_ok (up_same _ _ _ _) (fun hz => ?_), by rw [s9, s3], A, H, c, T, TO, e, o, s, B, i9⟩
  rw [o9, o3 hz, if_pos (xI_0 hz)]
theorem case24_ok (hI : INV M A H c T TO e o s B) (hfu : 40000 ≤ fu) {nS : Nat} {x4 : Int} (hx : 0 ≤ x4) (hn : x4 + 6 ≤ nS) (hS : nS ≤ 3072) : ∃ M', f_L_case24 fu nS M x4 = some (M', 0) ∧ LOK M M' := by
  have g1 : rng (x4 + (1 : Int)) := ⟨by omega, by omega⟩
  have b1 : 0 ≤ x4 + (1 : Int) ∧ x4 + (1 : Int) < nS := ⟨by omega, by omega⟩
  unfold f_L_case24
  rw [grd_pos g1, grd_pos b1]
  generalize ha1 : M 2 (x4 + (1 : Int)).toNat = a1
  obtain ⟨M3, e3, i3, s3, o3⟩ := wrp_rd (w := w2) hI (nodesOf_X (fu := fu) hI.1.1 a1 (by omega)) (fun _ _ => rfl) (r013 (fltR_rng a1)) (k := thR (fltR A a1)) (fun z => by rw [z]; rfl) (fun z => w2_ok (fltR_rng a1) z)
  have e4 : f_L_nodesOf fu M a1 = some (M3, thR (fltR A a1)) := by
    unfold f_L_nodesOf
    rw [wrp_2]
    exact e3
  rw [e4, cal_some, grd_pos g1, grd_pos b1, s3, ha1]
  obtain ⟨M9, eM, f9⟩ := nodesOf_M (fu := fu) i3.2.1.1 a1 (by omega)
  rw [eM, cal_some]
  obtain ⟨i9, s9, o9, t9⟩ := md_60 i3 f9
  refine ⟨_, tail_ok t9 (fun hz => ?_), by rw [s9, s3], A, H, c, T, TO, e, o, s, B, i9⟩
  rw [o9, o3 hz, if_pos (thR_z hz)]
theorem case25_ok (hI : INV M A H c T TO e o s B) (hfu : 40000 ≤ fu) {nS : Nat} {x4 : Int} (hx : 0 ≤ x4) (hn : x4 + 6 ≤ nS) (hS : nS ≤ 3072) : ∃ M', f_L_case25 fu nS M x4 = some (M', 0) ∧ LOK M M' := by
  have g1 : rng (x4 + (1 : Int)) := ⟨by omega, by omega⟩
  have b1 : 0 ≤ x4 + (1 : Int) ∧ x4 + (1 : Int) < nS := ⟨by omega, by omega⟩
  have g2 : rng (x4 + (2 : Int)) := ⟨by omega, by omega⟩
  have b2 : 0 ≤ x4 + (2 : Int) ∧ x4 + (2 : Int) < nS := ⟨by omega, by omega⟩
  unfold f_L_case25
  rw [grd_pos g1, grd_pos b1, grd_pos g2, grd_pos b2]
  generalize ha1 : M 2 (x4 + (1 : Int)).toNat = a1
  generalize ha2 : M 2 (x4 + (2 : Int)).toNat = a2
  obtain ⟨M1, e1, f1⟩ := sharedNodes_X (fu := fu) hI.1.1 a1 a2 (by omega)
  obtain ⟨M3, e3, i3, s3, o3⟩ := wrp_rd (w := w2) hI e1 (fun q hq => f1 q (by omega)) (r013 (fltRB_rng a1 a2)) (k := thR (fltRB A a1 a2)) (fun z => by rw [z]; rfl) (fun z => w2_ok (fltRB_rng a1 a2) z)
  have e4 : f_L_sharedNodes fu M a1 a2 = some (M3, thR (fltRB A a1 a2)) := by
    unfold f_L_sharedNodes
    rw [wrp_2]
    exact e3
  rw [e4, cal_some, grd_pos g1, grd_pos b1, grd_pos g2, grd_pos b2, s3, ha1, ha2]
  obtain ⟨M9, eM, f9⟩ := sharedNodes_M (fu := fu) i3.2.1.1 a1 a2 (by omega)
  rw [eM, cal_some]
  obtain ⟨i9, s9, o9, t9⟩ := md_60 i3 f9
  refine ⟨_, tail_ok t9 (fun hz => ?_), by rw [s9, s3], A, H, c, T, TO, e, o, s, B, i9⟩
  rw [o9, o3 hz, if_pos (thR_z hz)]
theorem case26_ok (hI : INV M A H c T TO e o s B) (hfu : 40000 ≤ fu) {nS : Nat} {x4 : Int} (hx : 0 ≤ x4) (hn : x4 + 6 ≤ nS) (hS : nS ≤ 3072) : ∃ M', f_L_case26 fu nS M x4 = some (M', 0) ∧ LOK M M' := by
  have g1 : rng (x4 + (1 : Int)) := ⟨by omega, by omega⟩
  have b1 : 0 ≤ x4 + (1 : Int) ∧ x4 + (1 : Int) < nS := ⟨by omega, by omega⟩
  unfold f_L_case26
  rw [grd_pos g1, grd_pos b1]
  generalize ha1 : M 2 (x4 + (1 : Int)).toNat = a1
  obtain ⟨M1, e1, f1⟩ := exclusiveNodes_X (fu := fu) hI.1.1 a1 (by omega)
  obtain ⟨M3, e3, i3, s3, o3⟩ := wrp_rd (w := w2) hI e1 (fun q hq => f1 q (by omega)) (r013 (fltR_rng a1)) (k := thR (fltR A a1)) (fun z => by rw [z]; rfl) (fun z => w2_ok (fltR_rng a1) z)
  have e4 : f_L_exclusiveNodes fu M a1 = some (M3, thR (fltR A a1)) := by
    unfold f_L_exclusiveNodes
    rw [wrp_2]
    exact e3
  rw [e4, cal_some, grd_pos g1, grd_pos b1, s3, ha1]
  obtain ⟨M9, eM, f9⟩ := exclusiveNodes_M (fu := fu) i3.2.1.1 a1 (by omega)
  rw [eM, cal_some]
  obtain ⟨i9, s9, o9, t9⟩ := md_60 i3 f9
  refine ⟨_, tail_ok t9 (fun hz => ?_), by rw [s9, s3], A, H, c, T, TO, e, o, s, B, i9⟩
  rw [o9, o3 hz, if_pos (thR_z hz)]
theorem case27_ok (hI : INV M A H c T TO e o s B) (hfu : 40000 ≤ fu) {nS : Nat} {x4 : Int} (hx : 0 ≤ x4) (hn : x4 + 6 ≤ nS) (hS : nS ≤ 3072) : ∃ M', f_L_case27 fu nS M x4 = some (M', 0) ∧ LOK M M' := by
  have g1 : rng (x4 + (1 : Int)) := ⟨by omega, by omega⟩
  have b1 : 0 ≤ x4 + (1 : Int) ∧ x4 + (1 : Int) < nS := ⟨by omega, by omega⟩
  unfold f_L_case27
  rw [grd_pos g1, grd_pos b1]
  generalize ha1 : M 2 (x4 + (1 : Int)).toNat = a1
  obtain ⟨M3, e3, i3, s3, o3⟩ := wrp_rd (w := w1) hI (isLeaf_X (fu := fu) hI.1.1 a1) (fun _ _ => rfl) (xI_rng _) (k := xI (0 ≤ a1 ∧ a1 < aN A ∧ coA A a1 = 0)) (fun z => z) (fun z => w1_ok z)
  have hr : (if 0 ≤ a1 ∧ a1 < aN A ∧ coA A a1 = 0 then ind (lvA A a1 = 1) else 0) = 0 ∨ (if 0 ≤ a1 ∧ a1 < aN A ∧ coA A a1 = 0 then ind (lvA A a1 = 1) else 0) = 1 := by
    have := ind_rng (lvA A a1 = 1)
    split <;> omega
  have e4 : f_L_isLeaf fu M a1 = some (M3, xI (0 ≤ a1 ∧ a1 < aN A ∧ coA A a1 = 0)) := by
    unfold f_L_isLeaf
    rw [wrp_b (isLeaf_X (fu := fu) hI.1.1 a1) hr]
    exact e3
  rw [e4, cal_some, grd_pos g1, grd_pos b1, s3, ha1]
  have eM := isLeaf_M (fu := fu) i3.2.1.1 a1
  rw [xI_ind] at eM
  rw [eM, cal_some]
  obtain ⟨i9, s9, o9⟩ := md_6 i3 (xI (0 ≤ a1 ∧ a1 < aN A ∧ coA A a1 = 0))
  refine ⟨_, tail_okb hr (up_same _ _ _ _) (fun hz => ?_), by rw [s9, s3], A, H, c, T, TO, e, o, s, B, i9⟩
  rw [o9, o3 hz]
theorem case28_ok (hI : INV M A H c T TO e o s B) (hfu : 40000 ≤ fu) {nS : Nat} {x4 : Int} (hx : 0 ≤ x4) (hn : x4 + 6 ≤ nS) (hS : nS ≤ 3072) : ∃ M', f_L_case28 fu nS M x4 = some (M', 0) ∧ LOK M M' := by
  have g1 : rng (x4 + (1 : Int)) := ⟨by omega, by omega⟩
  have b1 : 0 ≤ x4 + (1 : Int) ∧ x4 + (1 : Int) < nS := ⟨by omega, by omega⟩
  unfold f_L_case28
  rw [grd_pos g1, grd_pos b1]
  generalize ha1 : M 2 (x4 + (1 : Int)).toNat = a1
  obtain ⟨M3, e3, i3, s3, o3⟩ := wrp_rd (w := w1) hI (entryCount_X (fu := fu) hI.1.1 a1) (fun _ _ => rfl) (xI_rng _) (k := xI (0 ≤ a1 ∧ a1 < aN A ∧ coA A a1 = 0)) (fun z => z) (fun z => w1_ok z)
  have e4 : f_L_entryCount fu M a1 = some (M3, xI (0 ≤ a1 ∧ a1 < aN A ∧ coA A a1 = 0)) := by
    unfold f_L_entryCount
    rw [wrp_1]
    exact e3
  rw [e4, cal_some, grd_pos g1, grd_pos b1, s3, ha1]
  have eM := entryCount_M (fu := fu) i3.2.1.1 a1
  rw [xI_ind] at eM
  rw [eM, cal_some]
  obtain ⟨i9, s9, o9⟩ := md_6 i3 (xI (0 ≤ a1 ∧ a1 < aN A ∧ coA A a1 = 0))
  refine ⟨_, tail_ok (up_same _ _ _ _) (fun hz => ?_), by rw [s9, s3], A, H, c, T, TO, e, o, s, B, i9⟩
  rw [o9, o3 hz, if_pos (xI_0 hz)]
theorem case29_ok (hI : INV M A H c T TO e o s B) (hfu : 40000 ≤ fu) {nS : Nat} {x4 : Int} (hx : 0 ≤ x4) (hn : x4 + 6 ≤ nS) (hS : nS ≤ 3072) : ∃ M', f_L_case29 fu nS M x4 = some (M', 0) ∧ LOK M M' := by
  have g1 : rng (x4 + (1 : Int)) := ⟨by omega, by omega⟩
  have b1 : 0 ≤ x4 + (1 : Int) ∧ x4 + (1 : Int) < nS := ⟨by omega, by omega⟩
  have g2 : rng (x4 + (2 : Int)) := ⟨by omega, by omega⟩
  have b2 : 0 ≤ x4 + (2 : Int) ∧ x4 + (2 : Int) < nS := ⟨by omega, by omega⟩
  unfold f_L_case29
  rw [grd_pos g1, grd_pos b1, grd_pos g2, grd_pos b2]
  generalize ha1 : M 2 (x4 + (1 : Int)).toNat = a1
  generalize ha2 : M 2 (x4 + (2 : Int)).toNat = a2
  obtain ⟨M3, e3, i3, s3, o3⟩ := wrp_rd (w := w1) hI (childOf_X (fu := fu) hI.1.1 a1 a2) (fun _ _ => rfl) (xI_rng _) (k := xI (0 ≤ a1 ∧ a1 < aN A ∧ coA A a1 = 0)) (fun z => z) (fun z => w1_ok z)
  have e4 : f_L_childOf fu M a1 a2 = some (M3, xI (0 ≤ a1 ∧ a1 < aN A ∧ coA A a1 = 0)) := by
    unfold f_L_childOf
    rw [wrp_1]
    exact e3
  rw [e4, cal_some, grd_pos g1, grd_pos b1, grd_pos g2, grd_pos b2, s3, ha1, ha2]
  have eM := childOf_M (fu := fu) i3.2.1.1 a1 a2
  rw [xI_ind] at eM
  rw [eM, cal_some]
  obtain ⟨i9, s9, o9⟩ := md_6 i3 (xI (0 ≤ a1 ∧ a1 < aN A ∧ coA A a1 = 0))
  refine ⟨_, tail_ok (up_same _ _ _ _) (fun hz => ?_), by rw [s9, s3], A, H, c, T, TO, e, o, s, B, i9⟩
  rw [o9, o3 hz, if_pos (xI_0 hz)]
theorem case30_ok (hI : INV M A H c T TO e o s B) (hfu : 40000 ≤ fu) {nS : Nat} {x4 : Int} (hx : 0 ≤ x4) (hn : x4 + 6 ≤ nS) (hS : nS ≤ 3072) : ∃ M', f_L_case30 fu nS M x4 = some (M', 0) ∧ LOK M M' := by
  have g1 : rng (x4 + (1 : Int)) := ⟨by omega, by omega⟩
  have b1 : 0 ≤ x4 + (1 : Int) ∧ x4 + (1 : Int) < nS := ⟨by omega, by omega⟩
  unfold f_L_case30
  rw [grd_pos g1, grd_pos b1]
  generalize ha1 : M 2 (x4 + (1 : Int)).toNat = a1
  obtain ⟨M3, e3, i3, s3, o3⟩ := wrp_rd (w := w1) hI (referencesTo_X (fu := fu) hI.1.1 a1 (by omega)) (fun _ _ => rfl) (xI_rng _) (k := xI (0 ≤ a1 ∧ a1 < aN A ∧ coA A a1 = 0)) (fun z => z) (fun z => w1_ok z)
  have e4 : f_L_referencesTo fu M a1 = some (M3, xI (0 ≤ a1 ∧ a1 < aN A ∧ coA A a1 = 0)) := by
    unfold f_L_referencesTo
    rw [wrp_1]
    exact e3
  rw [e4, cal_some, grd_pos g1, grd_pos b1, s3, ha1]
  have eM := referencesTo_M (fu := fu) i3.2.1.1 a1 (by omega)
  rw [xI_ind] at eM
  rw [eM, cal_some]
  obtain ⟨i9, s9, o9⟩ := md_6 i3 (xI (0 ≤ a1 ∧ a1 < aN A ∧ coA A a1 = 0))
  refine ⟨_, tail_ok (up_same _ _ _ _) (fun hz => ?_), by rw [s9, s3], A, H, c, T, TO, e, o, s, B, i9⟩
  rw [o9, o3 hz, if_pos (xI_0 hz)]
theorem case31_ok (hI : INV M A H c T TO e o s B) (hfu : 40000 ≤ fu) {nS : Nat} {x4 : Int} (hx : 0 ≤ x4) (hn : x4 + 6 ≤ nS) (hS : nS ≤ 3072) : ∃ M', f_L_case31 fu nS M x4 = some (M', 0) ∧ LOK M M' := by
  have g1 : rng (x4 + (1 : Int)) := ⟨by omega, by omega⟩
  have b1 : 0 ≤ x4 + (1 : Int) ∧ x4 + (1 : Int) < nS := ⟨by omega, by omega⟩
  have g2 : rng (x4 + (2 : Int)) := ⟨by omega, by omega⟩
  have b2 : 0 ≤ x4 + (2 : Int) ∧ x4 + (2 : Int) < nS := ⟨by omega, by omega⟩
  unfold f_L_case31
  rw [grd_pos g1, grd_pos b1, grd_pos g2, grd_pos b2]
  generalize ha1 : M 2 (x4 + (1 : Int)).toNat = a1
  generalize ha2 : M 2 (x4 + (2 : Int)).toNat = a2
  obtain ⟨M3, e3, i3, s3, o3⟩ := wrp_rd (w := w2) hI (differences_X (fu := fu) hI.1.1 a1 a2 (by omega)) (fun _ _ => rfl) (r013 (fltRB_rng a1 a2)) (k := thR (fltRB A a1 a2)) (fun z => by rw [z]; rfl) (fun z => w2_ok (fltRB_rng a1 a2) z)
  have e4 : f_L_differences fu M a1 a2 = some (M3, thR (fltRB A a1 a2)) := by
    unfold f_L_differences
    rw [wrp_2]
    exact e3
  rw [e4, cal_some, grd_pos g1, grd_pos b1, grd_pos g2, grd_pos b2, s3, ha1, ha2]
  have eM := differences_M (fu := fu) i3.2.1.1 a1 a2 (by omega)
  rw [eM, cal_some]
  obtain ⟨i9, s9, o9⟩ := md_6 i3 (thR (fltRB A a1 a2))
  refine ⟨_, tail_ok (up_same _ _ _ _) (fun hz => ?_), by rw [s9, s3], A, H, c, T, TO, e, o, s, B, i9⟩
  rw [o9, o3 hz, if_pos (thR_z hz)]
theorem case32_ok (hI : INV M A H c T TO e o s B) (hfu : 40000 ≤ fu) {nS : Nat} {x4 : Int} (hx : 0 ≤ x4) (hn : x4 + 6 ≤ nS) (hS : nS ≤ 3072) : ∃ M', f_L_case32 fu nS M x4 = some (M', 0) ∧ LOK M M' := by
  have g1 : rng (x4 + (1 : Int)) := ⟨by omega, by omega⟩
  have b1 : 0 ≤ x4 + (1 : Int) ∧ x4 + (1 : Int) < nS := ⟨by omega, by omega⟩
  have g2 : rng (x4 + (2 : Int)) := ⟨by omega, by omega⟩
  have b2 : 0 ≤ x4 + (2 : Int) ∧ x4 + (2 : Int) < nS := ⟨by omega, by omega⟩
  unfold f_L_case32
  rw [grd_pos g1, grd_pos b1, grd_pos g2, grd_pos b2]
  generalize ha1 : M 2 (x4 + (1 : Int)).toNat = a1
  generalize ha2 : M 2 (x4 + (2 : Int)).toNat = a2
  obtain ⟨M3, e3, i3, s3, o3⟩ := wrp_rd (w := w2) hI (firstDifference_X (fu := fu) hI.1.1 a1 a2 (by omega)) (fun _ _ => rfl) (r013 (fltRB_rng a1 a2)) (k := thR (fltRB A a1 a2)) (fun z => by rw [z]; rfl) (fun z => w2_ok (fltRB_rng a1 a2) z)
  have e4 : f_L_firstDifference fu M a1 a2 = some (M3, thR (fltRB A a1 a2)) := by
    unfold f_L_firstDifference
    rw [wrp_2]
    exact e3
  rw [e4, cal_some, grd_pos g1, grd_pos b1, grd_pos g2, grd_pos b2, s3, ha1, ha2]
  have eM := firstDifference_M (fu := fu) i3.2.1.1 a1 a2 (by omega)
  rw [eM, cal_some]
  obtain ⟨i9, s9, o9⟩ := md_6 i3 (thR (fltRB A a1 a2))
  refine ⟨_, tail_ok (up_same _ _ _ _) (fun hz => ?_), by rw [s9, s3], A, H, c, T, TO, e, o, s, B, i9⟩
  rw [o9, o3 hz, if_pos (thR_z hz)]
theorem case33_ok (hI : INV M A H c T TO e o s B) (hfu : 40000 ≤ fu) {nS : Nat} {x4 : Int} (hx : 0 ≤ x4) (hn : x4 + 6 ≤ nS) (hS : nS ≤ 3072) : ∃ M', f_L_case33 fu nS M x4 = some (M', 0) ∧ LOK M M' := by
  have g1 : rng (x4 + (1 : Int)) := ⟨by omega, by omega⟩
  have b1 : 0 ≤ x4 + (1 : Int) ∧ x4 + (1 : Int) < nS := ⟨by omega, by omega⟩
  have g2 : rng (x4 + (2 : Int)) := ⟨by omega, by omega⟩
  have b2 : 0 ≤ x4 + (2 : Int) ∧ x4 + (2 : Int) < nS := ⟨by omega, by omega⟩
  unfold f_L_case33
  rw [grd_pos g1, grd_pos b1, grd_pos g2, grd_pos b2]
  generalize ha1 : M 2 (x4 + (1 : Int)).toNat = a1
  generalize ha2 : M 2 (x4 + (2 : Int)).toNat = a2
  obtain ⟨M3, e3, i3, s3, o3⟩ := wrp_rd (w := w2) hI (comparisonCost_X (fu := fu) hI.1.1 a1 a2 (by omega)) (fun _ _ => rfl) (r013 (fltRB_rng a1 a2)) (k := thR (fltRB A a1 a2)) (fun z => by rw [z]; rfl) (fun z => w2_ok (fltRB_rng a1 a2) z)
  have e4 : f_L_comparisonCost fu M a1 a2 = some (M3, thR (fltRB A a1 a2)) := by
    unfold f_L_comparisonCost
    rw [wrp_2]
    exact e3
  rw [e4, cal_some, grd_pos g1, grd_pos b1, grd_pos g2, grd_pos b2, s3, ha1, ha2]
  have eM := comparisonCost_M (fu := fu) i3.2.1.1 a1 a2 (by omega)
  rw [eM, cal_some]
  obtain ⟨i9, s9, o9⟩ := md_6 i3 (thR (fltRB A a1 a2))
  refine ⟨_, tail_ok (up_same _ _ _ _) (fun hz => ?_), by rw [s9, s3], A, H, c, T, TO, e, o, s, B, i9⟩
  rw [o9, o3 hz, if_pos (thR_z hz)]
theorem case34_ok (hI : INV M A H c T TO e o s B) (hfu : 40000 ≤ fu) {nS : Nat} {x4 : Int} (hx : 0 ≤ x4) (hn : x4 + 6 ≤ nS) (hS : nS ≤ 3072) : ∃ M', f_L_case34 fu nS M x4 = some (M', 0) ∧ LOK M M' := by
  have g1 : rng (x4 + (1 : Int)) := ⟨by omega, by omega⟩
  have b1 : 0 ≤ x4 + (1 : Int) ∧ x4 + (1 : Int) < nS := ⟨by omega, by omega⟩
  have g2 : rng (x4 + (2 : Int)) := ⟨by omega, by omega⟩
  have b2 : 0 ≤ x4 + (2 : Int) ∧ x4 + (2 : Int) < nS := ⟨by omega, by omega⟩
  have g3 : rng (x4 + (3 : Int)) := ⟨by omega, by omega⟩
  have b3 : 0 ≤ x4 + (3 : Int) ∧ x4 + (3 : Int) < nS := ⟨by omega, by omega⟩
  unfold f_L_case34
  rw [grd_pos g1, grd_pos b1, grd_pos g2, grd_pos b2, grd_pos g3, grd_pos b3]
  generalize ha1 : M 2 (x4 + (1 : Int)).toNat = a1
  generalize ha2 : M 2 (x4 + (2 : Int)).toNat = a2
  generalize ha3 : M 2 (x4 + (3 : Int)).toNat = a3
  obtain ⟨M3, e3, i3, s3, o3⟩ := wrp_rd (w := w3) hI (nodesForSet_X (fu := fu) hI.1.1 a1 a2 a3 (by omega)) (fun _ _ => rfl) (fltP_rng a1 a2 a3) (k := fltP A a1 a2 a3) (fun z => z) (fun z => w3_ok (fltP_rng a1 a2 a3) z)
  have e4 : f_L_nodesForSet fu M a1 a2 a3 = some (M3, fltP A a1 a2 a3) := by
    unfold f_L_nodesForSet
    rw [wrp_3]
    exact e3
  rw [e4, cal_some, grd_pos g1, grd_pos b1, grd_pos g2, grd_pos b2, grd_pos g3, grd_pos b3, s3, ha1, ha2, ha3]
  have eM := nodesForSet_M (fu := fu) i3.2.1.1 a1 a2 a3
  rw [eM, cal_some]
  obtain ⟨i9, s9, o9⟩ := md_6 i3 (fltP A a1 a2 a3)
  refine ⟨_, tail_ok (up_same _ _ _ _) (fun hz => ?_), by rw [s9, s3], A, H, c, T, TO, e, o, s, B, i9⟩
  rw [o9, o3 hz, if_pos (hz)]
theorem case35_ok (hI : INV M A H c T TO e o s B) (hfu : 40000 ≤ fu) {nS : Nat} {x4 : Int} (hx : 0 ≤ x4) (hn : x4 + 6 ≤ nS) (hS : nS ≤ 3072) : ∃ M', f_L_case35 fu nS M x4 = some (M', 0) ∧ LOK M M' := by
  have g1 : rng (x4 + (1 : Int)) := ⟨by omega, by omega⟩
  have b1 : 0 ≤ x4 + (1 : Int) ∧ x4 + (1 : Int) < nS := ⟨by omega, by omega⟩
  unfold f_L_case35
  rw [grd_pos g1, grd_pos b1]
  generalize ha1 : M 2 (x4 + (1 : Int)).toNat = a1
  obtain ⟨M3, e3, i3, s3, o3⟩ := wrp_rd (w := w2) hI (nodesForAppend_X (fu := fu) hI.1.1 a1) (fun _ _ => rfl) (r013 (fltR_rng a1)) (k := thR (fltR A a1)) (fun z => by rw [z]; rfl) (fun z => w2_ok (fltR_rng a1) z)
  have e4 : f_L_nodesForAppend fu M a1 = some (M3, thR (fltR A a1)) := by
    unfold f_L_nodesForAppend
    rw [wrp_2]
    exact e3
  rw [e4, cal_some, grd_pos g1, grd_pos b1, s3, ha1]
  have eM := nodesForAppend_M (fu := fu) i3.2.1.1 a1 (by omega)
  rw [eM, cal_some]
  obtain ⟨i9, s9, o9⟩ := md_6 i3 (thR (fltR A a1))
  refine ⟨_, tail_ok (up_same _ _ _ _) (fun hz => ?_), by rw [s9, s3], A, H, c, T, TO, e, o, s, B, i9⟩
  rw [o9, o3 hz, if_pos (thR_z hz)]
theorem case36_ok (hI : INV M A H c T TO e o s B) (hfu : 40000 ≤ fu) {nS : Nat} {x4 : Int} (hx : 0 ≤ x4) (hn : x4 + 6 ≤ nS) (hS : nS ≤ 3072) : ∃ M', f_L_case36 fu nS M x4 = some (M', 0) ∧ LOK M M' := by
  have g1 : rng (x4 + (1 : Int)) := ⟨by omega, by omega⟩
  have b1 : 0 ≤ x4 + (1 : Int) ∧ x4 + (1 : Int) < nS := ⟨by omega, by omega⟩
  unfold f_L_case36
  rw [grd_pos g1, grd_pos b1]
  generalize ha1 : M 2 (x4 + (1 : Int)).toNat = a1
  obtain ⟨M1, e1, f1⟩ := garbageIfReleased_X (fu := fu) hI.1.1 a1 (by omega)
  obtain ⟨M3, e3, i3, s3, o3⟩ := wrp_rd (w := w2) hI e1 (fun q hq => f1 q (by omega)) (r013 (fltR_rng a1)) (k := thR (fltR A a1)) (fun z => by rw [z]; rfl) (fun z => w2_ok (fltR_rng a1) z)
  have e4 : f_L_garbageIfReleased fu M a1 = some (M3, thR (fltR A a1)) := by
    unfold f_L_garbageIfReleased
    rw [wrp_2]
    exact e3
  rw [e4, cal_some, grd_pos g1, grd_pos b1, s3, ha1]
  obtain ⟨M9, eM, f9⟩ := garbageIfReleased_M (fu := fu) i3.2.1.1 a1 (by omega)
  rw [eM, cal_some]
  obtain ⟨i9, s9, o9, t9⟩ := md_60 i3 f9
  refine ⟨_, tail_ok t9 (fun hz => ?_), by rw [s9, s3], A, H, c, T, TO, e, o, s, B, i9⟩
  rw [o9, o3 hz, if_pos (thR_z hz)]
end Cases
