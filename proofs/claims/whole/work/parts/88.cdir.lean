/-! the law's other cases but the quotients: both sides answer the same and keep the relation -/
section Cases2
variable {fu : Nat} {M : Mem} {A B : AS} {H : Int → AS} {c : Int} {T TO : TX} {e o s : Int}
theorem case0_ok (hm : mR M) (hI : INV M A H c T TO e o s B) (hfu : 40000 ≤ fu) {nS : Nat} {x4 : Int} (hx : 0 ≤ x4) (hn : x4 + 6 ≤ nS) (hS : nS ≤ 3072) : ∃ M', f_L_case0 fu nS M x4 = some (M', 0) ∧ LOK M M' := by
  have g1 : rng (x4 + (1 : Int)) := ⟨by omega, by omega⟩
  have b1 : 0 ≤ x4 + (1 : Int) ∧ x4 + (1 : Int) < nS := ⟨by omega, by omega⟩
  have g2 : rng (x4 + (2 : Int)) := ⟨by omega, by omega⟩
  have b2 : 0 ≤ x4 + (2 : Int) ∧ x4 + (2 : Int) < nS := ⟨by omega, by omega⟩
  have g3 : rng (x4 + (3 : Int)) := ⟨by omega, by omega⟩
  have b3 : 0 ≤ x4 + (3 : Int) ∧ x4 + (3 : Int) < nS := ⟨by omega, by omega⟩
  have g4 : rng (x4 + (4 : Int)) := ⟨by omega, by omega⟩
  have b4 : 0 ≤ x4 + (4 : Int) ∧ x4 + (4 : Int) < nS := ⟨by omega, by omega⟩
  have g5 : rng (x4 + (5 : Int)) := ⟨by omega, by omega⟩
  have b5 : 0 ≤ x4 + (5 : Int) ∧ x4 + (5 : Int) < nS := ⟨by omega, by omega⟩
  unfold f_L_case0
  rw [grd_pos g1, grd_pos b1, grd_pos g2, grd_pos b2, grd_pos g3, grd_pos b3, grd_pos g4, grd_pos b4, grd_pos g5, grd_pos b5]
  have q1 := hm 2 (x4 + (1 : Int)).toNat
  have q2 := hm 2 (x4 + (2 : Int)).toNat
  have q3 := hm 2 (x4 + (3 : Int)).toNat
  have q4 := hm 2 (x4 + (4 : Int)).toNat
  have q5 := hm 2 (x4 + (5 : Int)).toNat
  generalize ha1 : M 2 (x4 + (1 : Int)).toNat = a1 at q1 ⊢
  generalize ha2 : M 2 (x4 + (2 : Int)).toNat = a2 at q2 ⊢
  generalize ha3 : M 2 (x4 + (3 : Int)).toNat = a3 at q3 ⊢
  generalize ha4 : M 2 (x4 + (4 : Int)).toNat = a4 at q4 ⊢
  generalize ha5 : M 2 (x4 + (5 : Int)).toNat = a5 at q5 ⊢
  have x := appendInput_RC (fu := fu) hI.1 a1 a2 a3 a4 a5
  by_cases hT : 580 < T.1
  · rw [x.1 hT, cal_some, grd_pos g1, grd_pos b1, grd_pos g2, grd_pos b2, grd_pos g3, grd_pos b3, grd_pos g4, grd_pos b4, grd_pos g5, grd_pos b5, ha1, ha2, ha3, ha4, ha5, (appendInput_RM (fu := fu) hI.2.1 q1 q2 q3 q4 q5 (by omega)).1 hT, cal_some, if_pos rfl]
    obtain ⟨i9, s9, o9⟩ := md_6 hI 0
    exact ⟨_, rfl, s9, A, H, c, T, TO, e, o, s, B, i9⟩
  · obtain ⟨M3, e3, r3, f3⟩ := x.2 (by omega)
    obtain ⟨M9, e9, r9, t9, f9⟩ := (appendInput_RM (fu := fu) (RM1_cg hI.2.1 f3) q1 q2 q3 q4 q5 (by omega)).2 (by omega)
    rw [e3, cal_some, grd_pos g1, grd_pos b1, grd_pos g2, grd_pos b2, grd_pos g3, grd_pos b3, grd_pos g4, grd_pos b4, grd_pos g5, grd_pos b5, f3 2 (by decide), ha1, ha2, ha3, ha4, ha5, e9, cal_some, if_pos rfl]
    exact ⟨M9, rfl, by rw [f9 2 (by decide), f3 2 (by decide)], A, H, c, _, TO, e, o, s, B, RC1_cg r3 f9, r9, hI.2.2⟩
theorem case1_ok (hI : INV M A H c T TO e o s B) {nS : Nat} {x4 : Int} (hx : 0 ≤ x4) (hn : x4 + 6 ≤ nS) (hS : nS ≤ 3072) : ∃ M', f_L_case1 fu nS M x4 = some (M', 0) ∧ LOK M M' := by
  have g1 : rng (x4 + (1 : Int)) := ⟨by omega, by omega⟩
  have b1 : 0 ≤ x4 + (1 : Int) ∧ x4 + (1 : Int) < nS := ⟨by omega, by omega⟩
  unfold f_L_case1
  rw [grd_pos g1, grd_pos b1]
  generalize ha1 : M 2 (x4 + (1 : Int)).toNat = a1
  obtain ⟨M3, e3, r3, f3⟩ := truncateInput_RC (fu := fu) hI.1 a1
  obtain ⟨M9, e9, r9, t9, f9⟩ := truncateInput_RM (fu := fu) (RM1_cg hI.2.1 f3) a1
  rw [e3, cal_some, grd_pos g1, grd_pos b1, f3 2 (by decide), ha1, e9, cal_some, if_pos rfl]
  exact ⟨M9, rfl, by rw [f9 2 (by decide), f3 2 (by decide)], A, H, c, _, TO, e, o, s, B, RC1_cg r3 f9, r9, hI.2.2⟩
theorem case2_ok (hI : INV M A H c T TO e o s B) (hfu : 40000 ≤ fu) (nS : Nat) (x4 : Int) : ∃ M', f_L_case2 fu nS M x4 = some (M', 0) ∧ LOK M M' := by
  have hT := hI.1.2.2.1.2.1
  obtain ⟨r, hP⟩ := PS_ex T (T.1.toNat + 1) 0 0 0 (fun _ => 0) hT (by omega) (Or.inl rfl)
  unfold f_L_case2
  have x := loadSetup_RC (fu := fu) hI.1 hP (by omega)
  by_cases h0 : r.1 = 0
  · obtain ⟨M3, e3, c0, c1, ⟨vals, hv, r3⟩, f3⟩ := x.2 h0
    obtain ⟨M9, e9, r9, t9, f9⟩ := (loadSetup_RM (fu := fu) (RM1_cg hI.2.1 f3) hP hv (by omega)).2 h0
    rw [e3, cal_some, e9, cal_some, if_pos rfl]
    exact ⟨M9, rfl, by rw [f9 2 (by decide), f3 2 (by decide)], _, H, 0, _, TO, 0, _, 0, B, RC1_cg r3 f9, r9, loadSetup_RG hI.2.2 _⟩
  · obtain ⟨M3, e3, r3, f3⟩ := x.1 h0
    obtain ⟨M9, e9, r9, t9, f9⟩ := (loadSetup_RM (fu := fu) (RM1_cg hI.2.1 f3) hP (fun _ _ _ => rfl) (by omega)).1 h0
    rw [e3, cal_some, e9, cal_some, if_pos rfl]
    exact ⟨M9, rfl, by rw [f9 2 (by decide), f3 2 (by decide)], A, H, c, _, TO, _, _, s, B, RC1_cg r3 f9, r9, hI.2.2⟩
theorem case3_ok (hI : INV M A H c T TO e o s B) (hfu : 40000 ≤ fu) (nS : Nat) (x4 : Int) : ∃ M', f_L_case3 fu nS M x4 = some (M', 0) ∧ LOK M M' := by
  have hT := hI.1.2.2.1.2.1
  obtain ⟨r, hP⟩ := PR_ex T (T.1.toNat + 1) 0 0 0 0 0 (fun _ => 0) hT (by omega) (Or.inl rfl)
  unfold f_L_case3
  have x := runScript_RC (fu := fu) hI.1 hI.2.2 hP (by omega)
  by_cases h0 : r.1 = 0
  · obtain ⟨M3, e3, r3, f3⟩ := x.2 h0
    obtain ⟨M9, e9, r9, t9, f9⟩ := (runScript_RM (fu := fu) (RM1_cg hI.2.1 f3) hI.2.2 hP (by omega)).2 h0
    rw [e3, cal_some, e9, cal_some, if_pos rfl]
    exact ⟨M9, rfl, by rw [f9 2 (by decide), f3 2 (by decide)], _, _, _, _, TO, 0, _, s, B, RC1_cg r3 f9, r9, runScript_RG hI.1.1.2 hI.2.2 hI.1.2.1.2.1 _ _⟩
  · obtain ⟨M3, e3, r3, f3⟩ := x.1 h0
    obtain ⟨M9, e9, r9, t9, f9⟩ := (runScript_RM (fu := fu) (RM1_cg hI.2.1 f3) hI.2.2 hP (by omega)).1 h0
    rw [e3, cal_some, e9, cal_some, if_pos rfl]
    exact ⟨M9, rfl, by rw [f9 2 (by decide), f3 2 (by decide)], A, H, c, _, TO, _, _, s, B, RC1_cg r3 f9, r9, hI.2.2⟩
theorem case4_ok (hI : INV M A H c T TO e o s B) (nS : Nat) (x4 : Int) : ∃ M', f_L_case4 fu nS M x4 = some (M', 0) ∧ LOK M M' := by
  unfold f_L_case4
  rw [errorCode_RC hI.1, cal_some, errorCode_RM hI.2.1, cal_some, if_pos rfl]
  obtain ⟨i9, s9, o9⟩ := md_6 hI 0
  exact ⟨_, rfl, s9, A, H, c, T, TO, e, o, s, B, i9⟩
theorem case5_ok (hI : INV M A H c T TO e o s B) (nS : Nat) (x4 : Int) : ∃ M', f_L_case5 fu nS M x4 = some (M', 0) ∧ LOK M M' := by
  unfold f_L_case5
  rw [errorOffset_RC hI.1, cal_some, errorOffset_RM hI.2.1, cal_some, if_pos rfl]
  obtain ⟨i9, s9, o9⟩ := md_6 hI 0
  exact ⟨_, rfl, s9, A, H, c, T, TO, e, o, s, B, i9⟩
theorem case6_ok (hI : INV M A H c T TO e o s B) (nS : Nat) (x4 : Int) : ∃ M', f_L_case6 fu nS M x4 = some (M', 0) ∧ LOK M M' := by
  unfold f_L_case6 f_X11_versionCount
  rw [cal_some, versionCount_M hI.2.1.1, cal_some, hI.1.1.1.2.1, if_pos rfl]
  obtain ⟨i9, s9, o9⟩ := md_6 hI 0
  exact ⟨_, rfl, s9, A, H, c, T, TO, e, o, s, B, i9⟩
theorem case7_ok (hI : INV M A H c T TO e o s B) (hfu : 40000 ≤ fu) (nS : Nat) (x4 : Int) : ∃ M', f_L_case7 fu nS M x4 = some (M', 0) ∧ LOK M M' := by
  unfold f_L_case7 f_X11_liveCount
  rw [countLive_C hI.1.1 (by omega), cal_some, cal_some, liveCount_M hI.2.1.1 (by omega), cal_some, if_pos rfl]
  obtain ⟨i9, s9, o9⟩ := md_6 hI 0
  exact ⟨_, rfl, s9, A, H, c, T, TO, e, o, s, B, i9⟩
theorem case20_ok (hI : INV M A H c T TO e o s B) (nS : Nat) (x4 : Int) : ∃ M', f_L_case20 fu nS M x4 = some (M', 0) ∧ LOK M M' := by
  unfold f_L_case20 f_X11_createdNodes
  rw [cal_some, createdNodes_M hI.2.1.1, cal_some, hI.1.1.1.1, if_pos rfl]
  obtain ⟨i9, s9, o9⟩ := md_6 hI 0
  exact ⟨_, rfl, s9, A, H, c, T, TO, e, o, s, B, i9⟩
theorem case21_ok (hI : INV M A H c T TO e o s B) (hfu : 40000 ≤ fu) (nS : Nat) (x4 : Int) : ∃ M', f_L_case21 fu nS M x4 = some (M', 0) ∧ LOK M M' := by
  unfold f_L_case21 f_X11_storedNodes
  rw [countStored_C hI.1.1 (by omega), cal_some, cal_some, storedNodes_M hI.2.1.1 (by omega), cal_some, if_pos rfl]
  obtain ⟨i9, s9, o9⟩ := md_6 hI 0
  exact ⟨_, rfl, s9, A, H, c, T, TO, e, o, s, B, i9⟩
theorem INV_35 {M1 : Mem} (hI : INV M A H c T TO e o s B) (f : ∀ q, q ≠ 35 → q ≠ 37 → M1 q = M q) : INV M1 A H c T TO e o s B ∧ M1 2 = M 2 := by
  obtain ⟨g1, g2⟩ := RC1_scr hI.1 (fun q hq => f q (by omega) (by omega))
  exact ⟨⟨g1, RM1_cg hI.2.1 g2, hI.2.2⟩, f 2 (by decide) (by decide)⟩
theorem case22_ok (hI : INV M A H c T TO e o s B) (hfu : 40000 ≤ fu) (nS : Nat) (x4 : Int) : ∃ M', f_L_case22 fu nS M x4 = some (M', 0) ∧ LOK M M' := by
  unfold f_L_case22 f_X11_garbageNodes
  obtain ⟨M1, e1, f1⟩ := countGarbage_C (fu := fu) (by omega) hI.1.1
  obtain ⟨i1, s1⟩ := INV_35 hI (fun q q1 _ => f1 q q1)
  obtain ⟨M9, e9, f9⟩ := garbageNodes_M (fu := fu) i1.2.1.1 (by omega)
  obtain ⟨i9, s9, o9, t9⟩ := md_60 i1 f9
  rw [e1, cal_some, cal_some, e9, cal_some, if_pos rfl]
  exact ⟨M9, rfl, by rw [s9, s1], A, H, c, T, TO, e, o, s, B, i9⟩
theorem case37_ok (hI : INV M A H c T TO e o s B) (hfu : 40000 ≤ fu) (nS : Nat) (x4 : Int) : ∃ M', f_L_case37 fu nS M x4 = some (M', 0) ∧ LOK M M' := by
  unfold f_L_case37 f_X11_largestVersion
  rw [findLargest_C hI.1.1 (by omega), cal_some, cal_some, largestVersion_M hI.2.1.1 (by omega), cal_some, if_pos rfl]
  obtain ⟨i9, s9, o9⟩ := md_6 hI 0
  exact ⟨_, rfl, s9, A, H, c, T, TO, e, o, s, B, i9⟩
theorem case40_ok (hI : INV M A H c T TO e o s B) (hfu : 40000 ≤ fu) (nS : Nat) (x4 : Int) : ∃ M', f_L_case40 fu nS M x4 = some (M', 0) ∧ LOK M M' := by
  unfold f_L_case40 f_X11_isConsistent
  obtain ⟨M1, e1, f1⟩ := passes_C (fu := fu) (by omega) hI.1.1
  obtain ⟨i1, s1⟩ := INV_35 hI f1
  obtain ⟨M9, e9, f9, g9⟩ := isConsistent_M (fu := fu) (by omega) i1.2.1.1
  obtain ⟨i9, s9, o9⟩ := md_rd (M9 := M9) i1 (fun q q1 q2 q3 q4 q5 => f9 q q1 q4 q5) (fun i i1 i2 => by rw [g9 i (by omega), up_at (Or.inr i1)])
  rw [e1, cal_some, grd_pos (by decide), cal_some, e9, cal_some, if_pos rfl]
  exact ⟨M9, rfl, by rw [s9, s1], A, H, c, T, TO, e, o, s, B, i9⟩
theorem case48_ok (hI : INV M A H c T TO e o s B) {nS : Nat} {x4 : Int} (hx : 0 ≤ x4) (hn : x4 + 6 ≤ nS) (hS : nS ≤ 3072) : ∃ M', f_L_case48 fu nS M x4 = some (M', 0) ∧ LOK M M' := by
  have g1 : rng (x4 + (1 : Int)) := ⟨by omega, by omega⟩
  have b1 : 0 ≤ x4 + (1 : Int) ∧ x4 + (1 : Int) < nS := ⟨by omega, by omega⟩
  unfold f_L_case48
  rw [grd_pos g1, grd_pos b1]
  generalize ha1 : M 2 (x4 + (1 : Int)).toNat = a1
  rw [outputByte_RC hI.1, cal_some, grd_pos g1, grd_pos b1, ha1, outputByte_RM hI.2.1, cal_some, if_pos rfl]
  obtain ⟨i9, s9, o9⟩ := md_6 hI 0
  exact ⟨_, rfl, s9, A, H, c, T, TO, e, o, s, B, i9⟩
theorem case49_ok (hI : INV M A H c T TO e o s B) (hfu : 40000 ≤ fu) (nS : Nat) (x4 : Int) : ∃ M', f_L_case49 fu nS M x4 = some (M', 0) ∧ LOK M M' := by
  unfold f_L_case49
  obtain ⟨M3, e3, r3, f3⟩ := saveState_RC (fu := fu) hI.1 (by omega)
  obtain ⟨M9, e9, r9, t9, f9⟩ := saveState_RM (fu := fu) (RM1_cg hI.2.1 f3) (by omega)
  rw [e3, cal_some, e9, cal_some, if_pos rfl]
  exact ⟨M9, rfl, by rw [f9 2 (by decide), f3 2 (by decide)], A, H, c, T, TO, e, o, 1, A, RC1_cg r3 f9, r9, hI.2.2.1, Or.inr rfl, fun _ => hI.1.1.2⟩
/-! changes -/
theorem begin_X0 {M1 : Mem} (e1 : f_X1_keep fu M = some (M1, 0)) : f_X11_beginChange fu M 0 = some (M1, ((0 : Nat), (0 : Int))) := by
  unfold f_X11_beginChange
  rw [refuse_X, cax_thru (Or.inl rfl), if_pos rfl, e1, cal_some]
theorem begin_X1 {f : Int} (hf : f = 0 ∨ f = 1 ∨ f = 2 ∨ f = 3) (h0 : ¬ f = 0) : f_X11_beginChange fu M f = some (M, (rf f, (0 : Int))) := by
  unfold f_X11_beginChange
  rw [refuse_X, cax_thru hf, if_neg h0]
theorem cax_pass {f : Int} (hf : f = 0 ∨ f = 1 ∨ f = 2 ∨ f = 3) (h0 : ¬ f = 0) (M : Mem) (z : Int) (k : Mem → Int → Option (Mem × (Nat × Int))) : cax (some (M, (rf f, z))) k (fun M1 n => some (M1, (n + 1, (0 : Int)))) = some (M, (rf f, (0 : Int))) := by
  rw [cax_thru hf, if_neg h0]
theorem frS_Xq {M1 M2 : Mem} (h : frS M1 M2) : frXq M1 M2 := fun q q1 _ => h q q1
theorem fltS_rng (v i x : Int) : fltS A v i x = 0 ∨ fltS A v i x = 1 ∨ fltS A v i x = 2 ∨ fltS A v i x = 3 := by
  have := fltP_rng (A := A) v i x
  unfold fltS
  split
  · exact Or.inr (Or.inr (Or.inr rfl))
  · exact this
theorem fltA_rng (v x : Int) : fltA A v x = 0 ∨ fltA A v x = 1 ∨ fltA A v x = 2 ∨ fltA A v x = 3 := by
  unfold fltA
  repeat' split
  all_goals decide
theorem fltT_rng (v x : Int) : fltT A v x = 0 ∨ fltT A v x = 1 ∨ fltT A v x = 2 ∨ fltT A v x = 3 := by
  unfold fltT
  repeat' split
  all_goals decide
/-- a change of the class behind its wrapper -/
theorem wrp_ch {w : Nat → Option Int} {M3 : Mem} {A' : AS} {c' : Int} {H' : Int → AS} {T' TO' : TX} {e' o' s' r : Int} {B' : AS} (r3 : RC1 M3 A' H' c' T' TO' e' o' s' B') (f3 : frLo M M3) : wrp w (some (M3, ((0 : Nat), r))) = some (up M3 65 0 r, (0 : Int)) ∧ RC1 (up M3 65 0 r) A' H' c' T' TO' e' o' s' B' ∧ (RM1 M A H c T TO e o s B → RM1 (up M3 65 0 r) A H c T TO e o s B) ∧ (up M3 65 0 r) 2 = M 2 :=
  ⟨rfl, RC1_lo r3 (fun q hq => up_cell _ _ (by omega)), fun hm => RM1_o hm (fun q q1 q2 => by rw [up_cell _ _ (by omega), f3 q (Or.inl q1)]), by rw [up_cell _ _ (by decide), f3 2 (by decide)]⟩
theorem wrp_no {w : Nat → Option Int} {f k : Int} (hf : f = 0 ∨ f = 1 ∨ f = 2 ∨ f = 3) (h0 : ¬ f = 0) (hk : w (f - 1).toNat = some k) : wrp w (some (M, (rf f, (0 : Int)))) = some (M, k) := by
  unfold wrp
  rcases hf with rfl | rfl | rfl | rfl
  · exact absurd rfl h0
  · show (w 0).map _ = _
    rw [show w 0 = some k from hk]; rfl
  · show (w 1).map _ = _
    rw [show w 1 = some k from hk]; rfl
  · show (w 2).map _ = _
    rw [show w 2 = some k from hk]; rfl
theorem case41_ok (hI : INV M A H c T TO e o s B) (hfu : 40000 ≤ fu) {nS : Nat} {x4 : Int} (hx : 0 ≤ x4) (hn : x4 + 6 ≤ nS) (hS : nS ≤ 3072) : ∃ M', f_L_case41 fu nS M x4 = some (M', 0) ∧ LOK M M' := by
  have g1 : rng (x4 + (1 : Int)) := ⟨by omega, by omega⟩
  have b1 : 0 ≤ x4 + (1 : Int) ∧ x4 + (1 : Int) < nS := ⟨by omega, by omega⟩
  have g2 : rng (x4 + (2 : Int)) := ⟨by omega, by omega⟩
  have b2 : 0 ≤ x4 + (2 : Int) ∧ x4 + (2 : Int) < nS := ⟨by omega, by omega⟩
  have g3 : rng (x4 + (3 : Int)) := ⟨by omega, by omega⟩
  have b3 : 0 ≤ x4 + (3 : Int) ∧ x4 + (3 : Int) < nS := ⟨by omega, by omega⟩
  unfold f_L_case41
  rw [grd_pos g1, grd_pos b1, grd_pos g2, grd_pos b2, grd_pos g3, grd_pos b3]
  generalize ha1 : M 2 (x4 + (1 : Int)).toNat = a1
  generalize ha2 : M 2 (x4 + (2 : Int)).toNat = a2
  generalize ha3 : M 2 (x4 + (3 : Int)).toNat = a3
  have hr := fltS_rng (A := A) a1 a2 a3
  by_cases h0 : fltS A a1 a2 a3 = 0
  · obtain ⟨h1, h2, h3, h4⟩ := fltS_iff.mp h0
    obtain ⟨h5, h6⟩ := fltR_iff.mp h1
    obtain ⟨M1, e1, m1, k1⟩ := chg_RC (fu := fu) hI.1 hI.2.2 (by omega)
    obtain ⟨M2, e2, m2, f2⟩ := makeWithElement_C (fu := fu) (by omega) m1 h4 h5 h6 h2 h3
    obtain ⟨r3, f3⟩ := k1 M2 _ m2 (frS_Xq f2)
    have eX : f_X11_set fu M a1 a2 a3 = some (M2, ((0 : Nat), aV A)) := by
      unfold f_X11_set
      rw [faultOfSet_C hI.1.1, cal_some, h0, begin_X0 e1, cax_ret, e2, cal_some]
    obtain ⟨w0, wc, wm, ws⟩ := wrp_ch (w := w3) (M := M) (r := aV A) (A := A) (H := H) (c := c) (T := T) (TO := TO) (e := e) (o := o) (s := s) (B := B) r3 f3
    have e4 : f_L_set fu M a1 a2 a3 = some (up M2 65 0 (aV A), 0) := by
      unfold f_L_set
      rw [wrp_3, eX]
      exact w0
    obtain ⟨M9, e9, r9, t9, f9⟩ := (set_RM (fu := fu) (wm hI.2.1) hI.2.2 (by omega) a1 a2 a3).1 h0
    rw [e4, cal_some, grd_pos g1, grd_pos b1, grd_pos g2, grd_pos b2, grd_pos g3, grd_pos b3, ws, ha1, ha2, ha3, e9, cal_some]
    exact ⟨M9, tail_ok t9 (fun _ => by rw [f9 65 (by decide), up_same]), by rw [f9 2 (by decide), ws], _, _, _, T, TO, e, o, s, B, RC1_cg wc f9, r9, chg_RG hI.1.1.2 hI.2.2 hI.1.2.1.2.1 (sub_mkS hI.1.1.2 h5 h2 h3)⟩
  · have eX : f_X11_set fu M a1 a2 a3 = some (M, (rf (fltS A a1 a2 a3), (0 : Int))) := by
      unfold f_X11_set
      rw [faultOfSet_C hI.1.1, cal_some, begin_X1 hr h0, cax_pass hr h0]
    have e4 : f_L_set fu M a1 a2 a3 = some (M, fltS A a1 a2 a3) := by
      unfold f_L_set
      rw [wrp_3, eX]
      exact wrp_no hr h0 (w3_ok hr h0).1
    rw [e4, cal_some, grd_pos g1, grd_pos b1, grd_pos g2, grd_pos b2, grd_pos g3, grd_pos b3, ha1, ha2, ha3, (set_RM (fu := fu) hI.2.1 hI.2.2 (by omega) a1 a2 a3).2 h0, cal_some]
    obtain ⟨i9, s9, o9⟩ := md_6 hI (fltS A a1 a2 a3)
    exact ⟨_, tail_ok (up_same _ _ _ _) (fun hz => absurd hz h0), s9, A, H, c, T, TO, e, o, s, B, i9⟩
theorem case42_ok (hI : INV M A H c T TO e o s B) (hfu : 40000 ≤ fu) {nS : Nat} {x4 : Int} (hx : 0 ≤ x4) (hn : x4 + 6 ≤ nS) (hS : nS ≤ 3072) : ∃ M', f_L_case42 fu nS M x4 = some (M', 0) ∧ LOK M M' := by
  have g1 : rng (x4 + (1 : Int)) := ⟨by omega, by omega⟩
  have b1 : 0 ≤ x4 + (1 : Int) ∧ x4 + (1 : Int) < nS := ⟨by omega, by omega⟩
  have g2 : rng (x4 + (2 : Int)) := ⟨by omega, by omega⟩
  have b2 : 0 ≤ x4 + (2 : Int) ∧ x4 + (2 : Int) < nS := ⟨by omega, by omega⟩
  unfold f_L_case42
  rw [grd_pos g1, grd_pos b1, grd_pos g2, grd_pos b2]
  generalize ha1 : M 2 (x4 + (1 : Int)).toNat = a1
  generalize ha2 : M 2 (x4 + (2 : Int)).toNat = a2
  have hr := fltA_rng (A := A) a1 a2
  by_cases h0 : fltA A a1 a2 = 0
  · obtain ⟨h1, h2, h3, h4⟩ := fltA_iff.mp h0
    obtain ⟨h5, h6⟩ := fltR_iff.mp h1
    obtain ⟨M1, e1, m1, k1⟩ := chg_RC (fu := fu) hI.1 hI.2.2 (by omega)
    obtain ⟨M2, e2, m2, f2⟩ := makeLonger_C (fu := fu) (by omega) m1 h4 h5 h6 h2 h3
    obtain ⟨r3, f3⟩ := k1 M2 _ m2 (frS_Xq f2)
    have eX : f_X11_append fu M a1 a2 = some (M2, ((0 : Nat), aV A)) := by
      unfold f_X11_append
      rw [faultOfAppend_C hI.1.1, cal_some, h0, begin_X0 e1, cax_ret, e2, cal_some]
    obtain ⟨w0, wc, wm, ws⟩ := wrp_ch (w := w3) (M := M) (r := aV A) (A := A) (H := H) (c := c) (T := T) (TO := TO) (e := e) (o := o) (s := s) (B := B) r3 f3
    have e4 : f_L_append fu M a1 a2 = some (up M2 65 0 (aV A), 0) := by
      unfold f_L_append
      rw [wrp_3, eX]
      exact w0
    obtain ⟨M9, e9, r9, t9, f9⟩ := (append_RM (fu := fu) (wm hI.2.1) hI.2.2 (by omega) a1 a2).1 h0
    rw [e4, cal_some, grd_pos g1, grd_pos b1, grd_pos g2, grd_pos b2, ws, ha1, ha2, e9, cal_some]
    exact ⟨M9, tail_ok t9 (fun _ => by rw [f9 65 (by decide), up_same]), by rw [f9 2 (by decide), ws], _, _, _, T, TO, e, o, s, B, RC1_cg wc f9, r9, chg_RG hI.1.1.2 hI.2.2 hI.1.2.1.2.1 (sub_mkA hI.1.1.2 h5 h2 h3)⟩
  · have eX : f_X11_append fu M a1 a2 = some (M, (rf (fltA A a1 a2), (0 : Int))) := by
      unfold f_X11_append
      rw [faultOfAppend_C hI.1.1, cal_some, begin_X1 hr h0, cax_pass hr h0]
    have e4 : f_L_append fu M a1 a2 = some (M, fltA A a1 a2) := by
      unfold f_L_append
      rw [wrp_3, eX]
      exact wrp_no hr h0 (w3_ok hr h0).1
    rw [e4, cal_some, grd_pos g1, grd_pos b1, grd_pos g2, grd_pos b2, ha1, ha2, (append_RM (fu := fu) hI.2.1 hI.2.2 (by omega) a1 a2).2 h0, cal_some]
    obtain ⟨i9, s9, o9⟩ := md_6 hI (fltA A a1 a2)
    exact ⟨_, tail_ok (up_same _ _ _ _) (fun hz => absurd hz h0), s9, A, H, c, T, TO, e, o, s, B, i9⟩
theorem case43_ok (hI : INV M A H c T TO e o s B) (hfu : 40000 ≤ fu) {nS : Nat} {x4 : Int} (hx : 0 ≤ x4) (hn : x4 + 6 ≤ nS) (hS : nS ≤ 3072) : ∃ M', f_L_case43 fu nS M x4 = some (M', 0) ∧ LOK M M' := by
  have g1 : rng (x4 + (1 : Int)) := ⟨by omega, by omega⟩
  have b1 : 0 ≤ x4 + (1 : Int) ∧ x4 + (1 : Int) < nS := ⟨by omega, by omega⟩
  have g2 : rng (x4 + (2 : Int)) := ⟨by omega, by omega⟩
  have b2 : 0 ≤ x4 + (2 : Int) ∧ x4 + (2 : Int) < nS := ⟨by omega, by omega⟩
  unfold f_L_case43
  rw [grd_pos g1, grd_pos b1, grd_pos g2, grd_pos b2]
  generalize ha1 : M 2 (x4 + (1 : Int)).toNat = a1
  generalize ha2 : M 2 (x4 + (2 : Int)).toNat = a2
  have hr := fltT_rng (A := A) a1 a2
  by_cases h0 : fltT A a1 a2 = 0
  · obtain ⟨h1, h2, h4⟩ := fltT_iff.mp h0
    obtain ⟨h5, h6⟩ := fltR_iff.mp h1
    obtain ⟨M1, e1, m1, k1⟩ := chg_RC (fu := fu) hI.1 hI.2.2 (by omega)
    obtain ⟨M2, e2, m2, f2⟩ := makeShorter_C (fu := fu) (by omega) m1 h4 h5 h6 h2
    obtain ⟨r3, f3⟩ := k1 M2 _ m2 (frS_Xq f2)
    have eX : f_X11_truncate fu M a1 a2 = some (M2, ((0 : Nat), aV A)) := by
      unfold f_X11_truncate
      rw [faultOfTruncate_C hI.1.1, cal_some, h0, begin_X0 e1, cax_ret, e2, cal_some]
    obtain ⟨w0, wc, wm, ws⟩ := wrp_ch (w := w3) (M := M) (r := aV A) (A := A) (H := H) (c := c) (T := T) (TO := TO) (e := e) (o := o) (s := s) (B := B) r3 f3
    have e4 : f_L_truncate fu M a1 a2 = some (up M2 65 0 (aV A), 0) := by
      unfold f_L_truncate
      rw [wrp_3, eX]
      exact w0
    obtain ⟨M9, e9, r9, t9, f9⟩ := (truncate_RM (fu := fu) (wm hI.2.1) hI.2.2 (by omega) a1 a2).1 h0
    rw [e4, cal_some, grd_pos g1, grd_pos b1, grd_pos g2, grd_pos b2, ws, ha1, ha2, e9, cal_some]
    exact ⟨M9, tail_ok t9 (fun _ => by rw [f9 65 (by decide), up_same]), by rw [f9 2 (by decide), ws], _, _, _, T, TO, e, o, s, B, RC1_cg wc f9, r9, chg_RG hI.1.1.2 hI.2.2 hI.1.2.1.2.1 (sub_mkT hI.1.1.2 h5 h2)⟩
  · have eX : f_X11_truncate fu M a1 a2 = some (M, (rf (fltT A a1 a2), (0 : Int))) := by
      unfold f_X11_truncate
      rw [faultOfTruncate_C hI.1.1, cal_some, begin_X1 hr h0, cax_pass hr h0]
    have e4 : f_L_truncate fu M a1 a2 = some (M, fltT A a1 a2) := by
      unfold f_L_truncate
      rw [wrp_3, eX]
      exact wrp_no hr h0 (w3_ok hr h0).1
    rw [e4, cal_some, grd_pos g1, grd_pos b1, grd_pos g2, grd_pos b2, ha1, ha2, (truncate_RM (fu := fu) hI.2.1 hI.2.2 (by omega) a1 a2).2 h0, cal_some]
    obtain ⟨i9, s9, o9⟩ := md_6 hI (fltT A a1 a2)
    exact ⟨_, tail_ok (up_same _ _ _ _) (fun hz => absurd hz h0), s9, A, H, c, T, TO, e, o, s, B, i9⟩
theorem case44_ok (hI : INV M A H c T TO e o s B) (hfu : 40000 ≤ fu) {nS : Nat} {x4 : Int} (hx : 0 ≤ x4) (hn : x4 + 6 ≤ nS) (hS : nS ≤ 3072) : ∃ M', f_L_case44 fu nS M x4 = some (M', 0) ∧ LOK M M' := by
  have g1 : rng (x4 + (1 : Int)) := ⟨by omega, by omega⟩
  have b1 : 0 ≤ x4 + (1 : Int) ∧ x4 + (1 : Int) < nS := ⟨by omega, by omega⟩
  unfold f_L_case44
  rw [grd_pos g1, grd_pos b1]
  generalize ha1 : M 2 (x4 + (1 : Int)).toNat = a1
  have hr := r013 (fltR_rng (A := A) a1)
  by_cases h0 : fltR A a1 = 0
  · obtain ⟨h5, h6⟩ := fltR_iff.mp h0
    obtain ⟨M1, e1, m1, k1⟩ := chg_RC (fu := fu) hI.1 hI.2.2 (by omega)
    obtain ⟨M2, e2, m2, f2⟩ := drop_C (fu := fu) m1 h5
    obtain ⟨M5, e5, f5⟩ := countGarbage_C (fu := fu) (by omega) m2
    obtain ⟨r3, f3⟩ := k1 M5 (mkR A a1) (CM_cg m2 (fun q _ q1 => f5 q (by omega))) (fun q q1 q2 => by rw [f5 q q2, f2 q q1])
    have eX : f_X11_release fu M a1 = some (M5, ((0 : Nat), nGar (mkR A a1))) := by
      unfold f_X11_release
      rw [faultOfReading_C hI.1.1, cal_some, h0, begin_X0 e1, cax_ret, e2, cal_some, e5, cal_some]
    obtain ⟨w0, wc, wm, ws⟩ := wrp_ch (w := w2) (M := M) (r := nGar (mkR A a1)) (A := A) (H := H) (c := c) (T := T) (TO := TO) (e := e) (o := o) (s := s) (B := B) r3 f3
    have e4 : f_L_release fu M a1 = some (up M5 65 0 (nGar (mkR A a1)), 0) := by
      unfold f_L_release
      rw [wrp_2, eX]
      exact w0
    obtain ⟨M9, e9, r9, t9, f9⟩ := (release_RM (fu := fu) (wm hI.2.1) hI.2.2 (by omega) a1).1 h0
    rw [e4, cal_some, grd_pos g1, grd_pos b1, ws, ha1, e9, cal_some]
    exact ⟨M9, tail_ok t9 (fun _ => by rw [f9 65 (by decide), up_same]), by rw [f9 2 (by decide), ws], _, _, _, T, TO, e, o, s, B, RC1_cg wc f9, r9, chg_RG hI.1.1.2 hI.2.2 hI.1.2.1.2.1 (sub_mkR A a1)⟩
  · have eX : f_X11_release fu M a1 = some (M, (rf (fltR A a1), (0 : Int))) := by
      unfold f_X11_release
      rw [faultOfReading_C hI.1.1, cal_some, begin_X1 hr h0, cax_pass hr h0]
    have e4 : f_L_release fu M a1 = some (M, thR (fltR A a1)) := by
      unfold f_L_release
      rw [wrp_2, eX]
      exact wrp_no hr h0 (w2_ok (fltR_rng a1) h0).1
    rw [e4, cal_some, grd_pos g1, grd_pos b1, ha1, (release_RM (fu := fu) hI.2.1 hI.2.2 (by omega) a1).2 h0, cal_some]
    obtain ⟨i9, s9, o9⟩ := md_6 hI (thR (fltR A a1))
    exact ⟨_, tail_ok (up_same _ _ _ _) (fun hz => absurd (thR_z hz) h0), s9, A, H, c, T, TO, e, o, s, B, i9⟩
theorem case45_ok (hI : INV M A H c T TO e o s B) (hfu : 40000 ≤ fu) (nS : Nat) (x4 : Int) : ∃ M', f_L_case45 fu nS M x4 = some (M', 0) ∧ LOK M M' := by
  obtain ⟨M1, e1, m1, k1⟩ := chg_RC (fu := fu) hI.1 hI.2.2 (by omega)
  obtain ⟨M2, e2, f2, m2⟩ := removeGarbage_C (fu := fu) (by omega) m1
  obtain ⟨r3, f3⟩ := k1 M2 _ m2 (fun q q1 q2 => f2 q q2 (by omega))
  obtain ⟨M9, e9, r9, t9, f9⟩ := collect_RM (fu := fu) (RM1_cg hI.2.1 f3) hI.2.2 (by omega)
  have eX : f_X11_collect fu M = some (M2, ((0 : Nat), nRem A)) := by
    unfold f_X11_collect
    rw [begin_X0 e1, cax_ret, e2, cal_some]
  unfold f_L_case45
  rw [eX, cax_ret, e9, cal_some, if_pos rfl]
  exact ⟨M9, rfl, by rw [f9 2 (by decide), f3 2 (by decide)], _, _, _, T, TO, e, o, s, B, RC1_cg r3 f9, r9, chg_RG hI.1.1.2 hI.2.2 hI.1.2.1.2.1 (sub_mkC A)⟩
theorem case46_ok (hI : INV M A H c T TO e o s B) (hfu : 40000 ≤ fu) (nS : Nat) (x4 : Int) : ∃ M', f_L_case46 fu nS M x4 = some (M', 0) ∧ LOK M M' := by
  have hc := hI.1.2.1.2.1
  have h38 : M 38 0 = c := hI.1.2.1.1
  unfold f_L_case46
  by_cases h0 : c = 0
  · have e4 : f_L_undo fu M = some (M, 1) := by
      unfold f_L_undo f_X11_undo
      rw [if_pos (by rw [h38]; exact h0)]
      rfl
    obtain ⟨M9, e9, r9, t9, f9⟩ := (undo_RM (fu := fu) hI.2.1 hI.2.2 (by omega)).1 h0
    rw [e4, cal_some, e9, cal_some]
    exact ⟨M9, tail_ok t9 (fun hz => absurd hz (by decide)), f9 2 (by decide), A, H, c, T, TO, e, o, s, B, RC1_cg hI.1 f9, r9, hI.2.2⟩
  · obtain ⟨M2, e2, r3, f3⟩ := goBack_RC (fu := fu) hI.1 hI.2.2 (by omega) (by omega)
    have eX : f_X11_undo fu M = some (M2, ((0 : Nat), c - 1)) := by
      unfold f_X11_undo
      rw [if_neg (by rw [h38]; exact h0), e2, cal_some, r3.2.1.1]
    obtain ⟨w0, wc, wm, ws⟩ := wrp_ch (w := w4) (M := M) (r := c - 1) (A := A) (H := H) (c := c) (T := T) (TO := TO) (e := e) (o := o) (s := s) (B := B) r3 f3
    have e4 : f_L_undo fu M = some (up M2 65 0 (c - 1), 0) := by
      unfold f_L_undo
      rw [wrp_4, eX]
      exact w0
    obtain ⟨M9, e9, r9, t9, f9⟩ := (undo_RM (fu := fu) (wm hI.2.1) hI.2.2 (by omega)).2 (by omega)
    rw [e4, cal_some, e9, cal_some]
    exact ⟨M9, tail_ok t9 (fun _ => by rw [f9 65 (by decide), up_same]), by rw [f9 2 (by decide), ws], _, _, _, T, TO, e, o, s, B, RC1_cg wc f9, r9, undo_RG hI.2.2 (by omega)⟩
theorem case47_ok (hI : INV M A H c T TO e o s B) (hfu : 40000 ≤ fu) {nS : Nat} {x4 : Int} (hx : 0 ≤ x4) (hn : x4 + 6 ≤ nS) (hS : nS ≤ 3072) : ∃ M', f_L_case47 fu nS M x4 = some (M', 0) ∧ LOK M M' := by
  have g1 : rng (x4 + (1 : Int)) := ⟨by omega, by omega⟩
  have b1 : 0 ≤ x4 + (1 : Int) ∧ x4 + (1 : Int) < nS := ⟨by omega, by omega⟩
  unfold f_L_case47
  rw [grd_pos g1, grd_pos b1]
  generalize ha1 : M 2 (x4 + (1 : Int)).toNat = a1
  have hr := r013 (fltR_rng (A := A) a1)
  by_cases h0 : fltR A a1 = 0
  · obtain ⟨h5, h6⟩ := fltR_iff.mp h0
    obtain ⟨M2, e2, r3, f3⟩ := write_RC (fu := fu) hI.1 (by omega) h5.1 h5.2
    have eX : f_X11_writeVersion fu M a1 = some (M2, ((0 : Nat), (vText A a1).1)) := by
      unfold f_X11_writeVersion
      rw [requireReadable_X hI.1.1, cax_thru hr, if_pos h0, e2, cal_some, r3.2.2.2.1.1]
    obtain ⟨w0, wc, wm, ws⟩ := wrp_ch (w := w2) (M := M) (r := (vText A a1).1) (A := A) (H := H) (c := c) (T := T) (TO := TO) (e := e) (o := o) (s := s) (B := B) r3 f3
    have e4 : f_L_writeVersion fu M a1 = some (up M2 65 0 ((vText A a1).1), 0) := by
      unfold f_L_writeVersion
      rw [wrp_2, eX]
      exact w0
    obtain ⟨M9, e9, r9, t9, f9⟩ := (writeVersion_RM (fu := fu) (wm hI.2.1) (by omega) a1).2 h0
    rw [e4, cal_some, grd_pos g1, grd_pos b1, ws, ha1, e9, cal_some]
    exact ⟨M9, tail_ok t9 (fun _ => by rw [f9 65 (by decide), up_same]), by rw [f9 2 (by decide), ws], _, _, _, T, _, e, o, s, B, RC1_cg wc f9, r9, hI.2.2⟩
  · have eX : f_X11_writeVersion fu M a1 = some (M, (rf (fltR A a1), (0 : Int))) := by
      unfold f_X11_writeVersion
      rw [requireReadable_X hI.1.1, cax_thru hr, if_neg h0]
    have e4 : f_L_writeVersion fu M a1 = some (M, thR (fltR A a1)) := by
      unfold f_L_writeVersion
      rw [wrp_2, eX]
      exact wrp_no hr h0 (w2_ok (fltR_rng a1) h0).1
    rw [e4, cal_some, grd_pos g1, grd_pos b1, ha1, (writeVersion_RM (fu := fu) hI.2.1 (by omega) a1).1 h0, cal_some]
    obtain ⟨i9, s9, o9⟩ := md_6 hI (thR (fltR A a1))
    exact ⟨_, tail_ok (up_same _ _ _ _) (fun hz => absurd (thR_z hz) h0), s9, A, H, c, T, TO, e, o, s, B, i9⟩
theorem case50_ok (hI : INV M A H c T TO e o s B) (hfu : 40000 ≤ fu) (nS : Nat) (x4 : Int) : ∃ M', f_L_case50 fu nS M x4 = some (M', 0) ∧ LOK M M' := by
  have h3 : M 3 2 = s := hI.1.2.2.2.2.2.2.2.1
  unfold f_L_case50
  rcases hI.2.2.2.1 with h0 | h0
  · have e4 : f_L_restoreState fu M = some (M, 1) := by
      unfold f_L_restoreState f_X11_restoreState
      rw [if_pos (by rw [h3]; exact h0)]
      rfl
    obtain ⟨M9, e9, r9, t9, f9⟩ := (restoreState_RM (fu := fu) hI.2.1 hI.2.2 (by omega)).1 h0
    rw [e4, cal_some, e9, cal_some]
    exact ⟨M9, tail_ok t9 (fun hz => absurd hz (by decide)), f9 2 (by decide), A, H, c, T, TO, e, o, s, B, RC1_cg hI.1 f9, r9, hI.2.2⟩
  · obtain ⟨M2, e2, r3, f3⟩ := restore_RC (fu := fu) hI.1 hI.2.2 h0 (by omega)
    have eX : f_X11_restoreState fu M = some (up M2 38 0 0, ((0 : Nat), aV B)) := by
      unfold f_X11_restoreState
      rw [if_neg (by rw [h3, h0]; decide), e2, cal_some]
      show cal (f_X1_forget fu M2) _ = _
      unfold f_X1_forget
      rw [cal_some, r3.1.1.2.1]
    obtain ⟨w0, wc, wm, ws⟩ := wrp_ch (w := w4) (M := M) (r := aV B) (A := A) (H := H) (c := c) (T := T) (TO := TO) (e := e) (o := o) (s := s) (B := B) r3 f3
    have e4 : f_L_restoreState fu M = some (up (up M2 38 0 0) 65 0 (aV B), 0) := by
      unfold f_L_restoreState
      rw [wrp_4, eX]
      exact w0
    obtain ⟨M9, e9, r9, t9, f9⟩ := (restoreState_RM (fu := fu) (wm hI.2.1) hI.2.2 (by omega)).2 h0
    rw [e4, cal_some, e9, cal_some]
    exact ⟨M9, tail_ok t9 (fun _ => by rw [f9 65 (by decide), up_same]), by rw [f9 2 (by decide), ws], _, _, _, T, TO, e, o, s, B, RC1_cg wc f9, r9, ⟨fun j j0 j1 => absurd j1 (Int.not_lt.mpr j0), Or.inr h0, hI.2.2.2.2⟩⟩
end Cases2
