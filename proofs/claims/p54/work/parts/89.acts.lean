/-! the law's actions answer true -/
/-- what the class's cells hold -/
def KS (M : Mem) (A : AS) (H : Int → AS) (c : Int) : Prop := CM M A ∧ HC M H c ∧ HI A H c
def frX5 (M M' : Mem) : Prop := ∀ q, 52 ≤ q → M' q = M q
section Acts
variable {fu : Nat} {M : Mem} {A : AS} {H : Int → AS} {c : Int}
/-- keep, then a change -/
theorem chg_K (h : KS M A H c) (hfu : 2000 ≤ fu) : ∃ M1, f_X1_keep fu M = some (M1, 0) ∧ CM M1 A ∧ frX5 M M1 ∧ ∀ M2 A', CM M2 A' → sub A A' → (∀ q, q < 5 ∨ 18 < q → q ≠ 35 → M2 q = M1 q) → KS M2 A' (hPush H c A) (imin (c + 1) 8) ∧ frX5 M M2 := by
  obtain ⟨h1, h2, h3⟩ := h
  obtain ⟨M1, e1, r1, f1⟩ := keep_C (fu := fu) h1 h2 hfu h3
  refine ⟨M1, e1, CM_congr h1 (fun q _ q1 => f1 q (by omega)), fun q q0 => f1 q (by omega), fun M2 A' m2 hs f2 => ⟨⟨m2, HC_congr r1 (fun q _ q1 => f2 q (by omega) (by omega)), HI_sub (HI_push h1.2 h3 h2.2.1) hs⟩, fun q q0 => by rw [f2 q (by omega) (by omega), f1 q (by omega)]⟩⟩
theorem begin_K0 {M1 : Mem} (e1 : f_X1_keep fu M = some (M1, 0)) : f_X11_beginChange fu M 0 = some (M1, ((0 : Nat), (0 : Int))) := by
  unfold f_X11_beginChange
  rw [refuse_X, cax_thru (Or.inl rfl), if_pos rfl, e1, cal_some]
theorem begin_K3 : f_X11_beginChange fu M 3 = some (M, ((3 : Nat), (0 : Int))) := by
  unfold f_X11_beginChange
  rw [refuse_X, cax_thru (Or.inr (Or.inr (Or.inr rfl))), if_neg (by decide)]
  rfl
theorem fltP_e {v i x : Int} (hx : -999 ≤ x ∧ x ≤ 999) : fltP A v i x = fltE A v i := by
  unfold fltP
  rw [if_neg (fun z => z.2 hx)]
theorem set_K (h : KS M A H c) (hfu : 2000 ≤ fu) (hV : aV A < 40) {v i x : Int} (hv : 0 ≤ v ∧ v < aV A) (hl : rlA A v = 0) (hi : 0 ≤ i ∧ i < szA A v) (hx : -999 ≤ x ∧ x ≤ 999) : ∃ M', f_X11_set fu M v i x = some (M', ((0 : Nat), aV A)) ∧ KS M' (mkS A v i x) (hPush H c A) (imin (c + 1) 8) ∧ frX5 M M' := by
  obtain ⟨M1, e1, m1, -, k1⟩ := chg_K (fu := fu) h hfu
  obtain ⟨M2, e2, m2, f2⟩ := makeWithElement_C (fu := fu) (by omega) m1 hV hv hl hi hx
  obtain ⟨r3, f3⟩ := k1 M2 _ m2 (sub_mkS h.1.2 hv hi hx) (fun q q1 _ => f2 q q1)
  refine ⟨M2, ?_, r3, f3⟩
  unfold f_X11_set
  have hf : fltS A v i x = 0 := by
    unfold fltS
    rw [fltP_e hx, fltE_t hv.1 hv.2 hl hi.1 hi.2, if_neg (by omega)]
  rw [faultOfSet_C h.1, cal_some, hf, begin_K0 e1, cax_ret, e2, cal_some]
theorem append_K (h : KS M A H c) (hfu : 2000 ≤ fu) (hV : aV A < 40) {v x : Int} (hv : 0 ≤ v ∧ v < aV A) (hl : rlA A v = 0) (hs : szA A v < 64) (hx : -999 ≤ x ∧ x ≤ 999) : ∃ M', f_X11_append fu M v x = some (M', ((0 : Nat), aV A)) ∧ KS M' (mkA A v x) (hPush H c A) (imin (c + 1) 8) ∧ frX5 M M' := by
  obtain ⟨M1, e1, m1, -, k1⟩ := chg_K (fu := fu) h hfu
  obtain ⟨M2, e2, m2, f2⟩ := makeLonger_C (fu := fu) (by omega) m1 hV hv hl hs hx
  obtain ⟨r3, f3⟩ := k1 M2 _ m2 (sub_mkA h.1.2 hv hs hx) (fun q q1 _ => f2 q q1)
  refine ⟨M2, ?_, r3, f3⟩
  unfold f_X11_append
  have hf : fltA A v x = 0 := by
    unfold fltA
    rw [if_pos hv, if_pos hx, if_neg (by omega)]
  rw [faultOfAppend_C h.1, cal_some, hf, begin_K0 e1, cax_ret, e2, cal_some]
theorem truncate_K (h : KS M A H c) (hfu : 2000 ≤ fu) (hV : aV A < 40) {v s : Int} (hv : 0 ≤ v ∧ v < aV A) (hl : rlA A v = 0) (hs : 0 ≤ s ∧ s ≤ szA A v) : ∃ M', f_X11_truncate fu M v s = some (M', ((0 : Nat), aV A)) ∧ KS M' (mkT A v s) (hPush H c A) (imin (c + 1) 8) ∧ frX5 M M' := by
  obtain ⟨M1, e1, m1, -, k1⟩ := chg_K (fu := fu) h hfu
  obtain ⟨M2, e2, m2, f2⟩ := makeShorter_C (fu := fu) (by omega) m1 hV hv hl hs
  obtain ⟨r3, f3⟩ := k1 M2 _ m2 (sub_mkT h.1.2 hv hs) (fun q q1 _ => f2 q q1)
  refine ⟨M2, ?_, r3, f3⟩
  unfold f_X11_truncate
  have hf : fltT A v s = 0 := by
    unfold fltT
    rw [if_pos hv, if_neg (by omega), if_neg (by omega)]
  rw [faultOfTruncate_C h.1, cal_some, hf, begin_K0 e1, cax_ret, e2, cal_some]
theorem release_K (h : KS M A H c) (hfu : 2000 ≤ fu) {v : Int} (hv : 0 ≤ v ∧ v < aV A) (hl : rlA A v = 0) : ∃ M', f_X11_release fu M v = some (M', ((0 : Nat), nGar (mkR A v))) ∧ KS M' (mkR A v) (hPush H c A) (imin (c + 1) 8) ∧ frX5 M M' := by
  obtain ⟨M1, e1, m1, -, k1⟩ := chg_K (fu := fu) h hfu
  obtain ⟨M2, e2, m2, f2⟩ := drop_C (fu := fu) m1 hv
  obtain ⟨M5, e5, f5⟩ := countGarbage_C (fu := fu) (by omega) m2
  obtain ⟨r3, f3⟩ := k1 M5 (mkR A v) (CM_congr m2 (fun q _ q1 => f5 q (by omega))) (sub_mkR A v) (fun q q1 q2 => by rw [f5 q q2, f2 q q1])
  refine ⟨M5, ?_, r3, f3⟩
  unfold f_X11_release
  rw [faultOfReading_C h.1, cal_some, fltR_t hv.1 hv.2 hl, begin_K0 e1, cax_ret, e2, cal_some, e5, cal_some]
theorem collect_K (h : KS M A H c) (hfu : 2000 ≤ fu) : ∃ M', f_X11_collect fu M = some (M', ((0 : Nat), nRem A)) ∧ KS M' (mkC A) (hPush H c A) (imin (c + 1) 8) ∧ frX5 M M' := by
  obtain ⟨M1, e1, m1, -, k1⟩ := chg_K (fu := fu) h hfu
  obtain ⟨M2, e2, f2, m2⟩ := removeGarbage_C (fu := fu) (by omega) m1
  obtain ⟨r3, f3⟩ := k1 M2 _ m2 (sub_mkC A) (fun q q1 q2 => f2 q q2 (by omega))
  refine ⟨M2, ?_, r3, f3⟩
  unfold f_X11_collect
  rw [begin_K0 e1, cax_ret, e2, cal_some]
/-- a refused call -/
theorem refused_K (h : CM M A) {a v i x : Int} (hv : 0 ≤ v ∧ v < aV A) (hx : -999 ≤ x ∧ x ≤ 999)
    (ha : (a = 0 ∧ (rlA A v ≠ 0 ∨ (40 ≤ aV A ∧ 0 ≤ i ∧ i < szA A v))) ∨ (a = 1 ∧ (rlA A v ≠ 0 ∨ 64 ≤ szA A v ∨ 40 ≤ aV A)) ∨ (a = 2 ∧ i = 0 ∧ (rlA A v ≠ 0 ∨ 40 ≤ aV A))) : f_L_isRefused fu M a v i x = some (M, 1) := by
  have hsz := (h.2.2.2.2.1 v hv.1 hv.2).1
  unfold f_L_isRefused
  rcases ha with ⟨rfl, hc⟩ | ⟨rfl, hc⟩ | ⟨rfl, rfl, hc⟩
  · rw [if_pos rfl]
    have hf : fltS A v i x = 3 := by
      rcases hc with hc | ⟨c1, c2, c3⟩
      · have hR : fltR A v = 3 := by
          unfold fltR
          rw [if_pos hv, if_neg hc]
        have hE : fltE A v i = 3 := by
          unfold fltE
          rw [hR, if_neg (by omega)]
        unfold fltS
        rw [fltP_e hx, hE, if_neg (by omega)]
      · by_cases hl : rlA A v = 0
        · unfold fltS
          rw [fltP_e hx, fltE_t hv.1 hv.2 hl c2 c3, if_pos ⟨rfl, c1⟩]
        · have hR : fltR A v = 3 := by
            unfold fltR
            rw [if_pos hv, if_neg hl]
          have hE : fltE A v i = 3 := by
            unfold fltE
            rw [hR, if_neg (by omega)]
          unfold fltS
          rw [fltP_e hx, hE, if_neg (by omega)]
    have eX : f_X11_set fu M v i x = some (M, ((3 : Nat), (0 : Int))) := by
      unfold f_X11_set
      rw [faultOfSet_C h, cal_some, hf, begin_K3]
      rfl
    rw [eX]
    rfl
  · rw [if_neg (by decide), if_pos rfl]
    have hf : fltA A v x = 3 := by
      unfold fltA
      rw [if_pos hv, if_pos hx, if_pos hc]
    have eX : f_X11_append fu M v x = some (M, ((3 : Nat), (0 : Int))) := by
      unfold f_X11_append
      rw [faultOfAppend_C h, cal_some, hf, begin_K3]
      rfl
    rw [eX]
    rfl
  · rw [if_neg (by decide), if_neg (by decide), if_pos rfl]
    have hf : fltT A v 0 = 3 := by
      unfold fltT
      rw [if_pos hv, if_neg (by omega), if_pos hc]
    have eX : f_X11_truncate fu M v 0 = some (M, ((3 : Nat), (0 : Int))) := by
      unfold f_X11_truncate
      rw [faultOfTruncate_C h, cal_some, hf, begin_K3]
      rfl
    rw [eX]
    rfl
end Acts
