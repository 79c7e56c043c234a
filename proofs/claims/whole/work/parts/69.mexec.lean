/-! a script's statements, the model -/
section MExec
variable {fu : Nat}
theorem executeSet_M {M : Mem} {A : AS} (h : MM M A) (hfu : 1000 ≤ fu) {v i x : Int} (hi : 0 ≤ i) (hx : -999 ≤ x ∧ x ≤ 999) : (fltS A v i x = 0 → ∃ M', f_X12_executeSet fu M v i x = some (M', 1) ∧ MM M' (mkS A v i x) ∧ frM M M') ∧ (fltS A v i x ≠ 0 → f_X12_executeSet fu M v i x = some (M, 0)) := by
  unfold f_X12_executeSet
  rw [isLive_M h, cal_some]
  refine ⟨fun hf => ?_, fun hf => ?_⟩
  · obtain ⟨h1, h2, h3, h4⟩ := fltS_iff.mp hf
    obtain ⟨h5, h6⟩ := fltR_iff.mp h1
    obtain ⟨M1, e9, r9, f9⟩ := makeSet_M (fu := fu) hfu h h4 h5 h6 h2 h3
    rw [ind_t h1, if_neg (by decide), lengthOf_M h h5.1 h5.2, cal_some, if_neg (by omega), hasRoom_M h, cal_some, ind_t h4, if_neg (by decide), e9, cal_some, if_neg (by omega)]
    exact ⟨M1, rfl, r9, f9⟩
  · by_cases h1 : fltR A v = 0
    · obtain ⟨h5, h6⟩ := fltR_iff.mp h1
      rw [ind_t h1, if_neg (by decide), lengthOf_M h h5.1 h5.2, cal_some]
      by_cases h2 : szA A v ≤ i
      · rw [if_pos h2]
      · rw [if_neg h2, hasRoom_M h, cal_some]
        by_cases h4 : aV A < 40
        · exact absurd (fltS_iff.mpr ⟨h1, ⟨hi, by omega⟩, hx, h4⟩) hf
        · rw [ind_f h4, if_pos rfl]
    · rw [ind_f h1, if_pos rfl]
theorem executeAppend_M {M : Mem} {A : AS} (h : MM M A) (hfu : 1000 ≤ fu) {v x : Int} (hx : -999 ≤ x ∧ x ≤ 999) : (fltA A v x = 0 → ∃ M', f_X12_executeAppend fu M v x = some (M', 1) ∧ MM M' (mkA A v x) ∧ frM M M') ∧ (fltA A v x ≠ 0 → f_X12_executeAppend fu M v x = some (M, 0)) := by
  unfold f_X12_executeAppend
  rw [isLive_M h, cal_some]
  refine ⟨fun hf => ?_, fun hf => ?_⟩
  · obtain ⟨h1, h2, h3, h4⟩ := fltA_iff.mp hf
    obtain ⟨h5, h6⟩ := fltR_iff.mp h1
    obtain ⟨M1, e9, r9, f9⟩ := makeAppend_M (fu := fu) hfu h h4 h5 h6 h2 h3
    rw [ind_t h1, if_neg (by decide), lengthOf_M h h5.1 h5.2, cal_some, if_neg (by omega), hasRoom_M h, cal_some, ind_t h4, if_neg (by decide), e9, cal_some, if_neg (by omega)]
    exact ⟨M1, rfl, r9, f9⟩
  · by_cases h1 : fltR A v = 0
    · obtain ⟨h5, h6⟩ := fltR_iff.mp h1
      have hz := (G_V h.2 h5.1 h5.2).1
      rw [ind_t h1, if_neg (by decide), lengthOf_M h h5.1 h5.2, cal_some]
      by_cases h2 : szA A v = 64
      · rw [if_pos h2]
      · rw [if_neg h2, hasRoom_M h, cal_some]
        by_cases h4 : aV A < 40
        · exact absurd (fltA_iff.mpr ⟨h1, by omega, hx, h4⟩) hf
        · rw [ind_f h4, if_pos rfl]
    · rw [ind_f h1, if_pos rfl]
theorem executeTruncate_M {M : Mem} {A : AS} (h : MM M A) (hfu : 1000 ≤ fu) {v s : Int} (hs : 0 ≤ s) : (fltT A v s = 0 → ∃ M', f_X12_executeTruncate fu M v s = some (M', 1) ∧ MM M' (mkT A v s) ∧ frM M M') ∧ (fltT A v s ≠ 0 → f_X12_executeTruncate fu M v s = some (M, 0)) := by
  unfold f_X12_executeTruncate
  rw [isLive_M h, cal_some]
  refine ⟨fun hf => ?_, fun hf => ?_⟩
  · obtain ⟨h1, h2, h4⟩ := fltT_iff.mp hf
    obtain ⟨h5, h6⟩ := fltR_iff.mp h1
    obtain ⟨M1, e9, r9, f9⟩ := makeTruncate_M (fu := fu) hfu h h4 h5 h6 h2
    rw [ind_t h1, if_neg (by decide), lengthOf_M h h5.1 h5.2, cal_some, if_neg (by omega), hasRoom_M h, cal_some, ind_t h4, if_neg (by decide), e9, cal_some, if_neg (by omega)]
    exact ⟨M1, rfl, r9, f9⟩
  · by_cases h1 : fltR A v = 0
    · obtain ⟨h5, h6⟩ := fltR_iff.mp h1
      rw [ind_t h1, if_neg (by decide), lengthOf_M h h5.1 h5.2, cal_some]
      by_cases h2 : szA A v < s
      · rw [if_pos h2]
      · rw [if_neg h2, hasRoom_M h, cal_some]
        by_cases h4 : aV A < 40
        · exact absurd (fltT_iff.mpr ⟨h1, ⟨hs, by omega⟩, h4⟩) hf
        · rw [ind_f h4, if_pos rfl]
    · rw [ind_f h1, if_pos rfl]
def frXm (M M' : Mem) : Prop := ∀ q, q ≠ 53 → q ≠ 57 → q ≠ 60 → M' q = M q
theorem execute_M {M : Mem} {A : AS} {S : Int → Int} {c q : Int} (h : MM M A) (g : gR (rdm M) S c) (hb : bS S c) (q0 : 0 ≤ q) (q1 : q < c) (c1 : c ≤ 30) (hfu : 1000 ≤ fu) : (exF A S q = 0 → ∃ M', f_X12_execute fu M q = some (M', 1) ∧ MM M' (exO A S q) ∧ frXm M M') ∧ (exF A S q ≠ 0 → f_X12_execute fu M q = some (M, 0)) := by
  obtain ⟨⟨w3, w7⟩, hb⟩ := hb q q0 q1
  obtain ⟨gw, ga⟩ := g q q0 q1
  have i0 : (4 : Int) * q = q * 4 := by omega
  have i1 : q * 4 + (1 : Int) = q * 4 + 1 + 0 := by omega
  have i2 : q * 4 + (2 : Int) = q * 4 + 1 + 1 := by omega
  have i3 : q * 4 + (3 : Int) = q * 4 + 1 + 2 := by omega
  have ew : M 62 (q * 4).toNat = S (q * 4) - 3 := by
    have : M 62 (q * 4).toNat + (if q * 4 % 4 = 0 then 3 else 0) = S (q * 4) := gw
    rw [if_pos (by omega)] at this
    omega
  have ea : ∀ a, 0 ≤ a → a < 3 → a < na (S (q * 4)) → M 62 (q * 4 + 1 + a).toNat = S (q * 4 + 1 + a) := fun a a0 a1 a2 => by
    have : M 62 (q * 4 + 1 + a).toNat + (if (q * 4 + 1 + a) % 4 = 0 then 3 else 0) = S (q * 4 + 1 + a) := ga a a0 a2
    rw [if_neg (by omega)] at this
    omega
  unfold f_X12_execute
  rw [i0, i1, i2, i3, grd_pos (by omega), grd_pos (by omega), grd_pos (by omega), grd_pos (by omega), grd_pos (by omega), grd_pos (by omega), ew]
  unfold exF exO
  by_cases c3 : S (q * 4) = 3
  · have n3 : na (S (q * 4)) = 3 := by rw [c3]; rfl
    have b1 := hb 1 (by decide) (by omega)
    have b2 := hb 2 (by decide) (by omega)
    unfold okA at b1 b2
    rw [c3, show mx 3 1 = 63 from rfl, if_neg (by decide)] at b1
    rw [c3, show mx 3 2 = 999 from rfl, if_pos rfl] at b2
    rw [if_pos (show S (q * 4) - 3 = 0 by omega), grd_pos (by omega), grd_pos (by omega), ea 0 (by decide) (by decide) (by omega), ea 1 (by decide) (by decide) (by omega), ea 2 (by decide) (by decide) (by omega), if_pos c3, if_pos c3]
    obtain ⟨x1, x2⟩ := executeSet_M (fu := fu) h hfu (v := S (q * 4 + 1 + 0)) b1.1 b2
    refine ⟨fun hf => ?_, fun hf => ?_⟩
    · obtain ⟨M1, e9, r9, f9⟩ := x1 hf
      rw [e9, cal_some, grd_pos (by decide)]
      exact ⟨M1, rfl, r9, fun q z1 z2 _ => f9 q z1 z2⟩
    · rw [x2 hf, cal_some, grd_pos (by decide)]
  rw [if_neg c3, if_neg c3, if_neg (show ¬ S (q * 4) - 3 = 0 by omega)]
  by_cases c4 : S (q * 4) = 4
  · have n3 : na (S (q * 4)) = 2 := by rw [c4]; rfl
    have b1 := hb 1 (by decide) (by omega)
    unfold okA at b1
    rw [c4, show mx 4 1 = 999 from rfl, if_pos rfl] at b1
    rw [if_pos (show S (q * 4) - 3 = 1 by omega), ea 0 (by decide) (by decide) (by omega), ea 1 (by decide) (by decide) (by omega), if_pos c4, if_pos c4]
    obtain ⟨x1, x2⟩ := executeAppend_M (fu := fu) h hfu (v := S (q * 4 + 1 + 0)) b1
    refine ⟨fun hf => ?_, fun hf => ?_⟩
    · obtain ⟨M1, e9, r9, f9⟩ := x1 hf
      rw [e9, cal_some, grd_pos (by decide)]
      exact ⟨M1, rfl, r9, fun q z1 z2 _ => f9 q z1 z2⟩
    · rw [x2 hf, cal_some, grd_pos (by decide)]
  rw [if_neg c4, if_neg c4, if_neg (show ¬ S (q * 4) - 3 = 1 by omega)]
  by_cases c5 : S (q * 4) = 5
  · have n3 : na (S (q * 4)) = 2 := by rw [c5]; rfl
    have b1 := hb 1 (by decide) (by omega)
    unfold okA at b1
    rw [c5, show mx 5 1 = 64 from rfl, if_neg (by decide)] at b1
    rw [if_pos (show S (q * 4) - 3 = 2 by omega), ea 0 (by decide) (by decide) (by omega), ea 1 (by decide) (by decide) (by omega), if_pos c5, if_pos c5]
    obtain ⟨x1, x2⟩ := executeTruncate_M (fu := fu) h hfu (v := S (q * 4 + 1 + 0)) b1.1
    refine ⟨fun hf => ?_, fun hf => ?_⟩
    · obtain ⟨M1, e9, r9, f9⟩ := x1 hf
      rw [e9, cal_some, grd_pos (by decide)]
      exact ⟨M1, rfl, r9, fun q z1 z2 _ => f9 q z1 z2⟩
    · rw [x2 hf, cal_some, grd_pos (by decide)]
  rw [if_neg c5, if_neg c5, if_neg (show ¬ S (q * 4) - 3 = 2 by omega)]
  by_cases c6 : S (q * 4) = 6
  · have n3 : na (S (q * 4)) = 1 := by rw [c6]; rfl
    rw [if_pos (show S (q * 4) - 3 = 3 by omega), ea 0 (by decide) (by decide) (by omega), if_pos c6, if_pos c6, isLive_M h, cal_some]
    refine ⟨fun hf => ?_, fun hf => ?_⟩
    · obtain ⟨h5, h6⟩ := fltR_iff.mp hf
      obtain ⟨M1, e9, r9, f9⟩ := releaseVersion_M (fu := fu) hfu h h5
      have nn : 0 ≤ nGar (mkR A (S (q * 4 + 1 + 0))) := by rw [nGar_eq r9.2]; exact nRem_0 _
      rw [ind_t hf, if_neg (by decide), e9, cal_some, if_neg (by omega)]
      exact ⟨M1, rfl, r9, fun q z1 _ z3 => f9 q z1 z3⟩
    · rw [ind_f hf, if_pos rfl]
  rw [if_neg c6, if_neg c6, if_neg (show ¬ S (q * 4) - 3 = 3 by omega)]
  refine ⟨fun hf => ?_, fun hf => absurd rfl hf⟩
  obtain ⟨M1, e9, r9, f9⟩ := collectAll_M (fu := fu) hfu h
  have nn := nRem_0 A
  rw [e9, cal_some, if_neg (by omega)]
  exact ⟨M1, rfl, r9, fun q z1 _ z3 => f9 q z1 z3⟩
theorem run_M {S : Int → Int} {c : Int} (c1 : c ≤ 30) (hb : bS S c) (hfu : 1000 ≤ fu) : ∀ (n k : Nat) (x : Int) (M : Mem) (A : AS), MM M A → gR (rdm M) S c → M 52 23 = c → 0 ≤ x → x ≤ c → c - x < n → c - x < k → ∃ M', f_X12_runScript_L54 fu n x M = some (M', (rnA S c k x A).1) ∧ MM M' (rnA S c k x A).2 ∧ frXm M M'
  | 0, k, x, M, A, h, g, h5, x0, x1, hn, hk => by omega
  | n + 1, 0, x, M, A, h, g, h5, x0, x1, hn, hk => by omega
  | n + 1, k + 1, x, M, A, h, g, h5, x0, x1, hn, hk => by
      rw [f_X12_runScript_L54, rnA, h5]
      by_cases h1 : c ≤ x
      · rw [if_pos h1, if_pos h1]; exact ⟨M, rfl, h, fun _ _ _ _ => rfl⟩
      · obtain ⟨x1, x2⟩ := execute_M (fu := fu) h g hb x0 (by omega) c1 hfu
        rw [if_neg h1, if_neg h1]
        by_cases h2 : exF A S x = 0
        · obtain ⟨M1, e1, r1, f1⟩ := x1 h2
          have er : rdm M1 = rdm M := by unfold rdm; rw [f1 62 (by decide) (by decide) (by decide)]
          rw [if_pos h2, e1, cal_some, if_neg (by decide), grd_pos (by omega)]
          obtain ⟨M', q1, q2, q3⟩ := run_M c1 hb hfu n k (x + 1) M1 _ r1 (by rw [er]; exact g) (by rw [f1 52 (by decide) (by decide) (by decide)]; exact h5) (by omega) (by omega) (by omega) (by omega)
          exact ⟨M', q1, q2, fun q z1 z2 z3 => by rw [q3 q z1 z2 z3, f1 q z1 z2 z3]⟩
        · rw [if_neg h2, x2 h2, cal_some, if_pos rfl]; exact ⟨M, rfl, h, fun _ _ _ _ => rfl⟩
end MExec
