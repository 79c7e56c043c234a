/-! a script's statements -/
theorem fltR_iff {A : AS} {v : Int} : fltR A v = 0 ↔ (0 ≤ v ∧ v < aV A) ∧ rlA A v = 0 := by
  unfold fltR
  by_cases c : 0 ≤ v ∧ v < aV A
  · by_cases d : rlA A v = 0
    · rw [if_pos c, if_pos d]; exact ⟨fun _ => ⟨c, d⟩, fun _ => rfl⟩
    · rw [if_pos c, if_neg d]; exact ⟨fun h => absurd h (by decide), fun h => absurd h.2 d⟩
  · rw [if_neg c]; exact ⟨fun h => absurd h (by decide), fun h => absurd h.1 c⟩
theorem fltS_iff {A : AS} {v i x : Int} : fltS A v i x = 0 ↔ fltR A v = 0 ∧ (0 ≤ i ∧ i < szA A v) ∧ (-999 ≤ x ∧ x ≤ 999) ∧ aV A < 40 := by
  have hE : fltE A v i = 0 ↔ fltR A v = 0 ∧ (0 ≤ i ∧ i < szA A v) := by
    unfold fltE
    by_cases c : fltR A v = 0 ∧ ¬ (0 ≤ i ∧ i < szA A v)
    · rw [if_pos c]; exact ⟨fun h => absurd h (by decide), fun h => absurd h.2 c.2⟩
    · rw [if_neg c]; exact ⟨fun h => ⟨h, Classical.byContradiction fun h9 => c ⟨h, h9⟩⟩, fun h => h.1⟩
  have hP : fltP A v i x = 0 ↔ fltE A v i = 0 ∧ (-999 ≤ x ∧ x ≤ 999) := by
    unfold fltP
    by_cases c : fltE A v i ≠ 1 ∧ ¬ (-999 ≤ x ∧ x ≤ 999)
    · rw [if_pos c]; exact ⟨fun h => absurd h (by decide), fun h => absurd h.2 c.2⟩
    · rw [if_neg c]; exact ⟨fun h => ⟨h, Classical.byContradiction fun h9 => c ⟨by rw [h]; decide, h9⟩⟩, fun h => h.1⟩
  unfold fltS
  by_cases c : fltP A v i x = 0 ∧ 40 ≤ aV A
  · rw [if_pos c]; exact ⟨fun h => absurd h (by decide), fun h => absurd c.2 (Int.not_le.mpr h.2.2.2)⟩
  · rw [if_neg c]
    constructor
    · intro h
      have h1 := hP.mp h
      have h2 := hE.mp h1.1
      exact ⟨h2.1, h2.2, h1.2, Classical.byContradiction fun h9 => c ⟨h, by omega⟩⟩
    · intro h
      exact hP.mpr ⟨hE.mpr ⟨h.1, h.2.1⟩, h.2.2.1⟩
theorem fltA_iff {A : AS} {v x : Int} : fltA A v x = 0 ↔ fltR A v = 0 ∧ szA A v < 64 ∧ (-999 ≤ x ∧ x ≤ 999) ∧ aV A < 40 := by
  rw [fltR_iff]
  unfold fltA
  by_cases c : 0 ≤ v ∧ v < aV A
  · rw [if_pos c]
    by_cases d : -999 ≤ x ∧ x ≤ 999
    · rw [if_pos d]
      by_cases e : rlA A v ≠ 0 ∨ 64 ≤ szA A v ∨ 40 ≤ aV A
      · rw [if_pos e]; exact ⟨fun h => absurd h (by decide), fun h => by omega⟩
      · rw [if_neg e]; exact ⟨fun h => by omega, fun h => rfl⟩
    · rw [if_neg d]; exact ⟨fun h => absurd h (by decide), fun h => absurd h.2.2.1 d⟩
  · rw [if_neg c]; exact ⟨fun h => absurd h (by decide), fun h => absurd h.1.1 c⟩
theorem fltT_iff {A : AS} {v s : Int} : fltT A v s = 0 ↔ fltR A v = 0 ∧ (0 ≤ s ∧ s ≤ szA A v) ∧ aV A < 40 := by
  rw [fltR_iff]
  unfold fltT
  by_cases c : 0 ≤ v ∧ v < aV A
  · rw [if_pos c]
    by_cases d : s < 0 ∨ (rlA A v = 0 ∧ szA A v < s)
    · rw [if_pos d]; exact ⟨fun h => absurd h (by decide), fun h => by omega⟩
    · rw [if_neg d]
      by_cases e : rlA A v ≠ 0 ∨ 40 ≤ aV A
      · rw [if_pos e]; exact ⟨fun h => absurd h (by decide), fun h => by omega⟩
      · rw [if_neg e]; exact ⟨fun h => by omega, fun h => rfl⟩
  · rw [if_neg c]; exact ⟨fun h => absurd h (by decide), fun h => absurd h.1.1 c⟩
theorem nRem_0 (A : AS) : 0 ≤ nRem A := sm_nonneg _ _ (fun k _ _ => (ind_rng _).1)
def exF (A : AS) (S : Int → Int) (q : Int) : Int := if S (q * 4) = 3 then fltS A (S (q * 4 + 1 + 0)) (S (q * 4 + 1 + 1)) (S (q * 4 + 1 + 2)) else if S (q * 4) = 4 then fltA A (S (q * 4 + 1 + 0)) (S (q * 4 + 1 + 1)) else if S (q * 4) = 5 then fltT A (S (q * 4 + 1 + 0)) (S (q * 4 + 1 + 1)) else if S (q * 4) = 6 then fltR A (S (q * 4 + 1 + 0)) else 0
def exO (A : AS) (S : Int → Int) (q : Int) : AS := if S (q * 4) = 3 then mkS A (S (q * 4 + 1 + 0)) (S (q * 4 + 1 + 1)) (S (q * 4 + 1 + 2)) else if S (q * 4) = 4 then mkA A (S (q * 4 + 1 + 0)) (S (q * 4 + 1 + 1)) else if S (q * 4) = 5 then mkT A (S (q * 4 + 1 + 0)) (S (q * 4 + 1 + 1)) else if S (q * 4) = 6 then mkR A (S (q * 4 + 1 + 0)) else mkC A
theorem sub_exO {A : AS} (hG : Good A) {S : Int → Int} {q : Int} (h : exF A S q = 0) : sub A (exO A S q) ∧ Good (exO A S q) := by
  unfold exF at h
  unfold exO
  by_cases c3 : S (q * 4) = 3
  · rw [if_pos c3] at h ⊢
    obtain ⟨h1, h2, h3, h4⟩ := fltS_iff.mp h
    obtain ⟨h5, h6⟩ := fltR_iff.mp h1
    exact ⟨sub_mkS hG h5 h2 h3, Good_mkS hG h4 h5 h6 h2 h3⟩
  rw [if_neg c3] at h ⊢
  by_cases c4 : S (q * 4) = 4
  · rw [if_pos c4] at h ⊢
    obtain ⟨h1, h2, h3, h4⟩ := fltA_iff.mp h
    obtain ⟨h5, h6⟩ := fltR_iff.mp h1
    exact ⟨sub_mkA hG h5 h2 h3, Good_mkA hG h4 h5 h6 h2 h3⟩
  rw [if_neg c4] at h ⊢
  by_cases c5 : S (q * 4) = 5
  · rw [if_pos c5] at h ⊢
    obtain ⟨h1, h2, h4⟩ := fltT_iff.mp h
    obtain ⟨h5, h6⟩ := fltR_iff.mp h1
    exact ⟨sub_mkT hG h5 h2, Good_mkT hG h4 h5 h6 h2⟩
  rw [if_neg c5] at h ⊢
  by_cases c6 : S (q * 4) = 6
  · rw [if_pos c6] at h ⊢
    obtain ⟨h5, h6⟩ := fltR_iff.mp h
    exact ⟨sub_mkR A _, Good_mkR hG h5⟩
  rw [if_neg c6]
  exact ⟨sub_mkC A, Good_mkC hG⟩
def rnA (S : Int → Int) (c : Int) : Nat → Int → AS → Int × AS
  | 0, x, A => (x, A)
  | n + 1, x, A => if c ≤ x then (x, A) else if exF A S x = 0 then rnA S c n (x + 1) (exO A S x) else (x, A)
theorem rnA_sub {S : Int → Int} {c : Int} : ∀ (n : Nat) (x : Int) (A : AS), Good A → sub A (rnA S c n x A).2 ∧ Good (rnA S c n x A).2
  | 0, x, A, h => ⟨sub_refl A, h⟩
  | n + 1, x, A, h => by
      rw [rnA]
      by_cases h1 : c ≤ x
      · rw [if_pos h1]; exact ⟨sub_refl A, h⟩
      · rw [if_neg h1]
        by_cases h2 : exF A S x = 0
        · rw [if_pos h2]
          obtain ⟨s1, g1⟩ := sub_exO h h2
          obtain ⟨s2, g2⟩ := rnA_sub n (x + 1) _ g1
          exact ⟨sub_trans s1 s2, g2⟩
        · rw [if_neg h2]; exact ⟨sub_refl A, h⟩
section Exec
variable {fu : Nat}
theorem gR_arg {M : Mem} {S : Int → Int} {c q : Int} (g : gR (rd M) S c) (q0 : 0 ≤ q) (q1 : q < c) (c1 : c ≤ 30) {a : Int} (a0 : 0 ≤ a) (a1 : a < 3) : (∃ y, f_X6_argumentOf fu M q a = some (M, y)) ∧ (a < na (S (q * 4)) → f_X6_argumentOf fu M q a = some (M, S (q * 4 + 1 + a))) := by
  unfold f_X6_argumentOf
  rw [grd_pos (by omega), at_in (by omega) (by omega), cal_some]
  exact ⟨⟨_, rfl⟩, fun h => by
    have : M 49 (q * 4 + 1 + a).toNat = S (q * 4 + 1 + a) := (g q q0 q1).2 a a0 h
    rw [this]⟩
theorem gR_wd {M : Mem} {S : Int → Int} {c q : Int} (g : gR (rd M) S c) (q0 : 0 ≤ q) (q1 : q < c) (c1 : c ≤ 30) : f_X6_wordOf fu M q = some (M, S (q * 4)) := by
  unfold f_X6_wordOf
  have : M 49 (q * 4).toNat = S (q * 4) := (g q q0 q1).1
  rw [grd_pos (by omega), at_in (by omega) (by omega), cal_some, this]
theorem faultOfStatement_C {M : Mem} {A : AS} {S : Int → Int} {c q : Int} (h : CM M A) (g : gR (rd M) S c) (q0 : 0 ≤ q) (q1 : q < c) (c1 : c ≤ 30) : f_X11_faultOfStatement fu M q = some (M, exF A S q) := by
  obtain ⟨⟨y0, e0⟩, e0'⟩ := gR_arg (fu := fu) g q0 q1 c1 (a := 0) (by decide) (by decide)
  obtain ⟨⟨y1, e1⟩, e1'⟩ := gR_arg (fu := fu) g q0 q1 c1 (a := 1) (by decide) (by decide)
  obtain ⟨⟨y2, e2⟩, e2'⟩ := gR_arg (fu := fu) g q0 q1 c1 (a := 2) (by decide) (by decide)
  have ew := gR_wd (fu := fu) g q0 q1 c1
  unfold f_X11_faultOfStatement exF
  by_cases c3 : S (q * 4) = 3
  · have n3 : na (S (q * 4)) = 3 := by rw [c3]; rfl
    rw [e0' (by omega), cal_some, e1' (by omega), cal_some, ew, cal_some, if_pos c3, if_pos c3, e2' (by omega), cal_some, faultOfSet_C h, cal_some]
  by_cases c4 : S (q * 4) = 4
  · have n3 : na (S (q * 4)) = 2 := by rw [c4]; rfl
    rw [e0' (by omega), cal_some, e1' (by omega), cal_some, ew, cal_some, if_neg c3, if_neg c3, if_pos c4, if_pos c4, faultOfAppend_C h, cal_some]
  by_cases c5 : S (q * 4) = 5
  · have n3 : na (S (q * 4)) = 2 := by rw [c5]; rfl
    rw [e0' (by omega), cal_some, e1' (by omega), cal_some, ew, cal_some, if_neg c3, if_neg c3, if_neg c4, if_neg c4, if_pos c5, if_pos c5, faultOfTruncate_C h, cal_some]
  by_cases c6 : S (q * 4) = 6
  · have n3 : na (S (q * 4)) = 1 := by rw [c6]; rfl
    rw [e0' (by omega), cal_some, e1, cal_some, ew, cal_some, if_neg c3, if_neg c3, if_neg c4, if_neg c4, if_neg c5, if_neg c5, if_pos c6, if_pos c6, faultOfReading_C h, cal_some]
  rw [e0, cal_some, e1, cal_some, ew, cal_some, if_neg c3, if_neg c3, if_neg c4, if_neg c4, if_neg c5, if_neg c5, if_neg c6, if_neg c6]
def frXq (M M' : Mem) : Prop := ∀ q, (q < 5 ∨ 18 < q) → q ≠ 35 → M' q = M q
theorem perform_C {M : Mem} {A : AS} {S : Int → Int} {c q : Int} (h : CM M A) (g : gR (rd M) S c) (q0 : 0 ≤ q) (q1 : q < c) (c1 : c ≤ 30) (hf : exF A S q = 0) (hfu : 1000 ≤ fu) : ∃ M', f_X11_perform fu M q = some (M', 0) ∧ CM M' (exO A S q) ∧ frXq M M' := by
  obtain ⟨⟨y0, e0⟩, e0'⟩ := gR_arg (fu := fu) g q0 q1 c1 (a := 0) (by decide) (by decide)
  obtain ⟨⟨y1, e1⟩, e1'⟩ := gR_arg (fu := fu) g q0 q1 c1 (a := 1) (by decide) (by decide)
  obtain ⟨⟨y2, e2⟩, e2'⟩ := gR_arg (fu := fu) g q0 q1 c1 (a := 2) (by decide) (by decide)
  have ew := gR_wd (fu := fu) g q0 q1 c1
  unfold exF at hf
  unfold f_X11_perform exO
  by_cases c3 : S (q * 4) = 3
  · have n3 : na (S (q * 4)) = 3 := by rw [c3]; rfl
    rw [if_pos c3] at hf
    obtain ⟨h1, h2, h3, h4⟩ := fltS_iff.mp hf
    obtain ⟨h5, h6⟩ := fltR_iff.mp h1
    obtain ⟨M1, e9, r9, f9⟩ := makeWithElement_C (fu := fu) hfu h h4 h5 h6 h2 h3
    rw [e0' (by omega), cal_some, e1' (by omega), cal_some, ew, cal_some, if_pos c3, if_pos c3, e2' (by omega), cal_some, e9, cal_some]
    exact ⟨M1, rfl, r9, fun q q2 _ => f9 q q2⟩
  rw [if_neg c3] at hf
  by_cases c4 : S (q * 4) = 4
  · have n3 : na (S (q * 4)) = 2 := by rw [c4]; rfl
    rw [if_pos c4] at hf
    obtain ⟨h1, h2, h3, h4⟩ := fltA_iff.mp hf
    obtain ⟨h5, h6⟩ := fltR_iff.mp h1
    obtain ⟨M1, e9, r9, f9⟩ := makeLonger_C (fu := fu) hfu h h4 h5 h6 h2 h3
    rw [e0' (by omega), cal_some, e1' (by omega), cal_some, ew, cal_some, if_neg c3, if_neg c3, if_pos c4, if_pos c4, e9, cal_some]
    exact ⟨M1, rfl, r9, fun q q2 _ => f9 q q2⟩
  rw [if_neg c4] at hf
  by_cases c5 : S (q * 4) = 5
  · have n3 : na (S (q * 4)) = 2 := by rw [c5]; rfl
    rw [if_pos c5] at hf
    obtain ⟨h1, h2, h4⟩ := fltT_iff.mp hf
    obtain ⟨h5, h6⟩ := fltR_iff.mp h1
    obtain ⟨M1, e9, r9, f9⟩ := makeShorter_C (fu := fu) hfu h h4 h5 h6 h2
    rw [e0' (by omega), cal_some, e1' (by omega), cal_some, ew, cal_some, if_neg c3, if_neg c3, if_neg c4, if_neg c4, if_pos c5, if_pos c5, e9, cal_some]
    exact ⟨M1, rfl, r9, fun q q2 _ => f9 q q2⟩
  rw [if_neg c5] at hf
  by_cases c6 : S (q * 4) = 6
  · have n3 : na (S (q * 4)) = 1 := by rw [c6]; rfl
    rw [if_pos c6] at hf
    obtain ⟨h5, h6⟩ := fltR_iff.mp hf
    obtain ⟨M1, e9, r9, f9⟩ := drop_C (fu := fu) h h5
    rw [e0' (by omega), cal_some, e1, cal_some, ew, cal_some, if_neg c3, if_neg c3, if_neg c4, if_neg c4, if_neg c5, if_neg c5, if_pos c6, if_pos c6, e9, cal_some]
    exact ⟨M1, rfl, r9, fun q q2 _ => f9 q q2⟩
  obtain ⟨M1, e9, f9, r9⟩ := removeGarbage_C (fu := fu) hfu h
  rw [e0, cal_some, e1, cal_some, ew, cal_some, if_neg c3, if_neg c3, if_neg c4, if_neg c4, if_neg c5, if_neg c5, if_neg c6, if_neg c6, e9, cal_some]
  exact ⟨M1, rfl, r9, fun q q2 q3 => f9 q q3 (by omega)⟩
theorem run_C {S : Int → Int} {c : Int} (c1 : c ≤ 30) (hfu : 1000 ≤ fu) : ∀ (n k : Nat) (x : Int) (M : Mem) (A : AS), CM M A → gR (rd M) S c → M 48 5 = c → 0 ≤ x → x ≤ c → c - x < n → c - x < k → ∃ M', f_X11_runScript_L35 fu n x M = some (M', (rnA S c k x A).1) ∧ CM M' (rnA S c k x A).2 ∧ frXq M M'
  | 0, k, x, M, A, h, g, h5, x0, x1, hn, hk => by omega
  | n + 1, 0, x, M, A, h, g, h5, x0, x1, hn, hk => by omega
  | n + 1, k + 1, x, M, A, h, g, h5, x0, x1, hn, hk => by
      rw [f_X11_runScript_L35, rnA, h5]
      by_cases h1 : c ≤ x
      · rw [if_pos h1, if_pos h1]; exact ⟨M, rfl, h, fun _ _ _ => rfl⟩
      · rw [if_neg h1, if_neg h1, faultOfStatement_C h g x0 (by omega) c1, cal_some]
        by_cases h2 : exF A S x = 0
        · obtain ⟨M1, e1, r1, f1⟩ := perform_C (fu := fu) h g x0 (by omega) c1 h2 hfu
          have er : rd M1 = rd M := by unfold rd; rw [f1 49 (by decide) (by decide)]
          rw [if_pos h2, if_pos h2, e1, cal_some, grd_pos (by omega)]
          obtain ⟨M', q1, q2, q3⟩ := run_C c1 hfu n k (x + 1) M1 _ r1 (by rw [er]; exact g) (by rw [f1 48 (by decide) (by decide)]; exact h5) (by omega) (by omega) (by omega) (by omega)
          exact ⟨M', q1, q2, fun q z1 z2 => by rw [q3 q z1 z2, f1 q z1 z2]⟩
        · rw [if_neg h2, if_neg h2]; exact ⟨M, rfl, h, fun _ _ _ => rfl⟩
end Exec
