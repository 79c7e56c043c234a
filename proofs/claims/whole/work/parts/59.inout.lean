/-! bytes: the output and the input -/
abbrev TX : Type := Int × (Int → Int)
def pB (T : TX) (x : Int) : TX := (T.1 + 1, fun i => if i = T.1 then x else T.2 i)
def nT1 (T : TX) (d : Int) : TX := pB T (48 + d % 10)
def nT2 (T : TX) (d : Int) : TX := if d < 10 then nT1 T d else nT1 (pB T (48 + d / 10 % 10)) d
def nT3 (T : TX) (d : Int) : TX := if d < 100 then nT2 T d else nT2 (pB T (48 + d / 100)) d
def nT (T : TX) (x : Int) : TX := nT3 (if 0 ≤ x then T else pB T 45) (iabs x)
def vT (A : AS) (v : Int) : Nat → Int → TX → TX
  | 0, _, T => pB T 93
  | n + 1, i, T => vT A v n (i + 1) (nT (if i ≤ 0 then T else pB T (if i % 4 = 0 then 124 else 44)) (ev A v i))
def oC (M : Mem) (T : TX) : Prop := M 50 0 = T.1 ∧ 0 ≤ T.1 ∧ T.1 ≤ 321 ∧ ∀ i, 0 ≤ i → i < T.1 → M 51 i.toNat = T.2 i
def oM (M : Mem) (T : TX) : Prop := M 52 27 = T.1 ∧ 0 ≤ T.1 ∧ T.1 ≤ 321 ∧ ∀ i, 0 ≤ i → i < T.1 → M 64 i.toNat = T.2 i
section InOut
variable {fu : Nat}
def frO (M M' : Mem) : Prop := ∀ q, q ≠ 50 → q ≠ 51 → M' q = M q
theorem frO_trans {M M' M2 : Mem} (h : frO M M') (h2 : frO M' M2) : frO M M2 := fun q h3 h4 => by rw [h2 q h3 h4, h q h3 h4]
theorem addByte_C {M : Mem} {T : TX} (h : oC M T) (hT : T.1 < 321) (x : Int) : ∃ M', f_X4_addByte fu M x = some (M', 0) ∧ oC M' (pB T x) ∧ frO M M' := by
  obtain ⟨h1, h2, h3, h4⟩ := h
  have e : up M 51 T.1.toNat x 50 0 = T.1 := by rw [up_cell _ _ (by decide)]; exact h1
  refine ⟨up (up M 51 T.1.toNat x) 50 0 (T.1 + 1), ?_, ⟨up_same _ _ _ _, by show 0 ≤ T.1 + 1; omega, by show T.1 + 1 ≤ 321; omega, fun i i0 i1 => ?_⟩, fun q q1 q2 => by rw [up_cell _ _ q1, up_cell _ _ q2]⟩
  · unfold f_X4_addByte
    rw [h1, put_in h2 (by omega), cal_some, e, grd_pos (by omega)]
  · have i1' : i < T.1 + 1 := i1
    rw [up_cell _ _ (by decide), up_toNat h2 i0]
    show _ = if i = T.1 then x else T.2 i
    by_cases hi : i = T.1
    · rw [if_pos hi, if_pos hi]
    · rw [if_neg hi, if_neg hi]; exact h4 i i0 (by omega)
theorem bmodB_id {x : Int} (h : -128 ≤ x ∧ x ≤ 127) : bmodB x = x := by
  unfold bmodB
  rw [Int.bmod_def]
  split <;> omega
def frW (M M' : Mem) : Prop := (∀ q, q ≠ 52 → q ≠ 64 → M' q = M q) ∧ ∀ i, i ≠ 27 → M' 52 i = M 52 i
theorem frW_refl (M : Mem) : frW M M := ⟨fun _ _ _ => rfl, fun _ _ => rfl⟩
theorem frW_trans {M M' M2 : Mem} (h : frW M M') (h2 : frW M' M2) : frW M M2 := ⟨fun q h3 h4 => by rw [h2.1 q h3 h4, h.1 q h3 h4], fun i hi => by rw [h2.2 i hi, h.2 i hi]⟩
theorem write_M {M : Mem} {T : TX} (h : oM M T) (hT : T.1 < 321) {x : Int} (hx : -128 ≤ x ∧ x ≤ 127) : ∃ M', f_X12_write fu M x = some (M', 0) ∧ oM M' (pB T x) ∧ frW M M' := by
  obtain ⟨h1, h2, h3, h4⟩ := h
  have e : up M 64 T.1.toNat x 52 27 = T.1 := by rw [up_cell _ _ (by decide)]; exact h1
  refine ⟨up (up M 64 T.1.toNat x) 52 27 (T.1 + 1), ?_, ⟨up_same _ _ _ _, by show 0 ≤ T.1 + 1; omega, by show T.1 + 1 ≤ 321; omega, fun i i0 i1 => ?_⟩, fun q q1 q2 => by rw [up_cell _ _ q1, up_cell _ _ q2], fun i hi => by rw [up_at (Or.inr hi), up_cell _ _ (by decide)]⟩
  · unfold f_X12_write
    rw [h1, bmodB_id hx, grd_pos (by omega), grd_pos (by omega), e, grd_pos (by omega)]
  · have i1' : i < T.1 + 1 := i1
    rw [up_cell _ _ (by decide), up_toNat h2 i0]
    show _ = if i = T.1 then x else T.2 i
    by_cases hi : i = T.1
    · rw [if_pos hi, if_pos hi]
    · rw [if_neg hi, if_neg hi]; exact h4 i i0 (by omega)
theorem nT_len (T : TX) (x : Int) : T.1 + 1 ≤ (nT T x).1 ∧ (nT T x).1 ≤ T.1 + 4 := by
  have h1 : ∀ (T : TX) d, (nT1 T d).1 = T.1 + 1 := fun _ _ => rfl
  have h2 : ∀ (T : TX) d, (nT2 T d).1 = if d < 10 then T.1 + 1 else T.1 + 2 := fun T d => by
    unfold nT2
    split
    · exact h1 T d
    · rw [h1]; show T.1 + 1 + 1 = _; omega
  have h3 : ∀ (T : TX) d, T.1 + 1 ≤ (nT3 T d).1 ∧ (nT3 T d).1 ≤ T.1 + 3 := fun T d => by
    unfold nT3
    split
    · rw [h2]; split <;> omega
    · rw [h2]
      show T.1 + 1 ≤ (if d < 10 then T.1 + 1 + 1 else T.1 + 1 + 2) ∧ (if d < 10 then T.1 + 1 + 1 else T.1 + 1 + 2) ≤ T.1 + 3
      split <;> omega
  unfold nT
  by_cases hx : 0 ≤ x
  · rw [if_pos hx]
    have := h3 T (iabs x)
    omega
  · rw [if_neg hx]
    have := h3 (pB T 45) (iabs x)
    have e : (pB T 45).1 = T.1 + 1 := rfl
    rw [e] at this
    omega
theorem addNumber_C {M : Mem} {T : TX} (h : oC M T) (hT : T.1 + 4 ≤ 321) {x : Int} (hx : -999 ≤ x ∧ x ≤ 999) : ∃ M', f_X4_addNumber fu M x = some (M', 0) ∧ oC M' (nT T x) ∧ frO M M' := by
  have ha := iabs_rng x
  have k1 : ∀ {M : Mem} {T : TX} {d : Int}, oC M T → T.1 + 1 ≤ 321 → 0 ≤ d ∧ d ≤ 999 → ∃ M', f_X4_addNumber_J52 fu d M = some (M', 0) ∧ oC M' (nT1 T d) ∧ frO M M' := by
    intro M T d h hT hd
    obtain ⟨M1, e1, o1, f1⟩ := addByte_C (fu := fu) h (by omega) (48 + d % 10)
    refine ⟨M1, ?_, o1, f1⟩
    unfold f_X4_addNumber_J52
    rw [grd_pos (by omega), grd_pos (by omega), e1, cal_some]
  have k2 : ∀ {M : Mem} {T : TX} {d : Int}, oC M T → T.1 + 2 ≤ 321 → 0 ≤ d ∧ d ≤ 999 → ∃ M', f_X4_addNumber_J32 fu d M = some (M', 0) ∧ oC M' (nT2 T d) ∧ frO M M' := by
    intro M T d h hT hd
    unfold f_X4_addNumber_J32 nT2
    by_cases h10 : d < 10
    · rw [if_pos h10, if_pos h10]
      exact k1 h (by omega) hd
    · rw [if_neg h10, if_neg h10, grd_pos (by omega), grd_pos (by omega), grd_pos (by omega)]
      obtain ⟨M1, e1, o1, f1⟩ := addByte_C (fu := fu) h (by omega) (48 + d / 10 % 10)
      obtain ⟨M2, e2, o2, f2⟩ := k1 o1 (by show T.1 + 1 + 1 ≤ 321; omega) hd
      rw [e1, cal_some]
      exact ⟨M2, e2, o2, frO_trans f1 f2⟩
  have k3 : ∀ {M : Mem} {T : TX}, oC M T → T.1 + 3 ≤ 321 → ∃ M', f_X4_addNumber_J10 fu x M = some (M', 0) ∧ oC M' (nT3 T (iabs x)) ∧ frO M M' := by
    intro M T h hT
    unfold f_X4_addNumber_J10 nT3
    rw [grd_pos (by omega)]
    by_cases h10 : iabs x < 100
    · rw [if_pos h10, if_pos h10]
      exact k2 h (by omega) (by omega)
    · rw [if_neg h10, if_neg h10, grd_pos (by omega), grd_pos (by omega)]
      obtain ⟨M1, e1, o1, f1⟩ := addByte_C (fu := fu) h (by omega) (48 + iabs x / 100)
      obtain ⟨M2, e2, o2, f2⟩ := k2 o1 (by show T.1 + 1 + 2 ≤ 321; omega) (d := iabs x) (by omega)
      rw [e1, cal_some]
      exact ⟨M2, e2, o2, frO_trans f1 f2⟩
  unfold f_X4_addNumber nT
  by_cases h0 : 0 ≤ x
  · rw [if_pos h0, if_pos h0]
    exact k3 h (by omega)
  · rw [if_neg h0, if_neg h0]
    obtain ⟨M1, e1, o1, f1⟩ := addByte_C (fu := fu) h (by omega) 45
    obtain ⟨M2, e2, o2, f2⟩ := k3 o1 (by show T.1 + 1 + 3 ≤ 321; omega)
    rw [e1, cal_some]
    exact ⟨M2, e2, o2, frO_trans f1 f2⟩
theorem writeNumber_M {M : Mem} {T : TX} (h : oM M T) (hT : T.1 + 4 ≤ 321) {x : Int} (hx : -999 ≤ x ∧ x ≤ 999) : ∃ M', f_X12_writeNumber fu M x = some (M', 0) ∧ oM M' (nT T x) ∧ frW M M' := by
  have ha := iabs_rng x
  have k1 : ∀ {M : Mem} {T : TX} {d : Int}, oM M T → T.1 + 1 ≤ 321 → 0 ≤ d ∧ d ≤ 999 → ∃ M', f_X12_writeNumber_J52 fu d M = some (M', 0) ∧ oM M' (nT1 T d) ∧ frW M M' := by
    intro M T d h hT hd
    obtain ⟨M1, e1, o1, f1⟩ := write_M (fu := fu) h (by omega) (x := 48 + d % 10) (by omega)
    refine ⟨M1, ?_, o1, f1⟩
    unfold f_X12_writeNumber_J52
    rw [grd_pos (by omega), grd_pos (by omega), e1, cal_some]
  have k2 : ∀ {M : Mem} {T : TX} {d : Int}, oM M T → T.1 + 2 ≤ 321 → 0 ≤ d ∧ d ≤ 999 → ∃ M', f_X12_writeNumber_J32 fu d M = some (M', 0) ∧ oM M' (nT2 T d) ∧ frW M M' := by
    intro M T d h hT hd
    unfold f_X12_writeNumber_J32 nT2
    by_cases h10 : d < 10
    · rw [if_pos (by omega), if_pos h10]
      exact k1 h (by omega) hd
    · rw [if_neg (by omega), if_neg h10, grd_pos (by omega), grd_pos (by omega), grd_pos (by omega)]
      obtain ⟨M1, e1, o1, f1⟩ := write_M (fu := fu) h (by omega) (x := 48 + d / 10 % 10) (by omega)
      obtain ⟨M2, e2, o2, f2⟩ := k1 o1 (by show T.1 + 1 + 1 ≤ 321; omega) hd
      rw [e1, cal_some]
      exact ⟨M2, e2, o2, frW_trans f1 f2⟩
  have k3 : ∀ {M : Mem} {T : TX} {d : Int}, oM M T → T.1 + 3 ≤ 321 → 0 ≤ d ∧ d ≤ 999 → ∃ M', f_X12_writeNumber_J15 fu d M = some (M', 0) ∧ oM M' (nT3 T d) ∧ frW M M' := by
    intro M T d h hT hd
    unfold f_X12_writeNumber_J15 nT3
    by_cases h10 : d < 100
    · rw [if_pos (by omega), if_pos h10]
      exact k2 h (by omega) hd
    · rw [if_neg (by omega), if_neg h10, grd_pos (by omega), grd_pos (by omega)]
      obtain ⟨M1, e1, o1, f1⟩ := write_M (fu := fu) h (by omega) (x := 48 + d / 100) (by omega)
      obtain ⟨M2, e2, o2, f2⟩ := k2 o1 (by show T.1 + 1 + 2 ≤ 321; omega) hd
      rw [e1, cal_some]
      exact ⟨M2, e2, o2, frW_trans f1 f2⟩
  unfold f_X12_writeNumber nT
  by_cases h0 : 0 ≤ x
  · rw [if_pos h0, if_pos h0, grd_pos (by omega)]
    exact k3 h (by omega) (by omega)
  · rw [if_neg h0, if_neg h0]
    obtain ⟨M1, e1, o1, f1⟩ := write_M (fu := fu) h (by omega) (x := 45) (by decide)
    obtain ⟨M2, e2, o2, f2⟩ := k3 o1 (by show T.1 + 1 + 3 ≤ 321; omega) (d := iabs x) (by omega)
    rw [e1, cal_some, grd_pos (by omega)]
    exact ⟨M2, e2, o2, frW_trans f1 f2⟩
theorem vT_len (A : AS) (v : Int) : ∀ (n : Nat) (i : Int) (T : TX), (vT A v n i T).1 ≤ T.1 + 5 * n + 1
  | 0, i, T => by show T.1 + 1 ≤ _; omega
  | n + 1, i, T => by
    have := vT_len A v n (i + 1) (nT (if i ≤ 0 then T else pB T (if i % 4 = 0 then 124 else 44)) (ev A v i))
    have h2 := (nT_len (if i ≤ 0 then T else pB T (if i % 4 = 0 then 124 else 44)) (ev A v i)).2
    have h3 : (if i ≤ 0 then T else pB T (if i % 4 = 0 then 124 else 44)).1 ≤ T.1 + 1 := by
      split
      · omega
      · exact Int.le_refl _
    simp only [vT]
    omega
theorem write_L {A : AS} (hfu : 1000 ≤ fu) {v : Int} : ∀ (r N : Nat) (i : Int) {M : Mem} {T : TX}, CM M A → 0 ≤ v → v < aV A → 0 ≤ i → i + r = szA A v → r < N → oC M T → (T.1 ≤ if i ≤ 0 then 1 else 5 * i) →
    ∃ M', f_X4_write_L13 fu N v i M = some (M', 0) ∧ oC M' (vT A v r i T) ∧ frO M M'
  | _, 0, _, _, _, _, _, _, _, _, h, _, _ => by omega
  | 0, N + 1, i, M, T, h, h0, h1, i0, i1, hN, ho, hT => by
    have hs := (G_V h.2 h0 h1).1
    obtain ⟨M1, e1, o1, f1⟩ := addByte_C (fu := fu) ho (by split at hT <;> omega) 93
    rw [f_X4_write_L13, sizeAt_C h h0 h1, cal_some, if_pos (by omega), e1, cal_some]
    exact ⟨M1, rfl, o1, f1⟩
  | r + 1, N + 1, i, M, T, h, h0, h1, i0, i1, hN, ho, hT => by
    have hs := (G_V h.2 h0 h1).1
    have hr := ev_rng h.2 h0 h1 i0 (by omega)
    have hJ : ∀ {M1 : Mem} {T1 : TX}, CM M1 A → oC M1 T1 → (T1.1 ≤ if i ≤ 0 then 1 else 5 * i + 1) → ∃ M', f_X4_write_J48 fu (f_X4_write_L13 fu N) v i M1 = some (M', 0) ∧ oC M' (vT A v r (i + 1) (nT T1 (ev A v i))) ∧ frO M1 M' := by
      intro M1 T1 g1 o1 hT1
      have hb : T1.1 + 4 ≤ 321 := by split at hT1 <;> omega
      obtain ⟨M2, e2, o2, f2⟩ := addNumber_C (fu := fu) o1 hb hr
      have g2 : CM M2 A := CM_congr g1 (fun k a b => f2 k (by omega) (by omega))
      have hl := (nT_len T1 (ev A v i)).2
      obtain ⟨M3, e3, o3, f3⟩ := write_L hfu r N (i + 1) g2 h0 h1 (by omega) (by omega) (by omega) o2 (by
        rw [if_neg (by omega)]
        split at hT1 <;> omega)
      refine ⟨M3, ?_, o3, frO_trans f2 f3⟩
      unfold f_X4_write_J48
      rw [elementAt_C g1 h0 h1 i0 (by omega) hfu, cal_some, e2, cal_some, grd_pos (by omega), e3]
    rw [f_X4_write_L13, sizeAt_C h h0 h1, cal_some, if_neg (by omega)]
    simp only [vT]
    by_cases hi : i ≤ 0
    · rw [if_pos hi, if_pos hi]
      exact hJ h ho (by rw [if_pos hi] at hT ⊢; exact hT)
    · rw [if_neg hi, if_neg hi, positionIn_1, cal_some]
      rw [if_neg hi] at hT
      have hsep : ∀ y, ∃ M', f_X4_write_J45 fu (f_X4_write_L13 fu N) v i y M = some (M', 0) ∧ oC M' (vT A v r (i + 1) (nT (pB T y) (ev A v i))) ∧ frO M M' := fun y => by
        obtain ⟨M1, e1, o1, f1⟩ := addByte_C (fu := fu) ho (by omega) y
        have g1 : CM M1 A := CM_congr h (fun k a b => f1 k (by omega) (by omega))
        obtain ⟨M2, e2, o2, f2⟩ := hJ g1 o1 (by rw [if_neg hi]; show T.1 + 1 ≤ _; omega)
        unfold f_X4_write_J45
        rw [e1, cal_some]
        exact ⟨M2, e2, o2, frO_trans f1 f2⟩
      by_cases hm : i % 4 = 0
      · rw [if_pos hm, if_pos hm]; exact hsep 124
      · rw [if_neg hm, if_neg hm]; exact hsep 44
def vText (A : AS) (v : Int) : TX := vT A v (szA A v).toNat 0 (pB (0, fun _ => 0) 91)
theorem write_C {A : AS} (hfu : 1000 ≤ fu) {v : Int} {M : Mem} (h : CM M A) (h0 : 0 ≤ v) (h1 : v < aV A) : ∃ M', f_X4_write fu M v = some (M', 0) ∧ oC M' (vText A v) ∧ frO M M' := by
  have hs := (G_V h.2 h0 h1).1
  obtain ⟨M1, e1, o1, f1⟩ := addByte_C (fu := fu) (M := up M 50 0 0) (T := (0, fun _ => 0)) ⟨up_same _ _ _ _, Int.le_refl 0, by decide, fun i i0 i1 => by have h9 : i < 0 := i1; omega⟩ (by decide) 91
  have g1 : CM M1 A := CM_congr h (fun k a b => by rw [f1 k (by omega) (by omega), up_cell _ _ (by omega)])
  obtain ⟨M2, e2, o2, f2⟩ := write_L hfu (szA A v).toNat fu 0 g1 h0 h1 (Int.le_refl 0) (by omega) (by omega) o1 (by rw [if_pos (Int.le_refl 0)]; show (0 : Int) + 1 ≤ 1; decide)
  unfold f_X4_write
  rw [e1, cal_some]
  exact ⟨M2, e2, o2, fun q q1 q2 => by rw [f2 q q1 q2, f1 q q1 q2, up_cell _ _ q1]⟩
theorem writeV_L {A : AS} (hfu : 1000 ≤ fu) {v : Int} : ∀ (r N : Nat) (i : Int) {M : Mem} {T : TX}, MM M A → 0 ≤ v → v < aV A → 0 ≤ i → i + r = szA A v → r < N → oM M T → (T.1 ≤ if i ≤ 0 then 1 else 5 * i) →
    ∃ M', f_X12_writeVersion_L23 fu N v i M = some (M', (vT A v r i T).1) ∧ oM M' (vT A v r i T) ∧ frW M M'
  | _, 0, _, _, _, _, _, _, _, _, h, _, _ => by omega
  | 0, N + 1, i, M, T, h, h0, h1, i0, i1, hN, ho, hT => by
    have hs := (G_V h.2 h0 h1).1
    obtain ⟨M1, e1, o1, f1⟩ := write_M (fu := fu) ho (by split at hT <;> omega) (x := 93) (by decide)
    rw [f_X12_writeVersion_L23, lengthOf_M h h0 h1, cal_some, if_pos (by omega), e1, cal_some, o1.1]
    exact ⟨M1, rfl, o1, f1⟩
  | r + 1, N + 1, i, M, T, h, h0, h1, i0, i1, hN, ho, hT => by
    have hs := (G_V h.2 h0 h1).1
    have hr := ev_rng h.2 h0 h1 i0 (by omega)
    have hJ : ∀ {M1 : Mem} {T1 : TX}, MM M1 A → oM M1 T1 → (T1.1 ≤ if i ≤ 0 then 1 else 5 * i + 1) → ∃ M', f_X12_writeVersion_J53 fu (f_X12_writeVersion_L23 fu N) v i M1 = some (M', (vT A v r (i + 1) (nT T1 (ev A v i))).1) ∧ oM M' (vT A v r (i + 1) (nT T1 (ev A v i))) ∧ frW M1 M' := by
      intro M1 T1 g1 o1 hT1
      have hb : T1.1 + 4 ≤ 321 := by split at hT1 <;> omega
      obtain ⟨M2, e2, o2, f2⟩ := writeNumber_M (fu := fu) o1 hb hr
      have g2 : MM M2 A := MM_congr g1 (f2.1 53 (by decide) (by decide))
      have hl := (nT_len T1 (ev A v i)).2
      obtain ⟨M3, e3, o3, f3⟩ := writeV_L hfu r N (i + 1) g2 h0 h1 (by omega) (by omega) (by omega) o2 (by
        rw [if_neg (by omega)]
        split at hT1 <;> omega)
      refine ⟨M3, ?_, o3, frW_trans f2 f3⟩
      unfold f_X12_writeVersion_J53
      rw [element_M g1 h0 h1 i0 (by omega), cal_some, e2, cal_some, grd_pos (by omega), e3]
    rw [f_X12_writeVersion_L23, lengthOf_M h h0 h1, cal_some, if_neg (by omega)]
    simp only [vT]
    by_cases hi : i ≤ 0
    · rw [if_pos hi, if_pos hi]
      exact hJ h ho (by rw [if_pos hi] at hT ⊢; exact hT)
    · rw [if_neg hi, if_neg hi, grd_pos (by omega), grd_pos (by omega)]
      rw [if_neg hi] at hT
      have hsep : ∀ y, -128 ≤ y ∧ y ≤ 127 → ∃ M', f_X12_writeVersion_J50 fu (f_X12_writeVersion_L23 fu N) v i y M = some (M', (vT A v r (i + 1) (nT (pB T y) (ev A v i))).1) ∧ oM M' (vT A v r (i + 1) (nT (pB T y) (ev A v i))) ∧ frW M M' := fun y hy => by
        obtain ⟨M1, e1, o1, f1⟩ := write_M (fu := fu) ho (by omega) hy
        have g1 : MM M1 A := MM_congr h (f1.1 53 (by decide) (by decide))
        obtain ⟨M2, e2, o2, f2⟩ := hJ g1 o1 (by rw [if_neg hi]; show T.1 + 1 ≤ _; omega)
        unfold f_X12_writeVersion_J50
        rw [e1, cal_some]
        exact ⟨M2, e2, o2, frW_trans f1 f2⟩
      by_cases hm : i % 4 = 0
      · rw [if_pos hm, if_pos hm]; exact hsep 124 (by decide)
      · rw [if_neg hm, if_neg hm]; exact hsep 44 (by decide)
theorem writeVersion_M {A : AS} (hfu : 1000 ≤ fu) {v : Int} {M : Mem} (h : MM M A) :
    (fltR A v ≠ 0 → f_X12_writeVersion fu M v = some (up M 52 6 (thR (fltR A v)), 0)) ∧ (fltR A v = 0 → ∃ M', f_X12_writeVersion fu M v = some (M', (vText A v).1) ∧ oM M' (vText A v) ∧ M' 52 6 = 0 ∧ (∀ q, q ≠ 52 → q ≠ 64 → M' q = M q) ∧ ∀ i, i ≠ 27 → i ≠ 6 → M' 52 i = M 52 i) := by
  unfold f_X12_writeVersion
  rw [checkLive_M h, cal_some]
  refine ⟨fun hn => by rw [ind_f hn, if_pos rfl], fun hz => ?_⟩
  have hh := fltR_0 hz
  have hs := (G_V h.2 hh.1 hh.2.1).1
  rw [ind_t hz, if_neg (by decide), hz]
  obtain ⟨M1, e1, o1, f1⟩ := write_M (fu := fu) (M := up (up M 52 6 (thR 0)) 52 27 0) (T := (0, fun _ => 0)) ⟨up_same _ _ _ _, Int.le_refl 0, by decide, fun i i0 i1 => by have h9 : i < 0 := i1; omega⟩ (by decide) (x := 91) (by decide)
  have g1 : MM M1 A := MM_congr h (by rw [f1.1 53 (by decide) (by decide), up_cell _ _ (by decide), up_cell _ _ (by decide)])
  obtain ⟨M2, e2, o2, f2⟩ := writeV_L hfu (szA A v).toNat fu 0 g1 hh.1 hh.2.1 (Int.le_refl 0) (by omega) (by omega) o1 (by rw [if_pos (Int.le_refl 0)]; show (0 : Int) + 1 ≤ 1; decide)
  rw [e1, cal_some]
  refine ⟨M2, e2, o2, ?_, fun q q1 q2 => by rw [f2.1 q q1 q2, f1.1 q q1 q2, up_cell _ _ q1, up_cell _ _ q1], fun i i1 i2 => by rw [f2.2 i i1, f1.2 i i1, up_at (Or.inr i1), up_at (Or.inr i2)]⟩
  rw [f2.2 6 (by decide), f1.2 6 (by decide), up_at (Or.inr (by decide)), up_same]
  rfl
theorem outByte_C {M : Mem} {T : TX} (h : oC M T) (i : Int) : f_X11_outputByte fu M i = some (M, if 0 ≤ i ∧ i < T.1 then T.2 i else -1) := by
  obtain ⟨h1, h2, h3, h4⟩ := h
  unfold f_X11_outputByte f_X4_byteAt
  rw [h1]
  by_cases hi : T.1 ≤ i
  · rw [if_pos hi, cal_some, if_neg (by omega)]
  · rw [if_neg hi]
    by_cases h0 : 0 ≤ i
    · rw [at_in h0 (by omega), cal_some, cal_some, if_pos ⟨h0, by omega⟩, h4 i h0 (by omega)]
    · rw [at_out (Or.inl (by omega)), cal_some, cal_some, if_neg (by omega)]
theorem outByte_M {M : Mem} {T : TX} (h : oM M T) (i : Int) : f_X12_outputByte fu M i = some (up M 52 6 0, if 0 ≤ i ∧ i < T.1 then T.2 i else -1) := by
  obtain ⟨h1, h2, h3, h4⟩ := h
  have e : up M 52 6 0 52 27 = T.1 := by rw [up_at (Or.inr (by decide))]; exact h1
  unfold f_X12_outputByte
  rw [e, grd_pos (by omega), isWithin_M, cal_some]
  by_cases hi : 0 ≤ i ∧ i < T.1
  · rw [ind_t (by omega), if_neg (by decide), grd_pos (by omega), if_pos hi, up_cell _ _ (by decide), h4 i hi.1 hi.2]
  · rw [ind_f (by omega), if_pos rfl, if_neg hi]
/-! the input -/
def sb (x : Int) : Int := if x < 128 then x else x - 256
def iC (M : Mem) (T : TX) : Prop := M 43 0 = T.1 ∧ 0 ≤ T.1 ∧ T.1 ≤ 600 ∧ ∀ i, 0 ≤ i → i < T.1 → M 44 i.toNat = T.2 i ∧ 0 ≤ T.2 i ∧ T.2 i ≤ 255
def iM (M : Mem) (T : TX) : Prop := M 52 13 = T.1 ∧ 0 ≤ T.1 ∧ T.1 ≤ 600 ∧ ∀ i, 0 ≤ i → i < T.1 → M 61 i.toNat = sb (T.2 i) ∧ 0 ≤ T.2 i ∧ T.2 i ≤ 255
def wB (T : TX) (w : Int) : TX := pB (pB (pB (pB T (w % 4294967296 / 16777216)) (w % 4294967296 / 65536 % 256)) (w % 4294967296 / 256 % 256)) (w % 256)
def frI (M M' : Mem) : Prop := ∀ q, q ≠ 43 → q ≠ 44 → M' q = M q
theorem addIn_C {M : Mem} {T : TX} (h : iC M T) (hT : T.1 < 600) {x : Int} (hx : 0 ≤ x ∧ x ≤ 255) : ∃ M', f_X2_addByte fu M x = some (M', 0) ∧ iC M' (pB T x) ∧ frI M M' := by
  obtain ⟨h1, h2, h3, h4⟩ := h
  have e : up M 44 T.1.toNat x 43 0 = T.1 := by rw [up_cell _ _ (by decide)]; exact h1
  refine ⟨up (up M 44 T.1.toNat x) 43 0 (T.1 + 1), ?_, ⟨up_same _ _ _ _, by show 0 ≤ T.1 + 1; omega, by show T.1 + 1 ≤ 600; omega, fun i i0 i1 => ?_⟩, fun q q1 q2 => by rw [up_cell _ _ q1, up_cell _ _ q2]⟩
  · unfold f_X2_addByte
    rw [h1, put_in h2 (by omega), cal_some, e, grd_pos (by omega)]
  · have i1' : i < T.1 + 1 := i1
    rw [up_cell _ _ (by decide), up_toNat h2 i0]
    show _ = (if i = T.1 then x else T.2 i) ∧ 0 ≤ (if i = T.1 then x else T.2 i) ∧ (if i = T.1 then x else T.2 i) ≤ 255
    by_cases hi : i = T.1
    · rw [if_pos hi, if_pos hi]; exact ⟨rfl, hx⟩
    · rw [if_neg hi, if_neg hi]; exact h4 i i0 (by omega)
theorem addWord_C {M : Mem} {T : TX} (h : iC M T) (hT : T.1 + 4 ≤ 600) (w : Int) : ∃ M', f_X2_addWord fu M w = some (M', 0) ∧ iC M' (wB T w) ∧ frI M M' := by
  have p24 : ((2 ^ ((24 : Int) : Int).toNat : Nat) : Int) = 16777216 := rfl
  have p16 : ((2 ^ ((16 : Int) : Int).toNat : Nat) : Int) = 65536 := rfl
  have p8 : ((2 ^ ((8 : Int) : Int).toNat : Nat) : Int) = 256 := rfl
  obtain ⟨M1, e1, o1, f1⟩ := addIn_C (fu := fu) h (by omega) (x := w % 4294967296 / 16777216) (by omega)
  obtain ⟨M2, e2, o2, f2⟩ := addIn_C (fu := fu) o1 (by show T.1 + 1 < 600; omega) (x := w % 4294967296 / 65536 % 256) (by omega)
  obtain ⟨M3, e3, o3, f3⟩ := addIn_C (fu := fu) o2 (by show T.1 + 1 + 1 < 600; omega) (x := w % 4294967296 / 256 % 256) (by omega)
  obtain ⟨M4, e4, o4, f4⟩ := addIn_C (fu := fu) o3 (by show T.1 + 1 + 1 + 1 < 600; omega) (x := w % 256) (by omega)
  refine ⟨M4, ?_, o4, fun q q1 q2 => by rw [f4 q q1 q2, f3 q q1 q2, f2 q q1 q2, f1 q q1 q2]⟩
  unfold f_X2_addWord
  rw [p24, p16, p8, grd_pos (by omega), e1, cal_some, grd_pos (by omega), e2, cal_some, grd_pos (by omega), e3, cal_some, grd_pos (by omega), e4, cal_some]
theorem appendInput_C {M : Mem} {T : TX} (h : iC M T) (a b c d e : Int) :
    (580 < T.1 → f_X11_appendInput fu M a b c d e = some (M, -1)) ∧ (T.1 ≤ 580 → ∃ M', f_X11_appendInput fu M a b c d e = some (M', T.1 + 20) ∧ iC M' (wB (wB (wB (wB (wB T a) b) c) d) e) ∧ frI M M') := by
  have hh := h
  obtain ⟨h1, h2, h3, h4⟩ := h
  unfold f_X11_appendInput f_X2_hasRoomForBlock
  rw [h1, grd_pos (by omega)]
  refine ⟨fun hT => by rw [if_pos (by omega), cal_some, if_pos rfl], fun hT => ?_⟩
  rw [if_neg (by omega), cal_some, if_neg (by decide)]
  have l : ∀ (T : TX) w, (wB T w).1 = T.1 + 4 := fun T w => by show T.1 + 1 + 1 + 1 + 1 = _; omega
  obtain ⟨M1, e1, o1, f1⟩ := addWord_C (fu := fu) hh (by omega) a
  obtain ⟨M2, e2, o2, f2⟩ := addWord_C (fu := fu) o1 (by rw [l]; omega) b
  obtain ⟨M3, e3, o3, f3⟩ := addWord_C (fu := fu) o2 (by rw [l, l]; omega) c
  obtain ⟨M4, e4, o4, f4⟩ := addWord_C (fu := fu) o3 (by rw [l, l, l]; omega) d
  obtain ⟨M5, e5, o5, f5⟩ := addWord_C (fu := fu) o4 (by rw [l, l, l, l]; omega) e
  refine ⟨M5, ?_, o5, fun q q1 q2 => by rw [f5 q q1 q2, f4 q q1 q2, f3 q q1 q2, f2 q q1 q2, f1 q q1 q2]⟩
  rw [e1, cal_some, e2, cal_some, e3, cal_some, e4, cal_some, e5, cal_some, o5.1, l, l, l, l, l]
  have : T.1 + 4 + 4 + 4 + 4 + 4 = T.1 + 20 := by omega
  rw [this]
def frJ (M M' : Mem) : Prop := (∀ q, q ≠ 52 → q ≠ 61 → M' q = M q) ∧ ∀ i, i ≠ 13 → M' 52 i = M 52 i
theorem frJ_trans {M M' M2 : Mem} (h : frJ M M') (h2 : frJ M' M2) : frJ M M2 := ⟨fun q h3 h4 => by rw [h2.1 q h3 h4, h.1 q h3 h4], fun i hi => by rw [h2.2 i hi, h.2 i hi]⟩
theorem bmodB_sb (x : Int) : bmodB x = sb (x % 256) := by
  unfold bmodB sb
  rw [Int.bmod_def]
  split <;> split <;> omega
theorem putIn_M {M : Mem} {T : TX} (h : iM M T) (hT : T.1 < 600) {x : Int} (hx : 0 ≤ x ∧ x ≤ 255) : iM (up (up M 61 T.1.toNat (sb x)) 52 13 (T.1 + 1)) (pB T x) ∧ frJ M (up (up M 61 T.1.toNat (sb x)) 52 13 (T.1 + 1)) := by
  obtain ⟨h1, h2, h3, h4⟩ := h
  refine ⟨⟨up_same _ _ _ _, by show 0 ≤ T.1 + 1; omega, by show T.1 + 1 ≤ 600; omega, fun i i0 i1 => ?_⟩, fun q q1 q2 => by rw [up_cell _ _ q1, up_cell _ _ q2], fun i hi => by rw [up_at (Or.inr hi), up_cell _ _ (by decide)]⟩
  have i1' : i < T.1 + 1 := i1
  rw [up_cell _ _ (by decide), up_toNat h2 i0]
  show _ = sb (if i = T.1 then x else T.2 i) ∧ 0 ≤ (if i = T.1 then x else T.2 i) ∧ (if i = T.1 then x else T.2 i) ≤ 255
  by_cases hi : i = T.1
  · rw [if_pos hi, if_pos hi]; exact ⟨rfl, hx⟩
  · rw [if_neg hi, if_neg hi]; exact h4 i i0 (by omega)
theorem appendWord_M {M : Mem} {T : TX} (h : iM M T) (hT : T.1 + 4 ≤ 600) {w : Int} (hw : rng w) (hfu : 1000 ≤ fu) : ∃ M', f_X12_appendWord fu M w = some (M', 0) ∧ iM M' (wB T w) ∧ frJ M M' := by
  have st : ∀ {M : Mem} {T : TX} (n : Nat) (i y z : Int), iM M T → T.1 < 600 → 0 ≤ i ∧ i ≤ 3 → ((2 ^ ((8 : Int) * i : Int).toNat : Nat) : Int) = z → z = 1 ∨ z = 256 ∨ z = 65536 ∨ z = 16777216 → y = w / z % 256 → f_X12_appendWord_L2 fu (n + 1) w i M = f_X12_appendWord_L2 fu n w (i + -1) (up (up M 61 T.1.toNat (sb y)) 52 13 (T.1 + 1)) := by
    intro M T n i y z h hT hi hz hz0 hy
    obtain ⟨h1, h2, h3, h4⟩ := h
    have hwz : rng (w / z) := by
      have a1 := hw.1
      have a2 := hw.2
      rcases hz0 with r | r | r | r <;> subst r <;> constructor <;> omega
    have hb : bmodB (w / z) = sb y := by rw [bmodB_sb, hy]
    have hbr : -128 ≤ sb y ∧ sb y ≤ 127 := by
      unfold sb
      split <;> omega
    have e : up M 61 T.1.toNat (sb y) 52 13 = T.1 := by rw [up_cell _ _ (by decide)]; exact h1
    rw [f_X12_appendWord_L2, if_neg (by omega), hz, grd_pos (by omega), grd_pos hwz, h1, grd_pos (by omega), hb, grd_pos hbr, e, grd_pos (by omega), grd_pos (by omega)]
  obtain ⟨f, hf⟩ : ∃ f, fu = f + 5 := ⟨fu - 5, by omega⟩
  obtain ⟨p1, q1⟩ := putIn_M h (by omega) (x := w % 4294967296 / 16777216) (by omega)
  obtain ⟨p2, q2⟩ := putIn_M p1 (by show T.1 + 1 < 600; omega) (x := w % 4294967296 / 65536 % 256) (by omega)
  obtain ⟨p3, q3⟩ := putIn_M p2 (by show T.1 + 1 + 1 < 600; omega) (x := w % 4294967296 / 256 % 256) (by omega)
  obtain ⟨p4, q4⟩ := putIn_M p3 (by show T.1 + 1 + 1 + 1 < 600; omega) (x := w % 256) (by omega)
  suffices key : ∀ a : Nat, a = f + 5 → ∃ M', f_X12_appendWord_L2 fu a w 3 M = some (M', 0) ∧ iM M' (wB T w) ∧ frJ M M' by
    unfold f_X12_appendWord
    exact key fu hf
  intro a ha
  subst ha
  refine ⟨_, ?_, p4, frJ_trans (frJ_trans (frJ_trans q1 q2) q3) q4⟩
  · skip
    rw [st (f + 4) 3 (w % 4294967296 / 16777216) 16777216 h (by omega) (by decide) rfl (Or.inr (Or.inr (Or.inr rfl))) (by omega)]
    rw [show (3 : Int) + -1 = 2 from rfl, st (f + 3) 2 (w % 4294967296 / 65536 % 256) 65536 p1 (by show T.1 + 1 < 600; omega) (by decide) rfl (Or.inr (Or.inr (Or.inl rfl))) (by omega)]
    rw [show (2 : Int) + -1 = 1 from rfl, st (f + 2) 1 (w % 4294967296 / 256 % 256) 256 p2 (by show T.1 + 1 + 1 < 600; omega) (by decide) rfl (Or.inr (Or.inl rfl)) (by omega)]
    rw [show (1 : Int) + -1 = 0 from rfl, st (f + 1) 0 (w % 256) 1 p3 (by show T.1 + 1 + 1 + 1 < 600; omega) (by decide) rfl (Or.inl rfl) (by omega)]
    rw [f_X12_appendWord_L2, if_pos (by decide)]
theorem appendInput_M {M : Mem} {T : TX} (h : iM M T) {a b c d e : Int} (ha : rng a) (hb : rng b) (hc : rng c) (hd : rng d) (he : rng e) (hfu : 1000 ≤ fu) :
    (580 < T.1 → f_X12_appendInput fu M a b c d e = some (up M 52 6 0, -1)) ∧ (T.1 ≤ 580 → ∃ M', f_X12_appendInput fu M a b c d e = some (M', T.1 + 20) ∧ iM M' (wB (wB (wB (wB (wB T a) b) c) d) e) ∧ frJ (up M 52 6 0) M') := by
  have h0 : iM (up M 52 6 0) T := by
    obtain ⟨h1, h2, h3, h4⟩ := h
    exact ⟨by rw [up_at (Or.inr (by decide))]; exact h1, h2, h3, fun i i0 i1 => by rw [up_cell _ _ (by decide)]; exact h4 i i0 i1⟩
  unfold f_X12_appendInput
  rw [h0.1]
  refine ⟨fun hT => by rw [if_neg (by omega)], fun hT => ?_⟩
  rw [if_pos hT]
  have l : ∀ (T : TX) w, (wB T w).1 = T.1 + 4 := fun T w => by show T.1 + 1 + 1 + 1 + 1 = _; omega
  obtain ⟨M1, e1, o1, f1⟩ := appendWord_M (fu := fu) h0 (by omega) ha hfu
  obtain ⟨M2, e2, o2, f2⟩ := appendWord_M (fu := fu) o1 (by rw [l]; omega) hb hfu
  obtain ⟨M3, e3, o3, f3⟩ := appendWord_M (fu := fu) o2 (by rw [l, l]; omega) hc hfu
  obtain ⟨M4, e4, o4, f4⟩ := appendWord_M (fu := fu) o3 (by rw [l, l, l]; omega) hd hfu
  obtain ⟨M5, e5, o5, f5⟩ := appendWord_M (fu := fu) o4 (by rw [l, l, l, l]; omega) he hfu
  refine ⟨M5, ?_, o5, frJ_trans (frJ_trans (frJ_trans (frJ_trans f1 f2) f3) f4) f5⟩
  rw [e1, cal_some, e2, cal_some, e3, cal_some, e4, cal_some, e5, cal_some, o5.1, l, l, l, l, l]
  have : T.1 + 4 + 4 + 4 + 4 + 4 = T.1 + 20 := by omega
  rw [this]
theorem truncateInput_C {M : Mem} {T : TX} (h : iC M T) (n : Int) : f_X11_truncateInput fu M n = (if 0 ≤ n ∧ n ≤ T.1 then some (up M 43 0 n, 1) else some (M, 0)) ∧ (0 ≤ n ∧ n ≤ T.1 → iC (up M 43 0 n) (n, T.2)) := by
  obtain ⟨h1, h2, h3, h4⟩ := h
  refine ⟨?_, fun hn => ⟨up_same _ _ _ _, hn.1, by show n ≤ 600; omega, fun i i0 i1 => by have i1' : i < n := i1; rw [up_cell _ _ (by decide)]; exact h4 i i0 (by omega)⟩⟩
  unfold f_X11_truncateInput
  rw [h1]
  by_cases hn : n < 0
  · rw [if_pos hn, if_neg (by omega)]
  · rw [if_neg hn]
    by_cases hl : n ≤ T.1
    · rw [if_pos hl, if_pos (by omega)]
    · rw [if_neg hl, if_neg (by omega)]
theorem truncateInput_M {M : Mem} {T : TX} (h : iM M T) (n : Int) : f_X12_truncateInput fu M n = (if 0 ≤ n ∧ n ≤ T.1 then some (up (up M 52 6 0) 52 13 n, 1) else some (up M 52 6 0, 0)) ∧ (0 ≤ n ∧ n ≤ T.1 → iM (up (up M 52 6 0) 52 13 n) (n, T.2)) := by
  obtain ⟨h1, h2, h3, h4⟩ := h
  have e : up M 52 6 0 52 13 = T.1 := by rw [up_at (Or.inr (by decide))]; exact h1
  refine ⟨?_, fun hn => ⟨up_same _ _ _ _, hn.1, by show n ≤ 600; omega, fun i i0 i1 => by have i1' : i < n := i1; rw [up_cell _ _ (by decide), up_cell _ _ (by decide)]; exact h4 i i0 (by omega)⟩⟩
  unfold f_X12_truncateInput
  rw [e, isWithin_M, cal_some]
  by_cases hn : 0 ≤ n ∧ n ≤ T.1
  · rw [ind_t hn, if_neg (by decide), if_pos hn]
  · rw [ind_f hn, if_pos rfl, if_neg hn]
end InOut
