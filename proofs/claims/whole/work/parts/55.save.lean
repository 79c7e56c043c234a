/-! saved states, and the model's past -/
def RS (M : Mem) (A : AS) : Prop := M 20 0 = aN A ∧ M 25 0 = aV A ∧ repR (fun j => M (20 + j)) A ∧ (∀ k, 0 ≤ k → k < aN A → M 24 k.toNat = coA A k) ∧ (∀ v, 0 ≤ v → v < aV A → M 33 v.toNat = rlA A v)
theorem repR_row {F F' : Nat → Nat → Int} {A : AS} (h : repR F A) (hG : Good A) (h1 : ∀ i : Int, 0 ≤ i → i < 138 → F' 1 i.toNat = F 1 i.toNat) (h2 : ∀ i : Int, 0 ≤ i → i < 138 → F' 2 i.toNat = F 2 i.toNat) (h3 : ∀ i : Int, 0 ≤ i → i < 552 → F' 3 i.toNat = F 3 i.toNat)
    (h6 : ∀ i : Int, 0 ≤ i → i < 40 → F' 6 i.toNat = F 6 i.toNat) (h7 : ∀ i : Int, 0 ≤ i → i < 40 → F' 7 i.toNat = F 7 i.toNat) (h8 : ∀ i : Int, 0 ≤ i → i < 40 → F' 8 i.toNat = F 8 i.toNat) (h9 : ∀ i : Int, 0 ≤ i → i < 40 → F' 9 i.toNat = F 9 i.toNat) (h10 : ∀ i : Int, 0 ≤ i → i < 40 → F' 10 i.toNat = F 10 i.toNat) (h11 : ∀ i : Int, 0 ≤ i → i < 40 → F' 11 i.toNat = F 11 i.toNat) (h12 : ∀ i : Int, 0 ≤ i → i < 64 → F' 12 i.toNat = F 12 i.toNat) : repR F' A := by
  have hn := Good_N hG
  have hv := hG.1
  obtain ⟨s1, s2, s3, s4⟩ := h
  refine ⟨fun k k0 k1 => ?_, fun v v0 v1 => ?_, ⟨?_, fun i i0 i1 => ?_⟩, fun v v0 v1 i i0 i1 => ?_⟩
  · obtain ⟨w1, w2, w3⟩ := s1 k k0 k1
    have hf := G_fl hG k0 k1
    rw [h1 k k0 (by omega), h2 k k0 (by omega)]
    exact ⟨w1, w2, fun j j0 j1 => by rw [h3 _ (by omega) (by omega)]; exact w3 j j0 j1⟩
  · rw [h6 v v0 (by omega), h7 v v0 (by omega), h8 v v0 (by omega), h9 v v0 (by omega)]
    exact s2 v v0 v1
  · have := h10 0 (by decide) (by decide)
    exact this.trans s3.1
  · have := (G_V hG (Int.le_refl 0) (by omega)).1
    rw [h12 i i0 (by omega)]
    exact s3.2 i i0 i1
  · rw [h10 v (by omega) (by omega), h11 v (by omega) (by omega)]
    exact s4 v v0 v1 i i0 i1
section Save
variable {fu : Nat}
theorem save_C {M : Mem} {A : AS} (h : CM M A) (hfu : 2000 ≤ fu) : ∃ M', f_X8_copyFrom fu M = some (M', 0) ∧ RS M' A ∧ ∀ q, q < 20 ∨ 33 < q → M' q = M q := by
  have hnr := CM_nr h
  have hvr := CM_vr h
  obtain ⟨M1, e1, o1, c1⟩ := copyRow_C (fu := fu) (up M 20 0 (M 5 0)) (k0 := 6) (k1 := 21) (n := 138) (by decide) (by decide) hfu
  obtain ⟨M2, e2, o2, c2⟩ := copyRow_C (fu := fu) M1 (k0 := 7) (k1 := 22) (n := 138) (by decide) (by decide) hfu
  obtain ⟨M3, e3, o3, c3⟩ := copyRow_C (fu := fu) M2 (k0 := 8) (k1 := 23) (n := 552) (by decide) (by decide) hfu
  obtain ⟨M4, e4, o4, c4, -⟩ := copyFlags_C (fu := fu) M3 (k0 := 9) (n0 := 138) (k2 := 24) (n2 := 138) (a := 0) (b := 0) (c := 138) (by decide) (by decide) (by decide) (by decide) (by decide) hfu
  have q4 : ∀ q, q < 20 ∨ 24 < q → M4 q = M q := fun q hq => by rw [o4 q (by omega), o3 q (by omega), o2 q (by omega), o1 q (by omega), up_cell _ _ (by omega)]
  obtain ⟨M5, e5, o5, c5⟩ := copyRow_C (fu := fu) (up M4 25 0 (M4 10 0)) (k0 := 11) (k1 := 26) (n := 40) (by decide) (by decide) hfu
  obtain ⟨M6, e6, o6, c6⟩ := copyRow_C (fu := fu) M5 (k0 := 12) (k1 := 27) (n := 40) (by decide) (by decide) hfu
  obtain ⟨M7, e7, o7, c7⟩ := copyRow_C (fu := fu) M6 (k0 := 13) (k1 := 28) (n := 40) (by decide) (by decide) hfu
  obtain ⟨M8, e8, o8, c8⟩ := copyRow_C (fu := fu) M7 (k0 := 14) (k1 := 29) (n := 40) (by decide) (by decide) hfu
  obtain ⟨M9, e9, o9, c9⟩ := copyRow_C (fu := fu) M8 (k0 := 15) (k1 := 30) (n := 40) (by decide) (by decide) hfu
  obtain ⟨M10, e10, o10, c10⟩ := copyRow_C (fu := fu) M9 (k0 := 16) (k1 := 31) (n := 40) (by decide) (by decide) hfu
  obtain ⟨M11, e11, o11, c11⟩ := copyRow_C (fu := fu) M10 (k0 := 17) (k1 := 32) (n := 64) (by decide) (by decide) hfu
  obtain ⟨M12, e12, o12, c12, -⟩ := copyFlags_C (fu := fu) M11 (k0 := 18) (n0 := 40) (k2 := 33) (n2 := 40) (a := 0) (b := 0) (c := 40) (by decide) (by decide) (by decide) (by decide) (by decide) hfu
  have q12 : ∀ q, q < 25 ∨ 33 < q → M12 q = M4 q := fun q hq => by rw [o12 q (by omega), o11 q (by omega), o10 q (by omega), o9 q (by omega), o8 q (by omega), o7 q (by omega), o6 q (by omega), o5 q (by omega), up_cell _ _ (by omega)]
  refine ⟨M12, ?_, ⟨?_, ?_, ?_, fun k k0 k1 => ?_, fun v v0 v1 => ?_⟩, fun q hq => by rw [q12 q (by omega), q4 q (by omega)]⟩
  · unfold f_X8_copyFrom f_X3_copyFrom f_X10_copyFrom
    rw [e1, cal_some, e2, cal_some, e3, cal_some, e4, cal_some, cal_some, e5, cal_some, e6, cal_some, e7, cal_some, e8, cal_some, e9, cal_some, e10, cal_some, e11, cal_some, e12, cal_some, cal_some]
  · rw [q12 20 (by decide), o4 20 (by decide), o3 20 (by decide), o2 20 (by decide), o1 20 (by decide), up_same]; exact CM_n h
  · rw [o12 25 (by decide), o11 25 (by decide), o10 25 (by decide), o9 25 (by decide), o8 25 (by decide), o7 25 (by decide), o6 25 (by decide), o5 25 (by decide), up_same, q4 10 (by decide)]; exact CM_v h
  · refine repR_row h.1.2.2.1 h.2 (fun i i0 i1 => ?_) (fun i i0 i1 => ?_) (fun i i0 i1 => ?_) (fun i i0 i1 => ?_) (fun i i0 i1 => ?_) (fun i i0 i1 => ?_) (fun i i0 i1 => ?_) (fun i i0 i1 => ?_) (fun i i0 i1 => ?_) (fun i i0 i1 => ?_)
    · show M12 21 i.toNat = M 6 i.toNat
      rw [q12 21 (by decide), o4 21 (by decide), o3 21 (by decide), o2 21 (by decide), c1 i i0 i1, up_cell _ _ (by decide)]
    · show M12 22 i.toNat = M 7 i.toNat
      rw [q12 22 (by decide), o4 22 (by decide), o3 22 (by decide), c2 i i0 i1, o1 7 (by decide), up_cell _ _ (by decide)]
    · show M12 23 i.toNat = M 8 i.toNat
      rw [q12 23 (by decide), o4 23 (by decide), c3 i i0 i1, o2 8 (by decide), o1 8 (by decide), up_cell _ _ (by decide)]
    · show M12 26 i.toNat = M 11 i.toNat
      rw [o12 26 (by decide), o11 26 (by decide), o10 26 (by decide), o9 26 (by decide), o8 26 (by decide), o7 26 (by decide), o6 26 (by decide), c5 i i0 i1, up_cell _ _ (by decide), q4 11 (by decide)]
    · show M12 27 i.toNat = M 12 i.toNat
      rw [o12 27 (by decide), o11 27 (by decide), o10 27 (by decide), o9 27 (by decide), o8 27 (by decide), o7 27 (by decide), c6 i i0 i1, o5 12 (by decide), up_cell _ _ (by decide), q4 12 (by decide)]
    · show M12 28 i.toNat = M 13 i.toNat
      rw [o12 28 (by decide), o11 28 (by decide), o10 28 (by decide), o9 28 (by decide), o8 28 (by decide), c7 i i0 i1, o6 13 (by decide), o5 13 (by decide), up_cell _ _ (by decide), q4 13 (by decide)]
    · show M12 29 i.toNat = M 14 i.toNat
      rw [o12 29 (by decide), o11 29 (by decide), o10 29 (by decide), o9 29 (by decide), c8 i i0 i1, o7 14 (by decide), o6 14 (by decide), o5 14 (by decide), up_cell _ _ (by decide), q4 14 (by decide)]
    · show M12 30 i.toNat = M 15 i.toNat
      rw [o12 30 (by decide), o11 30 (by decide), o10 30 (by decide), c9 i i0 i1, o8 15 (by decide), o7 15 (by decide), o6 15 (by decide), o5 15 (by decide), up_cell _ _ (by decide), q4 15 (by decide)]
    · show M12 31 i.toNat = M 16 i.toNat
      rw [o12 31 (by decide), o11 31 (by decide), c10 i i0 i1, o9 16 (by decide), o8 16 (by decide), o7 16 (by decide), o6 16 (by decide), o5 16 (by decide), up_cell _ _ (by decide), q4 16 (by decide)]
    · show M12 32 i.toNat = M 17 i.toNat
      rw [o12 32 (by decide), c11 i i0 i1, o10 17 (by decide), o9 17 (by decide), o8 17 (by decide), o7 17 (by decide), o6 17 (by decide), o5 17 (by decide), up_cell _ _ (by decide), q4 17 (by decide)]
  · have := c4 k k0 (by omega)
    have e0 : (0 : Int) + k = k := by omega
    have hr := G_co h.2 k0 k1
    rw [e0, o3 9 (by decide), o2 9 (by decide), o1 9 (by decide), up_cell _ _ (by decide), CM_co h k0 k1] at this
    rw [q12 24 (by decide), this]
    split <;> omega
  · have := c12 v v0 (by omega)
    have e0 : (0 : Int) + v = v := by omega
    have hr := (G_V h.2 v0 v1).2.1
    rw [e0, o11 18 (by decide), o10 18 (by decide), o9 18 (by decide), o8 18 (by decide), o7 18 (by decide), o6 18 (by decide), o5 18 (by decide), up_cell _ _ (by decide), q4 18 (by decide), CM_rl h v0 v1] at this
    rw [this]
    split <;> omega
theorem restore_C {M : Mem} {A : AS} (h : RS M A) (hG : Good A) (hfu : 2000 ≤ fu) : ∃ M', f_X8_copyFrom_i1 fu M = some (M', 0) ∧ CM M' A ∧ ∀ q, q < 5 ∨ 18 < q → M' q = M q := by
  have hnr := Good_N hG
  have hvr := hG.1
  obtain ⟨r1, r2, r3, r4, r5⟩ := h
  obtain ⟨M1, e1, o1, c1⟩ := copyRow_C (fu := fu) (up M 5 0 (M 20 0)) (k0 := 21) (k1 := 6) (n := 138) (by decide) (by decide) hfu
  obtain ⟨M2, e2, o2, c2⟩ := copyRow_C (fu := fu) M1 (k0 := 22) (k1 := 7) (n := 138) (by decide) (by decide) hfu
  obtain ⟨M3, e3, o3, c3⟩ := copyRow_C (fu := fu) M2 (k0 := 23) (k1 := 8) (n := 552) (by decide) (by decide) hfu
  obtain ⟨M4, e4, o4, c4, -⟩ := copyFlags_C (fu := fu) M3 (k0 := 24) (n0 := 138) (k2 := 9) (n2 := 138) (a := 0) (b := 0) (c := 138) (by decide) (by decide) (by decide) (by decide) (by decide) hfu
  have q4 : ∀ q, q < 5 ∨ 9 < q → M4 q = M q := fun q hq => by rw [o4 q (by omega), o3 q (by omega), o2 q (by omega), o1 q (by omega), up_cell _ _ (by omega)]
  obtain ⟨M5, e5, o5, c5⟩ := copyRow_C (fu := fu) (up M4 10 0 (M4 25 0)) (k0 := 26) (k1 := 11) (n := 40) (by decide) (by decide) hfu
  obtain ⟨M6, e6, o6, c6⟩ := copyRow_C (fu := fu) M5 (k0 := 27) (k1 := 12) (n := 40) (by decide) (by decide) hfu
  obtain ⟨M7, e7, o7, c7⟩ := copyRow_C (fu := fu) M6 (k0 := 28) (k1 := 13) (n := 40) (by decide) (by decide) hfu
  obtain ⟨M8, e8, o8, c8⟩ := copyRow_C (fu := fu) M7 (k0 := 29) (k1 := 14) (n := 40) (by decide) (by decide) hfu
  obtain ⟨M9, e9, o9, c9⟩ := copyRow_C (fu := fu) M8 (k0 := 30) (k1 := 15) (n := 40) (by decide) (by decide) hfu
  obtain ⟨M10, e10, o10, c10⟩ := copyRow_C (fu := fu) M9 (k0 := 31) (k1 := 16) (n := 40) (by decide) (by decide) hfu
  obtain ⟨M11, e11, o11, c11⟩ := copyRow_C (fu := fu) M10 (k0 := 32) (k1 := 17) (n := 64) (by decide) (by decide) hfu
  obtain ⟨M12, e12, o12, c12, -⟩ := copyFlags_C (fu := fu) M11 (k0 := 33) (n0 := 40) (k2 := 18) (n2 := 40) (a := 0) (b := 0) (c := 40) (by decide) (by decide) (by decide) (by decide) (by decide) hfu
  have q12 : ∀ q, q < 10 ∨ 18 < q → M12 q = M4 q := fun q hq => by rw [o12 q (by omega), o11 q (by omega), o10 q (by omega), o9 q (by omega), o8 q (by omega), o7 q (by omega), o6 q (by omega), o5 q (by omega), up_cell _ _ (by omega)]
  refine ⟨M12, ?_, ⟨⟨?_, ?_, ?_, fun k k0 k1 => ?_, fun v v0 v1 => ?_⟩, hG⟩, fun q hq => by rw [q12 q (by omega), q4 q (by omega)]⟩
  · unfold f_X8_copyFrom_i1 f_X3_copyFrom_i1 f_X10_copyFrom_i1
    rw [e1, cal_some, e2, cal_some, e3, cal_some, e4, cal_some, cal_some, e5, cal_some, e6, cal_some, e7, cal_some, e8, cal_some, e9, cal_some, e10, cal_some, e11, cal_some, e12, cal_some, cal_some]
  · rw [q12 5 (by decide), o4 5 (by decide), o3 5 (by decide), o2 5 (by decide), o1 5 (by decide), up_same]; exact r1
  · rw [o12 10 (by decide), o11 10 (by decide), o10 10 (by decide), o9 10 (by decide), o8 10 (by decide), o7 10 (by decide), o6 10 (by decide), o5 10 (by decide), up_same, q4 25 (by decide)]; exact r2
  · refine repR_row r3 hG (fun i i0 i1 => ?_) (fun i i0 i1 => ?_) (fun i i0 i1 => ?_) (fun i i0 i1 => ?_) (fun i i0 i1 => ?_) (fun i i0 i1 => ?_) (fun i i0 i1 => ?_) (fun i i0 i1 => ?_) (fun i i0 i1 => ?_) (fun i i0 i1 => ?_)
    · show M12 6 i.toNat = M 21 i.toNat
      rw [q12 6 (by decide), o4 6 (by decide), o3 6 (by decide), o2 6 (by decide), c1 i i0 i1, up_cell _ _ (by decide)]
    · show M12 7 i.toNat = M 22 i.toNat
      rw [q12 7 (by decide), o4 7 (by decide), o3 7 (by decide), c2 i i0 i1, o1 22 (by decide), up_cell _ _ (by decide)]
    · show M12 8 i.toNat = M 23 i.toNat
      rw [q12 8 (by decide), o4 8 (by decide), c3 i i0 i1, o2 23 (by decide), o1 23 (by decide), up_cell _ _ (by decide)]
    · show M12 11 i.toNat = M 26 i.toNat
      rw [o12 11 (by decide), o11 11 (by decide), o10 11 (by decide), o9 11 (by decide), o8 11 (by decide), o7 11 (by decide), o6 11 (by decide), c5 i i0 i1, up_cell _ _ (by decide), q4 26 (by decide)]
    · show M12 12 i.toNat = M 27 i.toNat
      rw [o12 12 (by decide), o11 12 (by decide), o10 12 (by decide), o9 12 (by decide), o8 12 (by decide), o7 12 (by decide), c6 i i0 i1, o5 27 (by decide), up_cell _ _ (by decide), q4 27 (by decide)]
    · show M12 13 i.toNat = M 28 i.toNat
      rw [o12 13 (by decide), o11 13 (by decide), o10 13 (by decide), o9 13 (by decide), o8 13 (by decide), c7 i i0 i1, o6 28 (by decide), o5 28 (by decide), up_cell _ _ (by decide), q4 28 (by decide)]
    · show M12 14 i.toNat = M 29 i.toNat
      rw [o12 14 (by decide), o11 14 (by decide), o10 14 (by decide), o9 14 (by decide), c8 i i0 i1, o7 29 (by decide), o6 29 (by decide), o5 29 (by decide), up_cell _ _ (by decide), q4 29 (by decide)]
    · show M12 15 i.toNat = M 30 i.toNat
      rw [o12 15 (by decide), o11 15 (by decide), o10 15 (by decide), c9 i i0 i1, o8 30 (by decide), o7 30 (by decide), o6 30 (by decide), o5 30 (by decide), up_cell _ _ (by decide), q4 30 (by decide)]
    · show M12 16 i.toNat = M 31 i.toNat
      rw [o12 16 (by decide), o11 16 (by decide), c10 i i0 i1, o9 31 (by decide), o8 31 (by decide), o7 31 (by decide), o6 31 (by decide), o5 31 (by decide), up_cell _ _ (by decide), q4 31 (by decide)]
    · show M12 17 i.toNat = M 32 i.toNat
      rw [o12 17 (by decide), c11 i i0 i1, o10 32 (by decide), o9 32 (by decide), o8 32 (by decide), o7 32 (by decide), o6 32 (by decide), o5 32 (by decide), up_cell _ _ (by decide), q4 32 (by decide)]
  · have := c4 k k0 (by omega)
    have e0 : (0 : Int) + k = k := by omega
    have hr := G_co hG k0 k1
    rw [e0, o3 24 (by decide), o2 24 (by decide), o1 24 (by decide), up_cell _ _ (by decide), r4 k k0 k1] at this
    rw [q12 9 (by decide), this]
    split <;> omega
  · have := c12 v v0 (by omega)
    have e0 : (0 : Int) + v = v := by omega
    have hr := (G_V hG v0 v1).2.1
    rw [e0, o11 33 (by decide), o10 33 (by decide), o9 33 (by decide), o8 33 (by decide), o7 33 (by decide), o6 33 (by decide), o5 33 (by decide), up_cell _ _ (by decide), q4 33 (by decide), r5 v v0 v1] at this
    rw [this]
    split <;> omega
/-! the model -/
theorem repM_congr {G G' : Nat → Int} {A : AS} (h : repM G A) (hG : Good A) (hg : ∀ i : Int, 0 ≤ i → i < 4210 → G' i.toNat = G i.toNat) : repM G' A := by
  have hn := Good_N hG
  have hv := hG.1
  obtain ⟨r1, r2, r3, r4⟩ := h
  refine ⟨?_, ?_, fun v v0 v1 => ?_, fun k k0 k1 => ?_⟩
  · have := hg 0 (by decide) (by decide)
    exact this.trans r1
  · have := hg 1 (by decide) (by decide)
    exact this.trans r2
  · obtain ⟨w0, w1, w2, w3, w4, w5, w6⟩ := r3 v v0 v1
    have hz := (G_V hG v0 v1).1
    rw [hg _ (by omega) (by omega), hg _ (by omega) (by omega), hg _ (by omega) (by omega), hg _ (by omega) (by omega), hg _ (by omega) (by omega), hg (10 + 6 * v + 5) (by omega) (by omega)]
    exact ⟨w0, w1, w2, w3, w4, w5, fun i i0 i1 => by rw [hg _ (by omega) (by omega)]; exact w6 i i0 i1⟩
  · obtain ⟨w0, w1, w2, w3⟩ := r4 k k0 k1
    have hf := G_fl hG k0 k1
    rw [hg _ (by omega) (by omega), hg _ (by omega) (by omega), hg (2810 + 7 * k + 6) (by omega) (by omega)]
    exact ⟨w0, w1, fun j j0 j1 => by rw [hg _ (by omega) (by omega)]; exact w2 j j0 j1, w3⟩
def pG (M : Mem) (j : Int) : Nat → Int := fun i => M 56 (4210 * j + i).toNat
def HM (M : Mem) (H : Int → AS) (c : Int) : Prop := M 52 4 = c ∧ (0 ≤ c ∧ c ≤ 8) ∧ ∀ j, 0 ≤ j → j < c → repM (pG M j) (H j)
/-- all but the past and its count -/
def frP (M M' : Mem) : Prop := (∀ q, q ≠ 52 → q ≠ 56 → M' q = M q) ∧ ∀ i, i ≠ 4 → M' 52 i = M 52 i
theorem remember_M {M : Mem} {A : AS} {H : Int → AS} {c : Int} (h : MM M A) (hH : HM M H c) (hI : HI A H c) (hfu : 40000 ≤ fu) : ∃ M', f_X12_remember fu M = some (M', 0) ∧ HM M' (hPush H c A) (imin (c + 1) 8) ∧ frP M M' := by
  obtain ⟨h1, h2, h3⟩ := hH
  -- the state behind what stands there
  have hput : ∀ (M1 : Mem) (d : Int), frP M M1 → M1 52 4 = d → 0 ≤ d → d ≤ 7 → ∃ M', f_X12_remember_J51 fu M1 = some (M', 0) ∧ frP M M' ∧ M' 52 4 = d + 1 ∧ (∀ i : Int, 0 ≤ i → i < 4210 → M' 56 (4210 * d + i).toNat = M 53 i.toNat) ∧ ∀ i : Int, 0 ≤ i → i < 4210 * d → M' 56 i.toNat = M1 56 i.toNat := by
    intro M1 d hf hd d0 d7
    unfold f_X12_remember_J51
    have := lp_mem (F := fun n i M' => f_X12_remember_L53 fu n i M') (fun i M' => only 56 M1 M' ∧ (∀ j : Int, 0 ≤ j → j < i → M' 56 (4210 * d + j).toNat = M 53 j.toNat) ∧ ∀ j : Int, 0 ≤ j → j < 4210 * d → M' 56 j.toNat = M1 56 j.toNat) 4210
      (Q := fun o => ∃ M', o = (M', 0) ∧ frP M M' ∧ M' 52 4 = d + 1 ∧ (∀ i : Int, 0 ≤ i → i < 4210 → M' 56 (4210 * d + i).toNat = M 53 i.toNat) ∧ ∀ i : Int, 0 ≤ i → i < 4210 * d → M' 56 i.toNat = M1 56 i.toNat)
      (fun n i M2 i0 i1 hP => by
        obtain ⟨p1, p2, p3⟩ := hP
        have e52 : M2 52 4 = d := by rw [p1 52 (by decide)]; exact hd
        have e53 : M2 53 = M 53 := by rw [p1 53 (by decide)]; exact hf.1 53 (by decide) (by decide)
        refine ⟨up M2 56 (4210 * d + i).toNat (M2 53 i.toNat), ?_, only_trans p1 (only_up _ _ _ _), fun j j0 j1 => ?_, fun j j0 j1 => ?_⟩
        · show f_X12_remember_L53 fu (n + 1) i M2 = _
          rw [f_X12_remember_L53, if_neg (by omega), grd_pos (by omega), e52, grd_pos (by omega), grd_pos (by omega), grd_pos (by omega)]
        · rw [up_toNat (by omega) (by omega)]
          by_cases hji : j = i
          · rw [if_pos (by omega), hji, e53]
          · rw [if_neg (by omega)]; exact p2 j j0 (by omega)
        · rw [up_toNat (by omega) j0, if_neg (by omega)]; exact p3 j j0 j1)
      (fun n M2 hP => by
        obtain ⟨p1, p2, p3⟩ := hP
        have e52 : M2 52 4 = d := by rw [p1 52 (by decide)]; exact hd
        refine ⟨(up M2 52 4 (d + 1), 0), ?_, _, rfl, ⟨fun q q1 q2 => by rw [up_cell _ _ q1, p1 q q2, hf.1 q q1 q2], fun i hi => by rw [up_at (Or.inr hi), p1 52 (by decide), hf.2 i hi]⟩, up_same _ _ _ _, fun i i0 i1 => by rw [up_cell _ _ (by decide)]; exact p2 i i0 i1, fun i i0 i1 => by rw [up_cell _ _ (by decide)]; exact p3 i i0 i1⟩
        show f_X12_remember_L53 fu (n + 1) 4210 M2 = _
        rw [f_X12_remember_L53, if_pos (by decide), e52, grd_pos (by omega)]) fu 0 M1 (by omega) (by omega) (by omega) ⟨only_refl _ _, fun j j0 j1 => by omega, fun _ _ _ => rfl⟩
    obtain ⟨o, e, M', rfl, r⟩ := this
    exact ⟨M', e, r⟩
  unfold f_X12_remember
  by_cases hc8 : c = 8
  · rw [if_pos (by omega)]
    have := lp_mem (F := fun n i M' => f_X12_remember_L13 fu n (4210 + i) M') (fun i M' => only 56 M M' ∧ (∀ j : Int, 0 ≤ j → j < i → M' 56 j.toNat = M 56 (j + 4210).toNat) ∧ ∀ j : Int, i ≤ j → M' 56 j.toNat = M 56 j.toNat) 29470
      (Q := fun o => ∃ M', o = (M', 0) ∧ frP M M' ∧ M' 52 4 = 8 ∧ (∀ i : Int, 0 ≤ i → i < 4210 → M' 56 (4210 * 7 + i).toNat = M 53 i.toNat) ∧ ∀ i : Int, 0 ≤ i → i < 4210 * 7 → M' 56 i.toNat = M 56 (i + 4210).toNat)
      (fun n i M2 i0 i1 hP => by
        obtain ⟨p1, p2, p3⟩ := hP
        have e9 : (4210 : Int) + i - 4210 = i := by omega
        refine ⟨up M2 56 i.toNat (M2 56 (4210 + i).toNat), ?_, only_trans p1 (only_up _ _ _ _), fun j j0 j1 => ?_, fun j j1 => ?_⟩
        · show f_X12_remember_L13 fu (n + 1) (4210 + i) M2 = f_X12_remember_L13 fu n (4210 + (i + 1)) _
          rw [f_X12_remember_L13, if_neg (by omega), grd_pos (by omega), grd_pos (by omega), grd_pos (by omega), grd_pos (by omega), e9, Int.add_assoc]
        · rw [up_toNat i0 j0]
          by_cases hji : j = i
          · rw [if_pos hji, p3 _ (by omega), hji, Int.add_comm]
          · rw [if_neg hji]; exact p2 j j0 (by omega)
        · rw [up_toNat i0 (by omega), if_neg (by omega)]; exact p3 j (by omega))
      (fun n M2 hP => by
        obtain ⟨p1, p2, p3⟩ := hP
        have e52 : M2 52 4 = 8 := by rw [p1 52 (by decide)]; omega
        obtain ⟨M3, e3, f3, n3, a3, b3⟩ := hput (up M2 52 4 7) 7 ⟨fun q q1 q2 => by rw [up_cell _ _ q1, p1 q q2], fun i hi => by rw [up_at (Or.inr hi), p1 52 (by decide)]⟩ (up_same _ _ _ _) (by decide) (by decide)
        refine ⟨(M3, 0), ?_, M3, rfl, f3, n3, a3, fun i i0 i1 => ?_⟩
        · show f_X12_remember_L13 fu (n + 1) (4210 + 29470) M2 = _
          rw [f_X12_remember_L13, if_pos (by decide), e52, grd_pos (by decide)]
          exact e3
        · rw [b3 i i0 i1, up_cell _ _ (by decide)]
          exact p2 i i0 (by omega)) fu 0 M (by omega) (by omega) (by omega) ⟨only_refl _ _, fun j j0 j1 => by omega, fun _ _ => rfl⟩
    obtain ⟨o, e, M', rfl, f', n', a', b'⟩ := this
    refine ⟨M', e, ⟨by rw [n', hc8]; rfl, by rw [hc8]; decide, fun j j0 j1 => ?_⟩, f'⟩
    have him : imin (c + 1) 8 = 8 := by rw [hc8]; rfl
    rw [him] at j1
    unfold hPush
    rw [if_neg (by omega)]
    by_cases hj : j = 7
    · rw [if_pos hj, hj]
      refine repM_congr h.1 h.2 (fun i i0 i1 => ?_)
      show M' 56 (4210 * 7 + ((i.toNat : Nat) : Int)).toNat = _
      have : ((i.toNat : Nat) : Int) = i := by omega
      rw [this]
      exact a' i i0 i1
    · rw [if_neg hj]
      refine repM_congr (h3 (j + 1) (by omega) (by omega)) (hI (j + 1) (by omega) (by omega)).1 (fun i i0 i1 => ?_)
      show M' 56 (4210 * j + ((i.toNat : Nat) : Int)).toNat = M 56 (4210 * (j + 1) + ((i.toNat : Nat) : Int)).toNat
      have : ((i.toNat : Nat) : Int) = i := by omega
      rw [this, b' _ (by omega) (by omega)]
      congr 2
      omega
  · rw [if_neg (by omega)]
    obtain ⟨M', e, f', n', a', b'⟩ := hput M c ⟨fun _ _ _ => rfl, fun _ _ => rfl⟩ h1 h2.1 (by omega)
    have him : imin (c + 1) 8 = c + 1 := by unfold imin; rw [if_neg (by omega)]
    refine ⟨M', e, ⟨by rw [n', him], by omega, fun j j0 j1 => ?_⟩, f'⟩
    rw [him] at j1
    unfold hPush
    rw [if_pos (by omega)]
    by_cases hj : j = c
    · rw [if_pos hj, hj]
      refine repM_congr h.1 h.2 (fun i i0 i1 => ?_)
      show M' 56 (4210 * c + ((i.toNat : Nat) : Int)).toNat = _
      have : ((i.toNat : Nat) : Int) = i := by omega
      rw [this]
      exact a' i i0 i1
    · rw [if_neg hj]
      refine repM_congr (h3 j j0 (by omega)) (hI j j0 (by omega)).1 (fun i i0 i1 => ?_)
      show M' 56 (4210 * j + ((i.toNat : Nat) : Int)).toNat = M 56 (4210 * j + ((i.toNat : Nat) : Int)).toNat
      exact b' _ (by omega) (by omega)
theorem undo_M {M : Mem} {A : AS} {H : Int → AS} {c : Int} (hH : HM M H c) (hI : HI A H c) (hfu : 40000 ≤ fu) :
    (c = 0 → f_X12_undo fu M = some (up M 52 6 1, 0)) ∧ (0 < c → ∃ M', f_X12_undo fu M = some (M', c - 1) ∧ MM M' (H (c - 1)) ∧ HM M' H (c - 1) ∧ M' 52 6 = 0 ∧ (∀ q, q ≠ 52 → q ≠ 53 → M' q = M q) ∧ ∀ i, i ≠ 4 → i ≠ 6 → M' 52 i = M 52 i) := by
  obtain ⟨h1, h2, h3⟩ := hH
  refine ⟨fun hz => ?_, fun hz => ?_⟩
  · unfold f_X12_undo f_X12_undo_J13
    rw [if_pos (by omega), check_M, cal_some, if_pos (by decide)]
    rfl
  · obtain ⟨q1, -, -⟩ := hI (c - 1) (by omega) (by omega)
    unfold f_X12_undo f_X12_undo_J13
    have e4 : up M 52 6 (chk 1 1 1) 52 4 = c := by rw [up_at (Or.inr (by decide))]; exact h1
    rw [if_neg (by omega), check_M, cal_some, if_neg (by decide), e4, grd_pos (by omega)]
    have m6 : up (up M 52 6 (chk 1 1 1)) 52 4 (c - 1) 52 6 = 0 := by rw [up_at (Or.inr (by decide)), up_same]; rfl
    have m4 : up (up M 52 6 (chk 1 1 1)) 52 4 (c - 1) 52 4 = c - 1 := up_same _ _ _ _
    have mi : ∀ i, i ≠ 4 → i ≠ 6 → up (up M 52 6 (chk 1 1 1)) 52 4 (c - 1) 52 i = M 52 i := fun i a1 a2 => by rw [up_at (Or.inr a1), up_at (Or.inr a2)]
    have mq : ∀ q, q ≠ 52 → up (up M 52 6 (chk 1 1 1)) 52 4 (c - 1) q = M q := fun q hq => by rw [up_cell _ _ hq, up_cell _ _ hq]
    generalize up (up M 52 6 (chk 1 1 1)) 52 4 (c - 1) = M0 at m6 m4 mi mq
    have := lp_mem (F := fun n i M' => f_X12_undo_L35 fu n i M') (fun i M' => only 53 M0 M' ∧ ∀ j : Int, 0 ≤ j → j < i → M' 53 j.toNat = M 56 (4210 * (c - 1) + j).toNat) 4210
      (Q := fun o => ∃ M', o = (M', c - 1) ∧ only 53 M0 M' ∧ ∀ j : Int, 0 ≤ j → j < 4210 → M' 53 j.toNat = M 56 (4210 * (c - 1) + j).toNat)
      (fun n i M2 i0 i1 hP => by
        obtain ⟨p1, p2⟩ := hP
        have e52 : M2 52 4 = c - 1 := by rw [p1 52 (by decide)]; exact m4
        have e56 : M2 56 = M 56 := by rw [p1 56 (by decide)]; exact mq 56 (by decide)
        refine ⟨up M2 53 i.toNat (M2 56 (4210 * (c - 1) + i).toNat), ?_, only_trans p1 (only_up _ _ _ _), fun j j0 j1 => ?_⟩
        · show f_X12_undo_L35 fu (n + 1) i M2 = _
          rw [f_X12_undo_L35, if_neg (by omega), e52, grd_pos (by omega), grd_pos (by omega), grd_pos (by omega), grd_pos (by omega)]
        · rw [up_toNat i0 j0]
          by_cases hji : j = i
          · rw [if_pos hji, hji, e56]
          · rw [if_neg hji]; exact p2 j j0 (by omega))
      (fun n M2 hP => by
        have e52 : M2 52 4 = c - 1 := by rw [hP.1 52 (by decide)]; exact m4
        refine ⟨(M2, c - 1), ?_, M2, rfl, hP⟩
        show f_X12_undo_L35 fu (n + 1) 4210 M2 = _
        rw [f_X12_undo_L35, if_pos (by decide), e52]) fu 0 M0 (by omega) (by omega) (by omega) ⟨only_refl _ _, fun j j0 j1 => by omega⟩
    obtain ⟨o, e, M', rfl, p1, p2⟩ := this
    have e52 : M' 52 = M0 52 := p1 52 (by decide)
    refine ⟨M', e, ⟨?_, q1⟩, ⟨by rw [e52]; exact m4, by omega, fun j j0 j1 => ?_⟩, by rw [e52]; exact m6, fun q a1 a2 => by rw [p1 q a2, mq q a1], fun i a1 a2 => by rw [e52]; exact mi i a1 a2⟩
    · refine repM_congr (h3 (c - 1) (by omega) (by omega)) q1 (fun i i0 i1 => ?_)
      show _ = M 56 (4210 * (c - 1) + ((i.toNat : Nat) : Int)).toNat
      have : ((i.toNat : Nat) : Int) = i := by omega
      rw [this]
      exact p2 i i0 i1
    · refine repM_congr (h3 j j0 (by omega)) (hI j j0 (by omega)).1 (fun i i0 i1 => ?_)
      show M' 56 _ = M 56 _
      rw [p1 56 (by decide), mq 56 (by decide)]
theorem copyTo_M (M : Mem) (hfu : 40000 ≤ fu) : ∃ M', f_X12_copyTo fu M 55 4210 = some (M', 0) ∧ only 55 M M' ∧ ∀ j : Int, 0 ≤ j → j < 4210 → M' 55 j.toNat = M 53 j.toNat := by
  unfold f_X12_copyTo
  have := lp_mem (F := fun n i M' => f_X12_copyTo_L2 fu 55 4210 n i M') (fun i M' => only 55 M M' ∧ ∀ j : Int, 0 ≤ j → j < i → M' 55 j.toNat = M 53 j.toNat) 4210
    (Q := fun o => ∃ M', o = (M', 0) ∧ only 55 M M' ∧ ∀ j : Int, 0 ≤ j → j < 4210 → M' 55 j.toNat = M 53 j.toNat)
    (fun n i M2 i0 i1 hP => by
      refine ⟨up M2 55 i.toNat (M2 53 i.toNat), ?_, only_trans hP.1 (only_up _ _ _ _), fun j j0 j1 => ?_⟩
      · show f_X12_copyTo_L2 fu 55 4210 (n + 1) i M2 = _
        rw [f_X12_copyTo_L2, if_neg (by omega), grd_pos (by omega), grd_pos (by omega), grd_pos (by omega)]
      · rw [up_toNat i0 j0]
        by_cases hji : j = i
        · rw [if_pos hji, hji, hP.1 53 (by decide)]
        · rw [if_neg hji]; exact hP.2 j j0 (by omega))
    (fun n M2 hP => by
      refine ⟨(M2, 0), ?_, M2, rfl, hP⟩
      show f_X12_copyTo_L2 fu 55 4210 (n + 1) 4210 M2 = _
      rw [f_X12_copyTo_L2, if_pos (by decide)]) fu 0 M (by omega) (by omega) (by omega) ⟨only_refl _ _, fun j j0 j1 => by omega⟩
  obtain ⟨o, e, M', rfl, r⟩ := this
  exact ⟨M', e, r⟩
theorem copyFrom_M (M : Mem) (hfu : 40000 ≤ fu) : ∃ M', f_X12_copyFrom fu M 55 4210 = some (M', 0) ∧ only 53 M M' ∧ ∀ j : Int, 0 ≤ j → j < 4210 → M' 53 j.toNat = M 55 j.toNat := by
  unfold f_X12_copyFrom
  have := lp_mem (F := fun n i M' => f_X12_copyFrom_L2 fu 55 4210 n i M') (fun i M' => only 53 M M' ∧ ∀ j : Int, 0 ≤ j → j < i → M' 53 j.toNat = M 55 j.toNat) 4210
    (Q := fun o => ∃ M', o = (M', 0) ∧ only 53 M M' ∧ ∀ j : Int, 0 ≤ j → j < 4210 → M' 53 j.toNat = M 55 j.toNat)
    (fun n i M2 i0 i1 hP => by
      refine ⟨up M2 53 i.toNat (M2 55 i.toNat), ?_, only_trans hP.1 (only_up _ _ _ _), fun j j0 j1 => ?_⟩
      · show f_X12_copyFrom_L2 fu 55 4210 (n + 1) i M2 = _
        rw [f_X12_copyFrom_L2, if_neg (by omega), grd_pos (by omega), grd_pos (by omega), grd_pos (by omega)]
      · rw [up_toNat i0 j0]
        by_cases hji : j = i
        · rw [if_pos hji, hji, hP.1 55 (by decide)]
        · rw [if_neg hji]; exact hP.2 j j0 (by omega))
    (fun n M2 hP => by
      refine ⟨(M2, 0), ?_, M2, rfl, hP⟩
      show f_X12_copyFrom_L2 fu 55 4210 (n + 1) 4210 M2 = _
      rw [f_X12_copyFrom_L2, if_pos (by decide)]) fu 0 M (by omega) (by omega) (by omega) ⟨only_refl _ _, fun j j0 j1 => by omega⟩
  obtain ⟨o, e, M', rfl, r⟩ := this
  exact ⟨M', e, r⟩
end Save
