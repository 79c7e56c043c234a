/-! what both sides hold when they are made -/
def v10L : List Int := [5, -2, 7, 7, 0, 12, 3, 1, 9, 4]
def v10 (i : Int) : Int := v10L.getD i.toNat 0
theorem v10_nat : ∀ n : Nat, n < 10 → -999 ≤ v10L.getD n 0 ∧ v10L.getD n 0 ≤ 999 := by decide
theorem v10_rng {i : Int} (h0 : 0 ≤ i) (h1 : i < 10) : -999 ≤ v10 i ∧ v10 i ≤ 999 := v10_nat i.toNat (by omega)
abbrev tx0 : TX := (0, fun _ => 0)
/-- the class's cells as they are made -/
def zC (M : Mem) : Prop := (∀ i : Int, 0 ≤ i → i < 10 → M 0 i.toNat = v10 i) ∧ gC M ∧ (∀ q, 3 ≤ q → q < 52 → ∀ i, ¬ (q = 45 ∧ i = 7) → M q i = 0) ∧ M 45 7 = -1
/-- .. and the model's, with the row of its constructor -/
def zM (M : Mem) : Prop := (∀ q, 52 ≤ q → q ≤ 65 → ∀ i, ¬ (q = 52 ∧ i = 15) → M q i = 0) ∧ M 52 15 = -1
section Init
variable {fu : Nat} {M : Mem}
theorem init_C (h : zC M) (hfu : 40000 ≤ fu) (H : Int → AS) (B : AS) : ∃ M1, f_X11_tail fu M = some (M1, 0) ∧ RC1 M1 (mk0 10 (fun i => M 0 i.toNat)) H 0 tx0 tx0 0 (-1) 0 B ∧ ∀ q, q < 5 ∨ 18 < q → M1 q = M q := by
  obtain ⟨h1, h2, h3, h4⟩ := h
  obtain ⟨M1, e1, c1, f1⟩ := begin_C (fu := fu) (M := M) (k1 := 0) (n1 := 10) (s := 10) (Or.inl (by decide)) ⟨by decide, by decide⟩ (by decide) (by omega) (fun i i0 i1 => by rw [h1 i i0 i1]; exact v10_rng i0 i1)
  refine ⟨M1, ?_, ⟨c1, ⟨?_, by decide, ?_, fun j j0 j1 => absurd j1 (Int.not_lt.mpr j0)⟩, ⟨?_, by decide, by decide, fun i i0 i1 => absurd i1 (Int.not_lt.mpr i0)⟩, ⟨?_, by decide, by decide, fun i i0 i1 => absurd i1 (Int.not_lt.mpr i0)⟩, ?_, ?_, fun i i0 i1 => by rw [f1 1 (by decide)]; exact h2 i i0 i1, ?_, fun hz => absurd hz (by decide)⟩, f1⟩
  · unfold f_X11_tail
    rw [e1, cal_some]
  · rw [f1 38 (by decide)]; exact h3 38 (by decide) (by decide) 0 (by decide)
  · rw [f1 38 (by decide), h3 38 (by decide) (by decide) 1 (by decide)]; decide
  · rw [f1 43 (by decide)]; exact h3 43 (by decide) (by decide) 0 (by decide)
  · rw [f1 50 (by decide)]; exact h3 50 (by decide) (by decide) 0 (by decide)
  · rw [f1 45 (by decide)]; exact h3 45 (by decide) (by decide) 6 (by decide)
  · rw [f1 45 (by decide)]; exact h4
  · rw [f1 3 (by decide)]; exact h3 3 (by decide) (by decide) 2 (by decide)
theorem t166 {M0 : Mem} (hw : ∀ i : Int, 0 ≤ i → i < 10 → M0 65 i.toNat = v10 i) : ∀ (n : Nat) (x2 : Int) (M : Mem), 0 ≤ x2 → x2 ≤ 10 → 10 - x2 < n → (∀ q, q ≠ 58 → M q = M0 q) → (∀ i : Int, 0 ≤ i → i < x2 → M 58 i.toNat = v10 i) →
    ∃ M2, f_X12_tail_L166 fu n x2 M = cal (f_X12_begin fu (up M2 52 9 10)) (fun M12 _ => some (M12, 0)) ∧ (∀ q, q ≠ 58 → M2 q = M0 q) ∧ ∀ i : Int, 0 ≤ i → i < 10 → M2 58 i.toNat = v10 i
  | 0, x2, M, h0, h1, h2, h3, h4 => by omega
  | n + 1, x2, M, h0, h1, h2, h3, h4 => by
    rw [f_X12_tail_L166]
    by_cases hz : 10 ≤ x2
    · rw [if_pos hz]
      exact ⟨M, rfl, h3, fun i i0 i1 => h4 i i0 (by omega)⟩
    · rw [if_neg hz, grd_pos ⟨h0, by omega⟩, grd_pos ⟨h0, by omega⟩, grd_pos ⟨by omega, by omega⟩]
      refine t166 hw n (x2 + 1) _ (by omega) (by omega) (by omega) (fun q hq => by rw [up_cell _ _ hq]; exact h3 q hq) (fun i i0 i1 => ?_)
      by_cases hi : i = x2
      · rw [hi, up_same, h3 65 (by decide)]
        exact hw x2 h0 (by omega)
      · rw [up_at (Or.inr (by omega))]
        exact h4 i i0 (by omega)
theorem init_M (h : zM M) (h0 : ∀ i : Int, 0 ≤ i → i < 10 → M 0 i.toNat = v10 i) (hfu : 40000 ≤ fu) (H : Int → AS) (B : AS) : ∃ M1, f_X12_tail fu M = some (M1, 0) ∧ RM1 M1 (mk0 10 (fun i => M 0 i.toNat)) H 0 tx0 tx0 0 (-1) 0 B ∧ ∀ q, q < 52 → M1 q = M q := by
  obtain ⟨h1, h2⟩ := h
  obtain ⟨Mt, hMt⟩ : ∃ Mt, Mt = up (up (up (up (up (up (up (up (up (up M 65 ((0 : Int) : Int).toNat (5 : Int)) 65 ((1 : Int) : Int).toNat (-2 : Int)) 65 ((2 : Int) : Int).toNat (7 : Int)) 65 ((3 : Int) : Int).toNat (7 : Int)) 65 ((4 : Int) : Int).toNat (0 : Int)) 65 ((5 : Int) : Int).toNat (12 : Int)) 65 ((6 : Int) : Int).toNat (3 : Int)) 65 ((7 : Int) : Int).toNat (1 : Int)) 65 ((8 : Int) : Int).toNat (9 : Int)) 65 ((9 : Int) : Int).toNat (4 : Int) := ⟨_, rfl⟩
  have ht : ∀ i : Int, 0 ≤ i → i < 10 → Mt 65 i.toNat = v10 i := by
    intro i i0 i1
    rw [hMt]
    rcases (show i = 0 ∨ i = 1 ∨ i = 2 ∨ i = 3 ∨ i = 4 ∨ i = 5 ∨ i = 6 ∨ i = 7 ∨ i = 8 ∨ i = 9 by omega) with rfl | rfl | rfl | rfl | rfl | rfl | rfl | rfl | rfl | rfl <;> rfl
  have hq : ∀ q, q ≠ 65 → Mt q = M q := by
    intro q hq
    rw [hMt]
    rw [up_cell _ _ hq, up_cell _ _ hq, up_cell _ _ hq, up_cell _ _ hq, up_cell _ _ hq, up_cell _ _ hq, up_cell _ _ hq, up_cell _ _ hq, up_cell _ _ hq, up_cell _ _ hq]
  obtain ⟨M2, e2, f2, g2⟩ := t166 (fu := fu) (M0 := Mt) ht fu 0 Mt (by decide) (by decide) (by omega) (fun _ _ => rfl) (fun i i0 i1 => absurd i1 (Int.not_lt.mpr i0))
  obtain ⟨M3, e3, m3, f3⟩ := begin_M (fu := fu) (M := up M2 52 9 10) (s := 10) (vals := fun i => M 0 i.toNat) ⟨by decide, by decide⟩ (up_same _ _ _ _) (by omega) (fun i i0 i1 => by rw [up_cell _ _ (by decide), g2 i i0 i1]; exact v10_rng i0 i1) (fun i i0 i1 => by rw [up_cell _ _ (by decide), g2 i i0 i1]; exact (h0 i i0 i1).symm)
  have f9 : ∀ q, q ≠ 52 → q ≠ 53 → q ≠ 57 → q ≠ 58 → q ≠ 59 → q ≠ 65 → M3 q = M q := fun q q1 q2 q3 q4 q5 q6 => by rw [f3 q q2 q3 q5, up_cell _ _ q1, f2 q q4, hq q q6]
  have f52 : ∀ i, i ≠ 9 → M3 52 i = M 52 i := fun i hi => by rw [f3 52 (by decide) (by decide) (by decide), up_at (Or.inr hi), f2 52 (by decide), hq 52 (by decide)]
  refine ⟨M3, ?_, ⟨m3, ⟨?_, by decide, fun j j0 j1 => absurd j1 (Int.not_lt.mpr j0)⟩, ⟨?_, by decide, by decide, fun i i0 i1 => absurd i1 (Int.not_lt.mpr i0)⟩, ⟨?_, by decide, by decide, fun i i0 i1 => absurd i1 (Int.not_lt.mpr i0)⟩, ?_, ?_, ?_, fun hz => absurd hz (by decide)⟩, fun q hq9 => f9 q (by omega) (by omega) (by omega) (by omega) (by omega) (by omega)⟩
  · unfold f_X12_tail
    rw [grd_pos (by decide), grd_pos (by decide), grd_pos (by decide), grd_pos (by decide), grd_pos (by decide), grd_pos (by decide), grd_pos (by decide), grd_pos (by decide), grd_pos (by decide), grd_pos (by decide), ← hMt, e2, e3, cal_some]
  · rw [f52 4 (by decide)]; exact h1 52 (by decide) (by decide) 4 (by decide)
  · rw [f52 13 (by decide)]; exact h1 52 (by decide) (by decide) 13 (by decide)
  · rw [f52 27 (by decide)]; exact h1 52 (by decide) (by decide) 27 (by decide)
  · rw [f52 14 (by decide)]; exact h1 52 (by decide) (by decide) 14 (by decide)
  · rw [f52 15 (by decide)]; exact h2
  · rw [f52 5 (by decide)]; exact h1 52 (by decide) (by decide) 5 (by decide)
end Init
