/-! a setup on both sides -/
theorem PS_b {T : TX} {r : PRes} : ∀ (n : Nat) (p st c : Int) (v : Int → Int), PS T n p st c v r → (∀ i, 0 ≤ i → i < c → -999 ≤ v i ∧ v i ≤ 999) → r.1 = 0 → r.2.1 = -1 ∧ ∀ i, 0 ≤ i → i < r.2.2.1 → -999 ≤ r.2.2.2 i ∧ r.2.2.2 i ≤ 999
  | 0, p, st, c, v, h, hb, h0 => h.elim
  | n + 1, p, st, c, v, h, hb, h0 => by
      obtain ⟨k, s, e, w, x, t, h⟩ := h
      have tp := tk_pos t
      have hs : ∀ y : Int, -999 ≤ y ∧ y ≤ 999 → ∀ i, 0 ≤ i → i < c + 1 → -999 ≤ fset v c y i ∧ fset v c y i ≤ 999 := by
        intro y hy i i0 i1
        by_cases hi : i = c
        · rw [hi, fset_s]; exact hy
        · rw [fset_o hi]; exact hb i i0 (by omega)
      have er : ∀ {y : Int}, y ≠ 0 → r = (y, s, c, v) → r.2.1 = -1 ∧ ∀ i, 0 ≤ i → i < r.2.2.1 → -999 ≤ r.2.2.2 i ∧ r.2.2.2 i ≤ 999 := by
        intro y hy hr
        subst hr
        exact absurd h0 hy
      rcases h with ⟨a1, a2, a3⟩ | ⟨a1, a2, a3⟩ | ⟨a1, a2, a3, a4⟩ | ⟨a1, a2, a3, a4⟩ | ⟨a1, a2, a3⟩ | ⟨a1, a2, a3, a4⟩ | ⟨a1, a2, a3, a4, a5, a6, a7⟩ | ⟨a1, a2, a3, a4, a5, a6⟩ | ⟨a1, a2, a3, a4, a5, a6⟩ | ⟨a1, a2, a3⟩ | ⟨a1, a2, a3, a4⟩
      · subst a3; exact ⟨rfl, hb⟩
      · exact er (by decide) a3
      · exact er (by decide) a4
      · exact PS_b n e 1 c v a4 hb h0
      · exact PS_b n e 0 c v a3 hb h0
      · have hx := tp.2.2.2.2.2.2.2.2.2.2 a2
        exact PS_b n e 1 (c + 1) _ a4 (hs x (by omega)) h0
      · exact PS_b n e 2 c v a7 hb h0
      · exact er (by decide) a6
      · exact er (by decide) a6
      · have hx := tp.2.2.2.2.2.2.2.2.2.2 a2
        exact PS_b n e 1 (c + 1) _ a3 (hs (-x) (by omega)) h0
      · exact er (by decide) a4
section Load
variable {fu : Nat}
def frK (M M' : Mem) : Prop := ∀ q, (q < 5 ∨ 18 < q) → q ≠ 3 → q ≠ 38 → q ≠ 43 → q ≠ 45 → q ≠ 46 → q ≠ 47 → M' q = M q
theorem loadSetup_C {M : Mem} {T : TX} {r : PRes} {m : Nat} {v : Int → Int} {H : Int → AS} {c : Int} (h : iC M T) (hH : HC M H c) (hP : PS T m 0 0 0 v r) (hfu : 2000 ≤ fu) :
    (r.1 ≠ 0 → ∃ M', f_X11_loadSetup fu M = some (M', -1) ∧ iC M' (0, T.2) ∧ M' 45 6 = r.1 ∧ M' 45 7 = r.2.1 ∧ ∀ q, q ≠ 43 → q ≠ 45 → q ≠ 46 → q ≠ 47 → M' q = M q) ∧
    (r.1 = 0 → ∃ M', f_X11_loadSetup fu M = some (M', r.2.2.1) ∧ 0 ≤ r.2.2.1 ∧ r.2.2.1 ≤ 64 ∧ iC M' (0, T.2) ∧ M' 45 6 = 0 ∧ M' 45 7 = r.2.1 ∧ (∃ vals, (∀ i, 0 ≤ i → i < r.2.2.1 → vals i = r.2.2.2 i) ∧ CM M' (mk0 r.2.2.1 vals)) ∧ (∀ H2, HC M' H2 0) ∧ M' 3 2 = 0 ∧ (∀ i, i ≠ 2 → M' 3 i = M 3 i) ∧ frK M M') := by
  obtain ⟨M1, e1, s1, s2, s3, f1⟩ := setupParse_C (fu := fu) h hP (by omega)
  have i1 := iC_U h f1
  have i2 : iC (up M1 43 0 0) (0, T.2) := ⟨up_same _ _ _ _, Int.le_refl 0, by show (0 : Int) ≤ 600; decide, fun i i0 i1 => absurd i1 (Int.not_lt.mpr i0)⟩
  unfold f_X11_loadSetup
  refine ⟨fun h0 => ?_, fun h0 => ?_⟩
  · rw [e1, cal_some, ind_f h0, if_pos rfl]
    exact ⟨_, rfl, i2, by rw [up_cell _ _ (by decide)]; exact s1, by rw [up_cell _ _ (by decide)]; exact s2, fun q q1 q2 q3 q4 => by rw [up_cell _ _ q1]; exact f1 q q2 q3 q4⟩
  · obtain ⟨c1, c2, c3, c4⟩ := s3 h0
    obtain ⟨-, hb⟩ := PS_b m 0 0 0 v hP (fun i i0 i1 => absurd i1 (Int.not_lt.mpr i0)) h0
    have e47 : up M1 43 0 0 47 = M1 47 := up_cell _ _ (by decide)
    obtain ⟨M2, e2, r2, f2⟩ := begin_C (fu := fu) (M := up M1 43 0 0) (k1 := 47) (n1 := 64) (s := r.2.2.1) (by decide) ⟨c2, c3⟩ (by decide) hfu (fun i i0 i1 => by rw [e47, c4 i i0 i1]; exact hb i i0 i1)
    rw [e1, cal_some, ind_t h0, if_neg (by decide), up_cell _ _ (by decide), c1, e2, cal_some]
    unfold f_X1_forget
    have fr : ∀ q, q ≠ 3 → q ≠ 38 → up (up M2 38 0 0) 3 2 0 q = M2 q := fun q q1 q2 => by rw [up_cell _ _ q1, up_cell _ _ q2]
    have f3 : ∀ q, q < 5 ∨ 18 < q → q ≠ 43 → q ≠ 45 → q ≠ 46 → q ≠ 47 → M2 q = M q := fun q q0 q1 q2 q3 q4 => by rw [f2 q q0, up_cell _ _ q1, f1 q q2 q3 q4]
    have e46 : up (up M2 38 0 0) 3 2 0 46 4 = r.2.2.1 := by rw [fr 46 (by decide) (by decide), f2 46 (by decide), up_cell _ _ (by decide)]; exact c1
    rw [cal_some, grd_pos (by decide), e46]
    refine ⟨_, rfl, c2, c3, ?_, ?_, ?_, ⟨fun i => M1 47 i.toNat, c4, ?_⟩, fun H2 => ?_, up_same _ _ _ _, fun i hi => ?_, fun q q0 q1 q2 q3 q4 q5 q6 => ?_⟩
    · exact ⟨by rw [fr 43 (by decide) (by decide), f2 43 (by decide)]; exact up_same _ _ _ _, Int.le_refl 0, by show (0 : Int) ≤ 600; decide, fun i i0 i1 => absurd i1 (Int.not_lt.mpr i0)⟩
    · rw [fr 45 (by decide) (by decide), f2 45 (by decide), up_cell _ _ (by decide), s1]; exact h0
    · rw [fr 45 (by decide) (by decide), f2 45 (by decide), up_cell _ _ (by decide)]; exact s2
    · rw [e47] at r2
      exact ⟨RC_congr r2.1 (fun k k0 k1 => fr k (by omega) (by omega)), r2.2⟩
    · obtain ⟨g1, g2, g3, g4⟩ := hH
      have e38 : up (up M2 38 0 0) 3 2 0 38 1 = M 38 1 := by rw [up_cell _ _ (by decide), up_at (Or.inr (by decide)), f3 38 (by decide) (by decide) (by decide) (by decide) (by decide)]
      exact ⟨by rw [up_cell _ _ (by decide), up_same], by decide, by rw [e38]; exact g3, fun j j0 j1 => absurd j1 (Int.not_lt.mpr j0)⟩
    · rw [up_at (Or.inr hi), up_cell _ _ (by decide), f3 3 (by decide) (by decide) (by decide) (by decide) (by decide)]
    · rw [fr q q1 q2, f3 q q0 q3 q4 q5 q6]
def frKM (M M' : Mem) : Prop := (∀ q, q ≠ 52 → q ≠ 53 → q ≠ 57 → q ≠ 58 → q ≠ 59 → q ≠ 62 → M' q = M q) ∧ ∀ i, i ≠ 4 → i ≠ 5 → i ≠ 6 → i ≠ 9 → i < 13 ∨ 24 ≤ i → M' 52 i = M 52 i
end Load
