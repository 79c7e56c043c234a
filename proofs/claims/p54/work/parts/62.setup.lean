/-! setup texts -/
abbrev PRes : Type := Int × Int × Int × (Int → Int)
def fset (v : Int → Int) (c x : Int) : Int → Int := fun i => if i = c then x else v i
def PS (T : TX) : Nat → Int → Int → Int → (Int → Int) → PRes → Prop
  | 0, _, _, _, _, _ => False
  | n + 1, p, st, c, v, r => ∃ k s e w x, Tk T p k s e w x ∧ (
      (k = 0 ∧ st = 0 ∧ r = (0, -1, c, v)) ∨
      (k = 0 ∧ st ≠ 0 ∧ r = (1, s, c, v)) ∨
      (st = 0 ∧ k ≠ 0 ∧ w ≠ 1 ∧ r = (1, s, c, v)) ∨
      (st = 0 ∧ k ≠ 0 ∧ w = 1 ∧ PS T n e 1 c v r) ∨
      (st = 1 ∧ k = 3 ∧ PS T n e 0 c v r) ∨
      (st = 1 ∧ k = 2 ∧ c < 64 ∧ PS T n e 1 (c + 1) (fset v c x) r) ∨
      (st = 1 ∧ k ≠ 0 ∧ k ≠ 3 ∧ k ≠ 2 ∧ w = 2 ∧ c < 64 ∧ PS T n e 2 c v r) ∨
      (st = 1 ∧ k ≠ 0 ∧ k ≠ 3 ∧ (k = 2 ∨ w = 2) ∧ 64 ≤ c ∧ r = (3, s, c, v)) ∨
      (st = 1 ∧ k ≠ 0 ∧ k ≠ 3 ∧ k ≠ 2 ∧ w ≠ 2 ∧ r = (1, s, c, v)) ∨
      (st = 2 ∧ k = 2 ∧ PS T n e 1 (c + 1) (fset v c (-x)) r) ∨
      (st = 2 ∧ k ≠ 0 ∧ k ≠ 2 ∧ r = (1, s, c, v)))
theorem PS_ex (T : TX) : ∀ (n : Nat) (p st c : Int) (v : Int → Int), p ≤ T.1 → T.1 - p < n → st = 0 ∨ st = 1 ∨ st = 2 → ∃ r, PS T n p st c v r
  | 0, p, st, c, v, hp, hn, hs => by omega
  | n + 1, p, st, c, v, hp, hn, hs => by
      obtain ⟨k, s, e, w, x, t⟩ := tk_ex hp
      have tp := tk_pos t
      by_cases hk : k = 0
      · by_cases h0 : st = 0
        · exact ⟨_, k, s, e, w, x, t, Or.inl ⟨hk, h0, rfl⟩⟩
        · exact ⟨_, k, s, e, w, x, t, Or.inr (Or.inl ⟨hk, h0, rfl⟩)⟩
      · have ih := fun st c v h => PS_ex T n e st c v tp.2.2.1 (by omega) h
        rcases hs with hs | hs | hs
        · by_cases hw : w = 1
          · obtain ⟨r, hr⟩ := ih 1 c v (by decide)
            exact ⟨r, k, s, e, w, x, t, Or.inr (Or.inr (Or.inr (Or.inl ⟨hs, hk, hw, hr⟩)))⟩
          · exact ⟨_, k, s, e, w, x, t, Or.inr (Or.inr (Or.inl ⟨hs, hk, hw, rfl⟩))⟩
        · by_cases h3 : k = 3
          · obtain ⟨r, hr⟩ := ih 0 c v (by decide)
            exact ⟨r, k, s, e, w, x, t, Or.inr (Or.inr (Or.inr (Or.inr (Or.inl ⟨hs, h3, hr⟩))))⟩
          · by_cases hc : c < 64
            · by_cases h2 : k = 2
              · obtain ⟨r, hr⟩ := ih 1 (c + 1) (fset v c x) (by decide)
                exact ⟨r, k, s, e, w, x, t, Or.inr (Or.inr (Or.inr (Or.inr (Or.inr (Or.inl ⟨hs, h2, hc, hr⟩)))))⟩
              · by_cases hw : w = 2
                · obtain ⟨r, hr⟩ := ih 2 c v (by decide)
                  exact ⟨r, k, s, e, w, x, t, Or.inr (Or.inr (Or.inr (Or.inr (Or.inr (Or.inr (Or.inl ⟨hs, hk, h3, h2, hw, hc, hr⟩))))))⟩
                · exact ⟨_, k, s, e, w, x, t, Or.inr (Or.inr (Or.inr (Or.inr (Or.inr (Or.inr (Or.inr (Or.inr (Or.inl ⟨hs, hk, h3, h2, hw, rfl⟩))))))))⟩
            · by_cases h2 : k = 2 ∨ w = 2
              · exact ⟨_, k, s, e, w, x, t, Or.inr (Or.inr (Or.inr (Or.inr (Or.inr (Or.inr (Or.inr (Or.inl ⟨hs, hk, h3, h2, by omega, rfl⟩)))))))⟩
              · exact ⟨_, k, s, e, w, x, t, Or.inr (Or.inr (Or.inr (Or.inr (Or.inr (Or.inr (Or.inr (Or.inr (Or.inl ⟨hs, hk, h3, fun h9 => h2 (Or.inl h9), fun h9 => h2 (Or.inr h9), rfl⟩))))))))⟩
        · by_cases h2 : k = 2
          · obtain ⟨r, hr⟩ := ih 1 (c + 1) (fset v c (-x)) (by decide)
            exact ⟨r, k, s, e, w, x, t, Or.inr (Or.inr (Or.inr (Or.inr (Or.inr (Or.inr (Or.inr (Or.inr (Or.inr (Or.inl ⟨hs, h2, hr⟩)))))))))⟩
          · exact ⟨_, k, s, e, w, x, t, Or.inr (Or.inr (Or.inr (Or.inr (Or.inr (Or.inr (Or.inr (Or.inr (Or.inr (Or.inr ⟨hs, hk, h2, rfl⟩)))))))))⟩
section Setup
variable {fu : Nat}
def frU (M M' : Mem) : Prop := ∀ q, q ≠ 45 → q ≠ 46 → q ≠ 47 → M' q = M q
theorem frU_refl (M : Mem) : frU M M := fun _ _ _ _ => rfl
theorem frU_trans {M M' M2 : Mem} (h : frU M M') (h2 : frU M' M2) : frU M M2 := fun q h3 h4 h5 => by rw [h2 q h3 h4 h5, h q h3 h4 h5]
theorem frU_Tk {M M' : Mem} (h : frTk M M') : frU M M' := fun q h3 _ _ => h.1 q h3
theorem frU_up {M : Mem} {q i : Nat} {x : Int} (hq : q = 45 ∨ q = 46 ∨ q = 47) : frU M (up M q i x) := fun k h3 h4 h5 => up_cell _ _ (by omega)
theorem iC_U {M M' : Mem} {T : TX} (h : iC M T) (f : frU M M') : iC M' T := by
  obtain ⟨g1, g2, g3, g4⟩ := h
  exact ⟨by rw [f 43 (by decide) (by decide) (by decide)]; exact g1, g2, g3, fun i i0 i1 => by rw [f 44 (by decide) (by decide) (by decide)]; exact g4 i i0 i1⟩
def cS (M : Mem) (st c : Int) (v : Int → Int) : Prop := M 46 4 = c ∧ M 46 1 = (if st = 0 then 0 else 1) ∧ M 46 2 = (if st = 2 then 1 else 0) ∧ ∀ i, 0 ≤ i → i < c → M 47 i.toNat = v i
theorem cS_Tk {M M' : Mem} {st c : Int} {v : Int → Int} (h : cS M st c v) (f : frTk M M') : cS M' st c v := by
  obtain ⟨h1, h2, h3, h4⟩ := h
  have e := f.1 46 (by decide)
  exact ⟨by rw [e]; exact h1, by rw [e]; exact h2, by rw [e]; exact h3, fun i i0 i1 => by rw [f.1 47 (by decide)]; exact h4 i i0 i1⟩
theorem fail_C {M : Mem} (a : Int) : f_X9_fail fu M a = some (up (up M 45 6 a) 45 7 (M 45 2), 0) := by
  unfold f_X9_fail
  rw [up_at (Or.inr (by decide))]
theorem J59_err {M : Mem} (k : Int → Mem → Option (Mem × Int)) (x : Int) {y : Int} (h : y ≠ 0) : f_X7_parse_J59 fu k x y M = some (up (up M 45 6 y) 45 7 (M 45 2), 0) := by
  unfold f_X7_parse_J59
  rw [if_neg h, fail_C, cal_some, grd_pos (by decide)]
theorem J59_ok {M : Mem} (k : Int → Mem → Option (Mem × Int)) {x : Int} (h : 0 ≤ x ∧ x ≤ 600) : f_X7_parse_J59 fu k x 0 M = k (x + 1) M := by
  unfold f_X7_parse_J59
  rw [if_pos rfl, grd_pos (by omega)]
theorem skeep_C {M : Mem} {c : Int} {v : Int → Int} {st : Int} (h : cS M st c v) (hst : st ≠ 0) (h0 : 0 ≤ c) (h1 : c < 64) (x : Int) : ∃ M', f_X7_keep fu M x = some (M', 0) ∧ cS M' 1 (c + 1) (fset v c x) ∧ M' 45 = M 45 ∧ frU M M' := by
  obtain ⟨a1, a2, a3, a4⟩ := h
  have e : up M 47 c.toNat x 46 4 = c := by rw [up_cell _ _ (by decide)]; exact a1
  refine ⟨up (up (up M 47 c.toNat x) 46 4 (c + 1)) 46 2 0, ?_, ⟨by rw [up_at (Or.inr (by decide)), up_same], by rw [up_at (Or.inr (by decide)), up_at (Or.inr (by decide)), up_cell _ _ (by decide), a2, if_neg hst]; rfl, up_same _ _ _ _, fun i i0 i1 => ?_⟩, by rw [up_cell _ _ (by decide), up_cell _ _ (by decide), up_cell _ _ (by decide)], frU_trans (frU_up (by decide)) (frU_trans (frU_up (by decide)) (frU_up (by decide)))⟩
  · unfold f_X7_keep
    rw [a1, put_in h0 (by omega), cal_some, e, grd_pos (by omega), grd_pos (by decide)]
  · rw [up_cell _ _ (by decide), up_cell _ _ (by decide), up_toNat h0 i0]
    unfold fset
    by_cases hi : i = c
    · rw [if_pos hi, if_pos hi]
    · rw [if_neg hi, if_neg hi]; exact a4 i i0 (by omega)
theorem setup_C {T : TX} {r : PRes} : ∀ (m n : Nat) (p st c x : Int) (v : Int → Int) (M : Mem), PS T m p st c v r → iC M T → cS M st c v → M 45 1 = p → 0 ≤ p → p ≤ T.1 → 0 ≤ x → x ≤ p → T.1 - p + 1 < n → 0 ≤ c → c ≤ 64 → (st = 2 → c < 64) → M 45 6 = 0 → M 45 7 = -1 → 1000 ≤ fu →
    ∃ M', f_X7_parse_L24 fu n x M = some (M', ind (r.1 = 0)) ∧ M' 45 6 = r.1 ∧ M' 45 7 = r.2.1 ∧ (r.1 = 0 → M' 46 4 = r.2.2.1 ∧ 0 ≤ r.2.2.1 ∧ r.2.2.1 ≤ 64 ∧ ∀ i, 0 ≤ i → i < r.2.2.1 → M' 47 i.toNat = r.2.2.2 i) ∧ frU M M'
  | 0, n, p, st, c, x, v, M, h, hi, hS, hp, p0, p1, x0, x1, hn, c0, c1, c2, h6, h7, hfu => h.elim
  | m + 1, 0, p, st, c, x, v, M, h, hi, hS, hp, p0, p1, x0, x1, hn, c0, c1, c2, h6, h7, hfu => by omega
  | m + 1, n + 1, p, st, c, x, v, M, h, hi, hS, hp, p0, p1, x0, x1, hn, c0, c1, c2, h6, h7, hfu => by
      have hT := hi.2.2.1
      obtain ⟨k, s, e, w, y, t, h⟩ := h
      have tp := tk_pos t
      obtain ⟨M1, e1, ⟨t1, t2, t3, t4, t5⟩, f1⟩ := advance_C (fu := fu) hi hp p0 t hfu
      have i1 := iC_45 hi f1.1
      have S1 := cS_Tk hS f1
      have g6 : M1 45 6 = 0 := by rw [f1.2 6 (by decide)]; exact h6
      have g7 : M1 45 7 = -1 := by rw [f1.2 7 (by decide)]; exact h7
      have u1 := frU_Tk f1
      rw [f_X7_parse_L24, if_neg (by omega), e1, cal_some]
      have er : ∀ {M2 : Mem} {a : Int}, M2 45 2 = s → frU M1 M2 → a ≠ 0 → r = (a, s, c, v) → ∃ M', some (up (up M2 45 6 a) 45 7 (M2 45 2), (0 : Int)) = some (M', ind (r.1 = 0)) ∧ M' 45 6 = r.1 ∧ M' 45 7 = r.2.1 ∧ (r.1 = 0 → M' 46 4 = r.2.2.1 ∧ 0 ≤ r.2.2.1 ∧ r.2.2.1 ≤ 64 ∧ ∀ i, 0 ≤ i → i < r.2.2.1 → M' 47 i.toNat = r.2.2.2 i) ∧ frU M M' := by
        intro M2 a h2 f2 ha hr
        subst hr
        refine ⟨up (up M2 45 6 a) 45 7 (M2 45 2), ?_, by rw [up_at (Or.inr (by decide)), up_same], by rw [up_same]; exact h2, fun h9 => absurd h9 ha, frU_trans u1 (frU_trans f2 (frU_trans (frU_up (by decide)) (frU_up (by decide))))⟩
        rw [ind_f (show ¬ (a, s, c, v).1 = 0 from ha)]
      have go : ∀ {M2 : Mem} {st' c' : Int} {v' : Int → Int}, k ≠ 0 → PS T m e st' c' v' r → cS M2 st' c' v' → M2 45 = M1 45 → frU M1 M2 → 0 ≤ c' → c' ≤ 64 → (st' = 2 → c' < 64) → ∃ M', f_X7_parse_L24 fu n (x + 1) M2 = some (M', ind (r.1 = 0)) ∧ M' 45 6 = r.1 ∧ M' 45 7 = r.2.1 ∧ (r.1 = 0 → M' 46 4 = r.2.2.1 ∧ 0 ≤ r.2.2.1 ∧ r.2.2.1 ≤ 64 ∧ ∀ i, 0 ≤ i → i < r.2.2.1 → M' 47 i.toNat = r.2.2.2 i) ∧ frU M M' := by
        intro M2 st' c' v' hk hP hS2 h45 f2 d0 d1 d2
        obtain ⟨M', q1, q2, q3, q4, q5⟩ := setup_C m n e st' c' (x + 1) v' M2 hP (iC_U i1 f2) hS2 (by rw [h45]; exact t1 hk) (by omega) (by omega) (by omega) (by omega) (by omega) d0 d1 d2 (by rw [h45]; exact g6) (by rw [h45]; exact g7) hfu
        exact ⟨M', q1, q2, q3, q4, frU_trans u1 (frU_trans f2 q5)⟩
      have k3 : k ≠ 0 → ((M1 45 3 = 3 ↔ k = 3) ∧ (M1 45 3 = 2 ↔ k = 2)) := by
        intro hk
        rw [t3]
        split <;> omega
      rcases h with ⟨a1, a2, a3⟩ | ⟨a1, a2, a3⟩ | ⟨a1, a2, a3, a4⟩ | ⟨a1, a2, a3, a4⟩ | ⟨a1, a2, a3⟩ | ⟨a1, a2, a3, a4⟩ | ⟨a1, a2, a3, a4, a5, a6, a7⟩ | ⟨a1, a2, a3, a4, a5, a6⟩ | ⟨a1, a2, a3, a4, a5, a6⟩ | ⟨a1, a2, a3⟩ | ⟨a1, a2, a3, a4⟩
      · have z : M1 46 1 = 0 := by rw [S1.2.1, if_pos a2]
        rw [ind_f (by omega), if_pos rfl]
        unfold f_X7_parse_J79
        rw [if_pos z]
        subst a3
        exact ⟨M1, rfl, g6, g7, fun _ => ⟨S1.1, c0, c1, S1.2.2.2⟩, u1⟩
      · have z : M1 46 1 = 1 := by rw [S1.2.1, if_neg a2]
        rw [ind_f (by omega), if_pos rfl]
        unfold f_X7_parse_J79
        rw [if_neg (by omega), fail_C, cal_some, if_pos rfl]
        exact er t2 (frU_refl _) (by decide) a3
      · have z : M1 46 1 = 0 := by rw [S1.2.1, if_pos a1]
        rw [ind_t a2, if_neg (by decide), if_pos z]
        unfold f_X7_open
        rw [grd_pos (by decide), up_cell _ _ (by decide), t4, if_neg a3, cal_some, J59_err _ _ (by decide)]
        exact er (by rw [up_cell _ _ (by decide)]; exact t2) (frU_up (by decide)) (by decide) a4
      · have z : M1 46 1 = 0 := by rw [S1.2.1, if_pos a1]
        rw [ind_t a2, if_neg (by decide), if_pos z]
        unfold f_X7_open
        rw [grd_pos (by decide), up_cell _ _ (by decide), t4, if_pos a3, cal_some, J59_ok _ (by omega)]
        refine go a2 a4 ⟨by rw [up_at (Or.inr (by decide))]; exact S1.1, up_same _ _ _ _, ?_, fun i i0 i1 => by rw [up_cell _ _ (by decide)]; exact S1.2.2.2 i i0 i1⟩ (up_cell _ _ (by decide)) (frU_up (by decide)) c0 c1 (fun h9 => by omega)
        rw [up_at (Or.inr (by decide)), S1.2.2.1, if_neg (by omega)]; rfl
      · have z : M1 46 1 = 1 := by rw [S1.2.1, if_neg (by omega)]
        have z2 : M1 46 2 = 0 := by rw [S1.2.2.1, if_neg (by omega)]
        rw [ind_t (by omega), if_neg (by decide), if_neg (by omega)]
        unfold f_X7_accept
        rw [if_pos z2, if_pos ((k3 (by omega)).1.mpr a2), grd_pos (by decide), cal_some, J59_ok _ (by omega)]
        exact go (by omega) a3 ⟨by rw [up_at (Or.inr (by decide))]; exact S1.1, up_same _ _ _ _, by rw [up_at (Or.inr (by decide)), z2]; rfl, fun i i0 i1 => by rw [up_cell _ _ (by decide)]; exact S1.2.2.2 i i0 i1⟩ (up_cell _ _ (by decide)) (frU_up (by decide)) c0 c1 (fun h9 => by omega)
      · have z : M1 46 1 = 1 := by rw [S1.2.1, if_neg (by omega)]
        have z2 : M1 46 2 = 0 := by rw [S1.2.2.1, if_neg (by omega)]
        have w2 : ¬ w = 2 := by omega
        have kk := k3 (by omega)
        rw [ind_t (by omega), if_neg (by decide), if_neg (by omega)]
        unfold f_X7_accept
        rw [if_pos z2, if_neg (by omega), if_pos (kk.2.mpr a2)]
        unfold f_X7_accept_J77
        rw [S1.1, if_pos a3, t4, if_neg w2]
        unfold f_X7_accept_J105
        have S2 : cS (up M1 46 2 0) 1 c v := ⟨by rw [up_at (Or.inr (by decide))]; exact S1.1, by rw [up_at (Or.inr (by decide)), z]; rfl, up_same _ _ _ _, fun i i0 i1 => by rw [up_cell _ _ (by decide)]; exact S1.2.2.2 i i0 i1⟩
        obtain ⟨M2, q1, q2, q3, q4⟩ := skeep_C (fu := fu) S2 (by decide) c0 a3 y
        rw [grd_pos (by decide), if_pos (up_same _ _ _ _), up_cell _ _ (by decide), t5 a2, q1, cal_some, cal_some, J59_ok _ (by omega)]
        exact go (by omega) a4 q2 (by rw [q3]; exact up_cell _ _ (by decide)) (frU_trans (frU_up (by decide)) q4) (by omega) (by omega) (fun h9 => by omega)
      · have z : M1 46 1 = 1 := by rw [S1.2.1, if_neg (by omega)]
        have z2 : M1 46 2 = 0 := by rw [S1.2.2.1, if_neg (by omega)]
        have kk := k3 (by omega)
        rw [ind_t (by omega), if_neg (by decide), if_neg (by omega)]
        unfold f_X7_accept
        rw [if_pos z2, if_neg (by omega), if_neg (by omega), t4, if_pos a5]
        unfold f_X7_accept_J77
        rw [S1.1, if_pos a6, t4, if_pos a5]
        unfold f_X7_accept_J105
        rw [grd_pos (by decide), if_neg (by rw [up_same]; decide), cal_some, J59_ok _ (by omega)]
        exact go (by omega) a7 ⟨by rw [up_at (Or.inr (by decide))]; exact S1.1, by rw [up_at (Or.inr (by decide)), z]; rfl, up_same _ _ _ _, fun i i0 i1 => by rw [up_cell _ _ (by decide)]; exact S1.2.2.2 i i0 i1⟩ (up_cell _ _ (by decide)) (frU_up (by decide)) c0 c1 (fun _ => a6)
      · have z : M1 46 1 = 1 := by rw [S1.2.1, if_neg (by omega)]
        have z2 : M1 46 2 = 0 := by rw [S1.2.2.1, if_neg (by omega)]
        have kk := k3 (by omega)
        have j : f_X7_accept_J77 fu M1 = some (M1, 3) := by
          unfold f_X7_accept_J77
          rw [S1.1, if_neg (by omega)]
        have j2 : f_X7_accept fu M1 = some (M1, 3) := by
          unfold f_X7_accept
          rw [if_pos z2, if_neg (by omega), j]
          by_cases h2 : k = 2
          · rw [if_pos (kk.2.mpr h2)]
          · rw [if_neg (by omega), t4, if_pos (by omega)]
        rw [ind_t (by omega), if_neg (by decide), if_neg (by omega), j2, cal_some, J59_err _ _ (by decide)]
        exact er t2 (frU_refl _) (by decide) a6
      · have z : M1 46 1 = 1 := by rw [S1.2.1, if_neg (by omega)]
        have z2 : M1 46 2 = 0 := by rw [S1.2.2.1, if_neg (by omega)]
        have kk := k3 (by omega)
        rw [ind_t (by omega), if_neg (by decide), if_neg (by omega)]
        unfold f_X7_accept
        rw [if_pos z2, if_neg (by omega), if_neg (by omega), t4, if_neg a5, cal_some, J59_err _ _ (by decide)]
        exact er t2 (frU_refl _) (by decide) a6
      · have z : M1 46 1 = 1 := by rw [S1.2.1, if_neg (by omega)]
        have z2 : M1 46 2 = 1 := by rw [S1.2.2.1, if_pos (by omega)]
        have kk := k3 (by omega)
        obtain ⟨M2, q1, q2, q3, q4⟩ := skeep_C (fu := fu) S1 (by omega) c0 (c2 a1) (-y)
        rw [ind_t (by omega), if_neg (by decide), if_neg (by omega)]
        unfold f_X7_accept
        rw [if_neg (by omega), if_pos (kk.2.mpr a2), t5 a2, grd_pos (by omega), q1, cal_some, cal_some, J59_ok _ (by omega)]
        have := c2 a1
        exact go (by omega) a3 q2 q3 q4 (by omega) (by omega) (fun h9 => by omega)
      · have z : M1 46 1 = 1 := by rw [S1.2.1, if_neg (by omega)]
        have z2 : M1 46 2 = 1 := by rw [S1.2.2.1, if_pos (by omega)]
        have kk := k3 (by omega)
        rw [ind_t (by omega), if_neg (by decide), if_neg (by omega)]
        unfold f_X7_accept
        rw [if_neg (by omega), if_neg (by omega), cal_some, J59_err _ _ (by decide)]
        exact er t2 (frU_refl _) (by decide) a4
theorem setupParse_C {M : Mem} {T : TX} {r : PRes} {m : Nat} {v : Int → Int} (h : iC M T) (hP : PS T m 0 0 0 v r) (hfu : 1000 ≤ fu) : ∃ M', f_X7_parse fu M = some (M', ind (r.1 = 0)) ∧ M' 45 6 = r.1 ∧ M' 45 7 = r.2.1 ∧ (r.1 = 0 → M' 46 4 = r.2.2.1 ∧ 0 ≤ r.2.2.1 ∧ r.2.2.1 ≤ 64 ∧ ∀ i, 0 ≤ i → i < r.2.2.1 → M' 47 i.toNat = r.2.2.2 i) ∧ frU M M' := by
  have h1 := h.2.1
  have h2 := h.2.2.1
  unfold f_X7_parse f_X9_begin
  rw [grd_pos (by decide), grd_pos (by decide), cal_some]
  have ff : frU M (up (up (up (up (up (up M 46 4 0) 46 1 0) 46 2 0) 45 6 0) 45 7 (-1)) 45 1 0) := frU_trans (frU_up (by decide)) (frU_trans (frU_up (by decide)) (frU_trans (frU_up (by decide)) (frU_trans (frU_up (by decide)) (frU_trans (frU_up (by decide)) (frU_up (by decide))))))
  obtain ⟨M', q1, q2, q3, q4, q5⟩ := setup_C (fu := fu) m fu 0 0 0 0 v _ hP (iC_U h ff) ⟨by rw [up_cell _ _ (by decide), up_cell _ _ (by decide), up_cell _ _ (by decide), up_at (Or.inr (by decide)), up_at (Or.inr (by decide)), up_same], by rw [up_cell _ _ (by decide), up_cell _ _ (by decide), up_cell _ _ (by decide), up_at (Or.inr (by decide)), up_same]; rfl, by rw [up_cell _ _ (by decide), up_cell _ _ (by decide), up_cell _ _ (by decide), up_same]; rfl, fun i i0 i1 => by omega⟩ (up_same _ _ _ _) (by decide) h1 (by decide) (by decide) (by omega) (by decide) (by decide) (fun h9 => by omega) (by rw [up_at (Or.inr (by decide)), up_at (Or.inr (by decide)), up_same]) (by rw [up_at (Or.inr (by decide)), up_same]) hfu
  exact ⟨M', q1, q2, q3, q4, frU_trans ff q5⟩
end Setup
