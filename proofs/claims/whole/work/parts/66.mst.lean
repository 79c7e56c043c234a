/-! the model's statements -/
section MSt
variable {fu : Nat}
def ast (T : TX) (r : PRes) (m : Nat) (p c w : Int) (M : Mem) (j : Int) : Prop := M 52 23 = c ∧ iM M T ∧ (oE M r ∨ ∃ S, S (c * 4) = w ∧ okP T r m p M 1 j c S ∧ sM M c j S)
theorem iM_62 {M : Mem} {T : TX} {i : Nat} {x : Int} (h : iM M T) : iM (up M 62 i x) T := iM_Q h ⟨fun q _ _ h5 => up_cell _ _ h5, fun i _ _ _ => by rw [up_cell _ _ (by decide)]⟩
theorem frQ_62 {M : Mem} {i : Nat} {x : Int} : frQ M (up M 62 i x) := ⟨fun q _ _ h5 => up_cell _ _ h5, fun i _ _ _ => by rw [up_cell _ _ (by decide)]⟩
theorem oE_c {M M' : Mem} {r : PRes} (h : oE M r) (f : M' 52 = M 52) : oE M' r := ⟨h.1, by rw [f]; exact h.2.1, by rw [f]; exact h.2.2⟩
theorem okP_c {M M' : Mem} {T : TX} {r : PRes} {m : Nat} {p ins j c : Int} {S : Int → Int} (h : okP T r m p M ins j c S) (f : M' 52 = M 52) : okP T r m p M' ins j c S := by
  obtain ⟨h1, m', p', h2, h3, h4, h5, h6⟩ := h
  exact ⟨by rw [f]; exact h1, m', p', h2, h3, h4, tokAt_c h5 f, h6⟩
theorem numA {T : TX} {r : PRes} {m : Nat} {p c w j : Int} (g : Int) {M : Mem} (hfu : 1000 ≤ fu) (h : ast T r m p c w M j) (p0 : 0 ≤ p) (hg : mx w j = g) (g1 : g ≠ -1) (g9 : g ≠ 999) (c0 : 0 ≤ c) (j0 : 0 ≤ j) (j1 : j < 3) : ∃ M' x, f_X12_parseNumber fu M 0 g = some (M', x) ∧ frQ M (up M' 62 (c * 4 + 1 + j).toNat x) ∧ ast T r m p c w (up M' 62 (c * 4 + 1 + j).toNat x) (j + 1) := by
  obtain ⟨h1, h2, h3⟩ := h
  rcases h3 with h3 | ⟨S, hS, ⟨b0, m1, p1, b1, b2, b3, b4, b5⟩, s1⟩
  · have e := parseNumber_e (fu := fu) (M := M) 0 g (by rw [h3.2.1]; exact h3.1)
    exact ⟨M, 0, e, frQ_62, by rw [up_cell _ _ (by decide)]; exact h1, iM_62 h2, Or.inl (oE_c h3 (up_cell _ _ (by decide)))⟩
  · obtain ⟨M1, x, e1, f1, q⟩ := numStep (fu := fu) hfu b5 (by rw [hS]; exact hg) g1 g9 h2 (by omega) b0 b4
    have e2 : up M1 62 (c * 4 + 1 + j).toNat x 52 = M1 52 := up_cell _ _ (by decide)
    refine ⟨M1, x, e1, frQ_trans (frE_Q f1) frQ_62, by rw [e2, f1.2 23 (by decide)]; exact h1, iM_62 (iM_E h2 f1), ?_⟩
    rcases q with q | ⟨d0, m2, p2, d1, d2, d3, d4, d5⟩
    · exact Or.inl (oE_c q e2)
    · exact Or.inr ⟨fset S (c * 4 + 1 + j) x, by rw [fset_o (by omega)]; exact hS, okP_c ⟨d0, m2, p2, Nat.lt_trans d1 b1, Int.lt_trans b2 d2, d3, d4, d5⟩ e2, sM_put (sM_E s1 f1) c0 j0 j1⟩
theorem valA {T : TX} {r : PRes} {m : Nat} {p c w j : Int} {M : Mem} (hfu : 1000 ≤ fu) (h : ast T r m p c w M j) (p0 : 0 ≤ p) (hg : mx w j = 999) (c0 : 0 ≤ c) (j0 : 0 ≤ j) (j1 : j < 3) : ∃ M' x, f_X12_parseValue fu M 1 = some (M', x) ∧ frQ M (up M' 62 (c * 4 + 1 + j).toNat x) ∧ ast T r m p c w (up M' 62 (c * 4 + 1 + j).toNat x) (j + 1) := by
  obtain ⟨h1, h2, h3⟩ := h
  rcases h3 with h3 | ⟨S, hS, ⟨b0, m1, p1, b1, b2, b3, b4, b5⟩, s1⟩
  · obtain ⟨x, e⟩ := parseValue_e (fu := fu) (M := M) 1 (by rw [h3.2.1]; exact h3.1)
    exact ⟨M, x, e, frQ_62, by rw [up_cell _ _ (by decide)]; exact h1, iM_62 h2, Or.inl (oE_c h3 (up_cell _ _ (by decide)))⟩
  · obtain ⟨M1, x, e1, f1, q⟩ := valStep (fu := fu) hfu b5 (by rw [hS]; exact hg) h2 (by omega) b0 b4
    have e2 : up M1 62 (c * 4 + 1 + j).toNat x 52 = M1 52 := up_cell _ _ (by decide)
    refine ⟨M1, x, e1, frQ_trans (frE_Q f1) frQ_62, by rw [e2, f1.2 23 (by decide)]; exact h1, iM_62 (iM_E h2 f1), ?_⟩
    rcases q with q | ⟨d0, m2, p2, d1, d2, d3, d4, d5⟩
    · exact Or.inl (oE_c q e2)
    · exact Or.inr ⟨fset S (c * 4 + 1 + j) x, by rw [fset_o (by omega)]; exact hS, okP_c ⟨d0, m2, p2, Nat.lt_trans d1 b1, Int.lt_trans b2 d2, d3, d4, d5⟩ e2, sM_put (sM_E s1 f1) c0 j0 j1⟩
theorem semiA {T : TX} {r : PRes} {m : Nat} {p c w j : Int} {M : Mem} (hfu : 1000 ≤ fu) (h : ast T r m p c w M j) (p0 : 0 ≤ p) (hw : 3 ≤ w ∧ w ≤ 7) (hg : mx w j = -1) (c0 : 0 ≤ c) (c1 : c < 30) (j0 : 0 ≤ j) (j1 : j ≤ 3) : ∃ M', f_X12_parseStatement_J212 fu M = some (M', 0) ∧ frQ M M' ∧ fin T r m p M' := by
  obtain ⟨h1, h2, h3⟩ := h
  rcases h3 with h3 | ⟨S, hS, h4, s1⟩
  · exact J212_e h3 h1 c0 c1
  · exact J212_ok hfu h4 h2 p0 s1 (by rw [hS]; exact hw) j0 j1 (by rw [hS]; exact hg) c0 c1
theorem kind_M {M : Mem} {T : TX} {p k s e w v : Int} (h : iM M T) (hc : M 52 20 = 0) (h0 : 0 ≤ p) (t : Tk T p k s e w v) (m : tM M k s e w v) (hfu : 1000 ≤ fu) : f_X12_statementKind fu M = some (M, if 3 ≤ w then w - 3 else -1) := by
  have k : ∀ q : Nat, q < 7 → f_X12_isWord fu M q = some (M, ind (w = q + 1)) := fun q hq => isWord_M h hc h0 t m hq hfu
  have tp := tk_pos t
  unfold f_X12_statementKind
  rw [k 2 (by decide), cal_some]
  by_cases c2 : w = ((2 : Nat) : Int) + 1
  · rw [ind_t c2, if_neg (by decide), c2]; rfl
  rw [ind_f c2, if_pos rfl, k 3 (by decide), cal_some]
  by_cases c3 : w = ((3 : Nat) : Int) + 1
  · rw [ind_t c3, if_neg (by decide), c3]; rfl
  rw [ind_f c3, if_pos rfl, k 4 (by decide), cal_some]
  by_cases c4 : w = ((4 : Nat) : Int) + 1
  · rw [ind_t c4, if_neg (by decide), c4]; rfl
  rw [ind_f c4, if_pos rfl, k 5 (by decide), cal_some]
  by_cases c5 : w = ((5 : Nat) : Int) + 1
  · rw [ind_t c5, if_neg (by decide), c5]; rfl
  rw [ind_f c5, if_pos rfl, k 6 (by decide), cal_some]
  by_cases c6 : w = ((6 : Nat) : Int) + 1
  · rw [ind_t c6, if_neg (by decide), c6]; rfl
  rw [ind_f c6, if_pos rfl, if_neg (by omega)]
theorem body_M {T : TX} {r : PRes} {m : Nat} {p c x : Int} {M5 M : Mem} (hfu : 1000 ≤ fu) (he : f_X12_expect fu M5 1 3 = some (M5, 0)) (hadv : f_X12_advanceToken fu M5 = some (M, 0)) (hx : 0 ≤ x ∧ x ≤ 4) (hc : M 52 20 = 0) (hcc : M 52 23 = c) (c0 : 0 ≤ c) (c1 : c < 30) (p0 : 0 ≤ p) (h : ∀ y, y = x → ast T r m p c (x + 3) (up M 62 (c * 4).toNat y) 0) : ∃ M', f_X12_parseStatement_J35 fu x 1 M5 = some (M', 0) ∧ frQ M M' ∧ fin T r m p M' := by
  unfold f_X12_parseStatement_J35
  rw [he, cal_some, hadv, cal_some, hc, if_pos (by decide), hcc]
  have i0 : (4 : Int) * c = c * 4 := by omega
  have i1 : c * 4 + (1 : Int) = c * 4 + 1 + 0 := by omega
  have i2 : c * 4 + (2 : Int) = c * 4 + 1 + 1 := by omega
  have i3 : c * 4 + (3 : Int) = c * 4 + 1 + 2 := by omega
  rw [i0, i1, i2, i3, grd_pos (by omega), grd_pos (by omega)]
  have A0 := h x rfl
  have fr0 : frQ M (up M 62 (c * 4).toNat x) := frQ_62
  by_cases x0 : x = 0
  · subst x0
    rw [if_pos rfl]
    obtain ⟨M1, y1, e1, f1, A1⟩ := numA (fu := fu) 39 hfu A0 p0 (by decide) (by decide) (by decide) c0 (by decide) (by decide)
    obtain ⟨M2, y2, e2, f2, A2⟩ := numA (fu := fu) 63 hfu A1 p0 (by decide) (by decide) (by decide) c0 (by decide) (by decide)
    obtain ⟨M3, y3, e3, f3, A3⟩ := valA (fu := fu) hfu A2 p0 (by decide) c0 (by decide) (by decide)
    obtain ⟨M4, e4, f4, A4⟩ := semiA (fu := fu) hfu A3 p0 (by decide) (by decide) c0 c1 (by decide) (by decide)
    refine ⟨M4, ?_, frQ_trans fr0 (frQ_trans f1 (frQ_trans f2 (frQ_trans f3 f4))), A4⟩
    unfold f_X12_parseVersion
    rw [e1, cal_some, cal_some, grd_pos (by omega), grd_pos (by omega)]
    rw [show c * 4 + 1 + (0 + 1) = c * 4 + 1 + 1 from rfl] at e3
    rw [show c * 4 + 1 + (0 + 1 + 1) = c * 4 + 1 + 2 from rfl] at e4
    rw [e2, cal_some, grd_pos (by omega), grd_pos (by omega), e3, cal_some, grd_pos (by omega), grd_pos (by omega)]
    exact e4
  by_cases x1 : x = 1
  · subst x1
    rw [if_neg (by decide), if_pos rfl]
    obtain ⟨M1, y1, e1, f1, A1⟩ := numA (fu := fu) 39 hfu A0 p0 (by decide) (by decide) (by decide) c0 (by decide) (by decide)
    obtain ⟨M3, y3, e3, f3, A3⟩ := valA (fu := fu) hfu A1 p0 (by decide) c0 (by decide) (by decide)
    obtain ⟨M4, e4, f4, A4⟩ := semiA (fu := fu) hfu A3 p0 (by decide) (by decide) c0 c1 (by decide) (by decide)
    refine ⟨M4, ?_, frQ_trans fr0 (frQ_trans f1 (frQ_trans f3 f4)), A4⟩
    unfold f_X12_parseVersion
    rw [e1, cal_some, cal_some, grd_pos (by omega), grd_pos (by omega)]
    rw [show c * 4 + 1 + (0 + 1) = c * 4 + 1 + 1 from rfl] at e4
    rw [e3, cal_some, grd_pos (by omega), grd_pos (by omega)]
    exact e4
  by_cases x2 : x = 2
  · subst x2
    rw [if_neg (by decide), if_neg (by decide), if_pos rfl]
    obtain ⟨M1, y1, e1, f1, A1⟩ := numA (fu := fu) 39 hfu A0 p0 (by decide) (by decide) (by decide) c0 (by decide) (by decide)
    obtain ⟨M3, y3, e3, f3, A3⟩ := numA (fu := fu) 64 hfu A1 p0 (by decide) (by decide) (by decide) c0 (by decide) (by decide)
    obtain ⟨M4, e4, f4, A4⟩ := semiA (fu := fu) hfu A3 p0 (by decide) (by decide) c0 c1 (by decide) (by decide)
    refine ⟨M4, ?_, frQ_trans fr0 (frQ_trans f1 (frQ_trans f3 f4)), A4⟩
    unfold f_X12_parseVersion
    rw [e1, cal_some, cal_some, grd_pos (by omega), grd_pos (by omega)]
    rw [show c * 4 + 1 + (0 + 1) = c * 4 + 1 + 1 from rfl] at e4
    rw [e3, cal_some, grd_pos (by omega), grd_pos (by omega)]
    exact e4
  by_cases x3 : x = 3
  · subst x3
    rw [if_neg (by decide), if_neg (by decide), if_neg (by decide), if_pos rfl]
    obtain ⟨M1, y1, e1, f1, A1⟩ := numA (fu := fu) 39 hfu A0 p0 (by decide) (by decide) (by decide) c0 (by decide) (by decide)
    obtain ⟨M4, e4, f4, A4⟩ := semiA (fu := fu) hfu A1 p0 (by decide) (by decide) c0 c1 (by decide) (by decide)
    refine ⟨M4, ?_, frQ_trans fr0 (frQ_trans f1 f4), A4⟩
    unfold f_X12_parseVersion
    rw [e1, cal_some, cal_some, grd_pos (by omega), grd_pos (by omega)]
    exact e4
  have x4 : x = 4 := by omega
  subst x4
  rw [if_neg (by decide), if_neg (by decide), if_neg (by decide), if_neg (by decide)]
  obtain ⟨M4, e4, f4, A4⟩ := semiA (fu := fu) hfu A0 p0 (by decide) (by decide) c0 c1 (by decide) (by decide)
  exact ⟨M4, e4, frQ_trans fr0 f4, A4⟩
theorem J35_e {M : Mem} (x y : Int) (hc : 0 < M 52 20) : f_X12_parseStatement_J35 fu x y M = some (M, 0) := by
  unfold f_X12_parseStatement_J35
  rw [expect_e _ hc, cal_some, advanceToken_e hc, cal_some, if_neg (by omega)]
theorem stmt_M {T : TX} {r : PRes} {m : Nat} {p c : Int} {S : Int → Int} {M : Mem} (hfu : 1000 ≤ fu) (h : PR T m p 0 0 0 c S r) (hi : iM M T) (p0 : 0 ≤ p) (hc : M 52 20 = 0) (ha : tokAt M T p) (hcc : M 52 23 = c) (hg : gR (rdm M) S c) (c0 : 0 ≤ c) :
    (M 52 18 = 0 ∧ r = (0, -1, c, S)) ∨ (M 52 18 ≠ 0 ∧ ∃ M', f_X12_parseStatement fu M = some (M', 0) ∧ frQ M M' ∧ fin T r m p M') := by
  cases m with
  | zero => exact h.elim
  | succ m =>
    obtain ⟨k, s, e, w, x, t, h⟩ := h
    have mm := ha k s e w x t
    have tp := tk_pos t
    have m3 := mm.2.2.1
    have kd := kind_M (fu := fu) hi hc p0 t mm hfu
    rcases h with ⟨a1, a2, a3⟩ | ⟨a1, a2, a3⟩ | ⟨a1, a2, a3, a4⟩ | ⟨a1, a2, a3, a4, a5⟩ | ⟨a1, a2, a3, a4, a5⟩ | ⟨a1, a2, a3, a4, a5⟩ | ⟨a1, a2, a3, a4, a5⟩ | ⟨a1, a2, a3, a4, a5, a6⟩ | ⟨a1, a2, a3, a4, a5, a6⟩ | ⟨a1, a2, a3, a4, a5⟩ | ⟨a1, a2, a3, a4, a5⟩
    · exact Or.inl ⟨by omega, a3⟩
    · exact absurd a2 (by decide)
    · have e9 := eM_mk mm 1
      have e8 : 0 < up (up M 52 20 1) 52 21 (M 52 16) 52 20 := by rw [e9.1]; decide
      refine Or.inr ⟨by omega, _, ?_, frE_Q e9.2.2, Or.inl ⟨by rw [a4]; show (0 : Int) < 1; decide, by rw [a4]; exact e9.1, by rw [a4]; exact e9.2.1⟩⟩
      unfold f_X12_parseStatement
      rw [kd, cal_some, if_neg (show ¬ (3 : Int) ≤ w by omega), if_pos rfl]
      unfold f_X12_parseStatement_J16
      rw [expect_f _ hc, cal_some, J35_e _ _ e8, J35_e _ _ e8]
      split <;> rfl
    · have e9 := eM_mk mm 3
      have e8 : 0 < up (up M 52 20 3) 52 21 (M 52 16) 52 20 := by rw [e9.1]; decide
      refine Or.inr ⟨by omega, _, ?_, frE_Q e9.2.2, Or.inl ⟨by rw [a5]; show (0 : Int) < 3; decide, by rw [a5]; exact e9.1, by rw [a5]; exact e9.2.1⟩⟩
      unfold f_X12_parseStatement
      rw [kd, cal_some, if_pos a3, if_neg (by omega)]
      unfold f_X12_parseStatement_J16
      rw [expect_t _ (by decide), cal_some, hcc, if_pos a4]
      unfold f_X12_parseStatement_J35
      rw [expect_f _ hc, cal_some, advanceToken_e e8, cal_some, if_neg (by omega)]
    · obtain ⟨M1, e1, b1, k1, f1⟩ := advAt (fu := fu) hi hc mm.2.1 (by omega) tp.2.2.1 hfu
      have c9 : M1 52 23 = c := by rw [f1.2 23 (by decide)]; exact hcc
      have g9 : gR (rdm M1) S c := by
        have : rdm M1 = rdm M := by unfold rdm; rw [f1.1 62 (by decide)]
        rw [this]
        exact hg
      have hse := tp.2.2.2.1 a2
      obtain ⟨M', q1, q2, q3⟩ := body_M (fu := fu) (T := T) (r := r) (m := m + 1) (p := p) (c := c) (x := w - 3) hfu (expect_t 3 (by decide)) e1 (by omega) k1 c9 c0 a4 p0 (fun y hy => by
        have e2 : up M1 62 (c * 4).toNat y 52 = M1 52 := up_cell _ _ (by decide)
        have s9 := sM_word (x := y) c9 g9 c0
        have ye : y + 3 = w := by omega
        rw [ye] at s9
        exact ⟨by rw [e2]; exact c9, iM_62 (iM_52 hi f1), Or.inr ⟨fset S (c * 4) w, by rw [fset_s]; omega, okP_c ⟨k1, m, e, Nat.lt_succ_self m, by omega, tp.2.2.1, b1, a5⟩ e2, s9⟩⟩)
      refine Or.inr ⟨by omega, M', ?_, frQ_trans (frA_Q f1) q2, q3⟩
      unfold f_X12_parseStatement
      rw [kd, cal_some, if_pos a3, if_neg (by omega)]
      unfold f_X12_parseStatement_J16
      rw [expect_t _ (by decide), cal_some, hcc, if_neg (by omega)]
      exact q1
    · exact absurd a1 (by decide)
    · exact absurd a1 (by decide)
    · exact absurd a1 (by decide)
    · exact absurd a1 (by decide)
    · exact absurd a1 (by decide)
    · exact absurd a1 (by decide)
theorem stop_M {T : TX} {r : PRes} (hfu : 1000 ≤ fu) : ∀ (b m n : Nat) (p c : Int) (S : Int → Int) (M : Mem), m ≤ b → PR T m p 0 0 0 c S r → iM M T → 0 ≤ p → p ≤ T.1 → M 52 20 = 0 → tokAt M T p → M 52 23 = c → gR (rdm M) S c → 0 ≤ c → c ≤ 30 → T.1 - p + 1 < n →
    ∃ M', f_X12_runScript_L14 fu n M = f_X12_runScript_J35 fu M' ∧ frQ M M' ∧ M' 52 20 = r.1 ∧ 0 ≤ r.1 ∧ (r.1 ≠ 0 → M' 52 21 = r.2.1) ∧ (r.1 = 0 → M' 52 23 = r.2.2.1 ∧ gR (rdm M') r.2.2.2 r.2.2.1)
  | b, 0, n, p, c, S, M, hb, h, hi, p0, p1, hc, ha, hs, hg, c0, c1, hn => h.elim
  | 0, m + 1, n, p, c, S, M, hb, h, hi, p0, p1, hc, ha, hs, hg, c0, c1, hn => by omega
  | b + 1, m, 0, p, c, S, M, hb, h, hi, p0, p1, hc, ha, hs, hg, c0, c1, hn => by omega
  | b + 1, m, 1, p, c, S, M, hb, h, hi, p0, p1, hc, ha, hs, hg, c0, c1, hn => by omega
  | b + 1, m, n + 2, p, c, S, M, hb, h, hi, p0, p1, hc, ha, hs, hg, c0, c1, hn => by
      rw [f_X12_runScript_L14, if_pos hc]
      rcases stmt_M (fu := fu) hfu h hi p0 hc ha hs hg c0 with ⟨h1, h2⟩ | ⟨h1, M1, e1, f1, h2⟩
      · rw [if_pos h1]
        subst h2
        exact ⟨M, rfl, frQ_refl M, hc, Int.le_refl 0, fun h9 => absurd rfl h9, fun _ => ⟨hs, hg⟩⟩
      · rw [if_neg h1, e1, cal_some]
        rcases h2 with ⟨q1, q2, q3⟩ | ⟨c', S', ⟨q1, m', p', z1, z2, z3, z4, z5⟩, z6, z7, z8, z9⟩
        · rw [f_X12_runScript_L14, if_neg (by omega)]
          exact ⟨M1, rfl, f1, q2, by omega, fun _ => q3, fun h9 => by omega⟩
        · obtain ⟨M', y1, y2, y3⟩ := stop_M hfu b m' (n + 1) p' c' S' M1 (by omega) z5 (iM_Q hi f1) (by omega) z3 q1 z4 z6 z7 z8 z9 (by omega)
          exact ⟨M', y1, frQ_trans f1 y2, y3⟩
theorem scriptParse_C {M : Mem} {T : TX} {r : PRes} {m : Nat} {S : Int → Int} (h : iC M T) (hG : gC M) (hP : PR T m 0 0 0 0 0 S r) (hfu : 1000 ≤ fu) : ∃ M', f_X6_parse fu M = some (M', ind (r.1 = 0)) ∧ M' 45 6 = r.1 ∧ M' 45 7 = r.2.1 ∧ (r.1 = 0 → M' 48 5 = r.2.2.1 ∧ gR (rd M') r.2.2.2 r.2.2.1) ∧ frV M M' := by
  have h1 := h.2.1
  have h2 := h.2.2.1
  unfold f_X6_parse f_X9_begin
  rw [grd_pos (by decide), grd_pos (by decide), cal_some]
  have ff : frV M (up (up (up (up (up (up M 48 5 0) 48 2 0) 48 3 0) 45 6 0) 45 7 (-1)) 45 1 0) := frV_trans (frV_up (by decide)) (frV_trans (frV_up (by decide)) (frV_trans (frV_up (by decide)) (frV_trans (frV_up (by decide)) (frV_trans (frV_up (by decide)) (frV_up (by decide))))))
  obtain ⟨M', q1, q2, q3, q4, q5⟩ := script_C (fu := fu) hfu m fu 0 0 0 0 0 0 S _ hP (iC_V h ff) (fun i i0 i1 => by rw [ff 1 (by decide) (by decide) (by decide)]; exact hG i i0 i1) ⟨by rw [up_cell _ _ (by decide), up_cell _ _ (by decide), up_cell _ _ (by decide), up_at (Or.inr (by decide)), up_at (Or.inr (by decide)), up_same], by rw [up_cell _ _ (by decide), up_cell _ _ (by decide), up_cell _ _ (by decide), up_at (Or.inr (by decide)), up_same], by rw [up_cell _ _ (by decide), up_cell _ _ (by decide), up_cell _ _ (by decide), up_same], fun h9 => absurd h9 (by decide), fun q q0 q1 => by omega⟩ (up_same _ _ _ _) (by decide) h1 (by decide) (by decide) (by omega) (by decide) (by decide) (fun _ => rfl) (fun h9 => absurd h9 (by decide)) (fun h9 => absurd rfl h9) (by rw [up_at (Or.inr (by decide)), up_at (Or.inr (by decide)), up_same]) (by rw [up_at (Or.inr (by decide)), up_same])
  exact ⟨M', q1, q2, q3, q4, frV_trans ff q5⟩
end MSt
