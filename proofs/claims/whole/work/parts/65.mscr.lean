/-! the model reads script texts -/
section MScr
variable {fu : Nat}
def rdm (M : Mem) : Int → Int := fun i => M 62 i.toNat + (if i % 4 = 0 then 3 else 0)
def sM (M : Mem) (c j : Int) (S : Int → Int) : Prop := M 52 23 = c ∧ gR (rdm M) S c ∧ cur (rdm M) S c j
def oE (M : Mem) (r : PRes) : Prop := 0 < r.1 ∧ M 52 20 = r.1 ∧ M 52 21 = r.2.1
def okP (T : TX) (r : PRes) (m : Nat) (p : Int) (M : Mem) (ins j c : Int) (S : Int → Int) : Prop := M 52 20 = 0 ∧ ∃ (m' : Nat) (p' : Int), m' < m ∧ p < p' ∧ p' ≤ T.1 ∧ tokAt M T p' ∧ PR T m' p' ins j 0 c S r
theorem iM_E {M M' : Mem} {T : TX} (h : iM M T) (f : frE M M') : iM M' T := iM_Q h (frE_Q f)
theorem tokAt_c {M M' : Mem} {T : TX} {p : Int} (h : tokAt M T p) (f : M' 52 = M 52) : tokAt M' T p := by
  intro k s e w v t
  have := h k s e w v t
  unfold tM at this ⊢
  rw [f]
  exact this
theorem sM_E {M M' : Mem} {c j : Int} {S : Int → Int} (h : sM M c j S) (f : frE M M') : sM M' c j S := by
  have e : rdm M' = rdm M := by unfold rdm; rw [f.1 62 (by decide)]
  exact ⟨by rw [f.2 23 (by decide)]; exact h.1, by rw [e]; exact h.2.1, by rw [e]; exact h.2.2⟩
theorem rdm_up {M : Mem} {i x : Int} (h0 : 0 ≤ i) (h : i % 4 ≠ 0) : ∀ q, 0 ≤ q → rdm (up M 62 i.toNat x) q = fset (rdm M) i x q := fun q hq => by
  unfold rdm fset
  rw [up_toNat h0 hq]
  by_cases hi : q = i
  · rw [if_pos hi, if_pos hi, if_neg (by omega)]; omega
  · rw [if_neg hi, if_neg hi]
theorem rdm_upw {M : Mem} {i x : Int} (h0 : 0 ≤ i) (h : i % 4 = 0) : ∀ q, 0 ≤ q → rdm (up M 62 i.toNat x) q = fset (rdm M) i (x + 3) q := fun q hq => by
  unfold rdm fset
  rw [up_toNat h0 hq]
  by_cases hi : q = i
  · rw [if_pos hi, if_pos hi, if_pos (by omega)]
  · rw [if_neg hi, if_neg hi]
theorem sM_put {M : Mem} {c j x : Int} {S : Int → Int} (h : sM M c j S) (c0 : 0 ≤ c) (j0 : 0 ≤ j) (j1 : j < 3) : sM (up M 62 (c * 4 + 1 + j).toNat x) c (j + 1) (fset S (c * 4 + 1 + j) x) := ⟨by rw [up_cell _ _ (by decide)]; exact h.1, gR_congr (rdm_up (by omega) (by omega)) (gR_set h.2.1 (by omega)), cur_congr c0 (rdm_up (by omega) (by omega)) (cur_arg j0 h.2.2)⟩
theorem sM_word {M : Mem} {c x : Int} {S : Int → Int} (h : M 52 23 = c) (g : gR (rdm M) S c) (c0 : 0 ≤ c) : sM (up M 62 (c * 4).toNat x) c 0 (fset S (c * 4) (x + 3)) := ⟨by rw [up_cell _ _ (by decide)]; exact h, gR_congr (rdm_upw (by omega) (by omega)) (gR_set g (Int.le_refl _)), cur_congr c0 (rdm_upw (by omega) (by omega)) cur_word⟩
theorem numStep {T : TX} {r : PRes} {m : Nat} {p c j g : Int} {S : Int → Int} {M : Mem} (hfu : 1000 ≤ fu) (h : PR T m p 1 j 0 c S r) (hg : mx (S (c * 4)) j = g) (g1 : g ≠ -1) (g9 : g ≠ 999) (hi : iM M T) (p0 : 0 ≤ p) (hc : M 52 20 = 0) (ha : tokAt M T p) :
    ∃ M' x, f_X12_parseNumber fu M 0 g = some (M', x) ∧ frE M M' ∧ (oE M' r ∨ okP T r m p M' 1 (j + 1) c (fset S (c * 4 + 1 + j) x)) := by
  cases m with
  | zero => exact h.elim
  | succ m =>
    obtain ⟨k, s, e, w, x, t, h⟩ := h
    have tp := tk_pos t
    obtain ⟨p1, p2, p3⟩ := parseNumber_M (fu := fu) (lo := 0) (hi := g) hi hc p0 ha t hfu
    rw [hg] at h
    have er : ∀ {y : Int}, 0 < y → r = (y, s, c, S) → (∃ M' x, f_X12_parseNumber fu M 0 g = some (M', x) ∧ eM M M' y s) → ∃ M' x, f_X12_parseNumber fu M 0 g = some (M', x) ∧ frE M M' ∧ (oE M' r ∨ okP T r (m + 1) p M' 1 (j + 1) c (fset S (c * 4 + 1 + j) x)) := by
      intro y hy hr hM
      obtain ⟨M', x, e1, q1, q2, q3⟩ := hM
      exact ⟨M', x, e1, q3, Or.inl ⟨by rw [hr]; exact hy, by rw [q1, hr], by rw [q2, hr]⟩⟩
    have p3' : k ≠ 2 → ∃ M' x, f_X12_parseNumber fu M 0 g = some (M', x) ∧ eM M M' 1 s := fun h9 => by
      obtain ⟨M', q1, q2⟩ := p3 h9
      exact ⟨M', 0, q1, q2⟩
    rcases h with ⟨a1, a2, a3⟩ | ⟨a1, a2, a3⟩ | ⟨a1, a2, a3, a4⟩ | ⟨a1, a2, a3, a4, a5⟩ | ⟨a1, a2, a3, a4, a5⟩ | ⟨a1, a2, a3, a4, a5⟩ | ⟨a1, a2, a3, a4, a5⟩ | ⟨a1, a2, a3, a4, a5, a6⟩ | ⟨a1, a2, a3, a4, a5, a6⟩ | ⟨a1, a2, a3, a4, a5⟩ | ⟨a1, a2, a3, a4, a5⟩
    · exact absurd a2 (by decide)
    · exact er (by decide) a3 (p3' (fun h9 => by rw [h9] at a1; exact absurd a1 (by decide)))
    · exact absurd a1 (by decide)
    · exact absurd a1 (by decide)
    · exact absurd a1 (by decide)
    · exact absurd a3 g1
    · exact absurd a3 g1
    · exact absurd a3 g9
    · exact er (by decide) a6 (p3' a5)
    · obtain ⟨M', q1, q2⟩ := p2 a2 (fun h9 => absurd h9.2 (Int.not_le.mpr a4))
      exact er (by decide) a5 ⟨M', 0, q1, q2⟩
    · have hv := tp.2.2.2.2.2.2.2.2.2.2 a2
      have hse := tp.2.2.2.1 (fun h9 => by rw [h9] at a2; exact absurd a2 (by decide))
      obtain ⟨M', q1, q2, q3, q4⟩ := p1 a2 ⟨hv.1, a4⟩
      rw [if_pos rfl] at a5
      exact ⟨M', x, q1, frA_E q4, Or.inr ⟨q3, m, e, Nat.lt_succ_self m, Int.lt_of_le_of_lt tp.1 hse, tp.2.2.1, q2, a5⟩⟩
theorem valStep {T : TX} {r : PRes} {m : Nat} {p c j : Int} {S : Int → Int} {M : Mem} (hfu : 1000 ≤ fu) (h : PR T m p 1 j 0 c S r) (hg : mx (S (c * 4)) j = 999) (hi : iM M T) (p0 : 0 ≤ p) (hc : M 52 20 = 0) (ha : tokAt M T p) :
    ∃ M' x, f_X12_parseValue fu M 1 = some (M', x) ∧ frE M M' ∧ (oE M' r ∨ okP T r m p M' 1 (j + 1) c (fset S (c * 4 + 1 + j) x)) := by
  cases m with
  | zero => exact h.elim
  | succ m =>
    obtain ⟨k, s, e, w, x, t, h⟩ := h
    have tp := tk_pos t
    obtain ⟨v1, v2, v3, v4⟩ := parseValue_M (fu := fu) hi hc p0 ha t hfu
    rw [hg] at h
    have er : ∀ {y s' : Int}, 0 < y → r = (y, s', c, S) → (∃ M' x, f_X12_parseValue fu M 1 = some (M', x) ∧ eM M M' y s') → ∃ M' x, f_X12_parseValue fu M 1 = some (M', x) ∧ frE M M' ∧ (oE M' r ∨ okP T r (m + 1) p M' 1 (j + 1) c (fset S (c * 4 + 1 + j) x)) := by
      intro y s' hy hr hM
      obtain ⟨M', x, e1, q1, q2, q3⟩ := hM
      exact ⟨M', x, e1, q3, Or.inl ⟨by rw [hr]; exact hy, by rw [q1, hr], by rw [q2, hr]⟩⟩
    rcases h with ⟨a1, a2, a3⟩ | ⟨a1, a2, a3⟩ | ⟨a1, a2, a3, a4⟩ | ⟨a1, a2, a3, a4, a5⟩ | ⟨a1, a2, a3, a4, a5⟩ | ⟨a1, a2, a3, a4, a5⟩ | ⟨a1, a2, a3, a4, a5⟩ | ⟨a1, a2, a3, a4, a5, a6⟩ | ⟨a1, a2, a3, a4, a5, a6⟩ | ⟨a1, a2, a3, a4, a5⟩ | ⟨a1, a2, a3, a4, a5⟩
    · exact absurd a2 (by decide)
    · exact er (by decide) a3 (v4 (fun h9 => by rw [h9] at a1; exact absurd a1 (by decide)) (fun h9 => by
        have := tp.2.2.2.2.2.2.2.2.1 (by rw [h9]; decide)
        rw [this] at a1
        exact absurd a1 (by decide)) 1)
    · exact absurd a1 (by decide)
    · exact absurd a1 (by decide)
    · exact absurd a1 (by decide)
    · exact absurd a3 (by decide)
    · exact absurd a3 (by decide)
    · cases m with
      | zero => exact a6.elim
      | succ m =>
        obtain ⟨k2, s2, e2, w2, x2, t2, h⟩ := a6
        have tp2 := tk_pos t2
        have hse := tp.2.2.2.1 a2
        obtain ⟨w1, w4⟩ := v2 a4 t2
        rw [hg] at h
        rcases h with ⟨b1, b2, b3⟩ | ⟨b1, b2, b3⟩ | ⟨b1, b2, b3, b4⟩ | ⟨b1, b2, b3, b4, b5⟩ | ⟨b1, b2, b3, b4, b5⟩ | ⟨b1, b2, b3, b4, b5⟩ | ⟨b1, b2, b3, b4, b5⟩ | ⟨b1, b2, b3, b4, b5, b6⟩ | ⟨b1, b2, b3, b4, b5, b6⟩ | ⟨b1, b2, b3, b4, b5⟩ | ⟨b1, b2, b3, b4, b5⟩
        · exact absurd b2 (by decide)
        · exact er (by decide) b3 (w4 (fun h9 => by rw [h9] at b1; exact absurd b1 (by decide)))
        · exact absurd b1 (by decide)
        · exact absurd b1 (by decide)
        · exact absurd b1 (by decide)
        · exact absurd b3 (by decide)
        · exact absurd b3 (by decide)
        · exact absurd b5 (by decide)
        · exact er (by decide) b6 (w4 b5)
        · exact absurd (tp2.2.2.2.2.2.2.2.2.2.2 b2).2 (Int.not_le.mpr b4)
        · obtain ⟨M1, e1, d1, k1, f1⟩ := w1 b2
          have hse2 := tp2.2.2.2.1 (fun h9 => by rw [h9] at b2; exact absurd b2 (by decide))
          rw [if_neg (by decide)] at b5
          exact ⟨M1, -x2, e1, frA_E f1, Or.inr ⟨k1, m, e2, Nat.lt_succ_of_lt (Nat.lt_succ_self m), Int.lt_trans (Int.lt_of_le_of_lt tp.1 hse) (Int.lt_of_le_of_lt tp2.1 hse2), tp2.2.2.1, d1, b5⟩⟩
    · exact er (by decide) a6 (v4 a5 (fun h9 => a4 ⟨rfl, h9, rfl⟩) 1)
    · exact absurd (tp.2.2.2.2.2.2.2.2.2.2 a2).2 (Int.not_le.mpr a4)
    · obtain ⟨M1, e1, d1, k1, f1⟩ := v1 a2
      have hse := tp.2.2.2.1 (fun h9 => by rw [h9] at a2; exact absurd a2 (by decide))
      rw [if_pos rfl] at a5
      exact ⟨M1, x, e1, frA_E f1, Or.inr ⟨k1, m, e, Nat.lt_succ_self m, Int.lt_of_le_of_lt tp.1 hse, tp.2.2.1, d1, a5⟩⟩
theorem semiStep {T : TX} {r : PRes} {m : Nat} {p c j : Int} {S : Int → Int} {M : Mem} (hfu : 1000 ≤ fu) (h : PR T m p 1 j 0 c S r) (hg : mx (S (c * 4)) j = -1) (hi : iM M T) (p0 : 0 ≤ p) (hc : M 52 20 = 0) (ha : tokAt M T p) :
    ∃ M', f_X12_parseSemicolon fu M = some (M', 0) ∧ frE M M' ∧ (oE M' r ∨ okP T r m p M' 0 0 (c + 1) S) := by
  cases m with
  | zero => exact h.elim
  | succ m =>
    obtain ⟨k, s, e, w, x, t, h⟩ := h
    have tp := tk_pos t
    obtain ⟨p1, p2⟩ := parseSemicolon_M (fu := fu) hi hc p0 ha t hfu
    rw [hg] at h
    have er : r = (1, s, c, S) → k ≠ 3 → ∃ M', f_X12_parseSemicolon fu M = some (M', 0) ∧ frE M M' ∧ (oE M' r ∨ okP T r (m + 1) p M' 0 0 (c + 1) S) := by
      intro hr hk
      obtain ⟨M', e1, q1, q2, q3⟩ := p2 hk
      exact ⟨M', e1, q3, Or.inl ⟨by rw [hr]; show (0 : Int) < 1; decide, by rw [q1, hr], by rw [q2, hr]⟩⟩
    rcases h with ⟨a1, a2, a3⟩ | ⟨a1, a2, a3⟩ | ⟨a1, a2, a3, a4⟩ | ⟨a1, a2, a3, a4, a5⟩ | ⟨a1, a2, a3, a4, a5⟩ | ⟨a1, a2, a3, a4, a5⟩ | ⟨a1, a2, a3, a4, a5⟩ | ⟨a1, a2, a3, a4, a5, a6⟩ | ⟨a1, a2, a3, a4, a5, a6⟩ | ⟨a1, a2, a3, a4, a5⟩ | ⟨a1, a2, a3, a4, a5⟩
    · exact absurd a2 (by decide)
    · exact er a3 (fun h9 => by rw [h9] at a1; exact absurd a1 (by decide))
    · exact absurd a1 (by decide)
    · exact absurd a1 (by decide)
    · exact absurd a1 (by decide)
    · exact er a5 a4
    · obtain ⟨M', q1, q2, q3, q4⟩ := p1 a4
      have hse := tp.2.2.2.1 a2
      exact ⟨M', q1, frA_E q4, Or.inr ⟨q3, m, e, Nat.lt_succ_self m, Int.lt_of_le_of_lt tp.1 hse, tp.2.2.1, q2, a5⟩⟩
    · exact absurd a3 (by decide)
    · exact absurd rfl a3
    · exact absurd rfl a3
    · exact absurd rfl a3
def fin (T : TX) (r : PRes) (m : Nat) (p : Int) (M' : Mem) : Prop := oE M' r ∨ ∃ c S, okP T r m p M' 0 0 c S ∧ M' 52 23 = c ∧ gR (rdm M') S c ∧ 0 ≤ c ∧ c ≤ 30
theorem J212_e {M : Mem} {T : TX} {r : PRes} {m : Nat} {p c : Int} (h : oE M r) (hc : M 52 23 = c) (c0 : 0 ≤ c) (c1 : c < 30) : ∃ M', f_X12_parseStatement_J212 fu M = some (M', 0) ∧ frQ M M' ∧ fin T r m p M' := by
  have h1 : 0 < M 52 20 := by rw [h.2.1]; exact h.1
  refine ⟨up M 52 23 (c + 1), ?_, ⟨fun q h3 _ _ => up_cell _ _ h3, fun i _ h4 _ => up_at (Or.inr h4)⟩, Or.inl ⟨h.1, by rw [up_at (Or.inr (by decide))]; exact h.2.1, by rw [up_at (Or.inr (by decide))]; exact h.2.2⟩⟩
  unfold f_X12_parseStatement_J212
  rw [parseSemicolon_e h1, cal_some, hc, grd_pos (by omega)]
theorem J212_ok {M : Mem} {T : TX} {r : PRes} {m : Nat} {p c j : Int} {S : Int → Int} (hfu : 1000 ≤ fu) (h : okP T r m p M 1 j c S) (hi : iM M T) (p0 : 0 ≤ p) (hs : sM M c j S) (hw : 3 ≤ S (c * 4) ∧ S (c * 4) ≤ 7) (j0 : 0 ≤ j) (j1 : j ≤ 3) (hg : mx (S (c * 4)) j = -1) (c0 : 0 ≤ c) (c1 : c < 30) : ∃ M', f_X12_parseStatement_J212 fu M = some (M', 0) ∧ frQ M M' ∧ fin T r m p M' := by
  obtain ⟨h1, m1, p1, b1, b2, b3, b4, b5⟩ := h
  obtain ⟨M1, e1, f1, q1⟩ := semiStep (fu := fu) hfu b5 hg hi (by omega) h1 b4
  have s1 := sM_E hs f1
  have f2 : frQ M1 (up M1 52 23 (c + 1)) := ⟨fun q h3 _ _ => up_cell _ _ h3, fun i _ h4 _ => up_at (Or.inr h4)⟩
  refine ⟨up M1 52 23 (c + 1), ?_, frQ_trans (frE_Q f1) f2, ?_⟩
  · unfold f_X12_parseStatement_J212
    rw [e1, cal_some, s1.1, grd_pos (by omega)]
  · rcases q1 with q1 | ⟨q1, m2, p2, d1, d2, d3, d4, d5⟩
    · exact Or.inl ⟨q1.1, by rw [up_at (Or.inr (by decide))]; exact q1.2.1, by rw [up_at (Or.inr (by decide))]; exact q1.2.2⟩
    · have e2 : rdm (up M1 52 23 (c + 1)) = rdm M1 := by unfold rdm; rw [up_cell _ _ (by decide)]
      refine Or.inr ⟨c + 1, S, ⟨by rw [up_at (Or.inr (by decide))]; exact q1, m2, p2, by omega, by omega, d3, ?_, d5⟩, up_same _ _ _ _, by rw [e2]; exact gR_close s1.2.1 s1.2.2 ((mx_na hw j0 j1).1.mp hg), by omega, by omega⟩
      intro k s e w v t
      obtain ⟨y1, y2, y3, y4⟩ := d4 k s e w v t
      exact ⟨by rw [up_at (Or.inr (by decide))]; exact y1, by rw [up_at (Or.inr (by decide))]; exact y2, by rw [up_at (Or.inr (by decide))]; exact y3, by rw [up_at (Or.inr (by decide))]; exact y4⟩
end MScr
