/-! the model reads setup texts -/
section MSet
variable {fu : Nat}
def tokAt (M : Mem) (T : TX) (p : Int) : Prop := ∀ k s e w v, Tk T p k s e w v → tM M k s e w v
def frQ (M M' : Mem) : Prop := (∀ q, q ≠ 52 → q ≠ 58 → q ≠ 62 → M' q = M q) ∧ ∀ i, i ≠ 9 → i ≠ 23 → i < 16 ∨ 22 ≤ i → M' 52 i = M 52 i
theorem frQ_refl (M : Mem) : frQ M M := ⟨fun _ _ _ _ => rfl, fun _ _ _ _ => rfl⟩
theorem frQ_trans {M M' M2 : Mem} (h : frQ M M') (h2 : frQ M' M2) : frQ M M2 := ⟨fun q h3 h4 h5 => by rw [h2.1 q h3 h4 h5, h.1 q h3 h4 h5], fun i hi h4 h5 => by rw [h2.2 i hi h4 h5, h.2 i hi h4 h5]⟩
theorem frA_Q {M M' : Mem} (h : frA M M') : frQ M M' := ⟨fun q h3 _ _ => h.1 q h3, fun i _ _ hi => h.2 i (by omega)⟩
def frE (M M' : Mem) : Prop := (∀ q, q ≠ 52 → M' q = M q) ∧ ∀ i, i < 16 ∨ 22 ≤ i → M' 52 i = M 52 i
theorem frE_refl (M : Mem) : frE M M := ⟨fun _ _ => rfl, fun _ _ => rfl⟩
theorem frE_trans {M M' M2 : Mem} (h : frE M M') (h2 : frE M' M2) : frE M M2 := ⟨fun q h3 => by rw [h2.1 q h3, h.1 q h3], fun i hi => by rw [h2.2 i hi, h.2 i hi]⟩
theorem frE_Q {M M' : Mem} (h : frE M M') : frQ M M' := ⟨fun q h3 _ _ => h.1 q h3, fun i _ _ hi => h.2 i hi⟩
theorem frA_E {M M' : Mem} (h : frA M M') : frE M M' := ⟨fun q h3 => h.1 q h3, fun i hi => h.2 i (by omega)⟩
theorem frE_e {M : Mem} {x y : Int} : frE M (up (up M 52 20 x) 52 21 y) := ⟨fun q h3 => by rw [up_cell _ _ h3, up_cell _ _ h3], fun i hi => by rw [up_at (Or.inr (by omega)), up_at (Or.inr (by omega))]⟩
theorem iM_Q {M M' : Mem} {T : TX} (h : iM M T) (f : frQ M M') : iM M' T := by
  obtain ⟨g1, g2, g3, g4⟩ := h
  exact ⟨by rw [f.2 13 (by decide) (by decide) (by decide)]; exact g1, g2, g3, fun i i0 i1 => by rw [f.1 61 (by decide) (by decide) (by decide)]; exact g4 i i0 i1⟩
theorem advAt {M : Mem} {T : TX} {p : Int} (h : iM M T) (hc : M 52 20 = 0) (hp : M 52 17 = p) (h0 : 0 ≤ p) (h1 : p ≤ T.1) (hfu : 1000 ≤ fu) : ∃ M', f_X12_advanceToken fu M = some (M', 0) ∧ tokAt M' T p ∧ M' 52 20 = 0 ∧ frA M M' := by
  obtain ⟨k, s, e, w, v, t⟩ := tk_ex h1
  obtain ⟨M', e1, m, f⟩ := advanceToken_M (fu := fu) h hc hp h0 t hfu
  refine ⟨M', e1, fun k' s' e' w' v' t' => ?_, by rw [f.2 20 (by decide)]; exact hc, f⟩
  obtain ⟨M2, e2, m2, f2⟩ := advanceToken_M (fu := fu) h hc hp h0 t' hfu
  have : M' = M2 := by
    have h9 := e1.symm.trans e2
    injection h9 with h9
    exact congrArg Prod.fst h9
  rw [this]
  exact m2
def eM (M M' : Mem) (y s : Int) : Prop := M' 52 20 = y ∧ M' 52 21 = s ∧ frE M M'
theorem eM_mk {M : Mem} {k s e w x : Int} (m : tM M k s e w x) (y : Int) : eM M (up (up M 52 20 y) 52 21 (M 52 16)) y s := ⟨by rw [up_at (Or.inr (by decide)), up_same], by rw [up_same]; exact m.1, frE_e⟩
theorem eM_A {M M' M2 : Mem} {y s : Int} (f : frA M M') (h : eM M' M2 y s) : eM M M2 y s := ⟨h.1, h.2.1, frE_trans (frA_E f) h.2.2⟩
theorem parseNumber_e {M : Mem} (lo hi : Int) (hc : 0 < M 52 20) : f_X12_parseNumber fu M lo hi = some (M, lo) := by
  have j : ∀ y, f_X12_parseNumber_J14 fu lo hi y M = some (M, lo) := by
    intro y
    unfold f_X12_parseNumber_J14
    rw [expect_e _ hc, cal_some, isWithin_M, cal_some, expect_e _ hc, cal_some, if_neg (by omega), advanceToken_e hc, cal_some]
  unfold f_X12_parseNumber
  rw [j, j]
  split <;> rfl
theorem parseNumber_M {M : Mem} {T : TX} {p k s e w x lo hi : Int} (h : iM M T) (hc : M 52 20 = 0) (h0 : 0 ≤ p) (a : tokAt M T p) (t : Tk T p k s e w x) (hfu : 1000 ≤ fu) :
    (k = 2 → lo ≤ x ∧ x ≤ hi → ∃ M', f_X12_parseNumber fu M lo hi = some (M', x) ∧ tokAt M' T e ∧ M' 52 20 = 0 ∧ frA M M') ∧
    (k = 2 → ¬ (lo ≤ x ∧ x ≤ hi) → ∃ M', f_X12_parseNumber fu M lo hi = some (M', lo) ∧ eM M M' 2 s) ∧
    (k ≠ 2 → ∃ M', f_X12_parseNumber fu M lo hi = some (M', lo) ∧ eM M M' 1 s) := by
  have m := a k s e w x t
  have tp := tk_pos t
  unfold f_X12_parseNumber
  refine ⟨fun hk hx => ?_, fun hk hx => ?_, fun hk => ?_⟩
  · obtain ⟨M', e1, a1, c1, f1⟩ := advAt (fu := fu) h hc m.2.1 (by omega) tp.2.2.1 hfu
    rw [if_pos (by have := m.2.2.1; omega)]
    unfold f_X12_parseNumber_J14
    rw [expect_t _ (by decide), cal_some, isWithin_M, cal_some, m.2.2.2 hk, ind_t hx, expect_t _ (by decide), cal_some, if_pos hc, e1, cal_some, m.2.2.2 hk]
    exact ⟨M', rfl, a1, c1, f1⟩
  · rw [if_pos (by have := m.2.2.1; omega)]
    unfold f_X12_parseNumber_J14
    have e9 := eM_mk m 2
    rw [expect_t _ (by decide), cal_some, isWithin_M, cal_some, m.2.2.2 hk, ind_f hx, expect_f _ hc, cal_some, if_neg (by rw [e9.1]; decide), advanceToken_e (by rw [e9.1]; decide), cal_some]
    exact ⟨_, rfl, e9⟩
  · rw [if_neg (by have := m.2.2.1; omega)]
    unfold f_X12_parseNumber_J14
    have e9 := eM_mk m 1
    rw [expect_f _ hc, cal_some, isWithin_M, cal_some, expect_e _ (by rw [e9.1]; decide), cal_some, if_neg (by rw [e9.1]; decide), advanceToken_e (by rw [e9.1]; decide), cal_some]
    exact ⟨_, rfl, e9⟩
theorem J43_e {M : Mem} (x : Int) (hc : 0 < M 52 20) : ∃ r, f_X12_parseValue_J43 fu x M = some (M, r) := by
  unfold f_X12_parseValue_J43
  rw [parseNumber_e _ _ hc, cal_some]
  by_cases hx : x = 0
  · rw [if_pos hx]; exact ⟨_, rfl⟩
  · rw [if_neg hx, grd_pos (by decide)]; exact ⟨_, rfl⟩
theorem parseValue_e {M : Mem} (a : Int) (hc : 0 < M 52 20) : ∃ r, f_X12_parseValue fu M a = some (M, r) := by
  have j : ∀ y, ∃ r, f_X12_parseValue_J25 fu a 0 y M = some (M, r) := by
    intro y
    unfold f_X12_parseValue_J25
    rw [expect_e _ hc, cal_some, expect_e _ hc, cal_some, if_pos rfl]
    exact J43_e 0 hc
  unfold f_X12_parseValue
  rw [isWord_e hc, cal_some, if_pos rfl]
  split
  · exact j 1
  · exact j 0
theorem parseValue_M {M : Mem} {T : TX} {p k s e w x : Int} (h : iM M T) (hc : M 52 20 = 0) (h0 : 0 ≤ p) (a : tokAt M T p) (t : Tk T p k s e w x) (hfu : 1000 ≤ fu) :
    (k = 2 → ∃ M', f_X12_parseValue fu M 1 = some (M', x) ∧ tokAt M' T e ∧ M' 52 20 = 0 ∧ frA M M') ∧
    (w = 2 → ∀ {k2 s2 e2 w2 x2 : Int}, Tk T e k2 s2 e2 w2 x2 → (k2 = 2 → ∃ M', f_X12_parseValue fu M 1 = some (M', -x2) ∧ tokAt M' T e2 ∧ M' 52 20 = 0 ∧ frA M M') ∧ (k2 ≠ 2 → ∃ M' r, f_X12_parseValue fu M 1 = some (M', r) ∧ eM M M' 1 s2)) ∧
    (k = 2 ∨ w = 2 → ∃ M' r, f_X12_parseValue fu M 0 = some (M', r) ∧ eM M M' 3 s) ∧
    (k ≠ 2 → w ≠ 2 → ∀ b, ∃ M' r, f_X12_parseValue fu M b = some (M', r) ∧ eM M M' 1 s) := by
  have m := a k s e w x t
  have tp := tk_pos t
  have wd := isWord_M (fu := fu) h hc h0 t m (q := 1) (by decide) hfu
  unfold f_X12_parseValue
  refine ⟨fun hk => ?_, fun hw k2 s2 e2 w2 x2 t2 => ?_, fun hk => ?_, fun hk hw b => ?_⟩
  · have kk : M 52 18 = 2 := by have := m.2.2.1; omega
    obtain ⟨M', e1, a1, c1, f1⟩ := (parseNumber_M (fu := fu) (lo := 0) (hi := 999) h hc h0 a t hfu).1 hk (tp.2.2.2.2.2.2.2.2.2.2 hk)
    rw [wd, ind_f (show ¬ w = ((1 : Nat) : Int) + 1 by omega), cal_some, if_pos rfl, if_pos kk]
    unfold f_X12_parseValue_J20 f_X12_parseValue_J25
    rw [expect_t _ (by decide), cal_some, expect_t _ (by decide), cal_some, if_pos rfl]
    unfold f_X12_parseValue_J43
    rw [e1, cal_some, if_pos rfl]
    exact ⟨M', rfl, a1, c1, f1⟩
  · have hk : k = 1 := tp.2.2.2.2.2.2.2.2.1 (by omega)
    obtain ⟨M1, e1, a1, c1, f1⟩ := advAt (fu := fu) h hc m.2.1 (by omega) tp.2.2.1 hfu
    have i1 := iM_52 h f1
    rw [wd, ind_t (show w = ((1 : Nat) : Int) + 1 by omega), cal_some, if_neg (by decide)]
    unfold f_X12_parseValue_J20 f_X12_parseValue_J25
    rw [expect_t _ (by decide), cal_some, expect_t _ (by decide), cal_some, if_neg (by decide), e1, cal_some]
    unfold f_X12_parseValue_J43
    obtain ⟨p1, p2, p3⟩ := parseNumber_M (fu := fu) (lo := 0) (hi := 999) i1 c1 (by omega) a1 t2 hfu
    refine ⟨fun hk2 => ?_, fun hk2 => ?_⟩
    · have b2 := (tk_pos t2).2.2.2.2.2.2.2.2.2.2 hk2
      obtain ⟨M', e2, a2, c2, f2⟩ := p1 hk2 b2
      rw [e2, cal_some, if_neg (by decide), grd_pos (by omega)]
      exact ⟨M', rfl, a2, c2, frA_trans f1 f2⟩
    · obtain ⟨M', e2, q2⟩ := p3 hk2
      rw [e2, cal_some, if_neg (by decide), grd_pos (by decide)]
      exact ⟨M', _, rfl, eM_A f1 q2⟩
  · have e9 := eM_mk m 3
    have e8 : 0 < up (up M 52 20 3) 52 21 (M 52 16) 52 20 := by rw [e9.1]; decide
    by_cases hw : w = 2
    · rw [wd, ind_t (show w = ((1 : Nat) : Int) + 1 by omega), cal_some, if_neg (by decide)]
      unfold f_X12_parseValue_J20 f_X12_parseValue_J25
      rw [expect_t _ (by decide), cal_some, expect_f _ hc, cal_some, if_neg (by decide), advanceToken_e e8, cal_some]
      obtain ⟨r, hr⟩ := J43_e (fu := fu) 1 e8
      exact ⟨_, r, hr, e9⟩
    · have kk : M 52 18 = 2 := by have := m.2.2.1; omega
      rw [wd, ind_f (show ¬ w = ((1 : Nat) : Int) + 1 by omega), cal_some, if_pos rfl, if_pos kk]
      unfold f_X12_parseValue_J20 f_X12_parseValue_J25
      rw [expect_t _ (by decide), cal_some, expect_f _ hc, cal_some, if_pos rfl]
      obtain ⟨r, hr⟩ := J43_e (fu := fu) 0 e8
      exact ⟨_, r, hr, e9⟩
  · have e9 := eM_mk m 1
    have e8 : 0 < up (up M 52 20 1) 52 21 (M 52 16) 52 20 := by rw [e9.1]; decide
    have kk : ¬ M 52 18 = 2 := by have := m.2.2.1; omega
    rw [wd, ind_f (show ¬ w = ((1 : Nat) : Int) + 1 by omega), cal_some, if_pos rfl, if_neg kk]
    unfold f_X12_parseValue_J25
    rw [expect_f _ hc, cal_some, expect_e _ e8, cal_some, if_pos rfl]
    obtain ⟨r, hr⟩ := J43_e (fu := fu) 0 e8
    exact ⟨_, r, hr, e9⟩
theorem parseSemicolon_e {M : Mem} (hc : 0 < M 52 20) : f_X12_parseSemicolon fu M = some (M, 0) := by
  unfold f_X12_parseSemicolon
  rw [expect_e _ hc, cal_some, advanceToken_e hc, cal_some, expect_e _ hc, cal_some, advanceToken_e hc, cal_some]
  split <;> rfl
theorem parseSemicolon_M {M : Mem} {T : TX} {p k s e w x : Int} (h : iM M T) (hc : M 52 20 = 0) (h0 : 0 ≤ p) (a : tokAt M T p) (t : Tk T p k s e w x) (hfu : 1000 ≤ fu) :
    (k = 3 → ∃ M', f_X12_parseSemicolon fu M = some (M', 0) ∧ tokAt M' T e ∧ M' 52 20 = 0 ∧ frA M M') ∧ (k ≠ 3 → ∃ M', f_X12_parseSemicolon fu M = some (M', 0) ∧ eM M M' 1 s) := by
  have m := a k s e w x t
  have tp := tk_pos t
  unfold f_X12_parseSemicolon
  refine ⟨fun hk => ?_, fun hk => ?_⟩
  · obtain ⟨M', e1, a1, c1, f1⟩ := advAt (fu := fu) h hc m.2.1 (by omega) tp.2.2.1 hfu
    rw [if_pos (by have := m.2.2.1; omega), expect_t _ (by decide), cal_some, e1, cal_some]
    exact ⟨M', rfl, a1, c1, f1⟩
  · have e9 := eM_mk m 1
    rw [if_neg (by have := m.2.2.1; omega), expect_f _ hc, cal_some, advanceToken_e (by rw [e9.1]; decide), cal_some]
    exact ⟨_, rfl, e9⟩
theorem list_e {M : Mem} {n : Nat} (hc : 0 < M 52 20) : f_X12_parseList_L15 fu (n + 1) M = some (M, 0) := by
  rw [f_X12_parseList_L15, if_neg (by omega), parseSemicolon_e hc, cal_some]
def mS (M : Mem) (c : Int) (v : Int → Int) : Prop := M 52 9 = c ∧ ∀ i, 0 ≤ i → i < c → M 58 i.toNat = v i
theorem mS_A {M M' : Mem} {c : Int} {v : Int → Int} (h : mS M c v) (f : frA M M') : mS M' c v := ⟨by rw [f.2 9 (by decide)]; exact h.1, fun i i0 i1 => by rw [f.1 58 (by decide)]; exact h.2 i i0 i1⟩
theorem J45_e {M : Mem} {n : Nat} {b y s : Int} (hv : ∃ M' r, f_X12_parseValue fu M b = some (M', r) ∧ eM M M' y s) (hy : 0 < y) : ∃ M', f_X12_parseList_J45 fu (f_X12_parseList_L15 fu (n + 1)) b M = some (M', 0) ∧ eM M M' y s := by
  obtain ⟨M', r, e1, q⟩ := hv
  unfold f_X12_parseList_J45
  have : 0 < M' 52 20 := by rw [q.1]; exact hy
  rw [e1, cal_some, if_neg (by omega), list_e this]
  exact ⟨M', rfl, q⟩
theorem J45_ok {M M' : Mem} {n : Nat} {c z : Int} {v : Int → Int} (hv : f_X12_parseValue fu M 1 = some (M', z)) (hc : M' 52 20 = 0) (hs : mS M' c v) (c0 : 0 ≤ c) (c1 : c < 64) : ∃ M2, f_X12_parseList_J45 fu (f_X12_parseList_L15 fu n) 1 M = f_X12_parseList_L15 fu n M2 ∧ mS M2 (c + 1) (fset v c z) ∧ frQ M' M2 ∧ (∀ i, i ≠ 9 → M2 52 i = M' 52 i) := by
  have e9 : up M' 58 c.toNat z 52 9 = c := by rw [up_cell _ _ (by decide)]; exact hs.1
  refine ⟨up (up M' 58 c.toNat z) 52 9 (c + 1), ?_, ⟨up_same _ _ _ _, fun i i0 i1 => ?_⟩, ⟨fun q h3 h4 _ => by rw [up_cell _ _ h3, up_cell _ _ h4], fun i h3 _ _ => by rw [up_at (Or.inr h3), up_cell _ _ (by decide)]⟩, fun i hi => by rw [up_at (Or.inr hi), up_cell _ _ (by decide)]⟩
  · unfold f_X12_parseList_J45
    rw [hv, cal_some, if_pos hc, hs.1, grd_pos ⟨c0, c1⟩, e9, grd_pos (by omega)]
  · rw [up_cell _ _ (by decide), up_toNat c0 i0]
    unfold fset
    by_cases hi : i = c
    · rw [if_pos hi, if_pos hi]
    · rw [if_neg hi, if_neg hi]; exact hs.2 i i0 (by omega)
theorem tokAt_9 {M M' : Mem} {T : TX} {p : Int} (h : tokAt M T p) (f : ∀ i, i ≠ 9 → M' 52 i = M 52 i) : tokAt M' T p := by
  intro k s e w v t
  obtain ⟨m1, m2, m3, m4⟩ := h k s e w v t
  exact ⟨by rw [f 16 (by decide)]; exact m1, by rw [f 17 (by decide)]; exact m2, by rw [f 18 (by decide)]; exact m3, by rw [f 19 (by decide)]; exact m4⟩
theorem list_M {T : TX} {r : PRes} (hfu : 1000 ≤ fu) : ∀ (m n : Nat) (p c : Int) (v : Int → Int) (M : Mem), PS T m p 1 c v r → iM M T → 0 ≤ p → p ≤ T.1 → M 52 20 = 0 → tokAt M T p → mS M c v → 0 ≤ c → c ≤ 64 → T.1 - p + 1 < n →
    ∃ M', f_X12_parseList_L15 fu n M = some (M', 0) ∧ frQ M M' ∧ ((0 < r.1 ∧ M' 52 20 = r.1 ∧ M' 52 21 = r.2.1) ∨ (M' 52 20 = 0 ∧ ∃ m' p' c' v', m' < m ∧ p < p' ∧ p' ≤ T.1 ∧ 0 ≤ c' ∧ c' ≤ 64 ∧ PS T m' p' 0 c' v' r ∧ tokAt M' T p' ∧ mS M' c' v'))
  | 0, n, p, c, v, M, h, hi, p0, p1, hc, ha, hs, c0, c1, hn => h.elim
  | m + 1, 0, p, c, v, M, h, hi, p0, p1, hc, ha, hs, c0, c1, hn => by omega
  | m + 1, 1, p, c, v, M, h, hi, p0, p1, hc, ha, hs, c0, c1, hn => by omega
  | m + 1, n + 2, p, c, v, M, h, hi, p0, p1, hc, ha, hs, c0, c1, hn => by
      obtain ⟨k, s, e, w, x, t, h⟩ := h
      have mm := ha k s e w x t
      have tp := tk_pos t
      have nk3 : k ≠ 3 → ¬ M 52 18 = 3 := fun hk => by have := mm.2.2.1; omega
      have n64 : c < 64 → ¬ 64 ≤ c := fun h9 => by omega
      have g64 : ¬ 64 ≤ c → c < 64 := fun h9 => by omega
      obtain ⟨v1, v2, v3, v4⟩ := parseValue_M (fu := fu) hi hc p0 ha t hfu
      have er : ∀ {y : Int}, 0 < y → r = (y, s, c, v) → (∃ M', f_X12_parseList_L15 fu (n + 2) M = some (M', 0) ∧ eM M M' y s) → ∃ M', f_X12_parseList_L15 fu (n + 2) M = some (M', 0) ∧ frQ M M' ∧ ((0 < r.1 ∧ M' 52 20 = r.1 ∧ M' 52 21 = r.2.1) ∨ (M' 52 20 = 0 ∧ ∃ m' p' c' v', m' < m + 1 ∧ p < p' ∧ p' ≤ T.1 ∧ 0 ≤ c' ∧ c' ≤ 64 ∧ PS T m' p' 0 c' v' r ∧ tokAt M' T p' ∧ mS M' c' v')) := by
        intro y hy hr hM
        obtain ⟨M', e1, q1, q2, q3⟩ := hM
        exact ⟨M', e1, frE_Q q3, Or.inl ⟨by rw [hr]; exact hy, by rw [q1, hr], by rw [q2, hr]⟩⟩
      have lerr : ∀ {y : Int}, 0 < y → k ≠ 3 → (64 ≤ c → ∃ M' r, f_X12_parseValue fu M 0 = some (M', r) ∧ eM M M' y s) → (c < 64 → ∃ M' r, f_X12_parseValue fu M 1 = some (M', r) ∧ eM M M' y s) → ∃ M', f_X12_parseList_L15 fu (n + 2) M = some (M', 0) ∧ eM M M' y s := by
        intro y hy hk h1 h2
        rw [f_X12_parseList_L15, if_pos hc, if_neg (nk3 hk), hs.1]
        by_cases h64 : 64 ≤ c
        · rw [if_pos h64]
          exact J45_e (h1 h64) hy
        · rw [if_neg h64]
          exact J45_e (h2 (g64 h64)) hy
      have go : ∀ {M1 : Mem} {e' z : Int}, k ≠ 3 → c < 64 → f_X12_parseValue fu M 1 = some (M1, z) → tokAt M1 T e' → M1 52 20 = 0 → frA M M1 → p < e' → e' ≤ T.1 → ∀ m9, m9 ≤ m → (∀ (n : Nat) (p c : Int) (v : Int → Int) (M : Mem), PS T m9 p 1 c v r → iM M T → 0 ≤ p → p ≤ T.1 → M 52 20 = 0 → tokAt M T p → mS M c v → 0 ≤ c → c ≤ 64 → T.1 - p + 1 < n →
    ∃ M', f_X12_parseList_L15 fu n M = some (M', 0) ∧ frQ M M' ∧ ((0 < r.1 ∧ M' 52 20 = r.1 ∧ M' 52 21 = r.2.1) ∨ (M' 52 20 = 0 ∧ ∃ m' p' c' v', m' < m9 ∧ p < p' ∧ p' ≤ T.1 ∧ 0 ≤ c' ∧ c' ≤ 64 ∧ PS T m' p' 0 c' v' r ∧ tokAt M' T p' ∧ mS M' c' v'))) → PS T m9 e' 1 (c + 1) (fset v c z) r → ∃ M', f_X12_parseList_L15 fu (n + 2) M = some (M', 0) ∧ frQ M M' ∧ ((0 < r.1 ∧ M' 52 20 = r.1 ∧ M' 52 21 = r.2.1) ∨ (M' 52 20 = 0 ∧ ∃ m' p' c' v', m' < m + 1 ∧ p < p' ∧ p' ≤ T.1 ∧ 0 ≤ c' ∧ c' ≤ 64 ∧ PS T m' p' 0 c' v' r ∧ tokAt M' T p' ∧ mS M' c' v')) := by
        intro M1 e' z hk h64 e1 a1 k1 f1 he he1 m9 hm9 ih hP
        rw [f_X12_parseList_L15, if_pos hc, if_neg (nk3 hk), hs.1, if_neg (n64 h64)]
        obtain ⟨M2, e2, s2, f2, g2⟩ := J45_ok (n := n + 1) e1 k1 (mS_A hs f1) c0 h64
        rw [e2]
        obtain ⟨M', q1, q2, q3⟩ := ih (n + 1) e' (c + 1) (fset v c z) M2 hP (iM_Q (iM_52 hi f1) f2) (by omega) he1 (by rw [g2 20 (by decide)]; exact k1) (tokAt_9 a1 g2) s2 (by omega) (by omega) (by omega)
        refine ⟨M', q1, frQ_trans (frA_Q f1) (frQ_trans f2 q2), ?_⟩
        rcases q3 with q3 | ⟨q3, m', p', c', v', z1, z2, z3⟩
        · exact Or.inl q3
        · exact Or.inr ⟨q3, m', p', c', v', by omega, by omega, z3⟩
      rcases h with ⟨a1, a2, a3⟩ | ⟨a1, a2, a3⟩ | ⟨a1, a2, a3, a4⟩ | ⟨a1, a2, a3, a4⟩ | ⟨a1, a2, a3⟩ | ⟨a1, a2, a3, a4⟩ | ⟨a1, a2, a3, a4, a5, a6, a7⟩ | ⟨a1, a2, a3, a4, a5, a6⟩ | ⟨a1, a2, a3, a4, a5, a6⟩ | ⟨a1, a2, a3⟩ | ⟨a1, a2, a3, a4⟩
      · omega
      · have k3 : k ≠ 3 := fun h9 => by rw [h9] at a1; exact absurd a1 (by decide)
        have k2 : k ≠ 2 := fun h9 => by rw [h9] at a1; exact absurd a1 (by decide)
        have w2 : w ≠ 2 := fun h9 => by
          have := tp.2.2.2.2.2.2.2.2.1 (by rw [h9]; decide)
          rw [this] at a1
          exact absurd a1 (by decide)
        exact er (by decide) a3 (lerr (by decide) k3 (fun _ => v4 k2 w2 0) (fun _ => v4 k2 w2 1))
      · omega
      · omega
      · obtain ⟨M1, e1, b1, k1, f1⟩ := (parseSemicolon_M (fu := fu) hi hc p0 ha t hfu).1 a2
        refine ⟨M1, ?_, frA_Q f1, Or.inr ⟨k1, m, e, c, v, by omega, by have := tp.2.2.2.1 (by omega); omega, tp.2.2.1, c0, c1, a3, b1, mS_A hs f1⟩⟩
        rw [f_X12_parseList_L15, if_pos hc, if_pos (by have := mm.2.2.1; omega), e1, cal_some]
      · obtain ⟨M1, e1, b1, k1, f1⟩ := v1 a2
        exact go (by omega) a3 e1 b1 k1 f1 (by have := tp.2.2.2.1 (by omega); omega) tp.2.2.1 m (Nat.le_refl m) (list_M hfu m) a4
      · cases m with
        | zero => exact a7.elim
        | succ m =>
          obtain ⟨k2, s2, e2, w2, x2, t2, h⟩ := a7
          have tp2 := tk_pos t2
          have hse := tp.2.2.2.1 a2
          obtain ⟨w1, w4⟩ := v2 a5 t2
          have er2 : r = (1, s2, c, v) → k2 ≠ 2 → ∃ M', f_X12_parseList_L15 fu (n + 2) M = some (M', 0) ∧ frQ M M' ∧ ((0 < r.1 ∧ M' 52 20 = r.1 ∧ M' 52 21 = r.2.1) ∨ (M' 52 20 = 0 ∧ ∃ m' p' c' v', m' < m + 1 + 1 ∧ p < p' ∧ p' ≤ T.1 ∧ 0 ≤ c' ∧ c' ≤ 64 ∧ PS T m' p' 0 c' v' r ∧ tokAt M' T p' ∧ mS M' c' v')) := by
            intro hr hk2
            obtain ⟨M', e1, q1, q2, q3⟩ := J45_e (n := n) (w4 hk2) (by decide)
            refine ⟨M', ?_, frE_Q q3, Or.inl ⟨by rw [hr]; show (0 : Int) < 1; decide, by rw [q1, hr], by rw [q2, hr]⟩⟩
            rw [f_X12_parseList_L15, if_pos hc, if_neg (nk3 a3), hs.1, if_neg (n64 a6)]
            exact e1
          rcases h with ⟨b1, b2, b3⟩ | ⟨b1, b2, b3⟩ | ⟨b1, b2, b3, b4⟩ | ⟨b1, b2, b3, b4⟩ | ⟨b1, b2, b3⟩ | ⟨b1, b2, b3, b4⟩ | ⟨b1, b2, b3, b4, b5, b6, b7⟩ | ⟨b1, b2, b3, b4, b5, b6⟩ | ⟨b1, b2, b3, b4, b5, b6⟩ | ⟨b1, b2, b3⟩ | ⟨b1, b2, b3, b4⟩
          · omega
          · exact er2 b3 (by omega)
          · omega
          · omega
          · omega
          · omega
          · omega
          · omega
          · omega
          · obtain ⟨M1, e1, d1, k1, f1⟩ := w1 b2
            exact go a3 a6 e1 d1 k1 f1 (by omega) tp2.2.2.1 m (by omega) (list_M hfu m) b3
          · exact er2 b4 b3
      · exact er (by decide) a6 (lerr (by decide) a3 (fun _ => v3 a4) (fun h9 => absurd a5 (n64 h9)))
      · exact er (by decide) a6 (lerr (by decide) a3 (fun _ => v4 a4 a5 0) (fun _ => v4 a4 a5 1))
      · omega
      · omega
theorem parseList_M {T : TX} {r : PRes} (hfu : 1000 ≤ fu) {m : Nat} {p c : Int} {v : Int → Int} {M : Mem} (h : PS T m p 0 c v r) (hi : iM M T) (p0 : 0 ≤ p) (p1 : p ≤ T.1) (hc : M 52 20 = 0) (ha : tokAt M T p) (hs : mS M c v) (c0 : 0 ≤ c) (c1 : c ≤ 64) :
    (M 52 18 = 0 ∧ r = (0, -1, c, v)) ∨ (M 52 18 ≠ 0 ∧ ∃ M', f_X12_parseList fu M = some (M', 0) ∧ frQ M M' ∧ ((0 < r.1 ∧ M' 52 20 = r.1 ∧ M' 52 21 = r.2.1) ∨ (M' 52 20 = 0 ∧ ∃ m' p' c' v', m' < m ∧ p < p' ∧ p' ≤ T.1 ∧ 0 ≤ c' ∧ c' ≤ 64 ∧ PS T m' p' 0 c' v' r ∧ tokAt M' T p' ∧ mS M' c' v'))) := by
  cases m with
  | zero => exact h.elim
  | succ m =>
    obtain ⟨k, s, e, w, x, t, h⟩ := h
    have mm := ha k s e w x t
    have tp := tk_pos t
    have m3 := mm.2.2.1
    have hT := hi.2.2.1
    rcases h with ⟨a1, a2, a3⟩ | ⟨a1, a2, a3⟩ | ⟨a1, a2, a3, a4⟩ | ⟨a1, a2, a3, a4⟩ | ⟨a1, a2, a3⟩ | ⟨a1, a2, a3, a4⟩ | ⟨a1, a2, a3, a4, a5, a6, a7⟩ | ⟨a1, a2, a3, a4, a5, a6⟩ | ⟨a1, a2, a3, a4, a5, a6⟩ | ⟨a1, a2, a3⟩ | ⟨a1, a2, a3, a4⟩
    · exact Or.inl ⟨by omega, a3⟩
    · omega
    · refine Or.inr ⟨by omega, _, ?_, frE_Q (eM_mk mm 1).2.2, Or.inl ⟨by rw [a4]; show (0 : Int) < 1; decide, by rw [a4]; exact (eM_mk mm 1).1, by rw [a4]; exact (eM_mk mm 1).2.1⟩⟩
      have e8 : 0 < up (up M 52 20 1) 52 21 (M 52 16) 52 20 := by rw [(eM_mk mm 1).1]; decide
      unfold f_X12_parseList
      rw [isWord_M hi hc p0 t mm (q := 0) (by decide) hfu, ind_f (show ¬ w = ((0 : Nat) : Int) + 1 by omega), cal_some, expect_f _ hc, cal_some, advanceToken_e e8, cal_some]
      obtain ⟨f, hf⟩ : ∃ f, fu = f + 1 := ⟨fu - 1, by omega⟩
      have key : ∀ a : Nat, a = f + 1 → f_X12_parseList_L15 fu a (up (up M 52 20 1) 52 21 (M 52 16)) = some (up (up M 52 20 1) 52 21 (M 52 16), 0) := by
        intro a ha
        subst ha
        exact list_e e8
      exact key fu hf
    · refine Or.inr ⟨by omega, ?_⟩
      obtain ⟨M1, e1, b1, k1, f1⟩ := advAt (fu := fu) hi hc mm.2.1 (by omega) tp.2.2.1 hfu
      unfold f_X12_parseList
      rw [isWord_M hi hc p0 t mm (q := 0) (by decide) hfu, ind_t (show w = ((0 : Nat) : Int) + 1 by omega), cal_some, expect_t _ (by decide), cal_some, e1, cal_some]
      obtain ⟨M', q1, q2, q3⟩ := list_M (fu := fu) hfu m fu e c v M1 a4 (iM_52 hi f1) (by omega) tp.2.2.1 k1 b1 (mS_A hs f1) c0 c1 (by omega)
      refine ⟨M', q1, frQ_trans (frA_Q f1) q2, ?_⟩
      rcases q3 with q3 | ⟨q3, m', p', c', v', z1, z2, z3⟩
      · exact Or.inl q3
      · exact Or.inr ⟨q3, m', p', c', v', by omega, by omega, z3⟩
    · omega
    · omega
    · omega
    · omega
    · omega
    · omega
    · omega
theorem top_M {T : TX} {r : PRes} (hfu : 1000 ≤ fu) : ∀ (b m n : Nat) (p c : Int) (v : Int → Int) (M : Mem), m ≤ b → PS T m p 0 c v r → iM M T → 0 ≤ p → p ≤ T.1 → M 52 20 = 0 → tokAt M T p → mS M c v → 0 ≤ c → c ≤ 64 → T.1 - p + 1 < n →
    ∃ M', f_X12_loadSetup_L14 fu n M = f_X12_loadSetup_J35 fu M' ∧ frQ M M' ∧ M' 52 20 = r.1 ∧ 0 ≤ r.1 ∧ (r.1 ≠ 0 → M' 52 21 = r.2.1) ∧ (r.1 = 0 → r.2.1 = -1 ∧ mS M' r.2.2.1 r.2.2.2 ∧ 0 ≤ r.2.2.1 ∧ r.2.2.1 ≤ 64)
  | b, 0, n, p, c, v, M, hb, h, hi, p0, p1, hc, ha, hs, c0, c1, hn => h.elim
  | 0, m + 1, n, p, c, v, M, hb, h, hi, p0, p1, hc, ha, hs, c0, c1, hn => by omega
  | b + 1, m, 0, p, c, v, M, hb, h, hi, p0, p1, hc, ha, hs, c0, c1, hn => by omega
  | b + 1, m, 1, p, c, v, M, hb, h, hi, p0, p1, hc, ha, hs, c0, c1, hn => by omega
  | b + 1, m, n + 2, p, c, v, M, hb, h, hi, p0, p1, hc, ha, hs, c0, c1, hn => by
      rw [f_X12_loadSetup_L14, if_pos hc]
      rcases parseList_M (fu := fu) hfu h hi p0 p1 hc ha hs c0 c1 with ⟨h1, h2⟩ | ⟨h1, M1, e1, f1, h2⟩
      · rw [if_pos h1]
        subst h2
        exact ⟨M, rfl, frQ_refl M, hc, Int.le_refl 0, fun h9 => absurd rfl h9, fun _ => ⟨rfl, hs, c0, c1⟩⟩
      · rw [if_neg h1, e1, cal_some]
        rcases h2 with ⟨q1, q2, q3⟩ | ⟨q1, m', p', c', v', z1, z2, z3, z4, z5, z6, z7, z8⟩
        · rw [f_X12_loadSetup_L14, if_neg (by omega)]
          exact ⟨M1, rfl, f1, q2, by omega, fun _ => q3, fun h9 => by omega⟩
        · obtain ⟨M', y1, y2, y3⟩ := top_M hfu b m' (n + 1) p' c' v' M1 (by omega) z6 (iM_Q hi f1) (by omega) z3 q1 z7 z8 z4 z5 (by omega)
          exact ⟨M', y1, frQ_trans f1 y2, y3⟩
end MSet
