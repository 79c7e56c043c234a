/-! script texts -/
def gtL : List Int := [39, 63, 999, 39, 999, -1, 39, 64, -1, 39, -1, -1, -1, -1, -1]
def gt (i : Int) : Int := gtL.getD i.toNat 0
def mx (w j : Int) : Int := if 3 ≤ j then -1 else gt ((w - 3) * 3 + j)
def na (w : Int) : Int := if w = 3 then 3 else if w = 4 then 2 else if w = 5 then 2 else if w = 6 then 1 else 0
theorem mx_nat : ∀ w : Nat, w < 5 → ∀ j : Nat, j < 4 → (mx ((w : Int) + 3) j = -1 ↔ na ((w : Int) + 3) ≤ j) ∧ -1 ≤ mx ((w : Int) + 3) j ∧ mx ((w : Int) + 3) j ≤ 999 ∧ na ((w : Int) + 3) ≤ 3 ∧ 0 ≤ na ((w : Int) + 3) := by decide
theorem mx_na {w j : Int} (h : 3 ≤ w ∧ w ≤ 7) (h0 : 0 ≤ j) (h1 : j ≤ 3) : (mx w j = -1 ↔ na w ≤ j) ∧ -1 ≤ mx w j ∧ mx w j ≤ 999 ∧ na w ≤ 3 ∧ 0 ≤ na w := by
  have := mx_nat (w - 3).toNat (by omega) j.toNat (by omega)
  have e1 : ((w - 3).toNat : Int) + 3 = w := by omega
  have e2 : (j.toNat : Int) = j := by omega
  rw [e1, e2] at this
  exact this
def PR (T : TX) : Nat → Int → Int → Int → Int → Int → (Int → Int) → PRes → Prop
  | 0, _, _, _, _, _, _, _ => False
  | n + 1, p, ins, j, mi, c, S, r => ∃ k s e w x, Tk T p k s e w x ∧ (
      (k = 0 ∧ ins = 0 ∧ r = (0, -1, c, S)) ∨
      (k = 0 ∧ ins = 1 ∧ r = (1, s, c, S)) ∨
      (ins = 0 ∧ k ≠ 0 ∧ w < 3 ∧ r = (1, s, c, S)) ∨
      (ins = 0 ∧ k ≠ 0 ∧ 3 ≤ w ∧ 30 ≤ c ∧ r = (3, s, c, S)) ∨
      (ins = 0 ∧ k ≠ 0 ∧ 3 ≤ w ∧ c < 30 ∧ PR T n e 1 0 0 c (fset S (c * 4) w) r) ∨
      (ins = 1 ∧ k ≠ 0 ∧ mx (S (c * 4)) j = -1 ∧ k ≠ 3 ∧ r = (1, s, c, S)) ∨
      (ins = 1 ∧ k ≠ 0 ∧ mx (S (c * 4)) j = -1 ∧ k = 3 ∧ PR T n e 0 0 0 (c + 1) S r) ∨
      (ins = 1 ∧ k ≠ 0 ∧ mx (S (c * 4)) j = 999 ∧ w = 2 ∧ mi = 0 ∧ PR T n e 1 j 1 c S r) ∨
      (ins = 1 ∧ k ≠ 0 ∧ mx (S (c * 4)) j ≠ -1 ∧ ¬ (mx (S (c * 4)) j = 999 ∧ w = 2 ∧ mi = 0) ∧ k ≠ 2 ∧ r = (1, s, c, S)) ∨
      (ins = 1 ∧ k = 2 ∧ mx (S (c * 4)) j ≠ -1 ∧ mx (S (c * 4)) j < x ∧ r = (2, s, c, S)) ∨
      (ins = 1 ∧ k = 2 ∧ mx (S (c * 4)) j ≠ -1 ∧ x ≤ mx (S (c * 4)) j ∧ PR T n e 1 (j + 1) 0 c (fset S (c * 4 + 1 + j) (if mi = 0 then x else -x)) r))
theorem PR_ex (T : TX) : ∀ (n : Nat) (p ins j mi c : Int) (S : Int → Int), p ≤ T.1 → T.1 - p < n → ins = 0 ∨ ins = 1 → ∃ r, PR T n p ins j mi c S r
  | 0, p, ins, j, mi, c, S, hp, hn, hs => by omega
  | n + 1, p, ins, j, mi, c, S, hp, hn, hs => by
      obtain ⟨k, s, e, w, x, t⟩ := tk_ex hp
      have tp := tk_pos t
      by_cases hk : k = 0
      · rcases hs with hs | hs
        · exact ⟨_, k, s, e, w, x, t, Or.inl ⟨hk, hs, rfl⟩⟩
        · exact ⟨_, k, s, e, w, x, t, Or.inr (Or.inl ⟨hk, hs, rfl⟩)⟩
      · have ih := fun ins j mi c S h => PR_ex T n e ins j mi c S tp.2.2.1 (by omega) h
        rcases hs with hs | hs
        · by_cases hw : w < 3
          · exact ⟨_, k, s, e, w, x, t, Or.inr (Or.inr (Or.inl ⟨hs, hk, hw, rfl⟩))⟩
          · by_cases hc : c < 30
            · obtain ⟨r, hr⟩ := ih 1 0 0 c (fset S (c * 4) w) (by decide)
              exact ⟨r, k, s, e, w, x, t, Or.inr (Or.inr (Or.inr (Or.inr (Or.inl ⟨hs, hk, by omega, hc, hr⟩))))⟩
            · exact ⟨_, k, s, e, w, x, t, Or.inr (Or.inr (Or.inr (Or.inl ⟨hs, hk, by omega, by omega, rfl⟩)))⟩
        · by_cases hg : mx (S (c * 4)) j = -1
          · by_cases h3 : k = 3
            · obtain ⟨r, hr⟩ := ih 0 0 0 (c + 1) S (by decide)
              exact ⟨r, k, s, e, w, x, t, Or.inr (Or.inr (Or.inr (Or.inr (Or.inr (Or.inr (Or.inl ⟨hs, hk, hg, h3, hr⟩))))))⟩
            · exact ⟨_, k, s, e, w, x, t, Or.inr (Or.inr (Or.inr (Or.inr (Or.inr (Or.inl ⟨hs, hk, hg, h3, rfl⟩)))))⟩
          · by_cases hm : mx (S (c * 4)) j = 999 ∧ w = 2 ∧ mi = 0
            · obtain ⟨r, hr⟩ := ih 1 j 1 c S (by decide)
              exact ⟨r, k, s, e, w, x, t, Or.inr (Or.inr (Or.inr (Or.inr (Or.inr (Or.inr (Or.inr (Or.inl ⟨hs, hk, hm.1, hm.2.1, hm.2.2, hr⟩)))))))⟩
            · by_cases h2 : k = 2
              · by_cases hx : mx (S (c * 4)) j < x
                · exact ⟨_, k, s, e, w, x, t, Or.inr (Or.inr (Or.inr (Or.inr (Or.inr (Or.inr (Or.inr (Or.inr (Or.inr (Or.inl ⟨hs, h2, hg, hx, rfl⟩)))))))))⟩
                · obtain ⟨r, hr⟩ := ih 1 (j + 1) 0 c (fset S (c * 4 + 1 + j) (if mi = 0 then x else -x)) (by decide)
                  exact ⟨r, k, s, e, w, x, t, Or.inr (Or.inr (Or.inr (Or.inr (Or.inr (Or.inr (Or.inr (Or.inr (Or.inr (Or.inr ⟨hs, h2, hg, by omega, hr⟩)))))))))⟩
              · exact ⟨_, k, s, e, w, x, t, Or.inr (Or.inr (Or.inr (Or.inr (Or.inr (Or.inr (Or.inr (Or.inr (Or.inl ⟨hs, hk, hg, hm, h2, rfl⟩))))))))⟩
def okA (w a y : Int) : Prop := (if mx w a = 999 then -999 else 0) ≤ y ∧ y ≤ mx w a
def bS (S : Int → Int) (c : Int) : Prop := ∀ q, 0 ≤ q → q < c → (3 ≤ S (q * 4) ∧ S (q * 4) ≤ 7) ∧ ∀ a, 0 ≤ a → a < na (S (q * 4)) → okA (S (q * 4)) a (S (q * 4 + 1 + a))
def gR (R S : Int → Int) (c : Int) : Prop := ∀ q, 0 ≤ q → q < c → R (q * 4) = S (q * 4) ∧ ∀ a, 0 ≤ a → a < na (S (q * 4)) → R (q * 4 + 1 + a) = S (q * 4 + 1 + a)
def cur (R S : Int → Int) (c j : Int) : Prop := R (c * 4) = S (c * 4) ∧ ∀ a, 0 ≤ a → a < j → R (c * 4 + 1 + a) = S (c * 4 + 1 + a)
theorem na_b (w : Int) : 0 ≤ na w ∧ na w ≤ 3 := by
  unfold na
  split
  · decide
  split
  · decide
  split
  · decide
  split <;> decide
theorem fset_o {S : Int → Int} {i x j : Int} (h : j ≠ i) : fset S i x j = S j := if_neg h
theorem fset_s {S : Int → Int} {i x : Int} : fset S i x i = x := if_pos rfl
theorem gR_congr {R R' S : Int → Int} {c : Int} (h : ∀ i, 0 ≤ i → R' i = R i) (g : gR R S c) : gR R' S c := fun q q0 q1 => ⟨by rw [h _ (by omega)]; exact (g q q0 q1).1, fun a a0 a1 => by rw [h _ (by omega)]; exact (g q q0 q1).2 a a0 a1⟩
theorem cur_congr {R R' S : Int → Int} {c j : Int} (c0 : 0 ≤ c) (h : ∀ i, 0 ≤ i → R' i = R i) (g : cur R S c j) : cur R' S c j := ⟨by rw [h _ (by omega)]; exact g.1, fun a a0 a1 => by rw [h _ (by omega)]; exact g.2 a a0 a1⟩
theorem gR_set {R S : Int → Int} {c i x : Int} (g : gR R S c) (hi : c * 4 ≤ i) : gR (fset R i x) (fset S i x) c := fun q q0 q1 => by
  have e : fset S i x (q * 4) = S (q * 4) := fset_o (by omega)
  refine ⟨by rw [e, fset_o (by omega)]; exact (g q q0 q1).1, fun a a0 a1 => ?_⟩
  rw [e] at a1
  have := na_b (S (q * 4))
  rw [fset_o (by omega), fset_o (by omega)]
  exact (g q q0 q1).2 a a0 a1
theorem bS_set {S : Int → Int} {c i x : Int} (g : bS S c) (hi : c * 4 ≤ i) : bS (fset S i x) c := fun q q0 q1 => by
  have e : fset S i x (q * 4) = S (q * 4) := fset_o (by omega)
  rw [e]
  refine ⟨(g q q0 q1).1, fun a a0 a1 => ?_⟩
  have := na_b (S (q * 4))
  rw [fset_o (by omega)]
  exact (g q q0 q1).2 a a0 a1
theorem cur_word {R S : Int → Int} {c x : Int} : cur (fset R (c * 4) x) (fset S (c * 4) x) c 0 := ⟨by rw [fset_s, fset_s], fun a a0 a1 => by omega⟩
theorem cur_arg {R S : Int → Int} {c j x : Int} (j0 : 0 ≤ j) (g : cur R S c j) : cur (fset R (c * 4 + 1 + j) x) (fset S (c * 4 + 1 + j) x) c (j + 1) := by
  refine ⟨by rw [fset_o (by omega), fset_o (by omega)]; exact g.1, fun a a0 a1 => ?_⟩
  by_cases ha : a = j
  · rw [ha, fset_s, fset_s]
  · rw [fset_o (by omega), fset_o (by omega)]; exact g.2 a a0 (by omega)
theorem gR_close {R S : Int → Int} {c j : Int} (g : gR R S c) (u : cur R S c j) (hj : na (S (c * 4)) ≤ j) : gR R S (c + 1) := fun q q0 q1 => by
  by_cases hq : q = c
  · subst hq; exact ⟨u.1, fun a a0 a1 => u.2 a a0 (by omega)⟩
  · exact g q q0 (by omega)
theorem PR_b {T : TX} {r : PRes} : ∀ (n : Nat) (p ins j mi c : Int) (S : Int → Int), PR T n p ins j mi c S r → 0 ≤ c → c ≤ 30 → bS S c → (ins = 1 → c < 30 ∧ 0 ≤ j ∧ j ≤ 3 ∧ (3 ≤ S (c * 4) ∧ S (c * 4) ≤ 7) ∧ (mi ≠ 0 → mx (S (c * 4)) j = 999) ∧ ∀ a, 0 ≤ a → a < j → okA (S (c * 4)) a (S (c * 4 + 1 + a))) → 0 ≤ r.1 ∧ (r.1 = 0 → r.2.1 = -1 ∧ 0 ≤ r.2.2.1 ∧ r.2.2.1 ≤ 30 ∧ bS r.2.2.2 r.2.2.1)
  | 0, p, ins, j, mi, c, S, h, c0, c1, hb, hu => h.elim
  | n + 1, p, ins, j, mi, c, S, h, c0, c1, hb, hu => by
      obtain ⟨k, s, e, w, x, t, h⟩ := h
      have tp := tk_pos t
      have er : ∀ {y : Int}, 0 < y → r = (y, s, c, S) → 0 ≤ r.1 ∧ (r.1 = 0 → r.2.1 = -1 ∧ 0 ≤ r.2.2.1 ∧ r.2.2.1 ≤ 30 ∧ bS r.2.2.2 r.2.2.1) := by
        intro y hy hr
        subst hr
        exact ⟨Int.le_of_lt hy, fun h9 => absurd h9 (show ¬ y = 0 by omega)⟩
      rcases h with ⟨a1, a2, a3⟩ | ⟨a1, a2, a3⟩ | ⟨a1, a2, a3, a4⟩ | ⟨a1, a2, a3, a4, a5⟩ | ⟨a1, a2, a3, a4, a5⟩ | ⟨a1, a2, a3, a4, a5⟩ | ⟨a1, a2, a3, a4, a5⟩ | ⟨a1, a2, a3, a4, a5, a6⟩ | ⟨a1, a2, a3, a4, a5, a6⟩ | ⟨a1, a2, a3, a4, a5⟩ | ⟨a1, a2, a3, a4, a5⟩
      · subst a3
        exact ⟨Int.le_refl 0, fun _ => ⟨rfl, c0, c1, hb⟩⟩
      · exact er (by decide) a3
      · exact er (by decide) a4
      · exact er (by decide) a5
      · refine PR_b n e 1 0 0 c _ a5 c0 c1 (bS_set hb (Int.le_refl _)) (fun _ => ⟨a4, Int.le_refl 0, by decide, by rw [fset_s]; omega, fun h9 => absurd rfl h9, fun a a0 a1 => by omega⟩)
      · exact er (by decide) a5
      · obtain ⟨b1, b2, b3, b4, b5, b6⟩ := hu a1
        have hj := (mx_na b4 b2 b3).1.mp a3
        refine PR_b n e 0 0 0 (c + 1) _ a5 (by omega) (by omega) (fun q q0 q1 => ?_) (fun h9 => absurd h9 (by decide))
        by_cases hq : q = c
        · subst hq; exact ⟨b4, fun a a0 a1 => b6 a a0 (by omega)⟩
        · exact hb q q0 (by omega)
      · obtain ⟨b1, b2, b3, b4, b5, b6⟩ := hu a1
        exact PR_b n e 1 j 1 c S a6 c0 c1 hb (fun _ => ⟨b1, b2, b3, b4, fun _ => a3, b6⟩)
      · exact er (by decide) a6
      · exact er (by decide) a5
      · obtain ⟨b1, b2, b3, b4, b5, b6⟩ := hu a1
        have hx := tp.2.2.2.2.2.2.2.2.2.2 a2
        have hj : j < 3 := by
          by_cases hj : 3 ≤ j
          · exact absurd (show mx (S (c * 4)) j = -1 from if_pos hj) a3
          · omega
        have e1 : fset S (c * 4 + 1 + j) (if mi = 0 then x else -x) (c * 4) = S (c * 4) := fset_o (by omega)
        have hm := mx_na b4 (j := j + 1) (by omega) (by omega)
        refine PR_b n e 1 (j + 1) 0 c _ a5 c0 c1 (bS_set hb (by omega)) (fun _ => ⟨b1, by omega, by omega, by rw [e1]; exact b4, fun h9 => absurd rfl h9, fun a a0 a1 => ?_⟩)
        rw [e1]
        by_cases ha : a = j
        · rw [ha, fset_s]
          unfold okA
          by_cases hmi : mi = 0
          · rw [if_pos hmi]
            refine ⟨?_, a4⟩
            split <;> omega
          · have := b5 hmi
            rw [if_neg hmi, if_pos this, this]
            omega
        · rw [fset_o (by omega)]
          exact b6 a a0 (by omega)
section Scr
variable {fu : Nat}
def frV (M M' : Mem) : Prop := ∀ q, q ≠ 45 → q ≠ 48 → q ≠ 49 → M' q = M q
theorem frV_refl (M : Mem) : frV M M := fun _ _ _ _ => rfl
theorem frV_trans {M M' M2 : Mem} (h : frV M M') (h2 : frV M' M2) : frV M M2 := fun q h3 h4 h5 => by rw [h2 q h3 h4 h5, h q h3 h4 h5]
theorem frV_Tk {M M' : Mem} (h : frTk M M') : frV M M' := fun q h3 _ _ => h.1 q h3
theorem frV_up {M : Mem} {q i : Nat} {x : Int} (hq : q = 45 ∨ q = 48 ∨ q = 49) : frV M (up M q i x) := fun k h3 h4 h5 => up_cell _ _ (by omega)
theorem iC_V {M M' : Mem} {T : TX} (h : iC M T) (f : frV M M') : iC M' T := by
  obtain ⟨g1, g2, g3, g4⟩ := h
  exact ⟨by rw [f 43 (by decide) (by decide) (by decide)]; exact g1, g2, g3, fun i i0 i1 => by rw [f 44 (by decide) (by decide) (by decide)]; exact g4 i i0 i1⟩
def gC (M : Mem) : Prop := ∀ i, 0 ≤ i → i < 15 → M 1 i.toNat = gt i
def rd (M : Mem) : Int → Int := fun i => M 49 i.toNat
def sR (M : Mem) (ins j mi c : Int) (S : Int → Int) : Prop := M 48 5 = c ∧ M 48 2 = ins ∧ M 48 3 = mi ∧ (ins = 1 → M 48 4 = j ∧ cur (rd M) S c j) ∧ gR (rd M) S c
theorem sR_Tk {M M' : Mem} {ins j mi c : Int} {S : Int → Int} (h : sR M ins j mi c S) (f : frTk M M') : sR M' ins j mi c S := by
  obtain ⟨h1, h2, h3, h4, h5⟩ := h
  have e := f.1 48 (by decide)
  have e2 : rd M' = rd M := by unfold rd; rw [f.1 49 (by decide)]
  exact ⟨by rw [e]; exact h1, by rw [e]; exact h2, by rw [e]; exact h3, fun h9 => by rw [e, e2]; exact h4 h9, by rw [e2]; exact h5⟩
theorem K59_err {M : Mem} (k : Int → Mem → Option (Mem × Int)) (x : Int) {y : Int} (h : y ≠ 0) : f_X6_parse_J59 fu k x y M = some (up (up M 45 6 y) 45 7 (M 45 2), 0) := by
  unfold f_X6_parse_J59
  rw [if_neg h, fail_C, cal_some, grd_pos (by decide)]
theorem K59_ok {M : Mem} (k : Int → Mem → Option (Mem × Int)) {x : Int} (h : 0 ≤ x ∧ x ≤ 600) : f_X6_parse_J59 fu k x 0 M = k (x + 1) M := by
  unfold f_X6_parse_J59
  rw [if_pos rfl, grd_pos (by omega)]
theorem greatest_C {M : Mem} {j mi c : Int} {S : Int → Int} (h : sR M 1 j mi c S) (hg : gC M) (c0 : 0 ≤ c) (c1 : c < 30) (j0 : 0 ≤ j) (hw : 3 ≤ S (c * 4) ∧ S (c * 4) ≤ 7) : f_X6_greatestArgument fu M = some (M, mx (S (c * 4)) j) := by
  obtain ⟨h1, h2, h3, h4, h5⟩ := h
  obtain ⟨h4, h6⟩ := h4 rfl
  unfold f_X6_greatestArgument mx
  rw [h4]
  by_cases hj : 3 ≤ j
  · rw [if_neg (by omega), if_pos hj]
  · unfold f_X6_wordOf
    have e : M 49 (c * 4).toNat = S (c * 4) := h6.1
    rw [if_pos (by omega), if_neg hj, h1, grd_pos (by omega), at_in (by omega) (by omega), cal_some, cal_some, e, h4, grd_pos (by omega), at_in (by omega) (by omega), cal_some, hg _ (by omega) (by omega)]
theorem ckeep_C {M : Mem} {j mi c : Int} {S : Int → Int} (h : sR M 1 j mi c S) (c0 : 0 ≤ c) (c1 : c < 30) (j0 : 0 ≤ j) (j1 : j < 3) {x : Int} (hx : 0 ≤ x ∧ x ≤ 999) : ∃ M', f_X6_keep fu M x = some (M', 0) ∧ sR M' 1 (j + 1) 0 c (fset S (c * 4 + 1 + j) (if mi = 0 then x else -x)) ∧ M' 45 = M 45 ∧ frV M M' := by
  obtain ⟨h1, h2, h3, h4, h5⟩ := h
  obtain ⟨h4, h6⟩ := h4 rfl
  have jj : ∀ y, ∃ M', f_X6_keep_J30 fu (c * 4 + 1 + j) y M = some (M', 0) ∧ sR M' 1 (j + 1) 0 c (fset S (c * 4 + 1 + j) y) ∧ M' 45 = M 45 ∧ frV M M' := by
    intro y
    have e : up M 49 (c * 4 + 1 + j).toNat y 48 4 = j := by rw [up_cell _ _ (by decide)]; exact h4
    have er : ∀ i, 0 ≤ i → rd (up (up (up M 49 (c * 4 + 1 + j).toNat y) 48 4 (j + 1)) 48 3 0) i = fset (rd M) (c * 4 + 1 + j) y i := fun i hi => by
      show up (up (up M 49 (c * 4 + 1 + j).toNat y) 48 4 (j + 1)) 48 3 0 49 i.toNat = _
      rw [up_cell _ _ (by decide), up_cell _ _ (by decide), up_toNat (by omega) hi]
      rfl
    refine ⟨up (up (up M 49 (c * 4 + 1 + j).toNat y) 48 4 (j + 1)) 48 3 0, ?_, ⟨by rw [up_at (Or.inr (by decide)), up_at (Or.inr (by decide)), up_cell _ _ (by decide)]; exact h1, by rw [up_at (Or.inr (by decide)), up_at (Or.inr (by decide)), up_cell _ _ (by decide)]; exact h2, up_same _ _ _ _, fun _ => ⟨by rw [up_at (Or.inr (by decide)), up_same], cur_congr c0 er (cur_arg j0 h6)⟩, gR_congr er (gR_set h5 (by omega))⟩, by rw [up_cell _ _ (by decide), up_cell _ _ (by decide), up_cell _ _ (by decide)], frV_trans (frV_up (by decide)) (frV_trans (frV_up (by decide)) (frV_up (by decide)))⟩
    unfold f_X6_keep_J30
    rw [put_in (by omega) (by omega), cal_some, e, grd_pos (by omega), grd_pos (by decide)]
  unfold f_X6_keep
  rw [h3, h1, h4]
  by_cases hmi : mi = 0
  · rw [if_pos hmi, grd_pos (by omega), if_pos hmi]
    exact jj x
  · rw [if_neg hmi, grd_pos (by omega), grd_pos (by omega), if_neg hmi]
    exact jj (-x)
theorem script_C {T : TX} {r : PRes} (hfu : 1000 ≤ fu) : ∀ (m n : Nat) (p ins j mi c x : Int) (S : Int → Int) (M : Mem), PR T m p ins j mi c S r → iC M T → gC M → sR M ins j mi c S → M 45 1 = p → 0 ≤ p → p ≤ T.1 → 0 ≤ x → x ≤ p → T.1 - p + 1 < n → 0 ≤ c → c ≤ 30 → (ins = 0 → mi = 0) → (ins = 1 → c < 30 ∧ 0 ≤ j ∧ j ≤ 3 ∧ (3 ≤ S (c * 4) ∧ S (c * 4) ≤ 7)) → (mi ≠ 0 → mx (S (c * 4)) j = 999) → M 45 6 = 0 → M 45 7 = -1 →
    ∃ M', f_X6_parse_L24 fu n x M = some (M', ind (r.1 = 0)) ∧ M' 45 6 = r.1 ∧ M' 45 7 = r.2.1 ∧ (r.1 = 0 → M' 48 5 = r.2.2.1 ∧ gR (rd M') r.2.2.2 r.2.2.1) ∧ frV M M'
  | 0, n, p, ins, j, mi, c, x, S, M, h, hi, hG, hS, hp, p0, p1, x0, x1, hn, c0, c1, c2, c3, c4, h6, h7 => h.elim
  | m + 1, 0, p, ins, j, mi, c, x, S, M, h, hi, hG, hS, hp, p0, p1, x0, x1, hn, c0, c1, c2, c3, c4, h6, h7 => by omega
  | m + 1, n + 1, p, ins, j, mi, c, x, S, M, h, hi, hG, hS, hp, p0, p1, x0, x1, hn, c0, c1, c2, c3, c4, h6, h7 => by
      have hT := hi.2.2.1
      obtain ⟨k, s, e, w, y, t, h⟩ := h
      have tp := tk_pos t
      obtain ⟨M1, e1, ⟨t1, t2, t3, t4, t5⟩, f1⟩ := advance_C (fu := fu) hi hp p0 t hfu
      have i1 := iC_45 hi f1.1
      have S1 := sR_Tk hS f1
      have G1 : gC M1 := fun i i0 i1 => by rw [f1.1 1 (by decide)]; exact hG i i0 i1
      have g6 : M1 45 6 = 0 := by rw [f1.2 6 (by decide)]; exact h6
      have g7 : M1 45 7 = -1 := by rw [f1.2 7 (by decide)]; exact h7
      have u1 := frV_Tk f1
      rw [f_X6_parse_L24, if_neg (by omega), e1, cal_some]
      have er : ∀ {M2 : Mem} {a : Int}, M2 45 2 = s → frV M1 M2 → a ≠ 0 → r = (a, s, c, S) → ∃ M', some (up (up M2 45 6 a) 45 7 (M2 45 2), (0 : Int)) = some (M', ind (r.1 = 0)) ∧ M' 45 6 = r.1 ∧ M' 45 7 = r.2.1 ∧ (r.1 = 0 → M' 48 5 = r.2.2.1 ∧ gR (rd M') r.2.2.2 r.2.2.1) ∧ frV M M' := by
        intro M2 a h2 f2 ha hr
        subst hr
        refine ⟨up (up M2 45 6 a) 45 7 (M2 45 2), ?_, by rw [up_at (Or.inr (by decide)), up_same], by rw [up_same]; exact h2, fun h9 => absurd h9 ha, frV_trans u1 (frV_trans f2 (frV_trans (frV_up (by decide)) (frV_up (by decide))))⟩
        rw [ind_f (show ¬ (a, s, c, S).1 = 0 from ha)]
      have go : ∀ {M2 : Mem} {ins' j' mi' c' : Int} {S' : Int → Int}, k ≠ 0 → PR T m e ins' j' mi' c' S' r → sR M2 ins' j' mi' c' S' → M2 45 = M1 45 → frV M1 M2 → 0 ≤ c' → c' ≤ 30 → (ins' = 0 → mi' = 0) → (ins' = 1 → c' < 30 ∧ 0 ≤ j' ∧ j' ≤ 3 ∧ (3 ≤ S' (c' * 4) ∧ S' (c' * 4) ≤ 7)) → (mi' ≠ 0 → mx (S' (c' * 4)) j' = 999) → ∃ M', f_X6_parse_L24 fu n (x + 1) M2 = some (M', ind (r.1 = 0)) ∧ M' 45 6 = r.1 ∧ M' 45 7 = r.2.1 ∧ (r.1 = 0 → M' 48 5 = r.2.2.1 ∧ gR (rd M') r.2.2.2 r.2.2.1) ∧ frV M M' := by
        intro M2 ins' j' mi' c' S' hk hP hS2 h45 f2 d0 d1 d2 d3 d4
        obtain ⟨M', q1, q2, q3, q4, q5⟩ := script_C hfu m n e ins' j' mi' c' (x + 1) S' M2 hP (iC_V i1 f2) (fun i i0 i1 => by rw [f2 1 (by decide) (by decide) (by decide)]; exact G1 i i0 i1) hS2 (by rw [h45]; exact t1 hk) (by omega) (by omega) (by omega) (by omega) (by omega) d0 d1 d2 d3 d4 (by rw [h45]; exact g6) (by rw [h45]; exact g7)
        exact ⟨M', q1, q2, q3, q4, frV_trans u1 (frV_trans f2 q5)⟩
      have k3 : k ≠ 0 → ((M1 45 3 = 3 ↔ k = 3) ∧ (M1 45 3 = 2 ↔ k = 2)) := by
        intro hk
        rw [t3]
        split <;> omega
      have z0 : ins = 0 → M1 48 2 = 0 := fun h9 => by rw [S1.2.1, h9]
      have z1 : ins = 1 → ¬ M1 48 2 = 0 := fun h9 => by rw [S1.2.1, h9]; decide
      have gr : ins = 1 → f_X6_greatestArgument fu M1 = some (M1, mx (S (c * 4)) j) := fun h9 => by
        obtain ⟨b1, b2, b3, b4⟩ := c3 h9
        subst h9
        exact greatest_C S1 G1 c0 b1 b2 b4
      have mb : ins = 1 → -1 ≤ mx (S (c * 4)) j ∧ mx (S (c * 4)) j ≤ 999 := fun h9 => by
        obtain ⟨b1, b2, b3, b4⟩ := c3 h9
        have := mx_na b4 b2 b3
        exact ⟨this.2.1, this.2.2.1⟩
      have a47 : ins = 1 → mx (S (c * 4)) j ≠ -1 → ¬ (mx (S (c * 4)) j = 999 ∧ w = 2 ∧ mi = 0) → f_X6_accept fu M1 = f_X6_accept_J47 fu (mx (S (c * 4)) j) M1 := by
        intro h9 h8 h7
        unfold f_X6_accept
        rw [gr h9, cal_some, if_neg h8]
        by_cases d1 : mx (S (c * 4)) j = 999
        · rw [if_pos d1, t4]
          by_cases d2 : w = 2
          · rw [if_pos d2, S1.2.2.1, if_neg (fun d3 => h7 ⟨d1, d2, d3⟩)]
          · rw [if_neg d2]
        · rw [if_neg d1]
      rcases h with ⟨a1, a2, a3⟩ | ⟨a1, a2, a3⟩ | ⟨a1, a2, a3, a4⟩ | ⟨a1, a2, a3, a4, a5⟩ | ⟨a1, a2, a3, a4, a5⟩ | ⟨a1, a2, a3, a4, a5⟩ | ⟨a1, a2, a3, a4, a5⟩ | ⟨a1, a2, a3, a4, a5, a6⟩ | ⟨a1, a2, a3, a4, a5, a6⟩ | ⟨a1, a2, a3, a4, a5⟩ | ⟨a1, a2, a3, a4, a5⟩
      · rw [ind_f (by omega), if_pos rfl]
        unfold f_X6_parse_J79
        rw [if_pos (z0 a2)]
        subst a3
        exact ⟨M1, rfl, g6, g7, fun _ => ⟨S1.1, S1.2.2.2.2⟩, u1⟩
      · rw [ind_f (by omega), if_pos rfl]
        unfold f_X6_parse_J79
        rw [if_neg (z1 a2), fail_C, cal_some, if_pos rfl]
        exact er t2 (frV_refl _) (by decide) a3
      · rw [ind_t a2, if_neg (by decide), if_pos (z0 a1)]
        unfold f_X6_open
        rw [t4, if_neg (by omega), cal_some, K59_err _ _ (by decide)]
        exact er t2 (frV_refl _) (by decide) a4
      · rw [ind_t a2, if_neg (by decide), if_pos (z0 a1)]
        unfold f_X6_open
        rw [t4, if_pos a3, S1.1, if_neg (by omega), cal_some, K59_err _ _ (by decide)]
        exact er t2 (frV_refl _) (by decide) a5
      · rw [ind_t a2, if_neg (by decide), if_pos (z0 a1)]
        unfold f_X6_open
        rw [t4, if_pos a3, S1.1, if_pos a4, grd_pos (by omega), put_in (by omega) (by omega), cal_some, grd_pos (by decide), cal_some, K59_ok _ (by omega)]
        have er2 : ∀ i, 0 ≤ i → rd (up (up (up M1 49 (c * 4).toNat w) 48 2 1) 48 4 0) i = fset (rd M1) (c * 4) w i := fun i hi => by
          show up (up (up M1 49 (c * 4).toNat w) 48 2 1) 48 4 0 49 i.toNat = _
          rw [up_cell _ _ (by decide), up_cell _ _ (by decide), up_toNat (by omega) hi]
          rfl
        exact go a2 a5 ⟨by rw [up_at (Or.inr (by decide)), up_at (Or.inr (by decide)), up_cell _ _ (by decide)]; exact S1.1, by rw [up_at (Or.inr (by decide)), up_same], by rw [up_at (Or.inr (by decide)), up_at (Or.inr (by decide)), up_cell _ _ (by decide), S1.2.2.1]; exact c2 a1, fun _ => ⟨up_same _ _ _ _, cur_congr c0 er2 cur_word⟩, gR_congr er2 (gR_set S1.2.2.2.2 (Int.le_refl _))⟩ (by rw [up_cell _ _ (by decide), up_cell _ _ (by decide), up_cell _ _ (by decide)]) (frV_trans (frV_up (by decide)) (frV_trans (frV_up (by decide)) (frV_up (by decide)))) c0 c1 (fun h9 => by omega) (fun _ => ⟨a4, Int.le_refl 0, by decide, by rw [fset_s]; omega⟩) (fun h9 => absurd rfl h9)
      · rw [ind_t a2, if_neg (by decide), if_neg (z1 a1)]
        unfold f_X6_accept
        rw [gr a1, cal_some, if_pos a3]
        unfold f_X6_close
        rw [if_neg (fun h9 => a4 ((k3 a2).1.mp h9)), cal_some, cal_some, K59_err _ _ (by decide)]
        exact er t2 (frV_refl _) (by decide) a5
      · obtain ⟨b1, b2, b3, b4⟩ := c3 a1
        have e5 : up M1 48 2 0 48 5 = c := by rw [up_at (Or.inr (by decide))]; exact S1.1
        rw [ind_t a2, if_neg (by decide), if_neg (z1 a1)]
        unfold f_X6_accept
        rw [gr a1, cal_some, if_pos a3]
        unfold f_X6_close
        rw [if_pos ((k3 a2).1.mpr a4), grd_pos (by decide), e5, grd_pos (by omega), cal_some, cal_some, K59_ok _ (by omega)]
        have e2 : rd (up (up M1 48 2 0) 48 5 (c + 1)) = rd M1 := by unfold rd; rw [up_cell _ _ (by decide), up_cell _ _ (by decide)]
        have mi0 : M1 48 3 = 0 := by rw [S1.2.2.1]; exact Classical.byContradiction fun h9 => by have := c4 h9; omega
        exact go a2 a5 ⟨up_same _ _ _ _, by rw [up_at (Or.inr (by decide)), up_same], by rw [up_at (Or.inr (by decide)), up_at (Or.inr (by decide))]; exact mi0, fun h9 => absurd h9 (by decide), by rw [e2]; exact gR_close S1.2.2.2.2 (S1.2.2.2.1 a1).2 ((mx_na b4 b2 b3).1.mp a3)⟩ (by rw [up_cell _ _ (by decide), up_cell _ _ (by decide)]) (frV_trans (frV_up (by decide)) (frV_up (by decide))) (by omega) (by omega) (fun _ => rfl) (fun h9 => absurd h9 (by decide)) (fun h9 => absurd rfl h9)
      · rw [ind_t a2, if_neg (by decide), if_neg (z1 a1)]
        unfold f_X6_accept
        rw [gr a1, cal_some, if_neg (by omega), if_pos a3, t4, if_pos a4, S1.2.2.1, if_pos a5, grd_pos (by decide), cal_some, K59_ok _ (by omega)]
        have e2 : rd (up M1 48 3 1) = rd M1 := by unfold rd; rw [up_cell _ _ (by decide)]
        exact go a2 a6 ⟨by rw [up_at (Or.inr (by decide))]; exact S1.1, by rw [up_at (Or.inr (by decide)), S1.2.1]; exact a1, up_same _ _ _ _, fun _ => ⟨by rw [up_at (Or.inr (by decide))]; exact (S1.2.2.2.1 a1).1, by rw [e2]; exact (S1.2.2.2.1 a1).2⟩, by rw [e2]; exact S1.2.2.2.2⟩ (up_cell _ _ (by decide)) (frV_up (by decide)) c0 c1 (fun h9 => by omega) (fun _ => c3 a1) (fun _ => a3)
      · rw [ind_t a2, if_neg (by decide), if_neg (z1 a1), a47 a1 a3 a4]
        unfold f_X6_accept_J47
        rw [if_neg (fun h9 => a5 ((k3 a2).2.mp h9)), cal_some, K59_err _ _ (by decide)]
        exact er t2 (frV_refl _) (by decide) a6
      · have hk : k ≠ 0 := by omega
        have hw : w ≠ 2 := by omega
        rw [ind_t hk, if_neg (by decide), if_neg (z1 a1), a47 a1 a3 (fun h9 => hw h9.2.1)]
        unfold f_X6_accept_J47
        rw [if_pos ((k3 hk).2.mpr a2), t5 a2, if_neg (by omega), cal_some, K59_err _ _ (by decide)]
        exact er t2 (frV_refl _) (by decide) a5
      · have hk : k ≠ 0 := by omega
        have hw : w ≠ 2 := by omega
        obtain ⟨b1, b2, b3, b4⟩ := c3 a1
        have hj : j < 3 := by
          by_cases hj : 3 ≤ j
          · exact absurd (show mx (S (c * 4)) j = -1 from if_pos hj) a3
          · omega
        rw [ind_t hk, if_neg (by decide), if_neg (z1 a1), a47 a1 a3 (fun h9 => hw h9.2.1)]
        unfold f_X6_accept_J47
        subst a1
        obtain ⟨M2, q1, q2, q3, q4⟩ := ckeep_C (fu := fu) S1 c0 b1 b2 hj (tp.2.2.2.2.2.2.2.2.2.2 a2)
        rw [if_pos ((k3 hk).2.mpr a2), t5 a2, if_pos a4, q1, cal_some, cal_some, K59_ok _ (by omega)]
        exact go hk a5 q2 q3 q4 c0 c1 (fun h9 => by omega) (fun _ => ⟨b1, by omega, by omega, by rw [fset_o (by omega)]; exact b4⟩) (fun h9 => absurd rfl h9)
end Scr
