/-! the model's tokens -/
section MTok
variable {fu : Nat}
def tM (M : Mem) (k s e w v : Int) : Prop := M 52 16 = s ∧ M 52 17 = e ∧ (M 52 18 = k ∨ (k = 1 ∧ w = 0 ∧ M 52 18 = 4)) ∧ (k = 2 → M 52 19 = v)
def frA (M M' : Mem) : Prop := (∀ q, q ≠ 52 → M' q = M q) ∧ ∀ i, i < 16 ∨ 20 ≤ i → M' 52 i = M 52 i
theorem frA_refl (M : Mem) : frA M M := ⟨fun _ _ => rfl, fun _ _ => rfl⟩
theorem frA_trans {M M' M2 : Mem} (h : frA M M') (h2 : frA M' M2) : frA M M2 := ⟨fun q h3 => by rw [h2.1 q h3, h.1 q h3], fun i hi => by rw [h2.2 i hi, h.2 i hi]⟩
theorem frA_up {M : Mem} {i : Nat} {x : Int} (hi : 16 ≤ i) (hi2 : i < 20) : frA M (up M 52 i x) := ⟨fun q hq => up_cell _ _ hq, fun j hj => up_at (Or.inr (by omega))⟩
theorem iM_52 {M M' : Mem} {T : TX} (h : iM M T) (f : frA M M') : iM M' T := by
  obtain ⟨g1, g2, g3, g4⟩ := h
  exact ⟨by rw [f.2 13 (by decide)]; exact g1, g2, g3, fun i i0 i1 => by rw [f.1 61 (by decide)]; exact g4 i i0 i1⟩
theorem isLetter_M {M : Mem} {T : TX} (h : iM M T) {a : Int} (h0 : 0 ≤ a) (h1 : a < T.1) : f_X12_isLetter fu M a = some (M, ind (ltr (T.2 a))) := by
  obtain ⟨g1, g2, g3, g4⟩ := h
  obtain ⟨b1, b2⟩ := g4 a h0 h1
  unfold f_X12_isLetter
  rw [g1, if_neg (by omega), grd_pos (by omega), b1, isWithin_M, cal_some]
  have : (97 ≤ sb (T.2 a) ∧ sb (T.2 a) ≤ 122) ↔ ltr (T.2 a) := by
    unfold sb
    split <;> omega
  rw [ind_congr this]
  by_cases hl : ltr (T.2 a)
  · rw [ind_t hl, if_neg (by decide)]
  · rw [ind_f hl, if_pos rfl]
theorem isLetter_Mo {M : Mem} {T : TX} (h : iM M T) {a : Int} (h1 : T.1 ≤ a) : f_X12_isLetter fu M a = some (M, 0) := by
  unfold f_X12_isLetter
  rw [h.1, if_pos h1]
theorem isDigit_M {M : Mem} {T : TX} (h : iM M T) {a : Int} (h0 : 0 ≤ a) (h1 : a < T.1) : f_X12_isDigit fu M a = some (M, ind (dgt (T.2 a))) := by
  obtain ⟨g1, g2, g3, g4⟩ := h
  obtain ⟨b1, b2⟩ := g4 a h0 h1
  unfold f_X12_isDigit
  rw [g1, if_neg (by omega), grd_pos (by omega), b1, isWithin_M, cal_some]
  have : (48 ≤ sb (T.2 a) ∧ sb (T.2 a) ≤ 57) ↔ dgt (T.2 a) := by
    unfold sb
    split <;> omega
  rw [ind_congr this]
  by_cases hl : dgt (T.2 a)
  · rw [ind_t hl, if_neg (by decide)]
  · rw [ind_f hl, if_pos rfl]
theorem isDigit_Mo {M : Mem} {T : TX} (h : iM M T) {a : Int} (h1 : T.1 ≤ a) : f_X12_isDigit fu M a = some (M, 0) := by
  unfold f_X12_isDigit
  rw [h.1, if_pos h1]
theorem skip_M {T : TX} {s : Int} : ∀ (n : Nat) (p : Int) (M : Mem), iM M T → Run blk T p s → 0 ≤ p → M 52 16 = p → s - p < n → ∃ M', f_X12_advanceToken_L16 fu n M = f_X12_advanceToken_J68 fu M' ∧ M' 52 16 = s ∧ frA M M'
  | 0, p, M, h, r, h0, hp, hn => by have := r.1; omega
  | n + 1, p, M, h, r, h0, hp, hn => by
      have r1 := r.1
      have r2 := r.2.1
      have h6 := h.2.2.1
      rw [f_X12_advanceToken_L16, h.1, hp]
      by_cases hs : p = s
      · subst hs
        by_cases ht : p < T.1
        · obtain ⟨b1, b2⟩ := h.2.2.2 p h0 ht
          have nb := r.2.2.2 ht
          have n1 : ¬ sb (T.2 p) = 32 := by unfold sb; split <;> omega
          have n2 : ¬ sb (T.2 p) = 10 := by unfold sb; split <;> omega
          rw [if_neg (by omega), grd_pos (by omega), b1, if_neg n1, grd_pos (by omega), if_neg n2]
          exact ⟨M, rfl, hp, frA_refl M⟩
        · rw [if_pos (by omega)]
          exact ⟨M, rfl, hp, frA_refl M⟩
      · obtain ⟨b, r'⟩ := run_next r (by omega)
        obtain ⟨b1, b2⟩ := h.2.2.2 p h0 (by omega)
        obtain ⟨M', e1, e2, e3⟩ := skip_M n (p + 1) (up M 52 16 (p + 1)) (iM_52 h (frA_up (by decide) (by decide))) r' (by omega) (up_same _ _ _ _) (by omega)
        have j : f_X12_advanceToken_J55 fu (f_X12_advanceToken_L16 fu n) M = f_X12_advanceToken_J68 fu M' := by
          unfold f_X12_advanceToken_J55
          rw [hp, grd_pos (by omega)]
          exact e1
        refine ⟨M', ?_, e2, frA_trans (frA_up (by decide) (by decide)) e3⟩
        rw [if_neg (by omega), grd_pos (by omega), b1, grd_pos (by omega), j]
        by_cases c : sb (T.2 p) = 32
        · rw [if_pos c]
        · have c2 : sb (T.2 p) = 10 := by
            unfold sb at c ⊢
            split <;> split at c <;> omega
          rw [if_neg c, if_pos c2]
theorem word_M {T : TX} {s e : Int} : ∀ (n : Nat) (p : Int) (M : Mem), iM M T → Run ltr T p e → 0 ≤ s → s ≤ p → M 52 17 = p → M 52 16 = s → e - p < n → ∃ M', f_X12_advanceToken_L106 fu n M = some (M', 0) ∧ M' 52 16 = s ∧ M' 52 17 = e ∧ M' 52 18 = (if e - s ≤ 8 then 1 else 4) ∧ frA M M'
  | 0, p, M, h, r, h0, h1, hp, h2, hn => by have := r.1; omega
  | n + 1, p, M, h, r, h0, h1, hp, h2, hn => by
      have r1 := r.1
      have r2 := r.2.1
      have h6 := h.2.2.1
      rw [f_X12_advanceToken_L106, hp]
      by_cases hs : p = e
      · subst hs
        have q : f_X12_isLetter fu M p = some (M, 0) := by
          by_cases ht : p < T.1
          · rw [isLetter_M h (by omega) ht, ind_f (r.2.2.2 ht)]
          · exact isLetter_Mo h (by omega)
        rw [q, cal_some, if_pos rfl, hp, h2, grd_pos (by omega)]
        by_cases c : p - s ≤ 8
        · rw [if_pos c, if_pos c]
          exact ⟨_, rfl, by rw [up_at (Or.inr (by decide))]; exact h2, by rw [up_at (Or.inr (by decide))]; exact hp, up_same _ _ _ _, frA_up (by decide) (by decide)⟩
        · rw [if_neg c, if_neg c]
          exact ⟨_, rfl, by rw [up_at (Or.inr (by decide))]; exact h2, by rw [up_at (Or.inr (by decide))]; exact hp, up_same _ _ _ _, frA_up (by decide) (by decide)⟩
      · obtain ⟨b, r'⟩ := run_next r (by omega)
        rw [isLetter_M h (by omega) (by omega), cal_some, ind_t b, if_neg (by decide), hp, grd_pos (by omega)]
        obtain ⟨M', e1, e2, e3, e4, e5⟩ := word_M n (p + 1) (up M 52 17 (p + 1)) (iM_52 h (frA_up (by decide) (by decide))) r' h0 (by omega) (up_same _ _ _ _) (by rw [up_at (Or.inr (by decide))]; exact h2) (by omega)
        exact ⟨M', e1, e2, e3, e4, frA_trans (frA_up (by decide) (by decide)) e5⟩
theorem num_M {T : TX} {s e : Int} (h0s : 0 ≤ s) (hD : ∀ i, s ≤ i → i < e → dgt (T.2 i)) : ∀ (n : Nat) (p : Int) (M : Mem), iM M T → Run dgt T p e → s ≤ p → M 52 17 = p → M 52 16 = s → (p - s ≤ 3 → M 52 19 = nvT T s (p - s).toNat) → e - p < n → ∃ M', f_X12_advanceToken_L172 fu n M = some (M', 0) ∧ M' 52 16 = s ∧ M' 52 17 = e ∧ M' 52 18 = (if e - s ≤ 3 then 2 else 4) ∧ (e - s ≤ 3 → M' 52 19 = nvT T s (e - s).toNat) ∧ frA M M'
  | 0, p, M, h, r, h1, hp, h2, h5, hn => by have := r.1; omega
  | n + 1, p, M, h, r, h1, hp, h2, h5, hn => by
      have r1 := r.1
      have r2 := r.2.1
      have h6 := h.2.2.1
      rw [f_X12_advanceToken_L172, hp]
      by_cases hs : p = e
      · subst hs
        have q : f_X12_isDigit fu M p = some (M, 0) := by
          by_cases ht : p < T.1
          · rw [isDigit_M h (by omega) ht, ind_f (r.2.2.2 ht)]
          · exact isDigit_Mo h (by omega)
        rw [q, cal_some, if_pos rfl, hp, h2, grd_pos (by omega)]
        by_cases c : p - s ≤ 3
        · rw [if_pos c, if_pos c]
          exact ⟨_, rfl, by rw [up_at (Or.inr (by decide))]; exact h2, by rw [up_at (Or.inr (by decide))]; exact hp, up_same _ _ _ _, fun h9 => by rw [up_at (Or.inr (by decide))]; exact h5 h9, frA_up (by decide) (by decide)⟩
        · rw [if_neg c, if_neg c]
          exact ⟨_, rfl, by rw [up_at (Or.inr (by decide))]; exact h2, by rw [up_at (Or.inr (by decide))]; exact hp, up_same _ _ _ _, fun h9 => absurd h9 c, frA_up (by decide) (by decide)⟩
      · obtain ⟨b, r'⟩ := run_next r (by omega)
        obtain ⟨b1, b2⟩ := h.2.2.2 p (by omega) (by omega)
        have sd : sb (T.2 p) = T.2 p := by unfold sb; rw [if_pos (by omega)]
        have j : ∀ y, (p + 1 - s ≤ 3 → y = nvT T s (p + 1 - s).toNat) → ∃ M', f_X12_advanceToken_J224 fu (f_X12_advanceToken_L172 fu n) y M = some (M', 0) ∧ M' 52 16 = s ∧ M' 52 17 = e ∧ M' 52 18 = (if e - s ≤ 3 then 2 else 4) ∧ (e - s ≤ 3 → M' 52 19 = nvT T s (e - s).toNat) ∧ frA M M' := by
          intro y hy
          have e1 : up M 52 19 y 52 17 = p := by rw [up_at (Or.inr (by decide))]; exact hp
          unfold f_X12_advanceToken_J224
          rw [e1, grd_pos (by omega)]
          have ff : frA M (up (up M 52 19 y) 52 17 (p + 1)) := frA_trans (frA_up (by decide) (by decide)) (frA_up (by decide) (by decide))
          obtain ⟨M', e1, e2, e3, e4, e5, e6⟩ := num_M h0s hD n (p + 1) (up (up M 52 19 y) 52 17 (p + 1)) (iM_52 h ff) r' (by omega) (up_same _ _ _ _) (by rw [up_at (Or.inr (by decide)), up_at (Or.inr (by decide))]; exact h2) (fun h9 => by rw [up_at (Or.inr (by decide)), up_same]; exact hy h9) (by omega)
          exact ⟨M', e1, e2, e3, e4, e5, frA_trans ff e6⟩
        rw [isDigit_M h (by omega) (by omega), cal_some, ind_t b, if_neg (by decide), hp, h2, grd_pos (by omega)]
        by_cases c : 3 ≤ p - s
        · rw [if_pos c]
          exact j _ (fun h9 => by omega)
        · have e2 : (p + 1 - s).toNat = (p - s).toNat + 1 := by omega
          have e3 : s + ((p - s).toNat : Int) = p := by omega
          have e4 := nvT_3 (T := T) (s := s) (n := (p - s).toNat) (by omega) (fun i i0 i1 => hD i i0 (by omega))
          rw [if_neg c, grd_pos (by omega), b1, sd, h5 (by omega), grd_pos (by omega)]
          refine j _ (fun h9 => ?_)
          rw [e2]
          show _ = nvT T s (p - s).toNat * 10 + T.2 (s + ((p - s).toNat : Int)) - 48
          rw [e3]
          omega
theorem advanceToken_M {M : Mem} {T : TX} {p k s e w v : Int} (h : iM M T) (hc : M 52 20 = 0) (hp : M 52 17 = p) (h0 : 0 ≤ p) (t : Tk T p k s e w v) (hfu : 1000 ≤ fu) : ∃ M', f_X12_advanceToken fu M = some (M', 0) ∧ tM M' k s e w v ∧ frA M M' := by
  have h6 := h.2.2.1
  have b1 := t.1.1
  have b2 := t.1.2.1
  unfold f_X12_advanceToken
  rw [hc, if_pos (by decide), hp]
  obtain ⟨M1, e1, m1, f1⟩ := skip_M (fu := fu) fu p (up M 52 16 p) (iM_52 h (frA_up (by decide) (by decide))) t.1 h0 (up_same _ _ _ _) (by omega)
  rw [e1]
  have f2 : frA M (up M1 52 17 (M1 52 16)) := frA_trans (frA_trans (frA_up (by decide) (by decide)) f1) (frA_up (by decide) (by decide))
  unfold f_X12_advanceToken_J68
  have n1 : up M1 52 17 (M1 52 16) 52 16 = s := by rw [up_at (Or.inr (by decide))]; exact m1
  have n2 : up M1 52 17 (M1 52 16) 52 17 = s := by rw [up_same]; exact m1
  have i2 := iM_52 h f2
  generalize up M1 52 17 (M1 52 16) = M2 at n1 n2 f2 i2 ⊢
  rw [n1, i2.1]
  have j9 : ∀ (y : Int), f_X12_advanceToken_J285 fu y M2 = some (up (up M2 52 18 y) 52 17 (s + 1), 0) ∧ up (up M2 52 18 y) 52 17 (s + 1) 52 16 = s ∧ up (up M2 52 18 y) 52 17 (s + 1) 52 17 = s + 1 ∧ up (up M2 52 18 y) 52 17 (s + 1) 52 18 = y ∧ frA M (up (up M2 52 18 y) 52 17 (s + 1)) := by
    intro y
    have a1 : up M2 52 18 y 52 17 = s := by rw [up_at (Or.inr (by decide))]; exact n2
    refine ⟨?_, by rw [up_at (Or.inr (by decide)), up_at (Or.inr (by decide))]; exact n1, up_same _ _ _ _, by rw [up_at (Or.inr (by decide)), up_same], frA_trans f2 (frA_trans (frA_up (by decide) (by decide)) (frA_up (by decide) (by decide)))⟩
    unfold f_X12_advanceToken_J285
    rw [a1, grd_pos (by omega)]
  obtain ⟨-, t⟩ := t
  rcases t with ⟨t1, t2, t3, t4⟩ | ⟨t1, t2, t3, t4, t5⟩ | ⟨t1, t2, t3, t4, t5, t6, t7⟩ | ⟨t1, t2, t3, t4, t5⟩ | ⟨t1, t2, t3, t4⟩
  · rw [if_pos t2]
    exact ⟨_, rfl, ⟨by rw [up_at (Or.inr (by decide))]; exact n1, by rw [up_at (Or.inr (by decide)), t3]; exact n2, Or.inl (by rw [up_same, t1]), fun h9 => by omega⟩, frA_trans f2 (frA_up (by decide) (by decide))⟩
  · rw [if_neg (by omega), isLetter_M i2 (by omega) t2, cal_some, ind_t t3, if_neg (by decide)]
    have ts := t4.1
    have te := t4.2.1
    obtain ⟨M3, e3, m3, p3, k3, f3⟩ := word_M (fu := fu) fu s M2 i2 t4 (by omega) (Int.le_refl s) n2 n1 (by omega)
    refine ⟨M3, e3, ⟨m3, p3, ?_, fun h9 => by omega⟩, frA_trans f2 f3⟩
    by_cases c : e - s ≤ 8
    · rw [if_pos c] at k3
      exact Or.inl (by rw [k3, t1])
    · rw [if_neg c] at k3
      refine Or.inr ⟨t1, ?_, k3⟩
      obtain ⟨w0, w7, w9⟩ := t5
      by_cases hw : w = 0
      · exact hw
      · exfalso
        have q7 : (w - 1).toNat < 7 := by omega
        have := ((w9 (w - 1).toNat q7).mpr (by omega)).1
        have := slen_b (w - 1).toNat q7
        omega
  · have nl : ¬ ltr (T.2 s) := by omega
    rw [if_neg (by omega), isLetter_M i2 (by omega) t2, cal_some, ind_f nl, if_pos rfl, n1, isDigit_M i2 (by omega) t2, cal_some, ind_t t3, if_neg (by decide)]
    have ts := t4.1
    have te := t4.2.1
    have f9 : frA M2 (up M2 52 19 0) := frA_up (by decide) (by decide)
    obtain ⟨M3, e3, m3, p3, k3, v3, f3⟩ := num_M (fu := fu) (s := s) (e := e) (by omega) t4.2.2.1 fu s (up M2 52 19 0) (iM_52 i2 f9) t4 (Int.le_refl s) (by rw [up_at (Or.inr (by decide))]; exact n2) (by rw [up_at (Or.inr (by decide))]; exact n1) (fun _ => by rw [up_same, Int.sub_self]; rfl) (by omega)
    rw [if_pos t5] at k3
    exact ⟨M3, e3, ⟨m3, p3, Or.inl (by rw [k3, t1]), fun _ => by rw [t7]; exact v3 t5⟩, frA_trans f2 (frA_trans f9 f3)⟩
  · have nl : ¬ ltr (T.2 s) := by omega
    have nd : ¬ dgt (T.2 s) := by omega
    have b9 : sb (T.2 s) = 59 := by rw [t3]; rfl
    rw [if_neg (by omega), isLetter_M i2 (by omega) t2, cal_some, ind_f nl, if_pos rfl, n1, isDigit_M i2 (by omega) t2, cal_some, ind_f nd, if_pos rfl, n1, grd_pos (by omega), (i2.2.2.2 s (by omega) t2).1, if_pos b9]
    obtain ⟨q1, q2, q3, q4, q5⟩ := j9 3
    exact ⟨_, q1, ⟨q2, by rw [q3, t4], Or.inl (by rw [q4, t1]), fun h9 => by omega⟩, q5⟩
  · rcases t4 with ⟨u1, u2, u3⟩ | ⟨u1, u2, u3, u4⟩
    · have nl : ¬ ltr (T.2 s) := by omega
      rw [if_neg (by omega), isLetter_M i2 (by omega) t2, cal_some, ind_f nl, if_pos rfl, n1, isDigit_M i2 (by omega) t2, cal_some, ind_t u1, if_neg (by decide)]
      have ts := u2.1
      have te := u2.2.1
      have f9 : frA M2 (up M2 52 19 0) := frA_up (by decide) (by decide)
      obtain ⟨M3, e3, m3, p3, k3, v3, f3⟩ := num_M (fu := fu) (s := s) (e := e) (by omega) u2.2.2.1 fu s (up M2 52 19 0) (iM_52 i2 f9) u2 (Int.le_refl s) (by rw [up_at (Or.inr (by decide))]; exact n2) (by rw [up_at (Or.inr (by decide))]; exact n1) (fun _ => by rw [up_same, Int.sub_self]; rfl) (by omega)
      rw [if_neg (by omega)] at k3
      exact ⟨M3, e3, ⟨m3, p3, Or.inl (by rw [k3, t1]), fun h9 => by omega⟩, frA_trans f2 (frA_trans f9 f3)⟩
    · have hb := (i2.2.2.2 s (by omega) t2).2
      have b9 : ¬ sb (T.2 s) = 59 := by unfold sb; split <;> omega
      rw [if_neg (by omega), isLetter_M i2 (by omega) t2, cal_some, ind_f u1, if_pos rfl, n1, isDigit_M i2 (by omega) t2, cal_some, ind_f u2, if_pos rfl, n1, grd_pos (by omega), (i2.2.2.2 s (by omega) t2).1, if_neg b9]
      obtain ⟨q1, q2, q3, q4, q5⟩ := j9 4
      exact ⟨_, q1, ⟨q2, by rw [q3, u4], Or.inl (by rw [q4, t1]), fun h9 => by omega⟩, q5⟩
theorem advanceToken_e {M : Mem} (hc : 0 < M 52 20) : f_X12_advanceToken fu M = some (M, 0) := by
  unfold f_X12_advanceToken
  rw [if_neg (by omega)]
theorem isWord_M {M : Mem} {T : TX} {p k s e w v : Int} (h : iM M T) (hc : M 52 20 = 0) (h0 : 0 ≤ p) (t : Tk T p k s e w v) (m : tM M k s e w v) {q : Nat} (hq : q < 7) (hfu : 1000 ≤ fu) : f_X12_isWord fu M q = some (M, ind (w = q + 1)) := by
  have tp := tk_pos t
  have hb := slen_b q hq
  have h6 := h.2.2.1
  obtain ⟨m1, m2, m3, m4⟩ := m
  unfold f_X12_isWord
  rw [hc, if_neg (by decide)]
  by_cases hk : M 52 18 = 1
  · have hk1 : k = 1 := by omega
    rw [if_pos hk, m1, m2, grd_pos (by omega)]
    obtain ⟨-, t⟩ := t
    have hw : Wd T s e w := by
      rcases t with ⟨t1, t2, t3, t4⟩ | ⟨t1, t2, t3, t4, t5⟩ | ⟨t1, t2, t3, t4, t5, t6, t7⟩ | ⟨t1, t2, t3, t4, t5⟩ | ⟨t1, t2, t3, t4⟩
      · omega
      · exact t5
      · omega
      · omega
      · omega
    by_cases hl : e - s = slen q
    · rw [if_pos hl]
      have lp : ∀ (n : Nat) (x : Int), 0 ≤ x → x ≤ slen q → (∀ j, 0 ≤ j → j < x → T.2 (s + j) = schar q j.toNat) → slen q - x < n → f_X12_isWord_L35 fu q n x M = some (M, ind (w = q + 1)) := by
        intro n
        induction n with
        | zero => intro x x0 x1 hx hn; omega
        | succ n ih =>
          intro x x0 x1 hx hn
          rw [f_X12_isWord_L35]
          by_cases hx1 : slen q ≤ x
          · have : x = slen q := by omega
            subst this
            rw [if_pos hx1, ind_t ((hw.2.2 q hq).mp ⟨hl, hx⟩)]
          · obtain ⟨b1, b2⟩ := h.2.2.2 (s + x) (by omega) (by omega)
            have b3 := schar_ok (q := q) (by show q < 12; omega) (j := x) ⟨x0, by omega⟩
            have b4 : (sb (T.2 (s + x)) = schar q x.toNat) ↔ T.2 (s + x) = schar q x.toNat := by
              unfold sb
              split <;> omega
            rw [if_neg hx1, m1, grd_pos (by omega), grd_pos (by omega), grd_pos (by omega), b1]
            by_cases hc : T.2 (s + x) = schar q x.toNat
            · rw [if_pos (b4.mpr hc), grd_pos (by omega)]
              refine ih (x + 1) (by omega) (by omega) (fun j j0 j1 => ?_) (by omega)
              by_cases hj : j = x
              · rw [hj]; exact hc
              · exact hx j j0 (by omega)
            · rw [if_neg (fun h9 => hc (b4.mp h9)), ind_f (fun h9 => hc (((hw.2.2 q hq).mpr h9).2 x x0 (by omega)))]
      exact lp fu 0 (by decide) (by omega) (fun j j0 j1 => by omega) (by omega)
    · rw [if_neg hl, ind_f (fun h9 => hl ((hw.2.2 q hq).mpr h9).1)]
  · rw [if_neg hk, ind_f (by omega)]
theorem isWord_e {M : Mem} (hc : 0 < M 52 20) (q : Nat) : f_X12_isWord fu M q = some (M, 0) := by
  unfold f_X12_isWord
  rw [if_pos hc]
theorem expect_t {M : Mem} {a : Int} (x : Int) (h : a ≠ 0) : f_X12_expect fu M a x = some (M, 0) := by
  unfold f_X12_expect
  by_cases hc : M 52 20 = 0
  · rw [if_pos hc, if_neg h]
  · rw [if_neg hc]
theorem expect_e {M : Mem} {a : Int} (x : Int) (hc : 0 < M 52 20) : f_X12_expect fu M a x = some (M, 0) := by
  unfold f_X12_expect
  rw [if_neg (by omega)]
theorem expect_f {M : Mem} (x : Int) (hc : M 52 20 = 0) : f_X12_expect fu M 0 x = some (up (up M 52 20 x) 52 21 (M 52 16), 0) := by
  unfold f_X12_expect
  rw [if_pos hc, if_pos rfl, up_at (Or.inr (by decide))]
end MTok
