/-! tokens -/
abbrev ltr (x : Int) : Prop := 97 ≤ x ∧ x ≤ 122
abbrev dgt (x : Int) : Prop := 48 ≤ x ∧ x ≤ 57
abbrev blk (x : Int) : Prop := x = 32 ∨ x = 10
def Run (P : Int → Prop) (T : TX) (p e : Int) : Prop := p ≤ e ∧ e ≤ T.1 ∧ (∀ i, p ≤ i → i < e → P (T.2 i)) ∧ (e < T.1 → ¬ P (T.2 e))
theorem run_ex (P : Int → Prop) (T : TX) : ∀ (n : Nat) (p : Int), p ≤ T.1 → T.1 - p ≤ n → ∃ e, Run P T p e
  | 0, p, h, h0 => ⟨p, Int.le_refl p, h, fun i i0 i1 => by omega, fun h9 => by omega⟩
  | n + 1, p, h, h0 => by
      by_cases hp : p < T.1 ∧ P (T.2 p)
      · obtain ⟨e, r1, r2, r3, r4⟩ := run_ex P T n (p + 1) (by omega) (by omega)
        exact ⟨e, by omega, r2, fun i i0 i1 => by
          by_cases hi : i = p
          · rw [hi]; exact hp.2
          · exact r3 i (by omega) i1, r4⟩
      · exact ⟨p, Int.le_refl p, h, fun i i0 i1 => by omega, fun h9 h8 => hp ⟨h9, h8⟩⟩
theorem run_next {P : Int → Prop} {T : TX} {p e : Int} (h : Run P T p e) (hp : p < e) : P (T.2 p) ∧ Run P T (p + 1) e := by
  obtain ⟨r1, r2, r3, r4⟩ := h
  exact ⟨r3 p (Int.le_refl p) hp, by omega, r2, fun i i0 i1 => r3 i (by omega) i1, r4⟩
def nvT (T : TX) (s : Int) : Nat → Int
  | 0 => 0
  | n + 1 => nvT T s n * 10 + T.2 (s + n) - 48
theorem nvT_b {T : TX} {s : Int} : ∀ n : Nat, (∀ i, s ≤ i → i < s + n → dgt (T.2 i)) → 0 ≤ nvT T s n ∧ nvT T s n + 1 ≤ ((10 ^ n : Nat) : Int)
  | 0, _ => ⟨Int.le_refl 0, by show (0 : Int) + 1 ≤ _; decide⟩
  | n + 1, h => by
      obtain ⟨h1, h2⟩ := nvT_b n (fun i i0 i1 => h i i0 (by omega))
      have h3 := h (s + n) (by omega) (by omega)
      have h4 : (10 ^ (n + 1) : Nat) = 10 ^ n * 10 := Nat.pow_succ ..
      rw [h4]
      generalize (10 ^ n : Nat) = z at *
      show 0 ≤ nvT T s n * 10 + T.2 (s + n) - 48 ∧ nvT T s n * 10 + T.2 (s + n) - 48 + 1 ≤ _
      omega
theorem nvT_3 {T : TX} {s : Int} {n : Nat} (hn : n ≤ 3) (h : ∀ i, s ≤ i → i < s + n → dgt (T.2 i)) : 0 ≤ nvT T s n ∧ nvT T s n ≤ 999 := by
  obtain ⟨h1, h2⟩ := nvT_b n h
  have h3 : (10 ^ n : Nat) ≤ 10 ^ 3 := Nat.pow_le_pow_right (by decide) hn
  have h4 : (10 ^ 3 : Nat) = 1000 := by decide
  rw [h4] at h3
  generalize (10 ^ n : Nat) = z at *
  omega
def Sp (T : TX) (s e : Int) (q : Nat) : Prop := e - s = slen q ∧ ∀ j, 0 ≤ j → j < slen q → T.2 (s + j) = schar q j.toNat
def Wd (T : TX) (s e w : Int) : Prop := 0 ≤ w ∧ w ≤ 7 ∧ ∀ q : Nat, q < 7 → (Sp T s e q ↔ w = q + 1)
theorem slen_b : ∀ q : Nat, q < 7 → 3 ≤ slen q ∧ slen q ≤ 8 := by decide
theorem Sp_uniq {T : TX} {s e : Int} {q q' : Nat} (h : Sp T s e q) (h' : Sp T s e q') (hq : q < 7) (hq' : q' < 7) : q = q' := by
  have key : ∀ q : Nat, q < 7 → ∀ q' : Nat, q' < 7 → slen q = slen q' → q = q' ∨ schar q 0 ≠ schar q' 0 := by decide
  have hb := slen_b q hq
  have hb' := slen_b q' hq'
  rcases key q hq q' hq' (by rw [← h.1, ← h'.1]) with r | r
  · exact r
  · exact absurd ((h.2 0 (by decide) (by omega)).symm.trans (h'.2 0 (by decide) (by omega))) r
theorem wd_ex (T : TX) (s e : Int) : ∃ w, Wd T s e w := by
  by_cases h : ∃ q : Nat, q < 7 ∧ Sp T s e q
  · obtain ⟨q, hq, hs⟩ := h
    refine ⟨q + 1, by omega, by omega, fun q' hq' => ⟨fun h' => ?_, fun h' => ?_⟩⟩
    · rw [Sp_uniq hs h' hq hq']
    · have : q' = q := by omega
      rw [this]; exact hs
  · exact ⟨0, by decide, by decide, fun q hq => ⟨fun h' => absurd ⟨q, hq, h'⟩ h, fun h' => by omega⟩⟩
def Tk (T : TX) (p k s e w v : Int) : Prop := Run blk T p s ∧ ((k = 0 ∧ s = T.1 ∧ e = s ∧ w = 0) ∨ (k = 1 ∧ s < T.1 ∧ ltr (T.2 s) ∧ Run ltr T s e ∧ Wd T s e w) ∨ (k = 2 ∧ s < T.1 ∧ dgt (T.2 s) ∧ Run dgt T s e ∧ e - s ≤ 3 ∧ w = 0 ∧ v = nvT T s (e - s).toNat) ∨ (k = 3 ∧ s < T.1 ∧ T.2 s = 59 ∧ e = s + 1 ∧ w = 0) ∨ (k = 4 ∧ s < T.1 ∧ w = 0 ∧ ((dgt (T.2 s) ∧ Run dgt T s e ∧ 3 < e - s) ∨ (¬ ltr (T.2 s) ∧ ¬ dgt (T.2 s) ∧ T.2 s ≠ 59 ∧ e = s + 1))))
theorem run_pos {P : Int → Prop} {T : TX} {s e : Int} (h : Run P T s e) (h1 : s < T.1) (h2 : P (T.2 s)) : s < e := by
  obtain ⟨r1, r2, r3, r4⟩ := h
  by_cases he : s = e
  · subst he; exact absurd h2 (r4 h1)
  · omega
theorem tk_ex {T : TX} {p : Int} (hp : p ≤ T.1) : ∃ k s e w v, Tk T p k s e w v := by
  obtain ⟨s, hs⟩ := run_ex blk T (T.1 - p).toNat p hp (by omega)
  by_cases h1 : s < T.1
  · by_cases h2 : ltr (T.2 s)
    · obtain ⟨e, he⟩ := run_ex ltr T (T.1 - s).toNat s (by omega) (by omega)
      obtain ⟨w, hw⟩ := wd_ex T s e
      exact ⟨1, s, e, w, 0, hs, Or.inr (Or.inl ⟨rfl, h1, h2, he, hw⟩)⟩
    · by_cases h3 : dgt (T.2 s)
      · obtain ⟨e, he⟩ := run_ex dgt T (T.1 - s).toNat s (by omega) (by omega)
        by_cases h4 : e - s ≤ 3
        · exact ⟨2, s, e, 0, nvT T s (e - s).toNat, hs, Or.inr (Or.inr (Or.inl ⟨rfl, h1, h3, he, h4, rfl, rfl⟩))⟩
        · exact ⟨4, s, e, 0, 0, hs, Or.inr (Or.inr (Or.inr (Or.inr ⟨rfl, h1, rfl, Or.inl ⟨h3, he, by omega⟩⟩)))⟩
      · by_cases h4 : T.2 s = 59
        · exact ⟨3, s, s + 1, 0, 0, hs, Or.inr (Or.inr (Or.inr (Or.inl ⟨rfl, h1, h4, rfl, rfl⟩)))⟩
        · exact ⟨4, s, s + 1, 0, 0, hs, Or.inr (Or.inr (Or.inr (Or.inr ⟨rfl, h1, rfl, Or.inr ⟨h2, h3, h4, rfl⟩⟩)))⟩
  · have := hs.2.1
    exact ⟨0, s, s, 0, 0, hs, Or.inl ⟨rfl, by omega, rfl, rfl⟩⟩
theorem tk_pos {T : TX} {p k s e w v : Int} (t : Tk T p k s e w v) : p ≤ s ∧ s ≤ e ∧ e ≤ T.1 ∧ (k ≠ 0 → s < e) ∧ 0 ≤ k ∧ k ≤ 4 ∧ 0 ≤ w ∧ w ≤ 7 ∧ (w ≠ 0 → k = 1) ∧ (k = 0 → s = T.1) ∧ (k = 2 → 0 ≤ v ∧ v ≤ 999) := by
  obtain ⟨⟨b1, b2, b3, b4⟩, t⟩ := t
  rcases t with ⟨t1, t2, t3, t4⟩ | ⟨t1, t2, t3, t4, t5⟩ | ⟨t1, t2, t3, t4, t5, t6, t7⟩ | ⟨t1, t2, t3, t4, t5⟩ | ⟨t1, t2, t3, t4⟩
  · omega
  · have := run_pos t4 t2 t3
    have := t4.2.1
    have := t5.1
    have := t5.2.1
    omega
  · have h1 := run_pos t4 t2 t3
    have h2 := t4.2.1
    have h3 := nvT_3 (T := T) (s := s) (n := (e - s).toNat) (by omega) (fun i i0 i1 => t4.2.2.1 i i0 (by omega))
    rw [← t7] at h3
    omega
  · omega
  · rcases t4 with ⟨u1, u2, u3⟩ | ⟨u1, u2, u3, u4⟩
    · have := u2.2.1
      omega
    · omega
section Tok
variable {fu : Nat}
/-! the class's tokens -/
theorem byteAt_C {M : Mem} {T : TX} (h : iC M T) {a : Int} (h0 : 0 ≤ a) (h1 : a < T.1) : f_X2_byteAt fu M a = some (M, T.2 a) := by
  obtain ⟨g1, g2, g3, g4⟩ := h
  unfold f_X2_byteAt
  rw [g1, if_neg (by omega), if_neg (by omega), if_neg (by omega), grd_pos (by omega), (g4 a h0 h1).1]
theorem byteAt_out {M : Mem} {T : TX} (h : iC M T) {a : Int} (h0 : 0 ≤ a) (h1 : T.1 ≤ a) : f_X2_byteAt fu M a = some (M, -1) := by
  obtain ⟨g1, g2, g3, g4⟩ := h
  unfold f_X2_byteAt
  rw [g1, if_neg (by omega), if_pos h1]
theorem isLetter_C {M : Mem} (x : Int) : f_X9_isLetter fu M x = some (M, ind (ltr x)) := by
  unfold f_X9_isLetter ind
  split
  · rw [if_neg (by omega)]
  · split
    · rw [if_neg (by omega)]
    · rw [if_pos (by omega)]
theorem isDigit_C {M : Mem} (x : Int) : f_X9_isDigit fu M x = some (M, ind (dgt x)) := by
  unfold f_X9_isDigit ind
  split
  · rw [if_neg (by omega)]
  · split
    · rw [if_neg (by omega)]
    · rw [if_pos (by omega)]
theorem isBlank_C {M : Mem} (x : Int) : f_X9_isBlank fu M x = some (M, ind (blk x)) := by
  unfold f_X9_isBlank ind
  split
  · rw [if_pos (by omega)]
  · split
    · rw [if_pos (by omega)]
    · rw [if_neg (by omega)]
def frTk (M M' : Mem) : Prop := (∀ q, q ≠ 45 → M' q = M q) ∧ ∀ i, 6 ≤ i → M' 45 i = M 45 i
def frL (M M' : Mem) : Prop := (∀ q, q ≠ 45 → M' q = M q) ∧ ∀ i, i ≠ 1 → i ≠ 5 → M' 45 i = M 45 i
theorem frL_refl (M : Mem) : frL M M := ⟨fun _ _ => rfl, fun _ _ _ => rfl⟩
theorem frL_trans {M M' M2 : Mem} (h : frL M M') (h2 : frL M' M2) : frL M M2 := ⟨fun q h3 => by rw [h2.1 q h3, h.1 q h3], fun i hi h4 => by rw [h2.2 i hi h4, h.2 i hi h4]⟩
theorem frTk_trans {M M' M2 : Mem} (h : frTk M M') (h2 : frTk M' M2) : frTk M M2 := ⟨fun q h3 => by rw [h2.1 q h3, h.1 q h3], fun i hi => by rw [h2.2 i hi, h.2 i hi]⟩
theorem frL_Tk {M M' : Mem} (h : frL M M') : frTk M M' := ⟨h.1, fun i hi => h.2 i (by omega) (by omega)⟩
theorem frTk_up {M : Mem} {i : Nat} {x : Int} (hi : i < 6) : frTk M (up M 45 i x) := ⟨fun q hq => up_cell _ _ hq, fun j hj => up_at (Or.inr (by omega))⟩
theorem frL_1 {M : Mem} {x : Int} : frL M (up M 45 1 x) := ⟨fun q hq => up_cell _ _ hq, fun j hj _ => up_at (Or.inr hj)⟩
theorem frL_5 {M : Mem} {x : Int} : frL M (up M 45 5 x) := ⟨fun q hq => up_cell _ _ hq, fun j _ hj => up_at (Or.inr hj)⟩
theorem iC_45 {M M' : Mem} {T : TX} (h : iC M T) (f : ∀ q, q ≠ 45 → M' q = M q) : iC M' T := by
  obtain ⟨g1, g2, g3, g4⟩ := h
  exact ⟨by rw [f 43 (by decide)]; exact g1, g2, g3, fun i i0 i1 => by rw [f 44 (by decide)]; exact g4 i i0 i1⟩
theorem skip_C {T : TX} {s : Int} : ∀ (n : Nat) (p : Int) (M : Mem), iC M T → Run blk T p s → 0 ≤ p → M 45 1 = p → s - p < n → ∃ M', f_X9_advance_L0 fu n M = f_X9_advance_J44 fu M' ∧ M' 45 1 = s ∧ frL M M'
  | 0, p, M, h, r, h0, hp, hn => by have := r.1; omega
  | n + 1, p, M, h, r, h0, hp, hn => by
      have r1 := r.1
      have r2 := r.2.1
      have h6 := h.2.2.1
      rw [f_X9_advance_L0, h.1, hp]
      by_cases hs : p = s
      · subst hs
        by_cases ht : p < T.1
        · rw [if_neg (by omega), byteAt_C h h0 ht, cal_some, isBlank_C, cal_some, ind_f (r.2.2.2 ht), if_pos rfl]
          exact ⟨M, rfl, hp, frL_refl M⟩
        · rw [if_pos (by omega)]
          exact ⟨M, rfl, hp, frL_refl M⟩
      · obtain ⟨b, r'⟩ := run_next r (by omega)
        rw [if_neg (by omega), byteAt_C h h0 (by omega), cal_some, isBlank_C, cal_some, ind_t b, if_neg (by decide), hp, grd_pos (by omega)]
        obtain ⟨M', e1, e2, e3⟩ := skip_C n (p + 1) (up M 45 1 (p + 1)) (iC_45 h frL_1.1) r' (by omega) (up_same _ _ _ _) (by omega)
        exact ⟨M', e1, e2, frL_trans frL_1 e3⟩
theorem word_C {T : TX} {s : Int} : ∀ (n : Nat) (p : Int) (M : Mem), iC M T → Run ltr T p s → 0 ≤ p → M 45 1 = p → s - p < n → ∃ M', f_X9_readWord_L0 fu n M = f_X9_readWord_J44 fu M' ∧ M' 45 1 = s ∧ frL M M'
  | 0, p, M, h, r, h0, hp, hn => by have := r.1; omega
  | n + 1, p, M, h, r, h0, hp, hn => by
      have r1 := r.1
      have r2 := r.2.1
      have h6 := h.2.2.1
      rw [f_X9_readWord_L0, h.1, hp]
      by_cases hs : p = s
      · subst hs
        by_cases ht : p < T.1
        · rw [if_neg (by omega), byteAt_C h h0 ht, cal_some, isLetter_C, cal_some, ind_f (r.2.2.2 ht), if_pos rfl]
          exact ⟨M, rfl, hp, frL_refl M⟩
        · rw [if_pos (by omega)]
          exact ⟨M, rfl, hp, frL_refl M⟩
      · obtain ⟨b, r'⟩ := run_next r (by omega)
        rw [if_neg (by omega), byteAt_C h h0 (by omega), cal_some, isLetter_C, cal_some, ind_t b, if_neg (by decide), hp, grd_pos (by omega)]
        obtain ⟨M', e1, e2, e3⟩ := word_C n (p + 1) (up M 45 1 (p + 1)) (iC_45 h frL_1.1) r' (by omega) (up_same _ _ _ _) (by omega)
        exact ⟨M', e1, e2, frL_trans frL_1 e3⟩
theorem w32_id {x : Int} (h : rng x) : w32 x = x := by
  obtain ⟨h1, h2⟩ := h
  unfold w32
  rw [Int.bmod_def]
  split <;> omega
theorem num_C {T : TX} {s e : Int} (h0s : 0 ≤ s) (hD : ∀ i, s ≤ i → i < e → dgt (T.2 i)) : ∀ (n : Nat) (p : Int) (M : Mem), iC M T → Run dgt T p e → s ≤ p → M 45 1 = p → M 45 2 = s → (p - s ≤ 3 → M 45 5 = nvT T s (p - s).toNat) → e - p < n → ∃ M', f_X9_readNumber_L5 fu n M = f_X9_readNumber_J75 fu M' ∧ M' 45 1 = e ∧ (e - s ≤ 3 → M' 45 5 = nvT T s (e - s).toNat) ∧ frL M M'
  | 0, p, M, h, r, h0, hp, h2, h5, hn => by have := r.1; omega
  | n + 1, p, M, h, r, h0, hp, h2, h5, hn => by
      have r1 := r.1
      have r2 := r.2.1
      have h6 := h.2.2.1
      rw [f_X9_readNumber_L5, h.1, hp]
      by_cases hs : p = e
      · subst hs
        by_cases ht : p < T.1
        · rw [if_neg (by omega), byteAt_C h (by omega) ht, cal_some, isDigit_C, cal_some, ind_f (r.2.2.2 ht), if_pos rfl]
          exact ⟨M, rfl, hp, h5, frL_refl M⟩
        · rw [if_pos (by omega)]
          exact ⟨M, rfl, hp, h5, frL_refl M⟩
      · obtain ⟨b, r'⟩ := run_next r (by omega)
        rw [if_neg (by omega), byteAt_C h (by omega) (by omega), cal_some, isDigit_C, cal_some, ind_t b, if_neg (by decide), hp, byteAt_C h (by omega) (by omega), cal_some]
        have e1 : ∀ x, up M 45 5 x 45 1 = p := fun x => by rw [up_at (Or.inr (by decide))]; exact hp
        rw [e1, grd_pos (by omega)]
        have h5' : p + 1 - s ≤ 3 → w32 (M 45 5 * 10 + T.2 p - 48) = nvT T s (p + 1 - s).toNat := by
          intro h3
          have e2 : (p + 1 - s).toNat = (p - s).toNat + 1 := by omega
          have e3 : s + ((p - s).toNat : Int) = p := by omega
          have e4 := nvT_3 (T := T) (s := s) (n := (p - s).toNat) (by omega) (fun i i0 i1 => hD i i0 (by omega))
          rw [e2, h5 (by omega)]
          show _ = nvT T s (p - s).toNat * 10 + T.2 (s + ((p - s).toNat : Int)) - 48
          rw [e3]
          exact w32_id ⟨by omega, by omega⟩
        obtain ⟨M', e1, e2, e4, e3⟩ := num_C h0s hD n (p + 1) (up (up M 45 5 (w32 (M 45 5 * 10 + T.2 p - 48))) 45 1 (p + 1)) (iC_45 h (frL_trans frL_5 frL_1).1) r' (by omega) (up_same _ _ _ _) (by rw [up_at (Or.inr (by decide)), up_at (Or.inr (by decide))]; exact h2) (fun h3 => by rw [up_at (Or.inr (by decide)), up_same]; exact h5' h3) (by omega)
        exact ⟨M', e1, e2, e4, frL_trans (frL_trans frL_5 frL_1) e3⟩
theorem spells_C {M : Mem} {T : TX} {s e w : Int} (h : iC M T) (h1 : M 45 1 = e) (h2 : M 45 2 = s) (h0 : 0 ≤ s) (hse : s ≤ e) (he : e ≤ T.1) (hw : Wd T s e w) {q : Nat} (hq : q < 7) (hfu : 1000 ≤ fu) : f_X9_spells fu M q = some (M, ind (w = q + 1)) := by
  have h6 := h.2.2.1
  have hb := slen_b q hq
  unfold f_X9_spells
  rw [h1, h2, grd_pos (by omega)]
  by_cases hl : e - s = slen q
  · rw [if_pos hl]
    have lp : ∀ (n : Nat) (x : Int), 0 ≤ x → x ≤ slen q → (∀ j, 0 ≤ j → j < x → T.2 (s + j) = schar q j.toNat) → slen q - x < n → f_X9_spells_L20 fu q n x M = some (M, ind (w = q + 1)) := by
      intro n
      induction n with
      | zero => intro x x0 x1 hx hn; omega
      | succ n ih =>
        intro x x0 x1 hx hn
        rw [f_X9_spells_L20]
        by_cases hx1 : slen q ≤ x
        · have : x = slen q := by omega
          subst this
          rw [if_pos hx1, ind_t ((hw.2.2 q hq).mp ⟨hl, hx⟩)]
        · rw [if_neg hx1, h2, grd_pos (by omega), byteAt_C h (by omega) (by omega), cal_some, grd_pos (by omega)]
          by_cases hc : T.2 (s + x) = schar q x.toNat
          · rw [if_pos hc, grd_pos (by omega)]
            refine ih (x + 1) (by omega) (by omega) (fun j j0 j1 => ?_) (by omega)
            by_cases hj : j = x
            · rw [hj]; exact hc
            · exact hx j j0 (by omega)
          · rw [if_neg hc, ind_f (fun h9 => hc (((hw.2.2 q hq).mpr h9).2 x x0 (by omega)))]
    exact lp fu 0 (by decide) (by omega) (fun j j0 j1 => by omega) (by omega)
  · rw [if_neg hl, ind_f (fun h9 => hl ((hw.2.2 q hq).mpr h9).1)]
theorem knownWord_C {M : Mem} {T : TX} {s e w : Int} (h : iC M T) (h1 : M 45 1 = e) (h2 : M 45 2 = s) (h0 : 0 ≤ s) (hse : s ≤ e) (he : e ≤ T.1) (hw : Wd T s e w) (hfu : 1000 ≤ fu) : f_X9_knownWord fu M = some (M, w) := by
  have k : ∀ q : Nat, q < 7 → f_X9_spells fu M q = some (M, ind (w = q + 1)) := fun q hq => spells_C h h1 h2 h0 hse he hw hq hfu
  have w0 := hw.1
  have w7 := hw.2.1
  unfold f_X9_knownWord
  rw [k 0 (by decide), cal_some]
  by_cases c0 : w = ((0 : Nat) : Int) + 1
  · rw [ind_t c0, if_neg (by decide), c0]; rfl
  rw [ind_f c0, if_pos rfl, k 1 (by decide), cal_some]
  by_cases c1 : w = ((1 : Nat) : Int) + 1
  · rw [ind_t c1, if_neg (by decide), c1]; rfl
  rw [ind_f c1, if_pos rfl, k 2 (by decide), cal_some]
  by_cases c2 : w = ((2 : Nat) : Int) + 1
  · rw [ind_t c2, if_neg (by decide), c2]; rfl
  rw [ind_f c2, if_pos rfl, k 3 (by decide), cal_some]
  by_cases c3 : w = ((3 : Nat) : Int) + 1
  · rw [ind_t c3, if_neg (by decide), c3]; rfl
  rw [ind_f c3, if_pos rfl, k 4 (by decide), cal_some]
  by_cases c4 : w = ((4 : Nat) : Int) + 1
  · rw [ind_t c4, if_neg (by decide), c4]; rfl
  rw [ind_f c4, if_pos rfl, k 5 (by decide), cal_some]
  by_cases c5 : w = ((5 : Nat) : Int) + 1
  · rw [ind_t c5, if_neg (by decide), c5]; rfl
  rw [ind_f c5, if_pos rfl, k 6 (by decide), cal_some]
  by_cases c6 : w = ((6 : Nat) : Int) + 1
  · rw [ind_t c6, if_neg (by decide), c6]; rfl
  rw [ind_f c6, if_pos rfl]
  have : w = 0 := by omega
  rw [this]
def tC (M : Mem) (k s e w v : Int) : Prop := (k ≠ 0 → M 45 1 = e) ∧ M 45 2 = s ∧ M 45 3 = (if k = 4 then 0 else k) ∧ M 45 4 = w ∧ (k = 2 → M 45 5 = v)
theorem advance_C {M : Mem} {T : TX} {p k s e w v : Int} (h : iC M T) (hp : M 45 1 = p) (h0 : 0 ≤ p) (t : Tk T p k s e w v) (hfu : 1000 ≤ fu) : ∃ M', f_X9_advance fu M = some (M', ind (k ≠ 0)) ∧ tC M' k s e w v ∧ frTk M M' := by
  have h6 := h.2.2.1
  have b1 := t.1.1
  have b2 := t.1.2.1
  obtain ⟨M1, e1, m1, f1⟩ := skip_C (fu := fu) fu p M h t.1 h0 hp (by omega)
  unfold f_X9_advance
  rw [e1]
  have i1 := iC_45 h f1.1
  unfold f_X9_advance_J44
  have n1 : up (up M1 45 2 (M1 45 1)) 45 4 0 45 1 = s := by rw [up_at (Or.inr (by decide)), up_at (Or.inr (by decide))]; exact m1
  have n2 : up (up M1 45 2 (M1 45 1)) 45 4 0 45 2 = s := by rw [up_at (Or.inr (by decide)), up_same]; exact m1
  have n4 : up (up M1 45 2 (M1 45 1)) 45 4 0 45 4 = 0 := up_same _ _ _ _
  have f2 : frTk M (up (up M1 45 2 (M1 45 1)) 45 4 0) := frTk_trans (frL_Tk f1) (frTk_trans (frTk_up (by decide)) (frTk_up (by decide)))
  have i2 := iC_45 h f2.1
  generalize up (up M1 45 2 (M1 45 1)) 45 4 0 = M2 at n1 n2 n4 f2 i2 ⊢
  rw [n1]
  have j9 : ∀ (x y : Int), f_X9_advance_J109 fu x y M2 = some (up (up M2 45 3 y) 45 1 (s + 1), ind (x ≠ -1)) ∧ up (up M2 45 3 y) 45 1 (s + 1) 45 1 = s + 1 ∧ up (up M2 45 3 y) 45 1 (s + 1) 45 2 = s ∧ up (up M2 45 3 y) 45 1 (s + 1) 45 3 = y ∧ up (up M2 45 3 y) 45 1 (s + 1) 45 4 = 0 ∧ frTk M (up (up M2 45 3 y) 45 1 (s + 1)) := by
    intro x y
    have a1 : up M2 45 3 y 45 1 = s := by rw [up_at (Or.inr (by decide))]; exact n1
    refine ⟨?_, up_same _ _ _ _, by rw [up_at (Or.inr (by decide)), up_at (Or.inr (by decide))]; exact n2, by rw [up_at (Or.inr (by decide)), up_same], by rw [up_at (Or.inr (by decide)), up_at (Or.inr (by decide))]; exact n4, frTk_trans f2 (frTk_trans (frTk_up (by decide)) (frTk_up (by decide)))⟩
    unfold f_X9_advance_J109 f_X9_advance_J122 ind
    rw [a1, grd_pos (by omega)]
    by_cases hx : x = -1
    · rw [if_pos hx, if_neg (by omega)]
    · rw [if_neg hx, if_pos hx]
  obtain ⟨-, t⟩ := t
  rcases t with ⟨t1, t2, t3, t4⟩ | ⟨t1, t2, t3, t4, t5⟩ | ⟨t1, t2, t3, t4, t5, t6, t7⟩ | ⟨t1, t2, t3, t4, t5⟩ | ⟨t1, t2, t3, t4⟩
  · rw [byteAt_out i2 (by omega) (by omega), cal_some, isLetter_C, cal_some, ind_f (by decide), if_pos rfl, isDigit_C, cal_some, ind_f (by decide), if_pos rfl, if_neg (by decide)]
    obtain ⟨q1, q2, q3, q4, q5, q6⟩ := j9 (-1) 0
    refine ⟨_, ?_, ⟨fun h9 => absurd t1 h9, q3, by rw [q4, t1]; rfl, by rw [q5, t4], fun h9 => by omega⟩, q6⟩
    rw [q1, ind_f (by decide), ind_f (by omega)]
  · rw [byteAt_C i2 (by omega) t2, cal_some, isLetter_C, cal_some, ind_t t3, if_neg (by decide)]
    have ts := t4.1
    have te := t4.2.1
    obtain ⟨M3, e3, m3, f3⟩ := word_C (fu := fu) fu s M2 i2 t4 (by omega) n1 (by omega)
    unfold f_X9_readWord
    rw [e3]
    unfold f_X9_readWord_J44
    have f4 : frTk M (up M3 45 3 1) := frTk_trans f2 (frTk_trans (frL_Tk f3) (frTk_up (by decide)))
    rw [knownWord_C (s := s) (e := e) (w := w) (iC_45 h f4.1) (by rw [up_at (Or.inr (by decide))]; exact m3) (by rw [up_at (Or.inr (by decide)), f3.2 2 (by decide) (by decide)]; exact n2) (by omega) ts te t5 hfu, cal_some, cal_some]
    have hi := (i2.2.2.2 s (by omega) t2).2
    unfold f_X9_advance_J122
    rw [if_neg (by omega), ind_t (by omega)]
    exact ⟨_, rfl, ⟨fun _ => by rw [up_at (Or.inr (by decide)), up_at (Or.inr (by decide))]; exact m3, by rw [up_at (Or.inr (by decide)), up_at (Or.inr (by decide)), f3.2 2 (by decide) (by decide)]; exact n2, by rw [up_at (Or.inr (by decide)), up_same, t1]; rfl, up_same _ _ _ _, fun h9 => by omega⟩, frTk_trans f4 (frTk_up (by decide))⟩
  · have nl : ¬ ltr (T.2 s) := by omega
    rw [byteAt_C i2 (by omega) t2, cal_some, isLetter_C, cal_some, ind_f nl, if_pos rfl, isDigit_C, cal_some, ind_t t3, if_neg (by decide)]
    have ts := t4.1
    have te := t4.2.1
    obtain ⟨M3, e3, m3, v3, f3⟩ := num_C (fu := fu) (s := s) (e := e) (by omega) t4.2.2.1 fu s (up M2 45 5 0) (iC_45 i2 frL_5.1) t4 (Int.le_refl s) (by rw [up_at (Or.inr (by decide))]; exact n1) (by rw [up_at (Or.inr (by decide))]; exact n2) (fun _ => by rw [up_same, Int.sub_self]; rfl) (by omega)
    have f4 := frL_trans frL_5 f3
    unfold f_X9_readNumber
    rw [e3]
    have a2 : M3 45 2 = s := by rw [f4.2 2 (by decide) (by decide)]; exact n2
    have a4 : M3 45 4 = 0 := by rw [f4.2 4 (by decide) (by decide)]; exact n4
    unfold f_X9_readNumber_J75
    rw [m3, a2, grd_pos (by omega), if_pos t5, cal_some]
    unfold f_X9_advance_J122
    rw [if_neg (by omega), ind_t (by omega)]
    exact ⟨_, rfl, ⟨fun _ => by rw [up_at (Or.inr (by decide))]; exact m3, by rw [up_at (Or.inr (by decide))]; exact a2, by rw [up_same, t1]; rfl, by rw [up_at (Or.inr (by decide)), t6]; exact a4, fun h9 => by rw [up_at (Or.inr (by decide)), t7]; exact v3 t5⟩, frTk_trans f2 (frTk_trans (frL_Tk f4) (frTk_up (by decide)))⟩
  · have nl : ¬ ltr (T.2 s) := by omega
    have nd : ¬ dgt (T.2 s) := by omega
    rw [byteAt_C i2 (by omega) t2, cal_some, isLetter_C, cal_some, ind_f nl, if_pos rfl, isDigit_C, cal_some, ind_f nd, if_pos rfl, if_pos t3]
    obtain ⟨q1, q2, q3, q4, q5, q6⟩ := j9 (T.2 s) 3
    refine ⟨_, ?_, ⟨fun _ => by rw [q2, t4], q3, by rw [q4, t1]; rfl, by rw [q5, t5], fun h9 => by omega⟩, q6⟩
    rw [q1, ind_t (by omega), ind_t (by omega)]
  · have hi := (i2.2.2.2 s (by omega) t2).2
    rcases t4 with ⟨u1, u2, u3⟩ | ⟨u1, u2, u3, u4⟩
    · have nl : ¬ ltr (T.2 s) := by omega
      rw [byteAt_C i2 (by omega) t2, cal_some, isLetter_C, cal_some, ind_f nl, if_pos rfl, isDigit_C, cal_some, ind_t u1, if_neg (by decide)]
      have ts := u2.1
      have te := u2.2.1
      obtain ⟨M3, e3, m3, v3, f3⟩ := num_C (fu := fu) (s := s) (e := e) (by omega) u2.2.2.1 fu s (up M2 45 5 0) (iC_45 i2 frL_5.1) u2 (Int.le_refl s) (by rw [up_at (Or.inr (by decide))]; exact n1) (by rw [up_at (Or.inr (by decide))]; exact n2) (fun _ => by rw [up_same, Int.sub_self]; rfl) (by omega)
      have f4 := frL_trans frL_5 f3
      unfold f_X9_readNumber
      rw [e3]
      have a2 : M3 45 2 = s := by rw [f4.2 2 (by decide) (by decide)]; exact n2
      have a4 : M3 45 4 = 0 := by rw [f4.2 4 (by decide) (by decide)]; exact n4
      unfold f_X9_readNumber_J75
      rw [m3, a2, grd_pos (by omega), if_neg (by omega), cal_some]
      unfold f_X9_advance_J122
      rw [if_neg (by omega), ind_t (by omega)]
      exact ⟨_, rfl, ⟨fun _ => by rw [up_at (Or.inr (by decide))]; exact m3, by rw [up_at (Or.inr (by decide))]; exact a2, by rw [up_same, t1]; rfl, by rw [up_at (Or.inr (by decide)), t3]; exact a4, fun h9 => by omega⟩, frTk_trans f2 (frTk_trans (frL_Tk f4) (frTk_up (by decide)))⟩
    · rw [byteAt_C i2 (by omega) t2, cal_some, isLetter_C, cal_some, ind_f u1, if_pos rfl, isDigit_C, cal_some, ind_f u2, if_pos rfl, if_neg u3]
      obtain ⟨q1, q2, q3, q4, q5, q6⟩ := j9 (T.2 s) 0
      refine ⟨_, ?_, ⟨fun _ => by rw [q2, u4], q3, by rw [q4, t1]; rfl, by rw [q5, t3], fun h9 => by omega⟩, q6⟩
      rw [q1, ind_t (by omega), ind_t (by omega)]
end Tok
