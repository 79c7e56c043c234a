/-! the law's setup text: list, then for each element a blank or minus between blanks and one or two digits, then a semicolon; what the class reads in it -/
def sepq (x : Int) : Nat := if x < 0 then 10 else 11
def ln (vals : Nat → Int) : Nat → Nat
  | 0 => 4
  | j + 1 => ln vals j + (slen (sepq (vals j))).toNat + dgN (vals j).natAbs
def lt9 (vals : Nat → Int) : Nat → Nat → Int
  | 0 => schar 0
  | j + 1 => catT (catT (lt9 vals j) (ln vals j) (schar (sepq (vals j)))) (ln vals j + (slen (sepq (vals j))).toNat) (dgS (vals j).natAbs)
def FT (vals : Nat → Int) (n : Nat) : TX := (((ln vals n + 1 : Nat) : Int), fun i => catT (lt9 vals n) (ln vals n) (fun _ => 59) i.toNat)
theorem sepq_l (x : Int) : (slen (sepq x)).toNat = if x < 0 then 7 else 1 := by
  unfold sepq
  split
  · decide
  · decide
theorem dgN_b (x : Nat) : 1 ≤ dgN x ∧ dgN x ≤ 2 := by
  unfold dgN
  split <;> omega
theorem ln_step (vals : Nat → Int) (j : Nat) : ln vals j + 2 ≤ ln vals (j + 1) ∧ ln vals (j + 1) ≤ ln vals j + 9 := by
  have h := dgN_b (vals j).natAbs
  have h2 := sepq_l (vals j)
  show ln vals j + 2 ≤ ln vals j + (slen (sepq (vals j))).toNat + dgN (vals j).natAbs ∧ ln vals j + (slen (sepq (vals j))).toNat + dgN (vals j).natAbs ≤ _
  rw [h2]
  split <;> omega
theorem ln_mono (vals : Nat → Int) (j : Nat) : ∀ n, j ≤ n → ln vals j ≤ ln vals n
  | 0, h => by rw [show j = 0 by omega]; exact Nat.le_refl _
  | n + 1, h => by
    by_cases e : j = n + 1
    · rw [e]; exact Nat.le_refl _
    · have := ln_mono vals j n (by omega)
      have := ln_step vals n
      omega
theorem ln_max (vals : Nat → Int) : ∀ n, ln vals n ≤ 4 + 9 * n
  | 0 => Nat.le_refl _
  | n + 1 => by
    have := ln_max vals n
    have := ln_step vals n
    omega
theorem lt9_old (vals : Nat → Int) {j i : Nat} (hi : i < ln vals j) : ∀ n, j ≤ n → lt9 vals n i = lt9 vals j i
  | 0, h => by rw [show j = 0 by omega]
  | n + 1, h => by
    by_cases e : j = n + 1
    · rw [e]
    · rw [← lt9_old vals hi n (by omega)]
      have := ln_mono vals j n (by omega)
      show catT (catT (lt9 vals n) (ln vals n) _) _ _ i = _
      unfold catT
      rw [if_pos (by omega), if_pos (by omega)]
theorem PS_more {T : TX} : ∀ {n : Nat} {p st c : Int} {v : Int → Int} {r : PRes}, PS T n p st c v r → PS T (n + 1) p st c v r
  | 0, _, _, _, _, _, h => h.elim
  | n + 1, p, st, c, v, r, h => by
    obtain ⟨k, s, e, w, x, t, h⟩ := h
    refine ⟨k, s, e, w, x, t, ?_⟩
    rcases h with h | h | h | h | h | h | h | h | h | h | h
    · exact Or.inl h
    · exact Or.inr (Or.inl h)
    · exact Or.inr (Or.inr (Or.inl h))
    · exact Or.inr (Or.inr (Or.inr (Or.inl ⟨h.1, h.2.1, h.2.2.1, PS_more h.2.2.2⟩)))
    · exact Or.inr (Or.inr (Or.inr (Or.inr (Or.inl ⟨h.1, h.2.1, PS_more h.2.2⟩))))
    · exact Or.inr (Or.inr (Or.inr (Or.inr (Or.inr (Or.inl ⟨h.1, h.2.1, h.2.2.1, PS_more h.2.2.2⟩)))))
    · exact Or.inr (Or.inr (Or.inr (Or.inr (Or.inr (Or.inr (Or.inl ⟨h.1, h.2.1, h.2.2.1, h.2.2.2.1, h.2.2.2.2.1, h.2.2.2.2.2.1, PS_more h.2.2.2.2.2.2⟩))))))
    · exact Or.inr (Or.inr (Or.inr (Or.inr (Or.inr (Or.inr (Or.inr (Or.inl h)))))))
    · exact Or.inr (Or.inr (Or.inr (Or.inr (Or.inr (Or.inr (Or.inr (Or.inr (Or.inl h))))))))
    · exact Or.inr (Or.inr (Or.inr (Or.inr (Or.inr (Or.inr (Or.inr (Or.inr (Or.inr (Or.inl ⟨h.1, h.2.1, PS_more h.2.2⟩)))))))))
    · exact Or.inr (Or.inr (Or.inr (Or.inr (Or.inr (Or.inr (Or.inr (Or.inr (Or.inr (Or.inr h)))))))))
section FText
variable {vals : Nat → Int} {n : Nat}
theorem FT_old {j i : Nat} (hj : j ≤ n) (hi : i < ln vals j) : (FT vals n).2 (i : Int) = lt9 vals j i := by
  have := ln_mono vals j n hj
  show catT (lt9 vals n) (ln vals n) (fun _ => 59) (i : Int).toNat = _
  rw [Int.toNat_natCast]
  unfold catT
  rw [if_pos (by omega)]
  exact lt9_old vals hi n hj
theorem FT_list {i : Nat} (hi : i < 4) : (FT vals n).2 (i : Int) = schar 0 i := FT_old (Nat.zero_le n) hi
theorem FT_end : (FT vals n).2 ((ln vals n : Nat) : Int) = 59 := by
  show catT (lt9 vals n) (ln vals n) (fun _ => 59) ((ln vals n : Nat) : Int).toNat = _
  rw [Int.toNat_natCast]
  unfold catT
  rw [if_neg (by omega)]
theorem FT_sep {j i : Nat} (hj : j < n) (hi : i < (slen (sepq (vals j))).toNat) : (FT vals n).2 ((ln vals j + i : Nat) : Int) = schar (sepq (vals j)) i := by
  have h := dgN_b (vals j).natAbs
  rw [FT_old (j := j + 1) (i := ln vals j + i) (by omega) (by show ln vals j + i < ln vals j + (slen (sepq (vals j))).toNat + dgN (vals j).natAbs; omega)]
  show catT (catT (lt9 vals j) (ln vals j) _) _ _ _ = _
  unfold catT
  rw [if_pos (by omega), if_neg (by omega), Nat.add_sub_cancel_left]
theorem FT_dig {j i : Nat} (hj : j < n) (hi : i < dgN (vals j).natAbs) : (FT vals n).2 ((ln vals j + (slen (sepq (vals j))).toNat + i : Nat) : Int) = dgS (vals j).natAbs i := by
  rw [FT_old (j := j + 1) (i := ln vals j + (slen (sepq (vals j))).toNat + i) (by omega) (by show ln vals j + (slen (sepq (vals j))).toNat + i < ln vals j + (slen (sepq (vals j))).toNat + dgN (vals j).natAbs; omega)]
  show catT _ _ _ _ = _
  unfold catT
  rw [if_neg (by omega), Nat.add_sub_cancel_left]
theorem FT_at {j : Nat} (hj : j ≤ n) : (FT vals n).2 ((ln vals j : Nat) : Int) = 59 ∨ (FT vals n).2 ((ln vals j : Nat) : Int) = 32 := by
  by_cases e : j = n
  · rw [e]; exact Or.inl FT_end
  · right
    have hl := sepq_l (vals j)
    have := FT_sep (vals := vals) (n := n) (j := j) (i := 0) (by omega) (by rw [hl]; split <;> omega)
    rw [Nat.add_zero] at this
    rw [this]
    unfold sepq
    split <;> decide
theorem FT_b (hv : ∀ j, j < n → (vals j).natAbs < 100) {i : Nat} (hi : i < ln vals n + 1) : 0 ≤ (FT vals n).2 (i : Int) ∧ (FT vals n).2 (i : Int) ≤ 127 := by
  by_cases e : i = ln vals n
  · rw [e, FT_end]; decide
  · have key : ∀ m, m ≤ n → i < ln vals m → 0 ≤ (FT vals n).2 (i : Int) ∧ (FT vals n).2 (i : Int) ≤ 127 := by
      intro m
      induction m with
      | zero =>
        intro h1 h2
        rw [FT_list h2]
        exact schar_b (by decide) (g := 4) rfl h2
      | succ m ih =>
        intro h1 h2
        by_cases h3 : i < ln vals m
        · exact ih (by omega) h3
        · by_cases h4 : i < ln vals m + (slen (sepq (vals m))).toNat
          · have := FT_sep (vals := vals) (n := n) (j := m) (i := i - ln vals m) (by omega) (by omega)
            rw [show ln vals m + (i - ln vals m) = i by omega] at this
            rw [this]
            have hq : sepq (vals m) < lensL.length := by
              unfold sepq
              split <;> decide
            obtain ⟨g, hg⟩ := slen_nat (sepq (vals m))
            rw [hg, Int.toNat_natCast] at h4
            exact schar_b hq hg (by omega)
          · have h5 : i < ln vals m + (slen (sepq (vals m))).toNat + dgN (vals m).natAbs := h2
            have := FT_dig (vals := vals) (n := n) (j := m) (i := i - (ln vals m + (slen (sepq (vals m))).toNat)) (by omega) (by omega)
            rw [show ln vals m + (slen (sepq (vals m))).toNat + (i - (ln vals m + (slen (sepq (vals m))).toNat)) = i by omega] at this
            rw [this]
            have := dgS_b (hv m (by omega)) (i - (ln vals m + (slen (sepq (vals m))).toNat))
            omega
    exact key n (Nat.le_refl _) (by omega)
/-- digits that stand at s -/
theorem num_at {T : TX} {s x : Nat} (hx : x < 100) (hd : ∀ i, i < dgN x → T.2 ((s + i : Nat) : Int) = dgS x i) (he : ((s + dgN x : Nat) : Int) < T.1) (hn : T.2 ((s + dgN x : Nat) : Int) = 59 ∨ T.2 ((s + dgN x : Nat) : Int) = 32) : dgt (T.2 (s : Int)) ∧ Run dgt T (s : Int) ((s + dgN x : Nat) : Int) ∧ (((s + dgN x : Nat) : Int) - (s : Int) ≤ 3) ∧ (x : Int) = nvT T (s : Int) (((s + dgN x : Nat) : Int) - (s : Int)).toNat := by
  have hb := dgN_b x
  have h0 := hd 0 (by omega)
  rw [Nat.add_zero] at h0
  have hz := dgS_b hx 0
  refine ⟨by rw [h0]; omega, ⟨by omega, by omega, fun i i0 i1 => ?_, fun _ h9 => ?_⟩, by omega, ?_⟩
  · have := hd (i.toNat - s) (by omega)
    rw [show ((s + (i.toNat - s) : Nat) : Int) = i by omega] at this
    rw [this]
    have := dgS_b hx (i.toNat - s)
    omega
  · omega
  · rw [show (((s + dgN x : Nat) : Int) - (s : Int)).toNat = dgN x by omega]
    by_cases h9 : x < 10
    · have e : dgN x = 1 := if_pos h9
      rw [e]
      show (x : Int) = 0 * 10 + T.2 ((s : Int) + (0 : Nat)) - 48
      rw [show (s : Int) + (0 : Nat) = (s : Int) by omega, h0]
      unfold dgS
      rw [if_pos h9]
      omega
    · have e : dgN x = 2 := if_neg h9
      have h1 := hd 1 (by omega)
      rw [e]
      show (x : Int) = (0 * 10 + T.2 ((s : Int) + (0 : Nat)) - 48) * 10 + T.2 ((s : Int) + (1 : Nat)) - 48
      rw [show (s : Int) + (0 : Nat) = (s : Int) by omega, show (s : Int) + (1 : Nat) = ((s + 1 : Nat) : Int) by omega, h0, h1]
      unfold dgS
      rw [if_neg h9, if_pos rfl, if_neg h9, if_neg (by decide)]
      omega
theorem wd_of {T : TX} {s e : Int} {q : Nat} (hq : q < 7) (h : Sp T s e q) : Wd T s e (q + 1) := by
  refine ⟨by omega, by omega, fun q' hq' => ⟨fun h' => ?_, fun h' => ?_⟩⟩
  · rw [Sp_uniq h h' hq hq']
  · have : q' = q := by omega
    rw [this]; exact h
/-- one blank, then something else -/
theorem run_1 {T : TX} {p : Nat} (hp : ((p + 1 : Nat) : Int) < T.1) (h : T.2 (p : Int) = 32) (h2 : ¬ blk (T.2 ((p + 1 : Nat) : Int))) : Run blk T (p : Int) ((p + 1 : Nat) : Int) :=
  ⟨by omega, by omega, fun i i0 i1 => by rw [show i = (p : Int) by omega, h]; exact Or.inl rfl, fun _ => h2⟩
theorem run_w {T : TX} {s g q : Nat} (hq : q < 7) (hg : slen q = (g : Int)) (h : ∀ i, i < g → T.2 ((s + i : Nat) : Int) = schar q i) (he : ((s + g : Nat) : Int) < T.1) (hn : T.2 ((s + g : Nat) : Int) = 59 ∨ T.2 ((s + g : Nat) : Int) = 32) : ltr (T.2 (s : Int)) ∧ Run ltr T (s : Int) ((s + g : Nat) : Int) ∧ Wd T (s : Int) ((s + g : Nat) : Int) (q + 1) := by
  have key : ∀ q : Nat, q < 7 → ∀ i : Nat, (i : Int) < slen q → ltr (schar q i) := by
    have k2 : ∀ q : Nat, q < 7 → ∀ i : Nat, i < 8 → (i : Int) < slen q → ltr (schar q i) := by decide
    intro q hq i hi
    have := (slen_b q hq).2
    exact k2 q hq i (by omega) hi
  have hb := (slen_b q hq).1
  have h0 := h 0 (by omega)
  rw [Nat.add_zero] at h0
  refine ⟨by rw [h0]; exact key q hq 0 (by omega), ⟨by omega, by omega, fun i i0 i1 => ?_, fun _ h9 => ?_⟩, wd_of hq ⟨by omega, fun j j0 j1 => ?_⟩⟩
  · have := h (i.toNat - s) (by omega)
    rw [show ((s + (i.toNat - s) : Nat) : Int) = i by omega] at this
    rw [this]
    exact key q hq _ (by omega)
  · omega
  · have := h j.toNat (by omega)
    rw [show ((s + j.toNat : Nat) : Int) = (s : Int) + j by omega] at this
    exact this
/-- the elements from j on, read -/
theorem PS_tail (hn : n ≤ 63) (hv : ∀ j, j < n → (vals j).natAbs < 100) : ∀ (d j : Nat) (v : Int → Int), j + d = n → (∀ i : Nat, i < j → v (i : Int) = vals i) → ∃ r, PS (FT vals n) (2 * d + 2) ((ln vals j : Nat) : Int) 1 (j : Int) v r ∧ r.1 = 0 ∧ r.2.2.1 = (n : Int) ∧ ∀ i : Nat, i < n → r.2.2.2 (i : Int) = vals i
  | 0, j, v, hj, h => by
    obtain rfl : j = n := by omega
    refine ⟨(0, -1, (j : Int), v), ?_, rfl, rfl, h⟩
    have hl : (FT vals j).1 = ((ln vals j + 1 : Nat) : Int) := rfl
    refine ⟨3, _, ((ln vals j + 1 : Nat) : Int), 0, 0, ⟨⟨Int.le_refl _, by rw [hl]; omega, fun i i0 i1 => by omega, fun _ => by rw [FT_end]; decide⟩, Or.inr (Or.inr (Or.inr (Or.inl ⟨rfl, by rw [hl]; omega, FT_end, by omega, rfl⟩)))⟩, Or.inr (Or.inr (Or.inr (Or.inr (Or.inl ⟨rfl, rfl, ?_⟩))))⟩
    exact ⟨0, _, _, 0, 0, ⟨⟨Int.le_refl _, Int.le_refl _, fun i i0 i1 => by omega, fun h9 => absurd h9 (by rw [hl]; omega)⟩, Or.inl ⟨rfl, rfl, rfl, rfl⟩⟩, Or.inl ⟨rfl, rfl, rfl⟩⟩
  | d + 1, j, v, hj, h => by
    have hjn : j < n := by omega
    have hx := hv j hjn
    have hl : (FT vals n).1 = ((ln vals n + 1 : Nat) : Int) := rfl
    have hm := ln_mono vals (j + 1) n (by omega)
    have hs := sepq_l (vals j)
    have hat := FT_at (vals := vals) (n := n) (j := j + 1) (by omega)
    have hd : ∀ i, i < dgN (vals j).natAbs → (FT vals n).2 ((ln vals j + (slen (sepq (vals j))).toNat + i : Nat) : Int) = dgS (vals j).natAbs i := fun i hi => FT_dig hjn hi
    have h1 : ln vals (j + 1) = ln vals j + (slen (sepq (vals j))).toNat + dgN (vals j).natAbs := rfl
    rw [h1] at hm hat
    have hdb := dgN_b (vals j).natAbs
    obtain ⟨n1, n2, n3, n4⟩ := num_at hx hd (by rw [hl]; omega) hat
    obtain ⟨r, hr, r1, r2, r3⟩ := PS_tail hn hv d (j + 1) (fset v (j : Int) (vals j)) (by omega) (fun i hi => by
      unfold fset
      by_cases e : i = j
      · rw [if_pos (by omega), e]
      · rw [if_neg (by omega)]
        exact h i (by omega))
    refine ⟨r, ?_, r1, r2, r3⟩
    rw [h1, show ((j + 1 : Nat) : Int) = (j : Int) + 1 by omega] at hr
    by_cases hneg : vals j < 0
    · rw [if_pos hneg] at hs
      have hq : sepq (vals j) = 10 := if_pos hneg
      have hsep : ∀ i, i < 7 → (FT vals n).2 ((ln vals j + i : Nat) : Int) = schar 10 i := fun i hi => by
        rw [← hq]
        exact FT_sep hjn (by omega)
      rw [hs] at hr n1 n2 n3 n4 hm
      have w := run_w (T := FT vals n) (s := ln vals j + 1) (g := 5) (q := 1) (by decide) rfl (fun i hi => by
        rw [show ln vals j + 1 + i = ln vals j + (1 + i) by omega, hsep _ (by omega)]
        have : ∀ i : Nat, i < 5 → schar 10 (1 + i) = schar 1 i := by decide
        exact this i hi) (by rw [hl]; omega) (Or.inr (by rw [show ln vals j + 1 + 5 = ln vals j + 6 by omega, hsep 6 (by decide)]; decide))
      refine ⟨1, ((ln vals j + 1 : Nat) : Int), ((ln vals j + 1 + 5 : Nat) : Int), 2, 0, ⟨run_1 (by rw [hl]; omega) (by have := hsep 0 (by decide); rw [Nat.add_zero] at this; rw [this]; decide) (by rw [hsep 1 (by decide)]; decide), Or.inr (Or.inl ⟨rfl, by rw [hl]; omega, w.1, w.2.1, w.2.2⟩)⟩, ?_⟩
      refine Or.inr (Or.inr (Or.inr (Or.inr (Or.inr (Or.inr (Or.inl ⟨rfl, by decide, by decide, by decide, rfl, by omega, ?_⟩))))))
      refine ⟨2, ((ln vals j + 7 : Nat) : Int), ((ln vals j + 7 + dgN (vals j).natAbs : Nat) : Int), 0, ((vals j).natAbs : Int), ⟨?_, Or.inr (Or.inr (Or.inl ⟨rfl, by rw [hl]; omega, n1, n2, n3, rfl, n4⟩))⟩, ?_⟩
      · have := run_1 (T := FT vals n) (p := ln vals j + 6) (by rw [hl]; omega) (by rw [hsep 6 (by decide)]; decide) (fun h9 => by
          rw [show ln vals j + 6 + 1 = ln vals j + 7 by omega] at h9
          rcases h9 with h9 | h9 <;> omega)
        exact this
      · refine Or.inr (Or.inr (Or.inr (Or.inr (Or.inr (Or.inr (Or.inr (Or.inr (Or.inr (Or.inl ⟨rfl, rfl, ?_⟩)))))))))
        rw [show -((vals j).natAbs : Int) = vals j by omega]
        exact hr
    · rw [if_neg hneg] at hs
      have hq : sepq (vals j) = 11 := if_neg hneg
      have hsep : (FT vals n).2 ((ln vals j : Nat) : Int) = 32 := by
        have := FT_sep (vals := vals) (n := n) (j := j) (i := 0) hjn (by omega)
        rw [hq, Nat.add_zero] at this
        rw [this]
        decide
      rw [hs] at hr n1 n2 n3 n4 hm
      have hr' := PS_more hr
      refine ⟨2, ((ln vals j + 1 : Nat) : Int), ((ln vals j + 1 + dgN (vals j).natAbs : Nat) : Int), 0, ((vals j).natAbs : Int), ⟨run_1 (by rw [hl]; omega) hsep (fun h9 => by rcases h9 with h9 | h9 <;> omega), Or.inr (Or.inr (Or.inl ⟨rfl, by rw [hl]; omega, n1, n2, n3, rfl, n4⟩))⟩, ?_⟩
      refine Or.inr (Or.inr (Or.inr (Or.inr (Or.inr (Or.inl ⟨rfl, rfl, by omega, ?_⟩)))))
      rw [show ((vals j).natAbs : Int) = vals j by omega]
      exact hr'
/-- the whole text, read -/
theorem PS_all (hn : n ≤ 63) (hv : ∀ j, j < n → (vals j).natAbs < 100) : ∃ r, PS (FT vals n) (2 * n + 3) 0 0 0 (fun _ => 0) r ∧ r.1 = 0 ∧ r.2.2.1 = (n : Int) ∧ ∀ i : Nat, i < n → r.2.2.2 (i : Int) = vals i := by
  obtain ⟨r, hr, r1⟩ := PS_tail hn hv n 0 (fun _ => 0) (by omega) (fun i hi => absurd hi (by omega))
  have hl : (FT vals n).1 = ((ln vals n + 1 : Nat) : Int) := rfl
  have hm : 4 ≤ ln vals n := ln_mono vals 0 n (by omega)
  have w := run_w (T := FT vals n) (s := 0) (g := 4) (q := 0) (by decide) rfl (fun i hi => by rw [Nat.zero_add]; exact FT_list hi) (by rw [hl]; omega) (by rw [Nat.zero_add]; exact FT_at (j := 0) (by omega))
  refine ⟨r, ?_, r1⟩
  refine ⟨1, 0, 4, 1, 0, ⟨⟨Int.le_refl _, by rw [hl]; omega, fun i i0 i1 => by omega, fun _ => ?_⟩, Or.inr (Or.inl ⟨rfl, by rw [hl]; omega, w.1, w.2.1, w.2.2⟩)⟩, Or.inr (Or.inr (Or.inr (Or.inl ⟨rfl, by decide, rfl, hr⟩)))⟩
  have := FT_list (vals := vals) (n := n) (i := 0) (by decide)
  have e : (FT vals n).2 0 = schar 0 0 := this
  rw [e]
  decide
end FText
