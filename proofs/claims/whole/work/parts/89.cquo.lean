/-! the law's cases of quotients: both sides have the same two numbers -/
section Quo
variable {fu : Nat} {M : Mem} {A B : AS} {H : Int → AS} {c : Int} {T TO : TX} {e o s : Int}
theorem one_X (b : Int) (hb : b = 0 ∨ b = 1) : f_X12_one fu M b = some (M, b) := by
  unfold f_X12_one
  rcases hb with rfl | rfl
  · rw [if_pos rfl]
  · rw [if_neg (by decide)]
theorem rsA_40 (h : Good A) (m : Int) : rsA A (-1) m ≤ 40 := by
  have h1 : rsA A (-1) m ≤ 1 * (aV A).toNat := sm_le _ _ (fun v v0 v1 => by
    have := mvA_le1 h (v := v) v0 (by have := h.1; omega) m
    show (if rlA A v = 0 ∧ v ≠ -1 then mvA A v m else 0) ≤ 1
    split <;> omega)
  have := h.1
  omega
theorem sum_rs (h : Good A) : sm (rsA A (-1)) (aN A).toNat 0 = tlA A := by
  show sm (fun m => sm (fun v => if rlA A v = 0 ∧ v ≠ -1 then muA A (hgt (szA A v)) (rtA A v) m else 0) (aV A).toNat 0) (aN A).toNat 0 = _
  rw [sm_swap (f := fun v m => if rlA A v = 0 ∧ v ≠ -1 then muA A (hgt (szA A v)) (rtA A v) m else 0)]
  refine sm_congr _ _ (fun v v0 v1 => ?_)
  have hv : v < aV A := by have := h.1; omega
  by_cases hl : rlA A v = 0
  · rw [if_pos hl, ← tvA_mv h v0 hv]
    exact sm_congr _ _ (fun m _ _ => if_pos ⟨hl, by omega⟩)
  · rw [if_neg hl]
    exact sm_zero _ _ (fun m _ _ => if_neg (fun z => hl z.1))
theorem tlA_rng (h : Good A) : 0 ≤ tlA A ∧ tlA A < 8192 := by
  rw [← sum_rs h]
  have h1 := Good_N h
  have h2 := h.2.1
  have h3 : 0 ≤ sm (rsA A (-1)) (aN A).toNat 0 := sm_nonneg _ _ (fun m _ _ => rsA_nonneg A (-1) m)
  have h4 : sm (rsA A (-1)) (aN A).toNat 0 ≤ 40 * (aN A).toNat := sm_le _ _ (fun m _ _ => rsA_40 h m)
  omega
theorem sharing_X (hfu : 40000 ≤ fu) (h : CM M A) : ∃ M1, f_X11_sharing fu M = some (M1, if nRch A (-1) = 0 then ((0 : Int), (0 : Int)) else (tlA A, nRch A (-1))) ∧ only 35 M M1 := by
  obtain ⟨M1, e1, f1⟩ := countReachedWithout_C (fu := fu) (by omega) h (-1)
  have hr := nRch_rng h.2 (-1)
  have ht := tlA_rng h.2
  refine ⟨M1, ?_, f1⟩
  unfold f_X11_sharing
  rw [e1, cal_some]
  by_cases h0 : nRch A (-1) = 0
  · rw [if_pos h0, if_pos h0]
  · rw [if_neg h0, if_neg h0, countAllTrees_C (CM_cg h (fun q _ q1 => f1 q (by omega))) (by omega), cal_some, grd_pos ⟨ht, by omega, by omega⟩]
theorem garbagePart_X (hfu : 40000 ≤ fu) (h : CM M A) : ∃ M1, f_X11_garbagePart fu M = some (M1, if nSto A = 0 then ((0 : Int), (0 : Int)) else (nGar A, nSto A)) ∧ only 35 M M1 := by
  have hs := nSto_rng h.2
  have hg : nGar A ≤ nSto A := by
    have := nRch_rng h.2 (-1)
    unfold nGar
    omega
  have hg0 : 0 ≤ nGar A := by
    rw [nGar_eq h.2]
    exact nRem_0 A
  unfold f_X11_garbagePart
  rw [countStored_C h (by omega), cal_some]
  by_cases h0 : nSto A = 0
  · rw [if_pos h0, if_pos h0]
    exact ⟨M, rfl, fun _ _ => rfl⟩
  · obtain ⟨M1, e1, f1⟩ := countGarbage_C (fu := fu) (by omega) h
    rw [if_neg h0, if_neg h0, e1, cal_some, grd_pos ⟨⟨hg0, by omega⟩, by omega, by omega⟩]
    exact ⟨M1, rfl, f1⟩
theorem shL {M : Mem} {N : Int} {g : Int → Int} (h53 : M 53 1 = N) (hN : 0 ≤ N ∧ N ≤ 138) (hg : ∀ m, 0 ≤ m → m < N → M 60 m.toNat = g m ∧ 0 ≤ g m ∧ g m ≤ 40) {a b : Int} : ∀ (n : Nat) (x1 x2 x3 : Int), 0 ≤ x3 → x3 ≤ N → N - x3 < n → 0 ≤ x1 → x1 ≤ 40 * x3 → 0 ≤ x2 → x2 ≤ x3 → x1 + sm g (N - x3).toNat x3 = a → x2 + sm (fun m => ind (0 < g m)) (N - x3).toNat x3 = b →
    f_X12_sharing_L15 fu n x1 x2 x3 M = some (M, if b = 0 then ((0 : Int), (0 : Int)) else (a, b))
  | 0, x1, x2, x3, h0, h1, h2, _, _, _, _, _, _ => by omega
  | n + 1, x1, x2, x3, h0, h1, h2, h3, h4, h5, h6, ha, hb => by
    rw [f_X12_sharing_L15, grd_pos (by decide), show M 53 ((1 : Int) : Int).toNat = N from h53]
    by_cases hz : N ≤ x3
    · have e : (N - x3).toNat = 0 := by omega
      rw [e] at ha hb
      have ha : x1 + 0 = a := ha
      have hb : x2 + 0 = b := hb
      rw [if_pos hz]
      have ea : x1 = a := by omega
      have eb : x2 = b := by omega
      rw [← ea, ← eb]
      by_cases h9 : x2 = 0
      · rw [if_pos h9, if_pos h9]
      · rw [if_neg h9, if_neg h9, grd_pos ⟨⟨h3, by omega⟩, by omega, by omega⟩]
    · obtain ⟨g1, g2, g3⟩ := hg x3 h0 (by omega)
      have e : (N - x3).toNat = (N - (x3 + 1)).toNat + 1 := by omega
      rw [e] at ha hb
      have ha : x1 + (g x3 + sm g (N - (x3 + 1)).toNat (x3 + 1)) = a := ha
      have hb : x2 + (ind (0 < g x3) + sm (fun m => ind (0 < g m)) (N - (x3 + 1)).toNat (x3 + 1)) = b := hb
      rw [if_neg hz, grd_pos ⟨h0, by omega⟩, grd_pos ⟨h0, by omega⟩, g1]
      by_cases hp : g x3 ≤ 0
      · have ei : ind (0 < g x3) = 0 := if_neg (by omega)
        rw [ei] at hb
        rw [if_pos hp, one_X 0 (Or.inl rfl), cal_some, grd_pos ⟨by omega, by omega⟩, grd_pos ⟨by omega, by omega⟩, grd_pos ⟨by omega, by omega⟩]
        exact shL h53 hN hg n _ _ _ (by omega) (by omega) (by omega) (by omega) (by omega) (by omega) (by omega) (by omega) (by omega)
      · have ei : ind (0 < g x3) = 1 := if_pos (by omega)
        rw [ei] at hb
        rw [if_neg hp, one_X 1 (Or.inr rfl), cal_some, grd_pos ⟨by omega, by omega⟩, grd_pos ⟨by omega, by omega⟩, grd_pos ⟨by omega, by omega⟩]
        exact shL h53 hN hg n _ _ _ (by omega) (by omega) (by omega) (by omega) (by omega) (by omega) (by omega) (by omega) (by omega)
theorem sharing_XM (hfu : 40000 ≤ fu) (h : MM M A) : ∃ M1, f_X12_sharing fu M = some (M1, if nRch A (-1) = 0 then ((0 : Int), (0 : Int)) else (tlA A, nRch A (-1))) ∧ only 60 (up M 52 6 0) M1 := by
  have hm := MM_up (i := 6) (x := 0) h (show 53 ≠ 52 by decide)
  obtain ⟨M1, e1, f1, g1⟩ := reachAll_M (fu := fu) (by omega) hm
  have h1 := MM_congr hm (f1 53 (by decide))
  refine ⟨M1, ?_, f1⟩
  unfold f_X12_sharing
  rw [e1, cal_some]
  exact shL (N := aN A) (g := rsA A (-1)) (MM_n h1) (MM_nr h1) (fun m m0 m1 => ⟨g1 m m0 m1, rsA_nonneg A (-1) m, rsA_40 h.2 m⟩) fu 0 0 0 (by decide) (MM_nr h1).1 (by have := MM_nr h1; omega) (by decide) (by decide) (by decide) (by decide) (by rw [← sum_rs h.2, Int.sub_zero, Int.zero_add]) (by rw [Int.sub_zero, Int.zero_add]; rfl)
theorem garbagePart_XM (hfu : 40000 ≤ fu) (h : MM M A) : ∃ M1, f_X12_garbagePart fu M = some (M1, if nSto A = 0 then ((0 : Int), (0 : Int)) else (nGar A, nSto A)) ∧ only 60 (up M 52 6 0) M1 := by
  have hm := MM_up (i := 6) (x := 0) h (show 53 ≠ 52 by decide)
  obtain ⟨M1, e1, f1, -⟩ := countGarbage_M (fu := fu) (by omega) hm
  have h1 := MM_congr hm (f1 53 (by decide))
  have hs := nSto_rng h.2
  have hr := nRch_rng h.2 (-1)
  have hq : nGar A = nSto A - nRch A (-1) := rfl
  have hg0 := nRem_0 A
  refine ⟨M1, ?_, f1⟩
  unfold f_X12_garbagePart
  rw [e1, cal_some, countStored_M h1 (by omega), cal_some, ← nGar_eq h.2]
  rw [← nGar_eq h.2] at hg0
  by_cases h0 : nSto A = 0
  · rw [if_pos h0, if_pos h0]
  · rw [if_neg h0, if_neg h0, grd_pos ⟨⟨hg0, by omega⟩, by omega, by omega⟩]
theorem calq_some (M : Mem) (r : Int × Int) (k : Mem → Int × Int → Option (Mem × Int)) : calq (some (M, r)) k = k M r := rfl
theorem case38_ok (hI : INV M A H c T TO e o s B) (hfu : 40000 ≤ fu) : ∃ M', f_L_case38 fu M = some (M', 0) ∧ LOK M M' := by
  obtain ⟨M1, e1, f1⟩ := sharing_X (fu := fu) hfu hI.1.1
  obtain ⟨i1, s1⟩ := INV_35 hI (fun q q1 _ => f1 q q1)
  obtain ⟨M9, e9, f9⟩ := sharing_XM (fu := fu) hfu i1.2.1.1
  obtain ⟨i9, s9, o9, t9⟩ := md_60 i1 f9
  unfold f_L_case38
  rw [e1, calq_some, e9, calq_some, if_pos rfl]
  exact ⟨M9, rfl, by rw [s9, s1], A, H, c, T, TO, e, o, s, B, i9⟩
theorem case39_ok (hI : INV M A H c T TO e o s B) (hfu : 40000 ≤ fu) : ∃ M', f_L_case39 fu M = some (M', 0) ∧ LOK M M' := by
  obtain ⟨M1, e1, f1⟩ := garbagePart_X (fu := fu) hfu hI.1.1
  obtain ⟨i1, s1⟩ := INV_35 hI (fun q q1 _ => f1 q q1)
  obtain ⟨M9, e9, f9⟩ := garbagePart_XM (fu := fu) hfu i1.2.1.1
  obtain ⟨i9, s9, o9, t9⟩ := md_60 i1 f9
  have hG := hI.1.1.2
  have hs := nSto_rng hG
  have hr := nRch_rng hG (-1)
  have hg0 := nRem_0 A
  rw [← nGar_eq hG] at hg0
  have hq : nGar A = nSto A - nRch A (-1) := rfl
  unfold f_L_case39
  rw [e1, calq_some, e9, calq_some, if_pos]
  · exact ⟨M9, rfl, by rw [s9, s1], A, H, c, T, TO, e, o, s, B, i9⟩
  · refine ⟨rfl, ?_⟩
    by_cases h0 : nSto A = 0
    · rw [if_pos h0]
      exact Or.inl rfl
    · rw [if_neg h0]
      exact Or.inr ⟨⟨hg0, by show nGar A < 8192; omega⟩, by show 0 < nSto A; omega, by show nSto A < 8192; omega⟩
end Quo
