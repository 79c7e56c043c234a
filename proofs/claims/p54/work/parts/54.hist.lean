/-! what was before: histories, saved states -/
/-- B holds A's versions and nodes as they were -/
def sub (A B : AS) : Prop := aV A ≤ aV B ∧ aN A ≤ aN B ∧ (∀ v, 0 ≤ v → v < aV A → (∀ j, j ≠ 3 → vf B v j = vf A v j) ∧ ∀ i, ev B v i = ev A v i) ∧ ∀ k, 0 ≤ k → k < aN A → ∀ j, j ≠ 2 → nf B k j = nf A k j
theorem sub_refl (A : AS) : sub A A := ⟨Int.le_refl _, Int.le_refl _, fun _ _ _ => ⟨fun _ _ => rfl, fun _ => rfl⟩, fun _ _ _ _ _ => rfl⟩
theorem sub_trans {A B C : AS} (h : sub A B) (h2 : sub B C) : sub A C := by
  obtain ⟨a1, a2, a3, a4⟩ := h
  obtain ⟨b1, b2, b3, b4⟩ := h2
  refine ⟨by omega, by omega, fun v v0 v1 => ?_, fun k k0 k1 j hj => by rw [b4 k k0 (by omega) j hj, a4 k k0 k1 j hj]⟩
  obtain ⟨p1, p2⟩ := a3 v v0 v1
  obtain ⟨q1, q2⟩ := b3 v v0 (by omega)
  exact ⟨fun j hj => by rw [q1 j hj, p1 j hj], fun i => by rw [q2 i, p2 i]⟩
theorem sub_addV {A A1 : AS} (h : ext A A1) (hs : aV A1 = aV A ∧ vf A1 = vf A ∧ ev A1 = ev A) (pa rt s cr : Int) (e : Int → Int) : sub A (addV A1 pa rt s cr e) := by
  refine ⟨by rw [addV_V, hs.1]; omega, by rw [addV_N]; exact h.1, fun v v0 v1 => ⟨fun j hj => ?_, fun i => ?_⟩, fun k k0 k1 j hj => h.2 k k0 k1 j hj⟩
  · rw [addV_vf (by rw [hs.1]; omega), hs.2.1]
  · rw [addV_ev (by rw [hs.1]; omega), hs.2.2]
theorem sub_mkR (A : AS) (v : Int) : sub A (mkR A v) := ⟨Int.le_refl _, Int.le_refl _, fun w _ _ => ⟨fun j hj => if_neg (fun z => hj z.2), fun _ => rfl⟩, fun _ _ _ _ _ => rfl⟩
theorem sub_mkC (A : AS) : sub A (mkC A) := ⟨Int.le_refl _, Int.le_refl _, fun w _ _ => ⟨fun j hj => rfl, fun _ => rfl⟩, fun k _ _ j hj => if_neg (fun z => hj z.1)⟩
theorem sub_mkS {A : AS} (hG : Good A) {v i x : Int} (hv : 0 ≤ v ∧ v < aV A) (hi : 0 ≤ i ∧ i < szA A v) (hx : -999 ≤ x ∧ x ≤ 999) : sub A (mkS A v i x) := by
  obtain ⟨l, l1, l2, l3, l4, l5, l6, -⟩ := G_tree hG hv.1 hv.2 (by omega)
  unfold mkS
  by_cases he : ev A v i = x
  · rw [if_pos he]
    exact sub_addV (ext_refl A) ⟨rfl, rfl, rfl⟩ _ _ _ _ _
  · rw [if_neg he, l1]
    obtain ⟨w1, -⟩ := wrA_spec (l + 1) (by omega) hG.2.2.1 hG.2.1.1 (n := rtA A v) (i := i) (x := x) (c := szA A v) hx hi.1 (by omega) (by omega) (Or.inr (Or.inr ⟨by omega, l3, l4.symm⟩))
    exact sub_addV w1.1 w1.2.2.1 _ _ _ _ _
theorem sub_mkA {A : AS} (hG : Good A) {v x : Int} (hv : 0 ≤ v ∧ v < aV A) (hs64 : szA A v < 64) (hx : -999 ≤ x ∧ x ≤ 999) : sub A (mkA A v x) := by
  have gv := G_V hG hv.1 hv.2
  have hm := hgt_mono (a := szA A v) (b := szA A v + 1) (by omega) (by omega)
  have hf1 := hgt_fit (s := szA A v + 1) (by omega) (by omega)
  have hp1 := hgt_pos (s := szA A v + 1) (by omega)
  have key : ext A (grA A v x).1 ∧ aV (grA A v x).1 = aV A ∧ vf (grA A v x).1 = vf A ∧ ev (grA A v x).1 = ev A := by
    unfold grA
    by_cases hb : 0 < szA A v ∧ hgt (szA A v) < hgt (szA A v + 1)
    · rw [if_pos hb]
      obtain ⟨w1, -⟩ := wrA_spec (hgt (szA A v)) (hgt_le _) hG.2.2.1 hG.2.1.1 (n := -1) (i := 0) (x := x) (c := 0) hx (Int.le_refl 0) (Int.le_refl 0) (pw_pos _) (Or.inr (Or.inl ⟨hgt_pos hb.1, rfl, rfl⟩))
      exact ⟨ext_trans w1.1 (addN_ext _ _ _ _), w1.2.2.1⟩
    · rw [if_neg hb]
      by_cases hs : 0 < szA A v
      · obtain ⟨l, l1, l2, l3, l4, l5, l6, -⟩ := G_tree hG hv.1 hv.2 hs
        have he : hgt (szA A v + 1) = l + 1 := by omega
        rw [he] at hf1 ⊢
        obtain ⟨w1, -⟩ := wrA_spec (l + 1) (by omega) hG.2.2.1 hG.2.1.1 (n := rtA A v) (i := szA A v) (x := x) (c := szA A v) hx gv.1.1 (Int.le_refl _) (by omega) (Or.inr (Or.inr ⟨by omega, l3, l4.symm⟩))
        exact ⟨w1.1, w1.2.2.1⟩
      · have hz : szA A v = 0 := by have := gv.1.1; omega
        rw [hz, gv.2.2.2.2.2.1.1 hz]
        obtain ⟨w1, -⟩ := wrA_spec (hgt (0 + 1)) (hgt_le _) hG.2.2.1 hG.2.1.1 (n := -1) (i := 0) (x := x) (c := 0) hx (Int.le_refl 0) (Int.le_refl 0) (pw_pos _) (Or.inr (Or.inl ⟨by decide, rfl, rfl⟩))
        exact ⟨w1.1, w1.2.2.1⟩
  exact sub_addV key.1 key.2 _ _ _ _ _
theorem sub_mkT {A : AS} (hG : Good A) {v s : Int} (hv : 0 ≤ v ∧ v < aV A) (hs : 0 ≤ s ∧ s ≤ szA A v) : sub A (mkT A v s) := by
  have gv := G_V hG hv.1 hv.2
  unfold mkT
  by_cases hz : s = 0
  · rw [if_pos hz]
    exact sub_addV (ext_refl A) ⟨rfl, rfl, rfl⟩ _ _ _ _ _
  · rw [if_neg hz]
    obtain ⟨t1, t2, t3, t4⟩ := gv.2.2.2.2.2.1.2 (by omega)
    have hm := hgt_mono hs.2 gv.1.2
    have e : hgt (szA A v) = hgt s + (hgt (szA A v) - hgt s) := by omega
    have hf := hgt_fit (s := s) (by omega) (by omega)
    obtain ⟨d1, d2, d3, d4⟩ := dnA_spec hG.2.2.1 (hgt (szA A v) - hgt s) (l := hgt s) (b := aN A) (n := rtA A v) (s := s) (Int.le_refl _) (by rw [← e]; exact t1) (hgt_pos (by omega)) (by rw [← e, t2]; exact hs.2) hf
    obtain ⟨c1, -⟩ := cuA_spec (hgt s) (hgt_le _) hG.2.2.1 hG.2.1.1 d1 (by omega) d2
    exact sub_addV c1.1 c1.2.2.1 _ _ _ _ _
theorem repR_sub {F : Nat → Nat → Int} {A B : AS} (h : repR F B) (hA : Good A) (hs : sub A B) : repR F A := by
  obtain ⟨s1, s2, s3, s4⟩ := h
  obtain ⟨a1, a2, a3, a4⟩ := hs
  refine ⟨fun k k0 k1 => ?_, fun v v0 v1 => ?_, ⟨s3.1, fun i i0 i1 => ?_⟩, fun v v0 v1 i i0 i1 => ?_⟩
  · have q := a4 k k0 k1
    obtain ⟨w1, w2, w3⟩ := s1 k k0 (by omega)
    have e1 : flA B k = flA A k := q 1 (by decide)
    have e0 : lvA B k = lvA A k := q 0 (by decide)
    rw [← e0, ← e1]
    refine ⟨w1, w2, fun j j0 j1 => ?_⟩
    rw [← show enA B k j = enA A k j from q _ (by omega)]
    exact w3 j j0 j1
  · have q := (a3 v v0 v1).1
    obtain ⟨w1, w2, w3, w4⟩ := s2 v v0 (by omega)
    exact ⟨w1.trans (q 2 (by decide)), w2.trans (q 1 (by decide)), w3.trans (q 0 (by decide)), w4.trans (q 4 (by decide))⟩
  · have hv := hA.1
    have q := a3 0 (Int.le_refl 0) (by omega)
    have e0 : szA B 0 = szA A 0 := q.1 0 (by decide)
    rw [← q.2 i]
    exact s3.2 i i0 (by omega)
  · have q := a3 v (by omega) v1
    have hp := (G_V hA (by omega) v1).2.2.2.2.1 v0
    have qp := a3 (paA A v) hp.1 (by omega)
    have e0 : szA B v = szA A v := q.1 0 (by decide)
    have e2 : paA B v = paA A v := q.1 2 (by decide)
    have e3 : szA B (paA A v) = szA A (paA A v) := qp.1 0 (by decide)
    have := s4 v v0 (by omega) i i0 (by omega)
    rw [e2, e3, q.2 i, qp.2 i] at this
    exact this
/-! rows copied -/
section Hist
variable {fu : Nat}
theorem copyRow_C (M : Mem) {k0 k1 n : Nat} (hk : k0 ≠ k1) (hn : n ≤ 1000) (hfu : 2000 ≤ fu) : ∃ M', f_X11_copyRow fu M k0 n k1 n = some (M', 0) ∧ only k1 M M' ∧ ∀ i : Int, 0 ≤ i → i < n → M' k1 i.toNat = M k0 i.toNat := by
  unfold f_X11_copyRow
  have := lp_mem (F := fun m i M' => f_X11_copyRow_L2 fu k0 n k1 n m i M') (fun i M' => only k1 M M' ∧ ∀ j : Int, 0 ≤ j → j < i → M' k1 j.toNat = M k0 j.toNat) n
    (Q := fun o => ∃ M', o = (M', 0) ∧ only k1 M M' ∧ ∀ j : Int, 0 ≤ j → j < n → M' k1 j.toNat = M k0 j.toNat)
    (fun m i M1 i0 i1 hP => by
      refine ⟨up M1 k1 i.toNat (M1 k0 i.toNat), ?_, only_trans hP.1 (only_up _ _ _ _), fun j j0 j1 => ?_⟩
      · show f_X11_copyRow_L2 fu k0 n k1 n (m + 1) i M1 = _
        rw [f_X11_copyRow_L2, if_neg (by omega), if_neg (by omega), grd_pos ⟨i0, i1⟩, grd_pos ⟨i0, i1⟩, grd_pos (by omega)]
      · rw [up_toNat i0 j0]
        by_cases hji : j = i
        · rw [if_pos hji, hji, hP.1 k0 hk]
        · rw [if_neg hji]; exact hP.2 j j0 (by omega))
    (fun m M1 hP => by
      refine ⟨(M1, 0), ?_, M1, rfl, hP⟩
      show f_X11_copyRow_L2 fu k0 n k1 n (m + 1) n M1 = _
      rw [f_X11_copyRow_L2, if_pos (Int.le_refl _)]) fu 0 M (by omega) (by omega) (by omega) ⟨only_refl _ _, fun j j0 j1 => by omega⟩
  obtain ⟨o, e, M', rfl, h⟩ := this
  exact ⟨M', e, h⟩
theorem copyFlags_C (M : Mem) {k0 n0 k2 n2 : Nat} {a b c : Int} (hk : k0 ≠ k2) (ha : 0 ≤ a ∧ a + c ≤ n0) (hb : 0 ≤ b ∧ b + c ≤ n2) (hc : 0 ≤ c ∧ c ≤ 1000) (hn : n0 ≤ 5000 ∧ n2 ≤ 5000) (hfu : 2000 ≤ fu) :
    ∃ M', f_X11_copyFlags fu M k0 n0 a k2 n2 b c = some (M', 0) ∧ only k2 M M' ∧ (∀ i : Int, 0 ≤ i → i < c → M' k2 (b + i).toNat = if M k0 (a + i).toNat = 0 then 0 else 1) ∧ ∀ i : Int, 0 ≤ i → (i < b ∨ b + c ≤ i) → M' k2 i.toNat = M k2 i.toNat := by
  unfold f_X11_copyFlags
  have := lp_mem (F := fun m i M' => f_X11_copyFlags_L3 fu k0 n0 k2 n2 m a b c i M') (fun i M' => only k2 M M' ∧ (∀ j : Int, 0 ≤ j → j < i → M' k2 (b + j).toNat = if M k0 (a + j).toNat = 0 then 0 else 1) ∧ ∀ j : Int, 0 ≤ j → (j < b ∨ b + c ≤ j) → M' k2 j.toNat = M k2 j.toNat) c
    (Q := fun o => ∃ M', o = (M', 0) ∧ only k2 M M' ∧ (∀ j : Int, 0 ≤ j → j < c → M' k2 (b + j).toNat = if M k0 (a + j).toNat = 0 then 0 else 1) ∧ ∀ j : Int, 0 ≤ j → (j < b ∨ b + c ≤ j) → M' k2 j.toNat = M k2 j.toNat)
    (fun m i M1 i0 i1 hP => by
      refine ⟨up M1 k2 (b + i).toNat (if M1 k0 (a + i).toNat = 0 then 0 else 1), ?_, only_trans hP.1 (only_up _ _ _ _), fun j j0 j1 => ?_, fun j j0 j1 => ?_⟩
      · show f_X11_copyFlags_L3 fu k0 n0 k2 n2 (m + 1) a b c i M1 = _
        rw [f_X11_copyFlags_L3, if_neg (by omega), grd_pos (by omega), flagAt_in (by omega) (by omega), cal_some, grd_pos (by omega), putFlag_in (by omega) (by omega) (by split <;> decide), cal_some, grd_pos (by omega)]
      · rw [up_toNat (by omega) (by omega)]
        by_cases hji : j = i
        · rw [if_pos (by omega), hji, hP.1 k0 hk]
        · rw [if_neg (by omega)]; exact hP.2.1 j j0 (by omega)
      · rw [up_toNat (by omega) j0, if_neg (by omega)]; exact hP.2.2 j j0 j1)
    (fun m M1 hP => by
      refine ⟨(M1, 0), ?_, M1, rfl, hP⟩
      show f_X11_copyFlags_L3 fu k0 n0 k2 n2 (m + 1) a b c c M1 = _
      rw [f_X11_copyFlags_L3, if_pos (Int.le_refl _)]) fu 0 M (by omega) (by omega) (by omega) ⟨only_refl _ _, fun j j0 j1 => by omega, fun _ _ _ => rfl⟩
  obtain ⟨o, e, M', rfl, h⟩ := this
  exact ⟨M', e, h⟩
/-- the changes kept: H j for j below c -/
def HI (A : AS) (H : Int → AS) (c : Int) : Prop := ∀ j, 0 ≤ j → j < c → Good (H j) ∧ sub (H j) A ∧ ∀ i, 0 ≤ i → i ≤ j → sub (H i) (H j)
def HC (M : Mem) (H : Int → AS) (c : Int) : Prop := M 38 0 = c ∧ (0 ≤ c ∧ c ≤ 8) ∧ (0 ≤ M 38 1 ∧ M 38 1 < 8) ∧ ∀ j, 0 ≤ j → j < c → M 39 ((M 38 1 - c + j) % 8).toNat = aV (H j) ∧ M 40 ((M 38 1 - c + j) % 8).toNat = aN (H j) ∧ (∀ v, 0 ≤ v → v < aV (H j) → M 41 ((M 38 1 - c + j) % 8 * 40 + v).toNat = rlA (H j) v) ∧ ∀ k, 0 ≤ k → k < aN (H j) → M 42 ((M 38 1 - c + j) % 8 * 138 + k).toNat = coA (H j) k
def hPush (H : Int → AS) (c : Int) (A : AS) (j : Int) : AS := if c < 8 then (if j = c then A else H j) else (if j = 7 then A else H (j + 1))
theorem HI_push {A : AS} {H : Int → AS} {c : Int} (hG : Good A) (h : HI A H c) (hc : 0 ≤ c ∧ c ≤ 8) : HI A (hPush H c A) (imin (c + 1) 8) := by
  intro j j0 j1
  have him := imin_le (c + 1) 8
  unfold hPush
  by_cases hc8 : c < 8
  · simp only [if_pos hc8]
    by_cases hj : j = c
    · rw [if_pos hj]
      refine ⟨hG, sub_refl A, fun i i0 i1 => ?_⟩
      by_cases hi : i = c
      · rw [if_pos hi]; exact sub_refl A
      · rw [if_neg hi]; exact (h i i0 (by omega)).2.1
    · rw [if_neg hj]
      obtain ⟨q1, q2, q3⟩ := h j j0 (by omega)
      refine ⟨q1, q2, fun i i0 i1 => ?_⟩
      rw [if_neg (by omega)]
      exact q3 i i0 i1
  · simp only [if_neg hc8]
    by_cases hj : j = 7
    · rw [if_pos hj]
      refine ⟨hG, sub_refl A, fun i i0 i1 => ?_⟩
      by_cases hi : i = 7
      · rw [if_pos hi]; exact sub_refl A
      · rw [if_neg hi]; exact (h (i + 1) (by omega) (by omega)).2.1
    · rw [if_neg hj]
      obtain ⟨q1, q2, q3⟩ := h (j + 1) (by omega) (by omega)
      refine ⟨q1, q2, fun i i0 i1 => ?_⟩
      rw [if_neg (by omega)]
      exact q3 (i + 1) (by omega) (by omega)
theorem HI_sub {A B : AS} {H : Int → AS} {c : Int} (h : HI A H c) (hs : sub A B) : HI B H c := fun j j0 j1 => ⟨(h j j0 j1).1, sub_trans (h j j0 j1).2.1 hs, (h j j0 j1).2.2⟩
theorem keep_C {M : Mem} {A : AS} {H : Int → AS} {c : Int} (h : CM M A) (hH : HC M H c) (hfu : 2000 ≤ fu) (hI : HI A H c) : ∃ M', f_X1_keep fu M = some (M', 0) ∧ HC M' (hPush H c A) (imin (c + 1) 8) ∧ ∀ q, q < 38 ∨ 42 < q → M' q = M q := by
  have hnr := CM_nr h
  have hvr := CM_vr h
  obtain ⟨h1, h2, h3, h4⟩ := hH
  generalize hnx : M 38 1 = nx at h3 h4
  have him := imin_le (c + 1) 8
  -- the two counts
  have g1 : ∀ q, q ≠ 39 → q ≠ 40 → up (up M 39 nx.toNat (aV A)) 40 nx.toNat (aN A) q = M q := fun q q1 q2 => by rw [up_cell _ _ q2, up_cell _ _ q1]
  have g39 : ∀ i : Int, 0 ≤ i → up (up M 39 nx.toNat (aV A)) 40 nx.toNat (aN A) 39 i.toNat = if i = nx then aV A else M 39 i.toNat := fun i i0 => by rw [up_cell _ _ (by decide), up_toNat h3.1 i0]
  have g40 : ∀ i : Int, 0 ≤ i → up (up M 39 nx.toNat (aV A)) 40 nx.toNat (aN A) 40 i.toNat = if i = nx then aN A else M 40 i.toNat := fun i i0 => by rw [up_toNat h3.1 i0, up_cell _ _ (by decide)]
  have e5 : up M 39 nx.toNat (aV A) 5 0 = aN A := by rw [up_cell _ _ (by decide)]; exact CM_n h
  have e38 : up M 39 nx.toNat (aV A) 38 1 = nx := by rw [up_cell _ _ (by decide)]; exact hnx
  have hstart : f_X1_keep fu M = grd (rng (nx * 40)) (cal (f_X11_copyFlags fu (up (up M 39 nx.toNat (aV A)) 40 nx.toNat (aN A)) 18 40 0 41 320 (nx * 40) 40) fun M10 r11 => grd (rng ((M10 38 1) * (138 : Int))) (cal (f_X11_copyFlags fu M10 9 138 (0 : Int) 42 1104 ((M10 38 1) * (138 : Int)) (138 : Int)) fun M15 r16 => grd ((0 ≤ (M15 38 1) + (1 : Int) ∧ (M15 38 1) + (1 : Int) ≤ 2147483647) ∧ 0 < (8 : Int) ∧ (8 : Int) ≤ 2147483647) (grd (rng (((M15 38 1) + (1 : Int)) % (8 : Int))) (grd (rng (((up M15 38 1 (((M15 38 1) + (1 : Int)) % (8 : Int))) 38 0) + (1 : Int))) (some (up (up M15 38 1 (((M15 38 1) + (1 : Int)) % (8 : Int))) 38 0 (imin (((up M15 38 1 (((M15 38 1) + (1 : Int)) % (8 : Int))) 38 0) + (1 : Int)) (8 : Int)), 0)))))) := by
    unfold f_X1_keep
    have e38b : up (up M 39 nx.toNat (aV A)) 40 nx.toNat (aN A) 38 1 = nx := by rw [g1 38 (by decide) (by decide)]; exact hnx
    rw [hnx, CM_v h, put_in h3.1 (by omega), cal_some, e38, e5, put_in h3.1 (by omega), cal_some, e38b]
  rw [hstart]
  clear hstart
  generalize up (up M 39 nx.toNat (aV A)) 40 nx.toNat (aN A) = M0 at g1 g39 g40
  obtain ⟨M1, e1, o1, f1, u1⟩ := copyFlags_C (fu := fu) M0 (k0 := 18) (n0 := 40) (k2 := 41) (n2 := 320) (a := 0) (b := nx * 40) (c := 40) (by decide) (by decide) (by omega) (by decide) (by decide) hfu
  have e381 : M1 38 1 = nx := by rw [o1 38 (by decide), g1 38 (by decide) (by decide)]; exact hnx
  obtain ⟨M2, e2, o2, f2, u2⟩ := copyFlags_C (fu := fu) M1 (k0 := 9) (n0 := 138) (k2 := 42) (n2 := 1104) (a := 0) (b := nx * 138) (c := 138) (by decide) (by decide) (by omega) (by decide) (by decide) hfu
  have e382 : M2 38 1 = nx := by rw [o2 38 (by decide)]; exact e381
  have e380 : M2 38 0 = c := by rw [o2 38 (by decide), o1 38 (by decide), g1 38 (by decide) (by decide)]; exact h1
  have e383 : up M2 38 1 ((nx + 1) % 8) 38 0 = c := by rw [up_at (Or.inr (by decide))]; exact e380
  refine ⟨up (up M2 38 1 ((nx + 1) % 8)) 38 0 (imin (c + 1) 8), ?_, ⟨up_same _ _ _ _, by omega, ?_, fun j j0 j1 => ?_⟩, fun q hq => ?_⟩
  · rw [grd_pos (by omega), e1, cal_some, e381, grd_pos (by omega), e2, cal_some, e382, grd_pos (by omega), grd_pos (by omega), e383, grd_pos (by omega)]
  · rw [up_at (Or.inr (by decide)), up_same]; omega
  · have e9 : up (up M2 38 1 ((nx + 1) % 8)) 38 0 (imin (c + 1) 8) 38 1 = (nx + 1) % 8 := by rw [up_at (Or.inr (by decide)), up_same]
    have eq : ∀ q, q ≠ 38 → up (up M2 38 1 ((nx + 1) % 8)) 38 0 (imin (c + 1) 8) q = M2 q := fun q hq => by rw [up_cell _ _ hq, up_cell _ _ hq]
    rw [e9, eq 39 (by decide), eq 40 (by decide), eq 41 (by decide), eq 42 (by decide)]
    have e39 : M2 39 = M0 39 := by rw [o2 39 (by decide), o1 39 (by decide)]
    have e40 : M2 40 = M0 40 := by rw [o2 40 (by decide), o1 40 (by decide)]
    have e41 : M2 41 = M1 41 := o2 41 (by decide)
    rw [e39, e40, e41]
    -- the place of j
    have hslot : ((nx + 1) % 8 - imin (c + 1) 8 + j) % 8 = if (c < 8 ∧ j = c) ∨ (¬ c < 8 ∧ j = 7) then nx else (nx - c + (if c < 8 then j else j + 1)) % 8 := by
      by_cases hc8 : c < 8
      · have : imin (c + 1) 8 = c + 1 := by omega
        rw [this, if_pos hc8]
        by_cases hj : j = c
        · rw [if_pos (Or.inl ⟨hc8, hj⟩)]; omega
        · rw [if_neg (by omega)]; omega
      · have : imin (c + 1) 8 = 8 := by omega
        rw [this, if_neg hc8]
        by_cases hj : j = 7
        · rw [if_pos (Or.inr ⟨hc8, hj⟩)]; omega
        · rw [if_neg (by omega)]; omega
    rw [hslot]
    unfold hPush
    by_cases hnew : (c < 8 ∧ j = c) ∨ (¬ c < 8 ∧ j = 7)
    · have hA : (if c < 8 then (if j = c then A else H j) else (if j = 7 then A else H (j + 1))) = A := by
        rcases hnew with ⟨q1, q2⟩ | ⟨q1, q2⟩
        · rw [if_pos q1, if_pos q2]
        · rw [if_neg q1, if_pos q2]
      rw [hA, if_pos hnew]
      refine ⟨by rw [g39 nx h3.1, if_pos rfl], by rw [g40 nx h3.1, if_pos rfl], fun v v0 v1 => ?_, fun k k0 k1 => ?_⟩
      · rw [f1 v v0 (by omega), g1 18 (by decide) (by decide)]
        have e0 : (0 : Int) + v = v := by omega
        have hr := (G_V h.2 v0 v1).2.1
        rw [e0, CM_rl h v0 v1]
        split <;> omega
      · rw [f2 k k0 (by omega), o1 9 (by decide), g1 9 (by decide) (by decide)]
        have e0 : (0 : Int) + k = k := by omega
        have hr := G_co h.2 k0 k1
        rw [e0, CM_co h k0 k1]
        split <;> omega
    · rw [if_neg hnew]
      generalize hj' : (if c < 8 then j else j + 1) = j'
      have hjr : 0 ≤ j' ∧ j' < c := by
        by_cases hc8 : c < 8
        · rw [if_pos hc8] at hj'; omega
        · rw [if_neg hc8] at hj'; omega
      have hA : (if c < 8 then (if j = c then A else H j) else (if j = 7 then A else H (j + 1))) = H j' := by
        by_cases hc8 : c < 8
        · rw [if_pos hc8] at hj' ⊢
          rw [if_neg (by omega), hj']
        · rw [if_neg hc8] at hj' ⊢
          rw [if_neg (by omega), hj']
      rw [hA]
      obtain ⟨w1, w2, w3, w4⟩ := h4 j' hjr.1 hjr.2
      obtain ⟨q1, q2, q3⟩ := hI j' hjr.1 hjr.2
      have hb := q1.1
      have hbn := Good_N q1
      have hne : (nx - c + j') % 8 ≠ nx := by omega
      have hr0 : 0 ≤ (nx - c + j') % 8 ∧ (nx - c + j') % 8 < 8 := by omega
      generalize (nx - c + j') % 8 = s at *
      refine ⟨by rw [g39 s hr0.1, if_neg hne]; exact w1, by rw [g40 s hr0.1, if_neg hne]; exact w2, fun v v0 v1 => ?_, fun k k0 k1 => ?_⟩
      · rw [u1 _ (by omega) (by omega), g1 41 (by decide) (by decide)]
        exact w3 v v0 v1
      · rw [u2 _ (by omega) (by omega), o1 42 (by decide), g1 42 (by decide) (by decide)]
        exact w4 k k0 k1
  · rw [up_cell _ _ (by omega), up_cell _ _ (by omega), o2 q (by omega), o1 q (by omega), g1 q (by omega) (by omega)]
end Hist
