/-! the model's memory holds a state -/
def repM (G : Nat → Int) (A : AS) : Prop :=
  G 0 = aV A ∧ G 1 = aN A ∧
  (∀ v, 0 ≤ v → v < aV A → G (10 + 6 * v + 0).toNat = szA A v ∧ G (10 + 6 * v + 1).toNat = rtA A v ∧ G (10 + 6 * v + 2).toNat = (hgt (szA A v) : Int) ∧ G (10 + 6 * v + 3).toNat = paA A v ∧ G (10 + 6 * v + 4).toNat = rlA A v ∧ G (10 + 6 * v + 5).toNat = crA A v ∧ ∀ i, 0 ≤ i → i < szA A v → G (250 + 64 * v + i).toNat = ev A v i) ∧
  (∀ k, 0 ≤ k → k < aN A → G (2810 + 7 * k + 0).toNat = ind (lvA A k = 1) ∧ G (2810 + 7 * k + 1).toNat = flA A k ∧ (∀ j, 0 ≤ j → j < flA A k → G (2810 + 7 * k + 2 + j).toNat = enA A k j) ∧ G (2810 + 7 * k + 6).toNat = 1 - coA A k)
def MM (M : Mem) (A : AS) : Prop := repM (M 53) A ∧ Good A
theorem MM_congr {M M' : Mem} {A : AS} (h : MM M A) (hk : M' 53 = M 53) : MM M' A := ⟨by rw [hk]; exact h.1, h.2⟩
theorem MM_up {M : Mem} {A : AS} (h : MM M A) {k i : Nat} {x : Int} (hk : 53 ≠ k) : MM (up M k i x) A := MM_congr h (up_cell i x hk)
section MRep
variable {M : Mem} {A : AS} {fu : Nat}
theorem MM_v (h : MM M A) : M 53 (0 : Int).toNat = aV A := h.1.1
theorem MM_n (h : MM M A) : M 53 (1 : Int).toNat = aN A := h.1.2.1
theorem MM_nr (h : MM M A) : 0 ≤ aN A ∧ aN A ≤ 138 := ⟨h.2.2.1.1, Good_N h.2⟩
theorem MM_vr (h : MM M A) : 1 ≤ aV A ∧ aV A ≤ 40 := h.2.1
theorem isWithin_M (x a b : Int) : f_X12_isWithin fu M x a b = some (M, ind (a ≤ x ∧ x ≤ b)) := by
  unfold f_X12_isWithin
  by_cases h0 : x < a
  · rw [if_pos h0, ind_f (by omega)]
  · rw [if_neg h0]
    by_cases h1 : b < x
    · rw [if_pos h1, ind_f (by omega)]
    · rw [if_neg h1, ind_t (by omega)]
theorem one_M (x : Int) : f_X12_one fu M x = some (M, if x = 0 then 0 else 1) := by
  unfold f_X12_one
  split <;> rfl
theorem one_0 : f_X12_one fu M 0 = some (M, 0) := rfl
theorem one_1 : f_X12_one fu M 1 = some (M, 1) := rfl
theorem v_M {v : Int} (h0 : 0 ≤ v) (h1 : v ≤ 40) : f_X12_v fu M v = some (M, 10 + 6 * v) := by
  unfold f_X12_v
  rw [grd_pos (by omega)]
theorem e_M {v : Int} (h0 : 0 ≤ v) (h1 : v ≤ 40) : f_X12_e fu M v = some (M, 250 + 64 * v) := by
  unfold f_X12_e
  rw [grd_pos (by omega)]
theorem n_M {v : Int} (h0 : 0 ≤ v) (h1 : v ≤ 200) : f_X12_n fu M v = some (M, 2810 + 7 * v) := by
  unfold f_X12_n
  rw [grd_pos (by omega)]
def chk (y1 y2 y3 : Int) : Int := if y1 = 0 then 1 else if y2 = 0 then 2 else if y3 = 0 then 3 else 0
theorem check_M (y1 y2 y3 : Int) : f_X12_check fu M y1 y2 y3 = some (up M 52 6 (chk y1 y2 y3), ind (chk y1 y2 y3 = 0)) := by
  have hJ : ∀ y, f_X12_check_J26 fu y M = some (up M 52 6 y, ind (y = 0)) := fun y => by
    unfold f_X12_check_J26
    rw [up_same]
    by_cases hy : y = 0
    · rw [if_pos hy, ind_t hy]
    · rw [if_neg hy, ind_f hy]
  unfold f_X12_check chk
  by_cases h1 : y1 = 0
  · rw [if_pos h1, if_pos h1, hJ]
  · rw [if_neg h1, if_neg h1]
    by_cases h2 : y2 = 0
    · rw [if_pos h2, if_pos h2, hJ]
    · rw [if_neg h2, if_neg h2]
      by_cases h3 : y3 = 0
      · rw [if_pos h3, if_pos h3, hJ]
      · rw [if_neg h3, if_neg h3, hJ]
theorem chk_t (y2 y3 : Int) : chk 0 y2 y3 = 1 := rfl
/-! versions -/
theorem lengthOf_M (h : MM M A) {v : Int} (h0 : 0 ≤ v) (h1 : v < aV A) : f_X12_lengthOf fu M v = some (M, szA A v) := by
  have hv := MM_vr h
  unfold f_X12_lengthOf
  rw [v_M h0 (by omega), cal_some, grd_pos (by omega), grd_pos (by omega), (h.1.2.2.1 v h0 h1).1]
theorem root_M (h : MM M A) {v : Int} (h0 : 0 ≤ v) (h1 : v < aV A) : f_X12_root fu M v = some (M, rtA A v) := by
  have hv := MM_vr h
  unfold f_X12_root
  rw [v_M h0 (by omega), cal_some, grd_pos (by omega), grd_pos (by omega), (h.1.2.2.1 v h0 h1).2.1]
theorem heightOf_M (h : MM M A) {v : Int} (h0 : 0 ≤ v) (h1 : v < aV A) : f_X12_heightOf fu M v = some (M, (hgt (szA A v) : Int)) := by
  have hv := MM_vr h
  unfold f_X12_heightOf
  rw [v_M h0 (by omega), cal_some, grd_pos (by omega), grd_pos (by omega), (h.1.2.2.1 v h0 h1).2.2.1]
theorem isGone_M (h : MM M A) {v : Int} (h0 : 0 ≤ v) (h1 : v < aV A) : f_X12_isGone fu M v = some (M, rlA A v) := by
  have hv := MM_vr h
  have hr := (G_V h.2 h0 h1).2.1
  unfold f_X12_isGone
  rw [v_M h0 (by omega), cal_some, grd_pos (by omega), grd_pos (by omega), (h.1.2.2.1 v h0 h1).2.2.2.2.1]
  by_cases hz : rlA A v = 1
  · rw [if_pos hz, hz]
  · rw [if_neg hz]
    have : rlA A v = 0 := by omega
    rw [this]
theorem pa_M (h : MM M A) {v : Int} (h0 : 0 ≤ v) (h1 : v < aV A) : M 53 (10 + 6 * v + 3).toNat = paA A v := (h.1.2.2.1 v h0 h1).2.2.2.1
theorem cr_M (h : MM M A) {v : Int} (h0 : 0 ≤ v) (h1 : v < aV A) : M 53 (10 + 6 * v + 5).toNat = crA A v := (h.1.2.2.1 v h0 h1).2.2.2.2.2.1
theorem element_M (h : MM M A) {v i : Int} (h0 : 0 ≤ v) (h1 : v < aV A) (hi : 0 ≤ i) (hi2 : i < szA A v) : f_X12_element fu M v i = some (M, ev A v i) := by
  have hv := MM_vr h
  have hs := (G_V h.2 h0 h1).1
  unfold f_X12_element
  rw [e_M h0 (by omega), cal_some, grd_pos (by omega), grd_pos (by omega), (h.1.2.2.1 v h0 h1).2.2.2.2.2.2 i hi hi2]
theorem isVersion_M (h : MM M A) (v : Int) : f_X12_isVersion fu M v = some (M, ind (0 ≤ v ∧ v < aV A)) := by
  have hv := MM_vr h
  unfold f_X12_isVersion
  rw [grd_pos (by decide), MM_v h, grd_pos (by omega), isWithin_M, cal_some, grd_pos (ind_rng _)]
  rw [ind_congr (show (0 ≤ v ∧ v ≤ aV A - 1) ↔ (0 ≤ v ∧ v < aV A) by omega)]
theorem hasRoom_M (h : MM M A) : f_X12_hasRoom fu M = some (M, ind (aV A < 40)) := by
  unfold f_X12_hasRoom
  rw [grd_pos (by decide), MM_v h]
  by_cases hv : 40 ≤ aV A
  · rw [if_pos hv, ind_f (by omega)]
  · rw [if_neg hv, ind_t (by omega)]
theorem isLive_M (h : MM M A) (v : Int) : f_X12_isLive fu M v = some (M, ind (fltR A v = 0)) := by
  unfold f_X12_isLive
  rw [isVersion_M h, cal_some]
  by_cases h0 : 0 ≤ v ∧ v < aV A
  · rw [ind_t h0, if_neg (by decide), isGone_M h h0.1 h0.2, cal_some]
    by_cases hr : rlA A v = 0
    · rw [if_pos hr, ind_t (by unfold fltR; rw [if_pos h0, if_pos hr])]
    · rw [if_neg hr, ind_f (by unfold fltR; rw [if_pos h0, if_neg hr]; decide)]
  · rw [ind_f h0, if_pos rfl, ind_f (by unfold fltR; rw [if_neg h0]; decide)]
/-! nodes -/
theorem isLeafNode_M (h : MM M A) {k : Int} (h0 : 0 ≤ k) (h1 : k < aN A) : f_X12_isLeafNode fu M k = some (M, ind (lvA A k = 1)) := by
  have hn := MM_nr h
  unfold f_X12_isLeafNode
  rw [n_M h0 (by omega), cal_some, grd_pos (by omega), grd_pos (by omega), (h.1.2.2.2 k h0 h1).1]
  by_cases hl : lvA A k = 1
  · rw [ind_t hl, if_pos rfl]
  · rw [ind_f hl, if_neg (by decide)]
theorem countOf_M (h : MM M A) {k : Int} (h0 : 0 ≤ k) (h1 : k < aN A) : f_X12_countOf fu M k = some (M, flA A k) := by
  have hn := MM_nr h
  unfold f_X12_countOf
  rw [n_M h0 (by omega), cal_some, grd_pos (by omega), grd_pos (by omega), (h.1.2.2.2 k h0 h1).2.1]
theorem entry_M (h : MM M A) {k j : Int} (h0 : 0 ≤ k) (h1 : k < aN A) (hj : 0 ≤ j) (hj2 : j < flA A k) : f_X12_entry fu M k j = some (M, enA A k j) := by
  have hn := MM_nr h
  have hf := G_fl h.2 h0 h1
  unfold f_X12_entry
  rw [n_M h0 (by omega), cal_some, grd_pos (by omega), grd_pos (by omega), (h.1.2.2.2 k h0 h1).2.2.1 j hj hj2]
theorem isStored_M (h : MM M A) (k : Int) : f_X12_isStored fu M k = some (M, ind (0 ≤ k ∧ k < aN A ∧ coA A k = 0)) := by
  have hn := MM_nr h
  unfold f_X12_isStored
  rw [grd_pos (by decide), MM_n h, grd_pos (by omega), isWithin_M, cal_some]
  by_cases h0 : 0 ≤ k ∧ k ≤ aN A - 1
  · rw [ind_t h0, if_neg (by decide), n_M h0.1 (by omega), cal_some, grd_pos (by omega), grd_pos (by omega), (h.1.2.2.2 k h0.1 (by omega)).2.2.2]
    by_cases hc : coA A k = 0
    · rw [if_pos (by omega), ind_t ⟨h0.1, by omega, hc⟩]
    · rw [if_neg (by omega), ind_f (fun q => hc q.2.2)]
  · rw [ind_f h0, if_pos rfl, ind_f (by omega)]
theorem isStored_M1 (h : MM M A) {k : Int} (h0 : 0 ≤ k) (h1 : k < aN A) : f_X12_isStored fu M k = some (M, ind (coA A k = 0)) := by
  rw [isStored_M h, ind_congr (show (0 ≤ k ∧ k < aN A ∧ coA A k = 0) ↔ coA A k = 0 from ⟨fun q => q.2.2, fun q => ⟨h0, h1, q⟩⟩)]
theorem countStored_M (h : MM M A) (hfu : 1000 ≤ fu) : f_X12_countStored fu M = some (M, nSto A) := by
  have hn := MM_nr h
  unfold f_X12_countStored nSto
  have := lp_sum (F := fun n x i => f_X12_countStored_L4 fu n x i M) (M := M) (fun k => ind (coA A k = 0)) (aN A) 1 (fun k _ _ => by have := ind_rng (coA A k = 0); omega)
    (fun n x i h0 h1 h2 h3 => by
      show f_X12_countStored_L4 fu (n + 1) x i M = f_X12_countStored_L4 fu n (x + ind (coA A i = 0)) (i + 1) M
      rw [f_X12_countStored_L4, grd_pos (by decide), MM_n h, if_neg (by omega), isStored_M1 h h0 h1, cal_some, one_M, cal_some]
      by_cases hc : coA A i = 0
      · rw [ind_t hc, if_neg (by decide), grd_pos (by omega), grd_pos (by omega)]
      · rw [ind_f hc, if_pos rfl, grd_pos (by omega), grd_pos (by omega)])
    (fun n x i h0 h1 h2 h3 => by
      show f_X12_countStored_L4 fu (n + 1) x i M = some (M, x)
      rw [f_X12_countStored_L4, grd_pos (by decide), MM_n h, if_pos (by omega)]) fu 0 0 (by omega) (by omega) (by omega) (by omega) (by omega)
  simpa using this
theorem span_M {l : Nat} (hl : l ≤ 3) (hfu : 1000 ≤ fu) : f_X12_span fu M (l : Int) = some (M, pw l) := by
  unfold f_X12_span
  obtain ⟨f, hf⟩ : ∃ f, fu = f + 5 := ⟨fu - 5, by omega⟩
  have : l = 0 ∨ l = 1 ∨ l = 2 ∨ l = 3 := by omega
  generalize fu = g at hf ⊢
  have key : ∀ (a : Nat), a = f + 5 → f_X12_span_L4 g a (l : Int) 1 0 M = some (M, pw l) := by
    intro a ha
    subst ha
    rcases this with rfl | rfl | rfl | rfl
    · rw [f_X12_span_L4, if_pos (by decide)]; rfl
    · rw [f_X12_span_L4, if_neg (by decide), grd_pos (by decide), grd_pos (by decide), f_X12_span_L4, if_pos (by decide)]; rfl
    · rw [f_X12_span_L4, if_neg (by decide), grd_pos (by decide), grd_pos (by decide), f_X12_span_L4, if_neg (by decide), grd_pos (by decide), grd_pos (by decide), f_X12_span_L4, if_pos (by decide)]; rfl
    · rw [f_X12_span_L4, if_neg (by decide), grd_pos (by decide), grd_pos (by decide), f_X12_span_L4, if_neg (by decide), grd_pos (by decide), grd_pos (by decide), f_X12_span_L4, if_neg (by decide), grd_pos (by decide), grd_pos (by decide), f_X12_span_L4, if_pos (by decide)]; rfl
  exact key g hf
theorem heightFor_M {s : Int} (h0 : 0 ≤ s) (h : s ≤ 64) (hfu : 1000 ≤ fu) : f_X12_heightFor fu M s = some (M, (hgt s : Int)) := by
  unfold f_X12_heightFor
  obtain ⟨f, hf⟩ : ∃ f, fu = f + 5 := ⟨fu - 5, by omega⟩
  have s1 : f_X12_span fu M 1 = some (M, 4) := span_M (l := 1) (by decide) hfu
  have s2 : f_X12_span fu M 2 = some (M, 16) := span_M (l := 2) (by decide) hfu
  have s3 : f_X12_span fu M 3 = some (M, 64) := span_M (l := 3) (by decide) hfu
  have key : ∀ (a : Nat), a = f + 5 → 0 < s → f_X12_heightFor_L8 fu a s 1 M = some (M, (hgt s : Int)) := by
    intro a ha hs
    subst ha
    have e2 : (1 : Int) + 1 = 2 := rfl
    have e3 : (2 : Int) + 1 = 3 := rfl
    rcases hgt_cases h with q | q | q | q
    · omega
    · rw [f_X12_heightFor_L8, s1, cal_some, if_pos (by omega), q.2.2]; rfl
    · rw [f_X12_heightFor_L8, s1, cal_some, if_neg (by omega), grd_pos (by decide), e2, f_X12_heightFor_L8, s2, cal_some, if_pos (by omega), q.2.2]; rfl
    · rw [f_X12_heightFor_L8, s1, cal_some, if_neg (by omega), grd_pos (by decide), e2, f_X12_heightFor_L8, s2, cal_some, if_neg (by omega), grd_pos (by decide), e3, f_X12_heightFor_L8, s3, cal_some, if_pos (by omega), q.2.2]; rfl
  by_cases hs : s = 0
  · rw [if_pos hs, hgt_0 (by omega)]; rfl
  · rw [if_neg hs]
    exact key fu hf (by omega)
/-! checks -/
def thR (f : Int) : Int := if f = 3 then 2 else f
theorem checkVersion_M (h : MM M A) (v : Int) : f_X12_checkVersion fu M v = some (up M 52 6 (1 - ind (0 ≤ v ∧ v < aV A)), ind (0 ≤ v ∧ v < aV A)) := by
  unfold f_X12_checkVersion
  rw [isVersion_M h, cal_some, check_M, cal_some]
  by_cases h0 : 0 ≤ v ∧ v < aV A
  · rw [ind_t h0, grd_pos (by decide)]; rfl
  · rw [ind_f h0, grd_pos (by decide)]; rfl
theorem checkLive_M (h : MM M A) (v : Int) : f_X12_checkLive fu M v = some (up M 52 6 (thR (fltR A v)), ind (fltR A v = 0)) := by
  unfold f_X12_checkLive
  rw [isVersion_M h, cal_some]
  by_cases h0 : 0 ≤ v ∧ v < aV A
  · rw [ind_t h0, if_neg (by decide), isGone_M h h0.1 h0.2, cal_some]
    by_cases hr : rlA A v = 0
    · have e : fltR A v = 0 := by unfold fltR; rw [if_pos h0, if_pos hr]
      rw [if_pos hr, check_M, cal_some, grd_pos (by decide), e]; rfl
    · have e : fltR A v = 3 := by unfold fltR; rw [if_pos h0, if_neg hr]
      rw [if_neg hr, check_M, cal_some, grd_pos (by decide), e]; rfl
  · have e : fltR A v = 1 := by unfold fltR; rw [if_neg h0]
    rw [ind_f h0, if_pos rfl, check_M, cal_some, grd_pos (by decide), e]; rfl
theorem hasElement_M (h : MM M A) (v i : Int) : f_X12_hasElement fu M v i = some (M, ind (fltE A v i ≠ 1)) := by
  unfold f_X12_hasElement
  rw [isVersion_M h, cal_some]
  by_cases h0 : 0 ≤ v ∧ v < aV A
  · have hs := (G_V h.2 h0.1 h0.2).1
    rw [ind_t h0, if_neg (by decide), isGone_M h h0.1 h0.2, cal_some]
    by_cases hr : rlA A v = 0
    · have e : fltR A v = 0 := by unfold fltR; rw [if_pos h0, if_pos hr]
      rw [if_pos hr, lengthOf_M h h0.1 h0.2, cal_some, grd_pos (by omega), isWithin_M, cal_some]
      by_cases hi : 0 ≤ i ∧ i ≤ szA A v - 1
      · rw [ind_t hi, if_neg (by decide), ind_t]
        unfold fltE
        rw [if_neg (fun q => q.2 (by omega)), e]; decide
      · rw [ind_f hi, if_pos rfl, ind_f]
        unfold fltE
        rw [if_pos ⟨e, by omega⟩]; decide
    · have e : fltR A v = 3 := by unfold fltR; rw [if_pos h0, if_neg hr]
      rw [if_neg hr, ind_t]
      unfold fltE
      rw [if_neg (fun q => by rw [e] at q; exact absurd q.1 (by decide)), e]; decide
  · have e : fltR A v = 1 := by unfold fltR; rw [if_neg h0]
    rw [ind_f h0, if_pos rfl, ind_f]
    unfold fltE
    rw [if_neg (fun q => by rw [e] at q; exact absurd q.1 (by decide)), e]; decide
theorem fltE_rng (v i : Int) : fltE A v i = 0 ∨ fltE A v i = 1 ∨ fltE A v i = 3 := by
  unfold fltE
  split
  · omega
  · exact fltR_rng v
theorem fltE_v {v i : Int} (h : fltE A v i ≠ 1) : 0 ≤ v ∧ v < aV A ∧ fltE A v i = fltR A v ∧ (fltE A v i = 0 → rlA A v = 0 ∧ 0 ≤ i ∧ i < szA A v) ∧ (fltE A v i ≠ 0 → rlA A v ≠ 0) := by
  unfold fltE at h ⊢
  by_cases hc : fltR A v = 0 ∧ ¬ (0 ≤ i ∧ i < szA A v)
  · rw [if_pos hc] at h; exact absurd rfl h
  · rw [if_neg hc] at h ⊢
    unfold fltR at h hc ⊢
    by_cases h0 : 0 ≤ v ∧ v < aV A
    · rw [if_pos h0] at h hc ⊢
      by_cases hr : rlA A v = 0
      · rw [if_pos hr] at h hc ⊢
        refine ⟨h0.1, h0.2, rfl, fun _ => ⟨hr, ?_⟩, fun q => absurd rfl q⟩
        by_cases hi : 0 ≤ i ∧ i < szA A v
        · exact hi
        · exact absurd ⟨rfl, hi⟩ hc
      · rw [if_neg hr]
        exact ⟨h0.1, h0.2, rfl, fun q => by omega, fun _ => hr⟩
    · rw [if_neg h0] at h; exact absurd rfl h
theorem checkElement_M (h : MM M A) (v i : Int) : f_X12_checkElement fu M v i = some (up M 52 6 (thR (fltE A v i)), ind (fltE A v i = 0)) := by
  unfold f_X12_checkElement
  rw [hasElement_M h, cal_some]
  by_cases h1 : fltE A v i = 1
  · rw [ind_f (fun q => q h1), if_pos rfl, check_M, cal_some, grd_pos (by decide), h1]; rfl
  · obtain ⟨v0, v1, v2, v3, v4⟩ := fltE_v h1
    rw [ind_t h1, if_neg (by decide), isGone_M h v0 v1, cal_some]
    rcases fltE_rng (A := A) v i with q | q | q
    · rw [if_pos (v3 q).1, check_M, cal_some, grd_pos (by decide), q]; rfl
    · exact absurd q h1
    · rw [if_neg (v4 (by omega)), check_M, cal_some, grd_pos (by decide), q]; rfl
theorem fltRB_rng (v w : Int) : fltRB A v w = 0 ∨ fltRB A v w = 1 ∨ fltRB A v w = 3 := by
  unfold fltRB
  split
  · split <;> omega
  · omega
theorem fltRB_0 {v w : Int} (h : fltRB A v w = 0) : (0 ≤ v ∧ v < aV A ∧ rlA A v = 0) ∧ 0 ≤ w ∧ w < aV A ∧ rlA A w = 0 := by
  unfold fltRB at h
  split at h
  · split at h
    · omega
    · omega
  · omega
theorem checkTwo_M (h : MM M A) (v w : Int) : f_X12_checkTwo fu M v w = some (up M 52 6 (thR (fltRB A v w)), ind (fltRB A v w = 0)) := by
  have hbad : ¬ ((0 ≤ v ∧ v < aV A) ∧ 0 ≤ w ∧ w < aV A) → f_X12_checkTwo_J20 fu v w M = some (up M 52 6 (thR (fltRB A v w)), ind (fltRB A v w = 0)) := fun hb => by
    have e : fltRB A v w = 1 := by unfold fltRB; rw [if_neg hb]
    unfold f_X12_checkTwo_J20 f_X12_checkTwo_J21
    rw [if_pos rfl, check_M, cal_some, grd_pos (by decide), e]; rfl
  unfold f_X12_checkTwo
  rw [isVersion_M h, cal_some]
  by_cases h0 : 0 ≤ v ∧ v < aV A
  · rw [ind_t h0, if_neg (by decide), isVersion_M h, cal_some]
    by_cases h1 : 0 ≤ w ∧ w < aV A
    · rw [ind_t h1, if_neg (by decide)]
      unfold f_X12_checkTwo_J21
      rw [if_neg (by decide), isGone_M h h0.1 h0.2, cal_some]
      by_cases hr : rlA A v = 0
      · rw [if_pos hr, isGone_M h h1.1 h1.2, cal_some]
        by_cases hr2 : rlA A w = 0
        · have e : fltRB A v w = 0 := by unfold fltRB; rw [if_pos ⟨h0, h1⟩, if_pos ⟨hr, hr2⟩]
          rw [if_pos hr2, check_M, cal_some, grd_pos (by decide), e]; rfl
        · have e : fltRB A v w = 3 := by unfold fltRB; rw [if_pos ⟨h0, h1⟩, if_neg (fun q => hr2 q.2)]
          rw [if_neg hr2, check_M, cal_some, grd_pos (by decide), e]; rfl
      · have e : fltRB A v w = 3 := by unfold fltRB; rw [if_pos ⟨h0, h1⟩, if_neg (fun q => hr q.1)]
        rw [if_neg hr, check_M, cal_some, grd_pos (by decide), e]; rfl
    · rw [ind_f h1, if_pos rfl]
      exact hbad (fun q => h1 q.2)
  · rw [ind_f h0, if_pos rfl]
    exact hbad (fun q => h0 q.1)
theorem checkNode_M (h : MM M A) (k : Int) : f_X12_checkNode fu M k = some (up M 52 6 (1 - ind (0 ≤ k ∧ k < aN A ∧ coA A k = 0)), ind (0 ≤ k ∧ k < aN A ∧ coA A k = 0)) := by
  unfold f_X12_checkNode
  rw [isStored_M h, cal_some, check_M, cal_some]
  by_cases h0 : 0 ≤ k ∧ k < aN A ∧ coA A k = 0
  · rw [ind_t h0, grd_pos (by decide)]; rfl
  · rw [ind_f h0, grd_pos (by decide)]; rfl
end MRep
