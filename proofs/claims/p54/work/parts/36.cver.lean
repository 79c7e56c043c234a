/-! versions of the class -/
/-- how many steps up from w -/
def chN (A : AS) : Nat → Int → Int
  | 0, _ => 0
  | n + 1, w => if w = -1 then 0 else 1 + chN A n (paA A w)
def dpA (A : AS) (v : Int) : Int := chN A 41 (paA A v)
def mtA (A : AS) : Nat → Int → Int → Int
  | 0, a, _ => a
  | n + 1, a, b => if a = b then a else if a ≤ b then mtA A n a (paA A b) else mtA A n (paA A a) b
def lgA (A : AS) : Nat → Int → Int → Int
  | 0, b, _ => b
  | n + 1, b, i => lgA A n (if rlA A i = 0 ∧ (b = -1 ∨ szA A b < szA A i) then i else b) (i + 1)
def nLiv (A : AS) : Int := sm (fun v => ind (rlA A v = 0)) (aV A).toNat 0
def nChi (A : AS) (p : Int) : Int := sm (fun v => ind (paA A v = p)) (aV A).toNat 0
def nLRt (A : AS) (n : Int) : Int := sm (fun v => ind (rlA A v = 0 ∧ rtA A v = n)) (aV A).toNat 0
section CVer
variable {M : Mem} {A : AS} {fu : Nat}
theorem has_C (h : CM M A) (v : Int) : f_X10_has fu M v = some (M, ind (0 ≤ v ∧ v < aV A)) := by
  unfold f_X10_has
  by_cases h0 : v < 0
  · rw [if_pos h0, ind_f (by omega)]
  · rw [if_neg h0, CM_v h]
    by_cases h1 : aV A ≤ v
    · rw [if_pos h1, ind_f (by omega)]
    · rw [if_neg h1, ind_t (by omega)]
theorem isLive_C (h : CM M A) (v : Int) : f_X10_isLive fu M v = some (M, ind (0 ≤ v ∧ v < aV A ∧ rlA A v = 0)) := by
  have hv := CM_vr h
  unfold f_X10_isLive
  rw [has_C h, cal_some]
  by_cases h0 : 0 ≤ v ∧ v < aV A
  · rw [ind_t h0, if_neg (by decide), flagAt_in h0.1 (by omega), cal_some, CM_rl h h0.1 h0.2]
    by_cases h2 : rlA A v = 0
    · rw [if_pos h2, if_pos rfl, ind_t ⟨h0.1, h0.2, h2⟩]
    · rw [if_neg h2, if_neg (by decide), ind_f (fun q => h2 q.2.2)]
  · rw [ind_f h0, if_pos rfl, ind_f (fun q => h0 ⟨q.1, q.2.1⟩)]
theorem isLive_C1 (h : CM M A) {v : Int} (h0 : 0 ≤ v) (h1 : v < aV A) : f_X10_isLive fu M v = some (M, ind (rlA A v = 0)) := by
  rw [isLive_C h, ind_congr (show (0 ≤ v ∧ v < aV A ∧ rlA A v = 0) ↔ rlA A v = 0 from ⟨fun q => q.2.2, fun q => ⟨h0, h1, q⟩⟩)]
theorem parentAt_C (h : CM M A) {v : Int} (h0 : 0 ≤ v) (h1 : v < aV A) : f_X10_parentAt fu M v = some (M, paA A v) := by
  have hv := CM_vr h
  unfold f_X10_parentAt
  rw [at_in h0 (by omega), cal_some, CM_pa h h0 h1]
theorem rootAt_C (h : CM M A) {v : Int} (h0 : 0 ≤ v) (h1 : v < aV A) : f_X10_rootAt fu M v = some (M, rtA A v) := by
  have hv := CM_vr h
  unfold f_X10_rootAt
  rw [at_in h0 (by omega), cal_some, CM_rt h h0 h1]
theorem sizeAt_C (h : CM M A) {v : Int} (h0 : 0 ≤ v) (h1 : v < aV A) : f_X10_sizeAt fu M v = some (M, szA A v) := by
  have hv := CM_vr h
  unfold f_X10_sizeAt
  rw [at_in h0 (by omega), cal_some, CM_sz h h0 h1]
theorem createdForAt_C (h : CM M A) {v : Int} (h0 : 0 ≤ v) (h1 : v < aV A) : f_X10_createdForAt fu M v = some (M, crA A v) := by
  have hv := CM_vr h
  unfold f_X10_createdForAt
  rw [at_in h0 (by omega), cal_some, CM_cr h h0 h1]
theorem G_pa (h : Good A) {v : Int} (h0 : 0 ≤ v) (h1 : v < aV A) : -1 ≤ paA A v ∧ paA A v < v := by
  have q := G_V h h0 h1
  by_cases hv : v = 0
  · have := q.2.2.2.1 hv
    omega
  · have := q.2.2.2.2.1 (by omega)
    omega
theorem chN_more (hG : Good A) : ∀ (n : Nat) (w : Int), -1 ≤ w → w < aV A → w < n → chN A (n + 1) w = chN A n w
  | 0, w, h0, h1, h2 => by
    have : w = -1 := by omega
    subst this
    rfl
  | n + 1, w, h0, h1, h2 => by
    rw [chN]
    show _ = if w = -1 then 0 else 1 + chN A n (paA A w)
    by_cases hw : w = -1
    · rw [if_pos hw, if_pos hw]
    · rw [if_neg hw, if_neg hw]
      have := G_pa hG (v := w) (by omega) h1
      rw [chN_more hG n (paA A w) this.1 (by omega) (by omega)]
theorem chN_fuel (hG : Good A) (w : Int) (h0 : -1 ≤ w) (h1 : w < aV A) (n : Nat) (h2 : w < n) : ∀ k : Nat, chN A (n + k) w = chN A n w
  | 0 => rfl
  | k + 1 => by
    rw [← Nat.add_assoc, chN_more hG (n + k) w h0 h1 (by omega), chN_fuel hG w h0 h1 n h2 k]
theorem chN_rng (hG : Good A) : ∀ (n : Nat) (w : Int), -1 ≤ w → w < aV A → 0 ≤ chN A n w ∧ chN A n w ≤ w + 1
  | 0, w, h0, _ => by simp only [chN]; omega
  | n + 1, w, h0, h1 => by
    simp only [chN]
    by_cases hw : w = -1
    · rw [if_pos hw]; omega
    · rw [if_neg hw]
      have h2 := G_pa hG (v := w) (by omega) h1
      have h3 := chN_rng hG n (paA A w) h2.1 (by omega)
      omega
theorem countLiveRoots_C (h : CM M A) (c : Int) (hfu : 1000 ≤ fu) : f_X10_countLiveRoots fu M c = some (M, nLRt A c) := by
  have hv := CM_vr h
  unfold f_X10_countLiveRoots nLRt
  have := lp_sum (F := fun n x i => f_X10_countLiveRoots_L4 fu n c x i M) (M := M) (fun k => ind (rlA A k = 0 ∧ rtA A k = c)) (aV A) 1 (fun k _ _ => by have := ind_rng (rlA A k = 0 ∧ rtA A k = c); omega)
    (fun n x i h0 h1 h2 h3 => by
      show f_X10_countLiveRoots_L4 fu (n + 1) c x i M = f_X10_countLiveRoots_L4 fu n c (x + ind (rlA A i = 0 ∧ rtA A i = c)) (i + 1) M
      rw [f_X10_countLiveRoots_L4, CM_v h, if_neg (by omega), isLive_C1 h h0 h1, cal_some]
      by_cases hr : rlA A i = 0
      · rw [ind_t hr, if_neg (by decide), rootAt_C h h0 h1, cal_some]
        by_cases hc : rtA A i = c
        · rw [ind_t ⟨hr, hc⟩, if_pos hc, grd_pos (by omega), grd_pos (by omega)]
        · rw [ind_f (fun q => hc q.2), if_neg hc, grd_pos (by omega), Int.add_zero]
      · rw [ind_f hr, if_pos rfl, grd_pos (by omega), ind_f (fun q => hr q.1), Int.add_zero])
    (fun n x i h0 h1 h2 h3 => by
      show f_X10_countLiveRoots_L4 fu (n + 1) c x i M = some (M, x)
      rw [f_X10_countLiveRoots_L4, CM_v h, if_pos (by omega)]) fu 0 0 (by omega) (by omega) (by omega) (by omega) (by omega)
  simpa using this
theorem recorded_L (h : CM M A) {i : Int} (hi : 0 ≤ i) : ∀ (n : Nat) (w s : Int), 0 ≤ w → w < aV A → i < szA A w → 0 ≤ s → s + w < 40 → w + 1 < n → f_X10_recordedElement_L5 fu n i w s M = some (M, ev A w i)
  | 0, _, _, _, _, _, _, _, h => by omega
  | n + 1, w, s, h0, h1, h2, h3, h4, h5 => by
    have hv := CM_vr h
    have hs := (G_V h.2 h0 h1).1
    rw [f_X10_recordedElement_L5, if_neg (by omega), if_neg (by omega), at_in h0 (by omega), cal_some]
    by_cases hw : w = 0
    · subst hw
      have h9 := h.1.2.2.1.2.2.1
      have e : M 15 (0 : Int).toNat = -1 := h9.1
      rw [e, if_neg (by omega), parentAt_C h h0 h1, cal_some, grd_pos (by omega), (G_V h.2 h0 h1).2.2.2.1 rfl]
      cases n with
      | zero => omega
      | succ n =>
        rw [f_X10_recordedElement_L5, if_pos rfl, at_in hi (by omega), cal_some]
        have e2 : M 17 i.toNat = ev A 0 i := h9.2 i hi h2
        rw [e2]
    · have h9 := h.1.2.2.1.2.2.2 w (by omega) h1 i hi h2
      rcases h9 with ⟨q1, q2⟩ | ⟨q1, q2, q3⟩
      · have e1 : M 15 w.toNat = i := q1
        have e2 : M 16 w.toNat = ev A w i := q2
        rw [if_pos e1, at_in h0 (by omega), cal_some, e2]
      · have e1 : M 15 w.toNat ≠ i := q1
        have hp := (G_V h.2 h0 h1).2.2.2.2.1 (by omega)
        rw [if_neg e1, parentAt_C h h0 h1, cal_some, grd_pos (by omega), q3]
        exact recorded_L h hi n (paA A w) (s + 1) hp.1 (by omega) q2 (by omega) (by omega) (by omega)
theorem recordedElement_C (h : CM M A) {v i : Int} (h0 : 0 ≤ v) (h1 : v < aV A) (hi : 0 ≤ i) (h2 : i < szA A v) (hfu : 1000 ≤ fu) : f_X10_recordedElement fu M v i = some (M, ev A v i) := by
  have hv := CM_vr h
  unfold f_X10_recordedElement
  exact recorded_L h hi fu v 0 h0 h1 h2 (by omega) (by omega) (by omega)
theorem sumOfCreated_C (h : CM M A) (hfu : 1000 ≤ fu) : f_X10_sumOfCreated fu M = some (M, aN A) := by
  have hv := CM_vr h
  unfold f_X10_sumOfCreated
  have := lp_sum (F := fun n x i => f_X10_sumOfCreated_L4 fu n x i M) (M := M) (crA A) (aV A) 21 (fun k h0 h1 => by have := (G_V h.2 h0 h1).2.2.1; omega)
    (fun n x i h0 h1 h2 h3 => by
      have hc := (G_V h.2 h0 h1).2.2.1
      show f_X10_sumOfCreated_L4 fu (n + 1) x i M = f_X10_sumOfCreated_L4 fu n (x + crA A i) (i + 1) M
      rw [f_X10_sumOfCreated_L4, CM_v h, if_neg (by omega), createdForAt_C h h0 h1, cal_some, grd_pos (by omega), grd_pos (by omega)])
    (fun n x i h0 h1 h2 h3 => by
      show f_X10_sumOfCreated_L4 fu (n + 1) x i M = some (M, x)
      rw [f_X10_sumOfCreated_L4, CM_v h, if_pos (by omega)]) fu 0 0 (by omega) (by omega) (by omega) (by omega) (by omega)
  rw [this]
  have e := h.2.2.2.2.2
  simp only [Int.sub_zero, Int.zero_add]
  rw [e]
theorem isFull_C (h : CM M A) : f_X10_isFull fu M = some (M, ind (40 ≤ aV A)) := by
  unfold f_X10_isFull
  rw [CM_v h]
  by_cases h0 : aV A < 40
  · rw [if_pos h0, ind_f (by omega)]
  · rw [if_neg h0, ind_t (by omega)]
/-! refusals -/
def fltR (A : AS) (v : Int) : Int := if 0 ≤ v ∧ v < aV A then (if rlA A v = 0 then 0 else 3) else 1
def fltRB (A : AS) (v w : Int) : Int := if (0 ≤ v ∧ v < aV A) ∧ 0 ≤ w ∧ w < aV A then (if rlA A v = 0 ∧ rlA A w = 0 then 0 else 3) else 1
def fltE (A : AS) (v i : Int) : Int := if fltR A v = 0 ∧ ¬ (0 ≤ i ∧ i < szA A v) then 1 else fltR A v
def fltP (A : AS) (v i x : Int) : Int := if fltE A v i ≠ 1 ∧ ¬ (-999 ≤ x ∧ x ≤ 999) then 2 else fltE A v i
def fltS (A : AS) (v i x : Int) : Int := if fltP A v i x = 0 ∧ 40 ≤ aV A then 3 else fltP A v i x
def fltA (A : AS) (v x : Int) : Int := if 0 ≤ v ∧ v < aV A then (if -999 ≤ x ∧ x ≤ 999 then (if rlA A v ≠ 0 ∨ 64 ≤ szA A v ∨ 40 ≤ aV A then 3 else 0) else 2) else 1
def fltT (A : AS) (v s : Int) : Int := if 0 ≤ v ∧ v < aV A then (if s < 0 ∨ (rlA A v = 0 ∧ szA A v < s) then 2 else if rlA A v ≠ 0 ∨ 40 ≤ aV A then 3 else 0) else 1
theorem faultOfReading_C (h : CM M A) (v : Int) : f_X10_faultOfReading fu M v = some (M, fltR A v) := by
  unfold f_X10_faultOfReading fltR
  rw [has_C h, cal_some]
  by_cases h0 : 0 ≤ v ∧ v < aV A
  · rw [ind_t h0, if_neg (by decide), if_pos h0, isLive_C1 h h0.1 h0.2, cal_some]
    by_cases hr : rlA A v = 0
    · rw [ind_t hr, if_neg (by decide), if_pos hr]
    · rw [ind_f hr, if_pos rfl, if_neg hr]
  · rw [ind_f h0, if_pos rfl, if_neg h0]
theorem fltR_0 {v : Int} (h : fltR A v = 0) : 0 ≤ v ∧ v < aV A ∧ rlA A v = 0 := by
  unfold fltR at h
  split at h
  · split at h
    · omega
    · omega
  · omega
theorem fltR_rng (v : Int) : fltR A v = 0 ∨ fltR A v = 1 ∨ fltR A v = 3 := by
  unfold fltR
  split
  · split <;> omega
  · omega
theorem faultOfElement_C (h : CM M A) (v i : Int) : f_X10_faultOfElement fu M v i = some (M, fltE A v i) := by
  unfold f_X10_faultOfElement fltE
  rw [faultOfReading_C h, cal_some]
  by_cases h0 : fltR A v = 0
  · have h1 := fltR_0 h0
    rw [if_pos h0]
    by_cases hi : i < 0
    · rw [if_pos hi, if_pos ⟨h0, by omega⟩]
    · rw [if_neg hi, sizeAt_C h h1.1 h1.2.1, cal_some]
      by_cases hs : i < szA A v
      · rw [if_pos hs, if_neg (fun q => q.2 ⟨by omega, hs⟩)]
      · rw [if_neg hs, if_pos ⟨h0, by omega⟩]
  · rw [if_neg h0, if_neg (fun q => h0 q.1)]
theorem isElementValue_C (x : Int) : f_X11_isElementValue fu M x = some (M, ind (-999 ≤ x ∧ x ≤ 999)) := by
  unfold f_X11_isElementValue
  by_cases h0 : x < -999
  · rw [if_pos h0, ind_f (by omega)]
  · rw [if_neg h0]
    by_cases h1 : 999 < x
    · rw [if_pos h1, ind_f (by omega)]
    · rw [if_neg h1, ind_t (by omega)]
theorem faultOfReplacement_C (h : CM M A) (v i x : Int) : f_X10_faultOfReplacement fu M v i x = some (M, fltP A v i x) := by
  unfold f_X10_faultOfReplacement fltP
  rw [faultOfElement_C h, cal_some]
  by_cases h0 : fltE A v i = 1
  · rw [if_pos h0, if_neg (fun q => q.1 h0)]
  · rw [if_neg h0, isElementValue_C, cal_some]
    by_cases hx : -999 ≤ x ∧ x ≤ 999
    · rw [ind_t hx, if_neg (by decide), if_neg (fun q => q.2 hx)]
    · rw [ind_f hx, if_pos rfl, if_pos ⟨h0, hx⟩]
theorem faultOfSet_C (h : CM M A) (v i x : Int) : f_X10_faultOfSet fu M v i x = some (M, fltS A v i x) := by
  unfold f_X10_faultOfSet fltS
  rw [faultOfReplacement_C h, cal_some]
  by_cases h0 : fltP A v i x = 0
  · rw [if_pos h0, isFull_C h, cal_some]
    by_cases hx : 40 ≤ aV A
    · rw [ind_t hx, if_neg (by decide), if_pos ⟨h0, hx⟩]
    · rw [ind_f hx, if_pos rfl, if_neg (fun q => hx q.2)]
  · rw [if_neg h0, if_neg (fun q => h0 q.1)]
theorem faultOfAppend_C (h : CM M A) (v x : Int) : f_X10_faultOfAppend fu M v x = some (M, fltA A v x) := by
  unfold f_X10_faultOfAppend fltA
  rw [has_C h, cal_some]
  by_cases h0 : 0 ≤ v ∧ v < aV A
  · rw [ind_t h0, if_neg (by decide), if_pos h0, isElementValue_C, cal_some]
    by_cases hx : -999 ≤ x ∧ x ≤ 999
    · rw [ind_t hx, if_neg (by decide), if_pos hx, isLive_C1 h h0.1 h0.2, cal_some]
      by_cases hr : rlA A v = 0
      · rw [ind_t hr, if_neg (by decide), sizeAt_C h h0.1 h0.2, cal_some]
        by_cases hs : 64 ≤ szA A v
        · rw [if_pos hs, if_pos (Or.inr (Or.inl hs))]
        · rw [if_neg hs, isFull_C h, cal_some]
          by_cases hf : 40 ≤ aV A
          · rw [ind_t hf, if_neg (by decide), if_pos (Or.inr (Or.inr hf))]
          · rw [ind_f hf, if_pos rfl, if_neg (by omega)]
      · rw [ind_f hr, if_pos rfl, if_pos (Or.inl hr)]
    · rw [ind_f hx, if_pos rfl, if_neg hx]
  · rw [ind_f h0, if_pos rfl, if_neg h0]
theorem faultOfTruncate_C (h : CM M A) (v s : Int) : f_X10_faultOfTruncate fu M v s = some (M, fltT A v s) := by
  have hJ : (0 ≤ v ∧ v < aV A) → f_X10_faultOfTruncate_J33 fu v M = some (M, if rlA A v ≠ 0 ∨ 40 ≤ aV A then 3 else 0) := by
    intro h0
    unfold f_X10_faultOfTruncate_J33
    rw [isLive_C1 h h0.1 h0.2, cal_some]
    by_cases hr : rlA A v = 0
    · rw [ind_t hr, if_neg (by decide), isFull_C h, cal_some]
      by_cases hf : 40 ≤ aV A
      · rw [ind_t hf, if_neg (by decide), if_pos (Or.inr hf)]
      · rw [ind_f hf, if_pos rfl, if_neg (by omega)]
    · rw [ind_f hr, if_pos rfl, if_pos (Or.inl hr)]
  unfold f_X10_faultOfTruncate fltT
  rw [has_C h, cal_some]
  by_cases h0 : 0 ≤ v ∧ v < aV A
  · rw [ind_t h0, if_neg (by decide), if_pos h0]
    by_cases hs : s < 0
    · rw [if_pos hs, if_pos (Or.inl hs)]
    · rw [if_neg hs, isLive_C1 h h0.1 h0.2, cal_some]
      by_cases hr : rlA A v = 0
      · rw [ind_t hr, if_neg (by decide), sizeAt_C h h0.1 h0.2, cal_some]
        by_cases hz : s ≤ szA A v
        · rw [if_pos hz, if_neg (show ¬ (s < 0 ∨ (rlA A v = 0 ∧ szA A v < s)) by omega), hJ h0]
        · rw [if_neg hz, if_pos (Or.inr ⟨hr, by omega⟩)]
      · rw [ind_f hr, if_pos rfl, if_neg (show ¬ (s < 0 ∨ (rlA A v = 0 ∧ szA A v < s)) by omega), hJ h0]
  · rw [ind_f h0, if_pos rfl, if_neg h0]
end CVer
