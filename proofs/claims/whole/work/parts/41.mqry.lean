/-! the model's questions -/
section MQry
variable {M : Mem} {A : AS} {fu : Nat}
theorem MM_t (h : MM M A) (x : Int) : MM (up M 52 6 x) A := MM_up h (by decide)
theorem versionCount_M (h : MM M A) : f_X12_versionCount fu M = some (up M 52 6 0, aV A) := by
  unfold f_X12_versionCount
  rw [grd_pos (by decide), MM_v (MM_t h 0)]
theorem createdNodes_M (h : MM M A) : f_X12_createdNodes fu M = some (up M 52 6 0, aN A) := by
  unfold f_X12_createdNodes
  rw [grd_pos (by decide), MM_n (MM_t h 0)]
theorem storedNodes_M (h : MM M A) (hfu : 1000 ≤ fu) : f_X12_storedNodes fu M = some (up M 52 6 0, nSto A) := by
  unfold f_X12_storedNodes
  rw [countStored_M (MM_t h 0) hfu, cal_some]
theorem liveCount_M (h : MM M A) (hfu : 1000 ≤ fu) : f_X12_liveCount fu M = some (up M 52 6 0, nLiv A) := by
  have hv := MM_vr h
  have h' := MM_t h 0
  unfold f_X12_liveCount nLiv
  generalize up M 52 6 0 = M' at h'
  have := lp_sum (F := fun n x i => f_X12_liveCount_L9 fu n x i M') (M := M') (fun k => ind (rlA A k = 0)) (aV A) 1 (fun k _ _ => by have := ind_rng (rlA A k = 0); omega)
    (fun n x i h0 h1 h2 h3 => by
      show f_X12_liveCount_L9 fu (n + 1) x i M' = f_X12_liveCount_L9 fu n (x + ind (rlA A i = 0)) (i + 1) M'
      rw [f_X12_liveCount_L9, grd_pos (by decide), MM_v h', if_neg (by omega), isGone_M h' h0 h1, cal_some]
      by_cases hc : rlA A i = 0
      · rw [ind_t hc, if_pos hc, one_1, cal_some, grd_pos (by omega), grd_pos (by omega)]
      · rw [ind_f hc, if_neg hc, one_0, cal_some, grd_pos (by omega), grd_pos (by omega)])
    (fun n x i h0 h1 h2 h3 => by
      show f_X12_liveCount_L9 fu (n + 1) x i M' = some (M', x)
      rw [f_X12_liveCount_L9, grd_pos (by decide), MM_v h', if_pos (by omega)]) fu 0 0 (by omega) (by omega) (by omega) (by omega) (by omega)
  simpa using this
theorem isReleased_M (h : MM M A) (v : Int) : f_X12_isReleased fu M v = some (up M 52 6 (1 - ind (0 ≤ v ∧ v < aV A)), if 0 ≤ v ∧ v < aV A then rlA A v else 0) := by
  unfold f_X12_isReleased
  rw [checkVersion_M h, cal_some]
  by_cases h0 : 0 ≤ v ∧ v < aV A
  · have hr := (G_V h.2 h0.1 h0.2).2.1
    rw [ind_t h0, if_neg (by decide), isGone_M (MM_t h _) h0.1 h0.2, cal_some, if_pos h0]
    by_cases hr2 : rlA A v = 0
    · rw [if_pos hr2, hr2]
    · rw [if_neg hr2]
      have : rlA A v = 1 := by omega
      rw [this]
  · rw [ind_f h0, if_pos rfl, if_neg h0]
theorem parentOf_M (h : MM M A) (v : Int) : f_X12_parentOf fu M v = some (up M 52 6 (1 - ind (0 ≤ v ∧ v < aV A)), if 0 ≤ v ∧ v < aV A then paA A v else 0) := by
  have hv := MM_vr h
  unfold f_X12_parentOf
  rw [checkVersion_M h, cal_some]
  by_cases h0 : 0 ≤ v ∧ v < aV A
  · rw [ind_t h0, if_neg (by decide), v_M h0.1 (by omega), cal_some, grd_pos (by omega), grd_pos (by omega), if_pos h0, pa_M (MM_t h _) h0.1 h0.2]
  · rw [ind_f h0, if_pos rfl, if_neg h0]
theorem nodesCreatedFor_M (h : MM M A) (v : Int) : f_X12_nodesCreatedFor fu M v = some (up M 52 6 (1 - ind (0 ≤ v ∧ v < aV A)), if 0 ≤ v ∧ v < aV A then crA A v else 0) := by
  have hv := MM_vr h
  unfold f_X12_nodesCreatedFor
  rw [checkVersion_M h, cal_some]
  by_cases h0 : 0 ≤ v ∧ v < aV A
  · rw [ind_t h0, if_neg (by decide), v_M h0.1 (by omega), cal_some, grd_pos (by omega), grd_pos (by omega), if_pos h0, cr_M (MM_t h _) h0.1 h0.2]
  · rw [ind_f h0, if_pos rfl, if_neg h0]
theorem depth_L (h : MM M A) : ∀ (n m : Nat) (x w : Int), -1 ≤ w → w < aV A → w < m → 0 ≤ x → x + w + 1 ≤ 40 → w + 1 < n → f_X12_depth_L14 fu n x w M = some (M, x + chN A m w)
  | 0, _, _, _, _, _, _, _, _, h => by omega
  | n + 1, m, x, w, h0, h1, h2, h3, h4, h5 => by
    have hv := MM_vr h
    rw [f_X12_depth_L14]
    by_cases hw : w = -1
    · rw [if_pos hw]
      cases m with
      | zero => simp [chN]
      | succ m => simp [chN, hw]
    · have h6 := G_pa h.2 (v := w) (by omega) h1
      rw [if_neg hw, v_M (by omega) (by omega), cal_some, grd_pos (by omega), grd_pos (by omega), grd_pos (by omega), pa_M h (by omega) h1]
      cases m with
      | zero => omega
      | succ m =>
        rw [depth_L h n m (x + 1) (paA A w) h6.1 (by omega) (by omega) (by omega) (by omega) (by omega)]
        simp only [chN]
        rw [if_neg hw]
        have : x + 1 + chN A m (paA A w) = x + (1 + chN A m (paA A w)) := by omega
        rw [this]
theorem depth_M (h : MM M A) {v : Int} (h0 : 0 ≤ v) (h1 : v < aV A) (hfu : 1000 ≤ fu) : f_X12_depth fu M v = some (M, dpA A v) := by
  have hv := MM_vr h
  have h6 := G_pa h.2 (v := v) h0 h1
  unfold f_X12_depth dpA
  rw [v_M h0 (by omega), cal_some, grd_pos (by omega), grd_pos (by omega), pa_M h h0 h1, depth_L h fu 41 0 (paA A v) h6.1 (by omega) (by omega) (by omega) (by omega) (by omega)]
  simp
theorem depthOf_M (h : MM M A) (v : Int) (hfu : 1000 ≤ fu) : f_X12_depthOf fu M v = some (up M 52 6 (1 - ind (0 ≤ v ∧ v < aV A)), if 0 ≤ v ∧ v < aV A then dpA A v else 0) := by
  unfold f_X12_depthOf
  rw [checkVersion_M h, cal_some]
  by_cases h0 : 0 ≤ v ∧ v < aV A
  · rw [ind_t h0, if_neg (by decide), depth_M (MM_t h _) h0.1 h0.2 hfu, cal_some, if_pos h0]
  · rw [ind_f h0, if_pos rfl, if_neg h0]
theorem childCount_M (h : MM M A) (v : Int) (hfu : 1000 ≤ fu) : f_X12_childCount fu M v = some (up M 52 6 (1 - ind (0 ≤ v ∧ v < aV A)), if 0 ≤ v ∧ v < aV A then nChi A v else 0) := by
  have hv := MM_vr h
  unfold f_X12_childCount
  rw [checkVersion_M h, cal_some]
  by_cases h0 : 0 ≤ v ∧ v < aV A
  · rw [ind_t h0, if_neg (by decide), if_pos h0]
    have h' := MM_t h (1 - 1)
    generalize up M 52 6 (1 - 1) = M' at h'
    have := lp_sum (F := fun n x i => f_X12_childCount_L14 fu n v x i M') (M := M') (fun k => ind (paA A k = v)) (aV A) 1 (fun k _ _ => by have := ind_rng (paA A k = v); omega)
      (fun n x i h0 h1 h2 h3 => by
        show f_X12_childCount_L14 fu (n + 1) v x i M' = f_X12_childCount_L14 fu n v (x + ind (paA A i = v)) (i + 1) M'
        rw [f_X12_childCount_L14, grd_pos (by decide), MM_v h', if_neg (by omega), v_M h0 (by omega), cal_some, grd_pos (by omega), grd_pos (by omega), pa_M h' h0 h1]
        by_cases hc : paA A i = v
        · rw [ind_t hc, if_pos hc, one_1, cal_some, grd_pos (by omega), grd_pos (by omega)]
        · rw [ind_f hc, if_neg hc, one_0, cal_some, grd_pos (by omega), grd_pos (by omega)])
      (fun n x i h0 h1 h2 h3 => by
        show f_X12_childCount_L14 fu (n + 1) v x i M' = some (M', x)
        rw [f_X12_childCount_L14, grd_pos (by decide), MM_v h', if_pos (by omega)]) fu 0 0 (by omega) (by omega) (by omega) (by omega) (by omega)
    simpa [nChi] using this
  · rw [ind_f h0, if_pos rfl, if_neg h0]
theorem dpA_0 (hG : Good A) {v : Int} (h0 : 0 ≤ v) (h1 : v < aV A) : (v = 0 → dpA A v = 0) ∧ (0 < v → dpA A v = 1 + dpA A (paA A v)) := by
  have hv := hG.1
  have q := G_V hG h0 h1
  refine ⟨fun hz => ?_, fun hp => ?_⟩
  · unfold dpA
    rw [q.2.2.2.1 hz]
    rfl
  · have q2 := q.2.2.2.2.1 hp
    have q3 := G_pa hG (v := paA A v) q2.1 (by omega)
    unfold dpA
    rw [chN]
    rw [if_neg (by omega), ← chN_fuel hG (paA A (paA A v)) q3.1 (by omega) 40 (by omega) 1]
theorem dpA_rng (hG : Good A) (v : Int) (h0 : 0 ≤ v) (h1 : v < aV A) : 0 ≤ dpA A v := (chN_rng hG 41 (paA A v) (G_pa hG h0 h1).1 (by have := G_pa hG h0 h1; omega)).1
/-- the deeper one may step up first -/
theorem mt_step (hG : Good A) : ∀ (k n : Nat) {a b : Int}, 0 ≤ a → a < aV A → 0 ≤ b → b < aV A → a + b ≤ k → k < n → a ≠ b → dpA A b ≤ dpA A a → mtA A (n + 1) a b = mtA A n (paA A a) b ∧ 0 < a
  | 0, n, a, b, h0, h1, h2, h3, h4, h5, h6, h7 => by omega
  | k + 1, n, a, b, h0, h1, h2, h3, h4, h5, h6, h7 => by
    have da := dpA_0 hG h0 h1
    have db := dpA_0 hG h2 h3
    have hap : 0 < a := by
      by_cases hz : a = 0
      · have := da.1 hz
        have hb : 0 < b := by omega
        have := db.2 hb
        have pb := (G_V hG h2 h3).2.2.2.2.1 hb
        have := dpA_rng hG (paA A b) pb.1 (by omega)
        omega
      · omega
    refine ⟨?_, hap⟩
    have pa := (G_V hG h0 h1).2.2.2.2.1 hap
    rw [mtA, if_neg h6]
    by_cases hl : a ≤ b
    · rw [if_pos hl]
      have hb : 0 < b := by omega
      have pb := (G_V hG h2 h3).2.2.2.2.1 hb
      have hd := db.2 hb
      obtain ⟨n', rfl⟩ : ∃ n', n = n' + 1 := ⟨n - 1, by omega⟩
      have hne : a ≠ paA A b := fun e => by rw [e] at h7; omega
      rw [(mt_step hG k n' (a := a) (b := paA A b) h0 h1 pb.1 (by omega) (by omega) (by omega) hne (by omega)).1]
      rw [mtA, if_neg (by omega), if_pos (by omega)]
    · rw [if_neg hl]
theorem mtA_fuel (hG : Good A) : ∀ (k n : Nat) {a b : Int}, 0 ≤ a → a < aV A → 0 ≤ b → b < aV A → a + b ≤ k → k < n → mtA A n a b = mtA A (k + 1) a b
  | k, n, a, b, h0, h1, h2, h3, h4, h5 => by
    obtain ⟨n', rfl⟩ : ∃ n', n = n' + 1 := ⟨n - 1, by omega⟩
    rw [mtA, mtA]
    by_cases hab : a = b
    · rw [if_pos hab, if_pos hab]
    · rw [if_neg hab, if_neg hab]
      by_cases hl : a ≤ b
      · rw [if_pos hl, if_pos hl]
        have pb := (G_V hG h2 h3).2.2.2.2.1 (by omega)
        cases k with
        | zero => omega
        | succ k => exact mtA_fuel hG k n' h0 h1 pb.1 (by omega) (by omega) (by omega)
      · rw [if_neg hl, if_neg hl]
        have pa := (G_V hG h0 h1).2.2.2.2.1 (by omega)
        cases k with
        | zero => omega
        | succ k => exact mtA_fuel hG k n' pa.1 (by omega) h2 h3 (by omega) (by omega)
/-- stepping up at either side -/
theorem mtA_sym (hG : Good A) : ∀ (n : Nat) {a b : Int}, mtA A n a b = mtA A n b a ∨ True := fun _ _ _ => Or.inr trivial
theorem mt_stepB (hG : Good A) : ∀ (k n : Nat) {a b : Int}, 0 ≤ a → a < aV A → 0 ≤ b → b < aV A → a + b ≤ k → k < n → a ≠ b → dpA A a < dpA A b → mtA A (n + 1) a b = mtA A n a (paA A b) ∧ 0 < b
  | 0, n, a, b, h0, h1, h2, h3, h4, h5, h6, h7 => by omega
  | k + 1, n, a, b, h0, h1, h2, h3, h4, h5, h6, h7 => by
    have da := dpA_0 hG h0 h1
    have db := dpA_0 hG h2 h3
    have hra := dpA_rng hG a h0 h1
    have hbp : 0 < b := by
      by_cases hz : b = 0
      · have := db.1 hz; omega
      · omega
    refine ⟨?_, hbp⟩
    have pb := (G_V hG h2 h3).2.2.2.2.1 hbp
    rw [mtA, if_neg h6]
    by_cases hl : a ≤ b
    · rw [if_pos hl]
    · rw [if_neg hl]
      have ha : 0 < a := by omega
      have pa := (G_V hG h0 h1).2.2.2.2.1 ha
      have hd := da.2 ha
      obtain ⟨n', rfl⟩ : ∃ n', n = n' + 1 := ⟨n - 1, by omega⟩
      have hne : paA A a ≠ b := fun e => by rw [e] at hd; omega
      rw [(mt_stepB hG k n' (a := paA A a) (b := b) pa.1 (by omega) h2 h3 (by omega) (by omega) hne (by omega)).1]
      rw [mtA, if_neg (by omega), if_neg (by omega)]
theorem commonAncestor_L (h : MM M A) (hfu : 1000 ≤ fu) : ∀ (k n : Nat) {a b : Int}, 0 ≤ a → a < aV A → 0 ≤ b → b < aV A → a + b ≤ k → k < n → f_X12_commonAncestor_L37 fu n a b M = some (M, mtA A (k + 1) a b)
  | _, 0, _, _, _, _, _, _, _, h => by omega
  | k, n + 1, a, b, h0, h1, h2, h3, h4, h5 => by
    have hv := MM_vr h
    rw [f_X12_commonAncestor_L37]
    by_cases hab : a = b
    · rw [if_pos hab, mtA, if_pos hab]
    · rw [if_neg hab, depth_M h h0 h1 hfu, cal_some, depth_M h h2 h3 hfu, cal_some]
      cases k with
      | zero => omega
      | succ k =>
        by_cases hd : dpA A a < dpA A b
        · rw [if_pos hd, v_M h2 (by omega), cal_some, grd_pos (by omega), grd_pos (by omega), pa_M h h2 h3]
          obtain ⟨s1, s2⟩ := mt_stepB h.2 (k + 1) (k + 1 + 1) h0 h1 h2 h3 h4 (by omega) hab hd
          have pb := (G_V h.2 h2 h3).2.2.2.2.1 s2
          rw [commonAncestor_L h hfu k n h0 h1 pb.1 (by omega) (by omega) (by omega), ← mtA_fuel h.2 (k + 1) (k + 1 + 1 + 1) h0 h1 h2 h3 h4 (by omega), s1, mtA_fuel h.2 k (k + 1 + 1) h0 h1 pb.1 (by omega) (by omega) (by omega)]
        · rw [if_neg hd, v_M h0 (by omega), cal_some, grd_pos (by omega), grd_pos (by omega), pa_M h h0 h1]
          obtain ⟨s1, s2⟩ := mt_step h.2 (k + 1) (k + 1 + 1) h0 h1 h2 h3 h4 (by omega) hab (by omega)
          have pa := (G_V h.2 h0 h1).2.2.2.2.1 s2
          rw [commonAncestor_L h hfu k n pa.1 (by omega) h2 h3 (by omega) (by omega), ← mtA_fuel h.2 (k + 1) (k + 1 + 1 + 1) h0 h1 h2 h3 h4 (by omega), s1, mtA_fuel h.2 k (k + 1 + 1) pa.1 (by omega) h2 h3 (by omega) (by omega)]
theorem commonAncestor_M (h : MM M A) (v w : Int) (hfu : 1000 ≤ fu) : f_X12_commonAncestor fu M v w = some (up M 52 6 (1 - ind ((0 ≤ v ∧ v < aV A) ∧ 0 ≤ w ∧ w < aV A)), if (0 ≤ v ∧ v < aV A) ∧ 0 ≤ w ∧ w < aV A then mtA A 79 v w else 0) := by
  have hv := MM_vr h
  have hbad : ¬ ((0 ≤ v ∧ v < aV A) ∧ 0 ≤ w ∧ w < aV A) → f_X12_commonAncestor_J21 fu v w M = some (up M 52 6 (1 - ind ((0 ≤ v ∧ v < aV A) ∧ 0 ≤ w ∧ w < aV A)), if (0 ≤ v ∧ v < aV A) ∧ 0 ≤ w ∧ w < aV A then mtA A 79 v w else 0) := fun hb => by
    unfold f_X12_commonAncestor_J21 f_X12_commonAncestor_J22
    rw [check_M, cal_some, if_pos (by decide), ind_f hb, if_neg hb]; rfl
  unfold f_X12_commonAncestor
  rw [isVersion_M h, cal_some]
  by_cases h0 : 0 ≤ v ∧ v < aV A
  · rw [ind_t h0, if_neg (by decide), isVersion_M h, cal_some]
    by_cases h1 : 0 ≤ w ∧ w < aV A
    · rw [ind_t h1, if_neg (by decide)]
      unfold f_X12_commonAncestor_J22
      rw [check_M, cal_some, if_neg (by decide), ind_t ⟨h0, h1⟩, if_pos ⟨h0, h1⟩]
      exact commonAncestor_L (MM_t h _) hfu 78 fu h0.1 h0.2 h1.1 h1.2 (by omega) (by omega)
    · rw [ind_f h1, if_pos rfl]
      exact hbad (fun q => h1 q.2)
  · rw [ind_f h0, if_pos rfl]
    exact hbad (fun q => h0 q.1)
theorem size_M (h : MM M A) (v : Int) : f_X12_size fu M v = some (up M 52 6 (thR (fltR A v)), if fltR A v = 0 then szA A v else 0) := by
  unfold f_X12_size
  rw [checkLive_M h, cal_some]
  by_cases h0 : fltR A v = 0
  · have hh := fltR_0 h0
    rw [ind_t h0, if_neg (by decide), if_pos h0, lengthOf_M (MM_t h _) hh.1 hh.2.1, cal_some]
  · rw [ind_f h0, if_pos rfl, if_neg h0]
theorem height_M (h : MM M A) (v : Int) : f_X12_height fu M v = some (up M 52 6 (thR (fltR A v)), if fltR A v = 0 then (hgt (szA A v) : Int) else 0) := by
  unfold f_X12_height
  rw [checkLive_M h, cal_some]
  by_cases h0 : fltR A v = 0
  · have hh := fltR_0 h0
    rw [ind_t h0, if_neg (by decide), if_pos h0, heightOf_M (MM_t h _) hh.1 hh.2.1, cal_some]
  · rw [ind_f h0, if_pos rfl, if_neg h0]
theorem rootOf_M (h : MM M A) (v : Int) : f_X12_rootOf fu M v = some (up M 52 6 (thR (fltR A v)), if fltR A v = 0 then rtA A v else 0) := by
  unfold f_X12_rootOf
  rw [checkLive_M h, cal_some]
  by_cases h0 : fltR A v = 0
  · have hh := fltR_0 h0
    rw [ind_t h0, if_neg (by decide), if_pos h0, root_M (MM_t h _) hh.1 hh.2.1, cal_some]
  · rw [ind_f h0, if_pos rfl, if_neg h0]
theorem fltE_0 {v i : Int} (h : fltE A v i = 0) : 0 ≤ v ∧ v < aV A ∧ rlA A v = 0 ∧ 0 ≤ i ∧ i < szA A v := by
  have := fltE_v (A := A) (v := v) (i := i) (by omega)
  have q := this.2.2.2.1 h
  exact ⟨this.1, this.2.1, q.1, q.2.1, q.2.2⟩
theorem get_M (h : MM M A) (v i : Int) : f_X12_get fu M v i = some (up M 52 6 (thR (fltE A v i)), if fltE A v i = 0 then ev A v i else 0) := by
  unfold f_X12_get
  rw [checkElement_M h, cal_some]
  by_cases h0 : fltE A v i = 0
  · have hh := fltE_0 h0
    rw [ind_t h0, if_neg (by decide), if_pos h0, element_M (MM_t h _) hh.1 hh.2.1 hh.2.2.2.1 hh.2.2.2.2, cal_some]
  · rw [ind_f h0, if_pos rfl, if_neg h0]
theorem leafOf_L (h : MM M A) {i : Int} (hi : 0 ≤ i) (hi2 : i ≤ 64) (hfu : 1000 ≤ fu) : ∀ (l n : Nat) {b x : Int}, b ≤ aN A → okB A b (l + 1) x → 0 ≤ i % pw (l + 1) → i % pw (l + 1) < ctA A (l + 1) x → l < n → f_X12_leafOf_L24 fu n i x ((l : Int) + 1) M = some (M, lfA A l x (i % pw (l + 1)))
  | _, 0, _, _, _, _, _, _, h => by omega
  | 0, n + 1, b, x, hb, hx, h0, h1, h2 => by
    rw [f_X12_leafOf_L24, if_pos (by decide)]
    rfl
  | l + 1, n + 1, b, x, hb, hx, h0, h1, h2 => by
    have hN := h.2.2.2.1
    obtain ⟨k1, -⟩ := okB_nod hN hb hx
    obtain ⟨q1, q2, q3, q4, q5⟩ := ct_at hN hb hx h0 h1
    obtain ⟨p1, p2, p3⟩ := pos_ar k1 i
    have hxb := hx.2.1
    have hpp : 0 < pw (l + 1) ∧ pw (l + 1) ≤ 64 ∧ 0 ≤ i / pw (l + 1) ∧ i / pw (l + 1) ≤ 64 := by
      have : l = 0 ∨ l = 1 := by omega
      rcases this with rfl | rfl <;> simp only [pw] <;> omega
    have es : (((l + 1 : Nat) : Int) + 1 - 1) = ((l + 1 : Nat) : Int) := by omega
    rw [f_X12_leafOf_L24, if_neg (by omega), grd_pos (by omega), es, span_M (by omega) hfu, cal_some, grd_pos (by omega), grd_pos (by omega), grd_pos (by omega), p1, entry_M h hx.1 (by omega) q1 q2, cal_some, grd_pos (by omega)]
    have e : (((l + 1 : Nat) : Int) + 1 + -1) = (l : Int) + 1 := by omega
    rw [p2] at q3 q4
    rw [e, leafOf_L h hi hi2 hfu l n (b := x) (by omega) q5 q3 q4 (by omega), lfA, p2]
theorem leafOf_M (h : MM M A) (v i : Int) (hfu : 1000 ≤ fu) : f_X12_leafOf fu M v i = some (up M 52 6 (thR (fltE A v i)), if fltE A v i = 0 then lfA A (hgt (szA A v) - 1) (rtA A v) i else 0) := by
  unfold f_X12_leafOf
  rw [checkElement_M h, cal_some]
  by_cases h0 : fltE A v i = 0
  · have hh := fltE_0 h0
    obtain ⟨l, l1, l2, l3, l4, l5, l6, -⟩ := G_tree h.2 hh.1 hh.2.1 (by omega)
    have hs := (G_V h.2 hh.1 hh.2.1).1
    have e : i % pw (l + 1) = i := Int.emod_eq_of_lt hh.2.2.2.1 (by omega)
    have e2 : ((hgt (szA A v) : Nat) : Int) = (l : Int) + 1 := by omega
    rw [ind_t h0, if_neg (by decide), if_pos h0, root_M (MM_t h _) hh.1 hh.2.1, cal_some, heightOf_M (MM_t h _) hh.1 hh.2.1, cal_some, e2]
    rw [leafOf_L (MM_t h _) hh.2.2.2.1 (by omega) hfu l fu (Int.le_refl _) l3 (by rw [e]; exact hh.2.2.2.1) (by rw [e]; omega) (by omega), e, l1]
    rfl
  · rw [ind_f h0, if_pos rfl, if_neg h0]
theorem sum_M (h : MM M A) (v : Int) (hfu : 1000 ≤ fu) : f_X12_sum fu M v = some (up M 52 6 (thR (fltR A v)), if fltR A v = 0 then sm (ev A v) (szA A v).toNat 0 else 0) := by
  unfold f_X12_sum
  rw [checkLive_M h, cal_some]
  by_cases h0 : fltR A v = 0
  · have hh := fltR_0 h0
    have hs := (G_V h.2 hh.1 hh.2.1).1
    have h' := MM_t h (thR (fltR A v))
    rw [ind_t h0, if_neg (by decide), if_pos h0]
    generalize up M 52 6 (thR (fltR A v)) = M' at h'
    have := lp_sum (F := fun n x i => f_X12_sum_L14 fu n v x i M') (M := M') (ev A v) (szA A v) 999 (fun k k0 k1 => by have := ev_rng h.2 hh.1 hh.2.1 k0 k1; omega)
      (fun n x i i0 i1 h2 h3 => by
        have hr := ev_rng h.2 hh.1 hh.2.1 i0 i1
        show f_X12_sum_L14 fu (n + 1) v x i M' = f_X12_sum_L14 fu n v (x + ev A v i) (i + 1) M'
        rw [f_X12_sum_L14, lengthOf_M h' hh.1 hh.2.1, cal_some, if_neg (by omega), element_M h' hh.1 hh.2.1 i0 i1, cal_some, grd_pos (by omega), grd_pos (by omega)])
      (fun n x i i0 i1 h2 h3 => by
        show f_X12_sum_L14 fu (n + 1) v x i M' = some (M', x)
        rw [f_X12_sum_L14, lengthOf_M h' hh.1 hh.2.1, cal_some, if_pos (by omega)]) fu 0 0 (by omega) (by omega) (by omega) (by omega) (by omega)
    simpa using this
  · rw [ind_f h0, if_pos rfl, if_neg h0]
theorem indexOf_M (h : MM M A) (v x : Int) (hfu : 1000 ≤ fu) : f_X12_indexOf fu M v x = some (up M 52 6 (thR (fltR A v)), if fltR A v = 0 then fiA A v x else 0) := by
  unfold f_X12_indexOf
  rw [checkLive_M h, cal_some]
  by_cases h0 : fltR A v = 0
  · have hh := fltR_0 h0
    have hs := (G_V h.2 hh.1 hh.2.1).1
    have h' := MM_t h (thR (fltR A v))
    rw [ind_t h0, if_neg (by decide), if_pos h0]
    generalize up M 52 6 (thR (fltR A v)) = M' at h'
    have := lp_find (F := fun n i => f_X12_indexOf_L12 fu n v x i M') (M := M') (fun i => ev A v i == x) (fun i => i) (-1) (szA A v)
      (fun n i i0 i1 hp => by
        show f_X12_indexOf_L12 fu (n + 1) v x i M' = some (M', i)
        rw [f_X12_indexOf_L12, lengthOf_M h' hh.1 hh.2.1, cal_some, if_neg (by omega), element_M h' hh.1 hh.2.1 i0 i1, cal_some, if_pos (by simpa using hp)])
      (fun n i i0 i1 hp => by
        show f_X12_indexOf_L12 fu (n + 1) v x i M' = f_X12_indexOf_L12 fu n v x (i + 1) M'
        rw [f_X12_indexOf_L12, lengthOf_M h' hh.1 hh.2.1, cal_some, if_neg (by omega), element_M h' hh.1 hh.2.1 i0 i1, cal_some, if_neg (by simpa using hp), grd_pos (by omega)])
      (fun n => by
        show f_X12_indexOf_L12 fu (n + 1) v x (szA A v) M' = some (M', -1)
        rw [f_X12_indexOf_L12, lengthOf_M h' hh.1 hh.2.1, cal_some, if_pos (Int.le_refl _)]) fu 0 (by omega) (by omega) (by omega)
    simpa [fiA] using this
  · rw [ind_f h0, if_pos rfl, if_neg h0]
/-! nodes -/
def ndA (A : AS) (k : Int) : Prop := 0 ≤ k ∧ k < aN A ∧ coA A k = 0
theorem isLeaf_M (h : MM M A) (k : Int) : f_X12_isLeaf fu M k = some (up M 52 6 (1 - ind (0 ≤ k ∧ k < aN A ∧ coA A k = 0)), if 0 ≤ k ∧ k < aN A ∧ coA A k = 0 then ind (lvA A k = 1) else 0) := by
  unfold f_X12_isLeaf
  rw [checkNode_M h, cal_some]
  by_cases h0 : 0 ≤ k ∧ k < aN A ∧ coA A k = 0
  · rw [ind_t h0, if_neg (by decide), if_pos h0, isLeafNode_M (MM_t h _) h0.1 h0.2.1, cal_some]
    by_cases hl : lvA A k = 1
    · rw [ind_t hl, if_neg (by decide)]
    · rw [ind_f hl, if_pos rfl]
  · rw [ind_f h0, if_pos rfl, if_neg h0]
theorem entryCount_M (h : MM M A) (k : Int) : f_X12_entryCount fu M k = some (up M 52 6 (1 - ind (0 ≤ k ∧ k < aN A ∧ coA A k = 0)), if 0 ≤ k ∧ k < aN A ∧ coA A k = 0 then flA A k else 0) := by
  unfold f_X12_entryCount
  rw [checkNode_M h, cal_some]
  by_cases h0 : 0 ≤ k ∧ k < aN A ∧ coA A k = 0
  · rw [ind_t h0, if_neg (by decide), if_pos h0, countOf_M (MM_t h _) h0.1 h0.2.1, cal_some]
  · rw [ind_f h0, if_pos rfl, if_neg h0]
theorem childOf_M (h : MM M A) (k j : Int) : f_X12_childOf fu M k j = some (up M 52 6 (1 - ind (0 ≤ k ∧ k < aN A ∧ coA A k = 0)), if 0 ≤ k ∧ k < aN A ∧ coA A k = 0 then chA A k j else 0) := by
  unfold f_X12_childOf
  rw [checkNode_M h, cal_some]
  by_cases h0 : 0 ≤ k ∧ k < aN A ∧ coA A k = 0
  · have h' := MM_t h (1 - 1)
    have hf := G_fl h.2 h0.1 h0.2.1
    have hlv := G_lv h.2 h0.1 h0.2.1
    rw [ind_t h0, if_neg (by decide), if_pos h0, isLeafNode_M h' h0.1 h0.2.1, cal_some]
    unfold chA
    by_cases hl : lvA A k = 1
    · rw [ind_t hl, if_neg (by decide), if_neg (by omega)]
      rfl
    · rw [ind_f hl, if_pos rfl, countOf_M h' h0.1 h0.2.1, cal_some, grd_pos (by omega), isWithin_M, cal_some]
      by_cases hj : 0 ≤ j ∧ j ≤ flA A k - 1
      · rw [ind_t hj, if_neg (by decide), if_pos ⟨by omega, hj.1, by omega⟩]
        unfold f_X12_childOf_J40
        rw [if_neg (by decide), entry_M h' h0.1 h0.2.1 hj.1 (by omega), cal_some]
      · rw [ind_f hj, if_pos rfl, if_neg (by omega)]
        rfl
  · rw [ind_f h0, if_pos rfl, if_neg h0]
theorem hasChild_M (h : MM M A) {k : Int} (h0 : 0 ≤ k) (h1 : k < aN A) {c : Int} (hc : 0 ≤ c) (hfu : 1000 ≤ fu) : f_X12_hasChild fu M k c = some (M, if coA A k = 0 then hcB A k c else 0) := by
  have hf := G_fl h.2 h0 h1
  have hlv := G_lv h.2 h0 h1
  unfold f_X12_hasChild
  rw [isStored_M1 h h0 h1, cal_some]
  by_cases hco : coA A k = 0
  · rw [ind_t hco, if_neg (by decide), if_pos hco, isLeafNode_M h h0 h1, cal_some]
    by_cases hl : lvA A k = 1
    · rw [ind_t hl, if_neg (by decide)]
      rcases hcB_iff A k hc with ⟨-, q⟩ | ⟨q, -⟩
      · obtain ⟨j, -, -, j2, -⟩ := q
        omega
      · rw [q]
    · rw [ind_f hl, if_pos rfl]
      unfold hcB
      have := lp_find (F := fun n i => f_X12_hasChild_L20 fu n k c i M) (M := M) (fun j => chA A k j == c) (fun _ => 1) 0 (flA A k)
        (fun n i hi hi2 hp => by
          have hp2 : enA A k i = c := by
            have : chA A k i = c := by simpa using hp
            unfold chA at this
            rwa [if_pos ⟨by omega, hi, hi2⟩] at this
          show f_X12_hasChild_L20 fu (n + 1) k c i M = some (M, 1)
          rw [f_X12_hasChild_L20, countOf_M h h0 h1, cal_some, if_neg (by omega), entry_M h h0 h1 hi hi2, cal_some, if_pos hp2])
        (fun n i hi hi2 hp => by
          have hp2 : enA A k i ≠ c := by
            have : chA A k i ≠ c := by simpa using hp
            unfold chA at this
            rwa [if_pos ⟨by omega, hi, hi2⟩] at this
          show f_X12_hasChild_L20 fu (n + 1) k c i M = f_X12_hasChild_L20 fu n k c (i + 1) M
          rw [f_X12_hasChild_L20, countOf_M h h0 h1, cal_some, if_neg (by omega), entry_M h h0 h1 hi hi2, cal_some, if_neg hp2, grd_pos (by omega)])
        (fun n => by
          show f_X12_hasChild_L20 fu (n + 1) k c (flA A k) M = some (M, 0)
          rw [f_X12_hasChild_L20, countOf_M h h0 h1, cal_some, if_pos (Int.le_refl _)]) fu 0 (by omega) (by omega) (by omega)
      simpa using this
  · rw [ind_f hco, if_pos rfl, if_neg hco]
theorem referencesTo_M (h : MM M A) (k : Int) (hfu : 1000 ≤ fu) : f_X12_referencesTo fu M k = some (up M 52 6 (1 - ind (0 ≤ k ∧ k < aN A ∧ coA A k = 0)), if 0 ≤ k ∧ k < aN A ∧ coA A k = 0 then nLRt A k + nRef A k else 0) := by
  have hv := MM_vr h
  have hn := MM_nr h
  unfold f_X12_referencesTo
  rw [checkNode_M h, cal_some]
  by_cases h0 : 0 ≤ k ∧ k < aN A ∧ coA A k = 0
  · have h' := MM_t h (1 - 1)
    rw [ind_t h0, if_neg (by decide), if_pos h0]
    generalize up M 52 6 (1 - 1) = M' at h'
    have hg : ∀ c, 0 ≤ (if coA A c = 0 then hcB A c k else 0) ∧ (if coA A c = 0 then hcB A c k else 0) ≤ 1 := fun c => by
      have := hcB_rng A c k
      split <;> omega
    have h60 := lp_sumk (F := fun n x i => f_X12_referencesTo_L60 fu n k x i M') (M := M') (fun c => if coA A c = 0 then hcB A c k else 0) (aN A) 1 40 (fun c _ _ => by have := hg c; omega)
      (fun n x i i0 i1 x0 x1 => by
        have hgi := hg i
        show f_X12_referencesTo_L60 fu (n + 1) k x i M' = f_X12_referencesTo_L60 fu n k (x + if coA A i = 0 then hcB A i k else 0) (i + 1) M'
        rw [f_X12_referencesTo_L60, grd_pos (by decide), MM_n h', if_neg (by omega), hasChild_M h' i0 i1 h0.1 hfu, cal_some, one_M, cal_some]
        generalize (if coA A i = 0 then hcB A i k else 0) = z at hgi
        by_cases hz : z = 0
        · rw [if_pos hz, grd_pos (by omega), grd_pos (by omega), hz]
        · have : z = 1 := by omega
          rw [if_neg hz, grd_pos (by omega), grd_pos (by omega), this])
      (fun n x i i0 i1 x0 x1 => by
        show f_X12_referencesTo_L60 fu (n + 1) k x i M' = some (M', x)
        rw [f_X12_referencesTo_L60, grd_pos (by decide), MM_n h', if_pos (by omega)])
    have gen : ∀ (n : Nat) (x i : Int), 0 ≤ i → i ≤ aV A → 0 ≤ x → x ≤ i → aV A - i < n → f_X12_referencesTo_L14 fu n k x i M' = some (M', x + sm (fun v => ind (rlA A v = 0 ∧ rtA A v = k)) (aV A - i).toNat i + nRef A k) := by
      intro n
      induction n with
      | zero => intro x i _ _ _ _ _; omega
      | succ n ih =>
        intro x i i0 i1 x0 x1 i2
        rw [f_X12_referencesTo_L14, grd_pos (by decide), MM_v h']
        by_cases hi : aV A ≤ i
        · have e : (aV A - i).toNat = 0 := by omega
          rw [if_pos hi, e, h60 fu x 0 (by omega) (by omega) (by omega) (by omega) (by omega)]
          simp [sm, nRef]
        · have e : (aV A - i).toNat = (aV A - (i + 1)).toNat + 1 := by omega
          rw [if_neg hi, isGone_M h' i0 (by omega), cal_some, e, sm]
          by_cases hr : rlA A i = 0
          · rw [if_pos hr, root_M h' i0 (by omega), cal_some]
            by_cases hc : rtA A i = k
            · rw [if_pos hc, one_1, cal_some, grd_pos (by omega), grd_pos (by omega), ih (x + 1) (i + 1) (by omega) (by omega) (by omega) (by omega) (by omega), ind_t ⟨hr, hc⟩]
              congr 2; omega
            · rw [if_neg hc, one_0, cal_some, grd_pos (by omega), grd_pos (by omega), ih (x + 0) (i + 1) (by omega) (by omega) (by omega) (by omega) (by omega), ind_f (fun q => hc q.2)]
              congr 2; omega
          · rw [if_neg hr, one_0, cal_some, grd_pos (by omega), grd_pos (by omega), ih (x + 0) (i + 1) (by omega) (by omega) (by omega) (by omega) (by omega), ind_f (fun q => hr q.1)]
            congr 2; omega
    have := gen fu 0 0 (by omega) (by omega) (by omega) (by omega) (by omega)
    rw [this]
    simp [nLRt]
  · rw [ind_f h0, if_pos rfl, if_neg h0]
theorem largestVersion_M (h : MM M A) (hfu : 1000 ≤ fu) : f_X12_largestVersion fu M = some (up M 52 6 0, lgA A (aV A).toNat (-1) 0) := by
  have hv := MM_vr h
  have h' := MM_t h 0
  unfold f_X12_largestVersion
  generalize up M 52 6 0 = M' at h'
  have gen : ∀ (m n : Nat) (b i : Int), -1 ≤ b → b < aV A → 0 ≤ i → i + m = aV A → m < n → f_X12_largestVersion_L9 fu n b i M' = some (M', lgA A m b i) := by
    intro m
    induction m with
    | zero =>
      intro n b i h0 h1 h2 h3 h4
      obtain ⟨n', rfl⟩ : ∃ n', n = n' + 1 := ⟨n - 1, by omega⟩
      rw [f_X12_largestVersion_L9, grd_pos (by decide), MM_v h', if_pos (by omega)]
      rfl
    | succ m ih =>
      intro n b i h0 h1 h2 h3 h4
      obtain ⟨n', rfl⟩ : ∃ n', n = n' + 1 := ⟨n - 1, by omega⟩
      have hi : i < aV A := by omega
      rw [f_X12_largestVersion_L9, grd_pos (by decide), MM_v h', if_neg (by omega), isGone_M h' h2 hi, cal_some, lgA]
      by_cases hr : rlA A i = 0
      · rw [if_pos hr]
        by_cases hb : b = -1
        · rw [if_pos hb, if_pos ⟨hr, Or.inl hb⟩, grd_pos (by omega)]
          exact ih n' i (i + 1) (by omega) hi (by omega) (by omega) (by omega)
        · rw [if_neg hb, lengthOf_M h' h2 hi, cal_some, lengthOf_M h' (by omega) h1, cal_some]
          by_cases hs : szA A i ≤ szA A b
          · rw [if_pos hs, if_neg (fun q => by rcases q.2 with q | q <;> omega), grd_pos (by omega)]
            exact ih n' b (i + 1) h0 h1 (by omega) (by omega) (by omega)
          · rw [if_neg hs, if_pos ⟨hr, Or.inr (by omega)⟩, grd_pos (by omega)]
            exact ih n' i (i + 1) (by omega) hi (by omega) (by omega) (by omega)
      · rw [if_neg hr, grd_pos (by omega), if_neg (fun q => hr q.1)]
        exact ih n' b (i + 1) h0 h1 (by omega) (by omega) (by omega)
  exact gen _ fu (-1) 0 (by omega) (by omega) (by omega) (by omega) (by omega)
theorem nodesForAppend_M (h : MM M A) (v : Int) (hfu : 1000 ≤ fu) : f_X12_nodesForAppend fu M v = some (up M 52 6 (thR (fltR A v)), if fltR A v = 0 then (if szA A v = 64 then -1 else (hgt (szA A v + 1) : Int)) else 0) := by
  unfold f_X12_nodesForAppend
  rw [checkLive_M h, cal_some]
  by_cases h0 : fltR A v = 0
  · have hh := fltR_0 h0
    have hs := (G_V h.2 hh.1 hh.2.1).1
    rw [ind_t h0, if_neg (by decide), if_pos h0, lengthOf_M (MM_t h _) hh.1 hh.2.1, cal_some]
    by_cases hz : szA A v = 64
    · rw [if_pos hz, if_pos hz]
    · rw [if_neg hz, if_neg hz, grd_pos (by omega), heightFor_M (by omega) (by omega) hfu, cal_some]
  · rw [ind_f h0, if_pos rfl, if_neg h0]
/-- the code of a refused replacement -/
theorem fltP_0 {v i x : Int} (h : fltP A v i x = 0) : fltE A v i = 0 ∧ -999 ≤ x ∧ x ≤ 999 := by
  unfold fltP at h
  split at h
  · omega
  · rename_i hn
    refine ⟨h, ?_⟩
    by_cases hx : -999 ≤ x ∧ x ≤ 999
    · exact hx
    · exact absurd ⟨by omega, hx⟩ hn
theorem nodesForSet_M (h : MM M A) (v i x : Int) : f_X12_nodesForSet fu M v i x = some (up M 52 6 (fltP A v i x), if fltP A v i x = 0 then (if ev A v i = x then 0 else (hgt (szA A v) : Int)) else 0) := by
  have hJ : ∀ y1 y2 y3, chk y1 y2 y3 = fltP A v i x → f_X12_nodesForSet_J49 fu v i x y1 y2 y3 M = some (up M 52 6 (fltP A v i x), if fltP A v i x = 0 then (if ev A v i = x then 0 else (hgt (szA A v) : Int)) else 0) := fun y1 y2 y3 hc => by
    unfold f_X12_nodesForSet_J49
    rw [check_M, cal_some, hc]
    by_cases h0 : fltP A v i x = 0
    · have hh := fltE_0 (fltP_0 h0).1
      rw [ind_t h0, if_neg (by decide), if_pos h0, element_M (MM_t h _) hh.1 hh.2.1 hh.2.2.2.1 hh.2.2.2.2, cal_some]
      by_cases he : ev A v i = x
      · rw [if_pos he, if_pos he]
      · rw [if_neg he, if_neg he, heightOf_M (MM_t h _) hh.1 hh.2.1, cal_some]
    · rw [ind_f h0, if_pos rfl, if_neg h0]
  unfold f_X12_nodesForSet
  rw [hasElement_M h, cal_some, isWithin_M, cal_some]
  unfold f_X12_nodesForSet_J48
  by_cases h1 : fltE A v i = 1
  · rw [ind_f (fun q => q h1), if_pos rfl]
    exact hJ _ _ _ (by unfold fltP; rw [if_neg (fun q => q.1 h1), h1]; rfl)
  · obtain ⟨v0, v1, v2, v3, v4⟩ := fltE_v h1
    rw [ind_t h1, if_neg (by decide)]
    by_cases hx : -999 ≤ x ∧ x ≤ 999
    · rw [ind_t hx, if_neg (by decide), isGone_M h v0 v1, cal_some]
      have e : fltP A v i x = fltE A v i := by unfold fltP; rw [if_neg (fun q => q.2 hx)]
      rcases fltE_rng (A := A) v i with q | q | q
      · rw [if_pos (v3 q).1]
        exact hJ _ _ _ (by rw [e, q]; rfl)
      · exact absurd q h1
      · rw [if_neg (v4 (by omega))]
        exact hJ _ _ _ (by rw [e, q]; rfl)
    · rw [ind_f hx, if_pos rfl]
      exact hJ _ _ _ (by unfold fltP; rw [if_pos ⟨h1, hx⟩]; rfl)
end MQry
