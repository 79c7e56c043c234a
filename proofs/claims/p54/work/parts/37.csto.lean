/-! the class's store: what is asked -/
theorem lp_sumk {F : Nat → Int → Int → Option (Mem × Int)} (g : Int → Int) (B : Int) {M : Mem} (c k : Int) (hc : ∀ k, 0 ≤ k → k < B → -c ≤ g k ∧ g k ≤ c)
    (hs : ∀ n x i, 0 ≤ i → i < B → -(c * i) - k ≤ x → x ≤ c * i + k → F (n + 1) x i = F n (x + g i) (i + 1)) (he : ∀ n x i, 0 ≤ i → i = B → -(c * i) - k ≤ x → x ≤ c * i + k → F (n + 1) x i = some (M, x)) :
    ∀ (n : Nat) (x i : Int), 0 ≤ i → i ≤ B → -(c * i) - k ≤ x → x ≤ c * i + k → B - i < n → F n x i = some (M, x + sm g (B - i).toNat i)
  | 0, _, _, _, _, _, _, h => by omega
  | n + 1, x, i, h0, h1, h2, h3, h4 => by
    by_cases h : i < B
    · have e : (B - i).toNat = (B - (i + 1)).toNat + 1 := by omega
      have hm : c * (i + 1) = c * i + c := by rw [Int.mul_add, Int.mul_one]
      have hg := hc i h0 h
      rw [hs n x i h0 h h2 h3, lp_sumk g B c k hc hs he n (x + g i) (i + 1) (by omega) (by omega) (by omega) (by omega) (by omega), e, sm]
      have : x + g i + sm g (B - (i + 1)).toNat (i + 1) = x + (g i + sm g (B - (i + 1)).toNat (i + 1)) := by omega
      rw [this]
    · have hi : i = B := by omega
      have e : (B - i).toNat = 0 := by omega
      rw [he n x i h0 hi h2 h3, e, sm]
      simp
def lfA (A : AS) : Nat → Int → Int → Int
  | 0, n, _ => n
  | l + 1, n, i => lfA A l (enA A n (i / pw (l + 1))) (i % pw (l + 1))
def cpA (A : AS) : Nat → Int → Int → Int
  | 0, _, _ => 0
  | l + 1, x, y => if x = y then 0 else 1 + sm (fun i => cpA A l (enA A x i) (enA A y i)) (imin (flA A x) (flA A y)).toNat 0
theorem cpA_rng (A : AS) (hN : gN A) : ∀ (l : Nat) {b b' x y : Int}, b ≤ aN A → okB A b l x → b' ≤ aN A → okB A b' l y → 0 ≤ cpA A l x y ∧ cpA A l x y ≤ 4 * (pw l - 1)
  | 0, _, _, _, _, _, _, _, _ => by simp [cpA, pw]
  | l + 1, b, b', x, y, hb, h, hb', h' => by
    obtain ⟨k1, k2, k3, k4⟩ := okB_nod hN hb h
    obtain ⟨k1', k2', k3', k4'⟩ := okB_nod hN hb' h'
    have hxb := h.2.1
    have hyb := h'.2.1
    simp only [cpA]
    have hpp := pw_pos l
    by_cases hxy : x = y
    · rw [if_pos hxy]
      simp only [pw]
      omega
    · rw [if_neg hxy]
      have him : imin (flA A x) (flA A y) ≤ flA A x ∧ imin (flA A x) (flA A y) ≤ flA A y ∧ 1 ≤ imin (flA A x) (flA A y) := by
        unfold imin
        split <;> omega
      have hr : ∀ j, 0 ≤ j → j < 0 + (((imin (flA A x) (flA A y)).toNat : Nat) : Int) → 0 ≤ cpA A l (enA A x j) (enA A y j) ∧ cpA A l (enA A x j) (enA A y j) ≤ 4 * (pw l - 1) := fun j h1 h2 =>
        cpA_rng A hN l (b := x) (b' := y) (by omega) (k4 j h1 (by omega)).1 (by omega) (k4' j h1 (by omega)).1
      have h1 := sm_le (g := fun i => cpA A l (enA A x i) (enA A y i)) (c := 4 * (pw l - 1)) (imin (flA A x) (flA A y)).toNat 0 (fun j h1 h2 => (hr j h1 h2).2)
      have h2 := sm_nonneg (g := fun i => cpA A l (enA A x i) (enA A y i)) (imin (flA A x) (flA A y)).toNat 0 (fun j h1 h2 => (hr j h1 h2).1)
      generalize sm (fun i => cpA A l (enA A x i) (enA A y i)) (imin (flA A x) (flA A y)).toNat 0 = s at h1 h2
      generalize imin (flA A x) (flA A y) = f at *
      have e : ((f.toNat : Nat) : Int) = f := by omega
      rw [e] at h1
      rcases l_cases k1 with rfl | rfl | rfl <;> simp only [pw] at * <;> omega
theorem pos_ar {l : Nat} (hl : l + 1 < 3) (i : Int) : i / pw (l + 1) % 4 = i % pw (l + 1 + 1) / pw (l + 1) ∧ i % pw (l + 1 + 1) % pw (l + 1) = i % pw (l + 1) ∧ i % pw (l + 1) % 4 = i % 4 := by
  have : l = 0 ∨ l = 1 := by omega
  rcases this with rfl | rfl <;> simp only [pw] <;> omega
theorem lfA_ok {A : AS} (hN : gN A) : ∀ (l : Nat) {b x i : Int}, b ≤ aN A → okB A b (l + 1) x → 0 ≤ i → i < ctA A (l + 1) x → okB A b 1 (lfA A l x i) ∧ i % 4 < flA A (lfA A l x i) ∧ gtA A (l + 1) x i = enA A (lfA A l x i) (i % 4)
  | 0, b, x, i, hb, h, h0, h1 => by
    obtain ⟨q1, q2, q3, q4, q5⟩ := ct_at hN hb h h0 h1
    obtain ⟨k1, k2, k3, k4⟩ := okB_nod hN hb h
    have e : i / pw 0 = i := Int.ediv_one i
    rw [e] at q2
    have e2 : i % 4 = i := by omega
    refine ⟨h, by show i % 4 < flA A x; omega, ?_⟩
    show enA A x (i / pw 0) = enA A x (i % 4)
    rw [e, e2]
  | l + 1, b, x, i, hb, h, h0, h1 => by
    obtain ⟨k1, -⟩ := okB_nod hN hb h
    obtain ⟨q1, q2, q3, q4, q5⟩ := ct_at hN hb h h0 h1
    have hxb := h.2.1
    obtain ⟨r1, r2, r3⟩ := lfA_ok hN l (b := x) (by omega) q5 q3 q4
    obtain ⟨-, -, p3⟩ := pos_ar k1 i
    rw [p3] at r2 r3
    exact ⟨okB_mono (by omega) r1, r2, r3⟩
section CSto
variable {M : Mem} {A : AS} {fu : Nat}
theorem G_tree (h : Good A) {v : Int} (h0 : 0 ≤ v) (h1 : v < aV A) (hs : 0 < szA A v) : ∃ l : Nat, hgt (szA A v) = l + 1 ∧ l < 3 ∧ okB A (aN A) (l + 1) (rtA A v) ∧ ctA A (l + 1) (rtA A v) = szA A v ∧ szA A v ≤ pw (l + 1) ∧ (∀ i, 0 ≤ i → i < szA A v → gtA A (l + 1) (rtA A v) i = ev A v i) ∧ ∀ m, muA A (l + 1) (rtA A v) m ≤ 1 := by
  have q := G_V h h0 h1
  obtain ⟨t1, t2, t3, t4⟩ := q.2.2.2.2.2.1.2 hs
  have hp := hgt_pos hs
  have hl := hgt_le (szA A v)
  have hf := hgt_fit hs q.1.2
  obtain ⟨l, hl2⟩ : ∃ l, hgt (szA A v) = l + 1 := ⟨hgt (szA A v) - 1, by omega⟩
  rw [hl2] at t1 t2 t3 t4 hf
  exact ⟨l, hl2, by omega, t1, t2, hf, t3, t4⟩
theorem ev_rng (h : Good A) {v i : Int} (h0 : 0 ≤ v) (h1 : v < aV A) (hi : 0 ≤ i) (hi2 : i < szA A v) : -999 ≤ ev A v i ∧ ev A v i ≤ 999 := by
  obtain ⟨l, l1, l2, l3, l4, l5, l6, -⟩ := G_tree h h0 h1 (by omega)
  rw [← l6 i hi hi2]
  exact gtA_rng h.2.2.1 (l + 1) (Int.le_refl _) l3 hi (by omega)
theorem heightAt_C (h : CM M A) {v : Int} (h0 : 0 ≤ v) (h1 : v < aV A) : f_X8_heightAt fu M v = some (M, (hgt (szA A v) : Int)) := by
  unfold f_X8_heightAt
  rw [sizeAt_C h h0 h1, cal_some, heightFor_C (G_V h.2 h0 h1).1.2, cal_some]
theorem leafAt_L (h : CM M A) (i : Int) : ∀ (l n : Nat) {b x : Int}, b ≤ aN A → okB A b (l + 1) x → 0 ≤ i % pw (l + 1) → i % pw (l + 1) < ctA A (l + 1) x → l < n → f_X8_leafAt_L16 fu n i x ((l : Int) + 1) M = some (M, lfA A l x (i % pw (l + 1)))
  | _, 0, _, _, _, _, _, _, h => by omega
  | 0, n + 1, b, x, hb, hx, h0, h1, h2 => by
    rw [f_X8_leafAt_L16, if_pos (by decide)]
    rfl
  | l + 1, n + 1, b, x, hb, hx, h0, h1, h2 => by
    have hN := h.2.2.2.1
    obtain ⟨k1, -⟩ := okB_nod hN hb hx
    obtain ⟨q1, q2, q3, q4, q5⟩ := ct_at hN hb hx h0 h1
    obtain ⟨p1, p2, p3⟩ := pos_ar k1 i
    have hxb := hx.2.1
    rw [f_X8_leafAt_L16, if_neg (by omega), positionIn_C k1, cal_some, p1, entryAt_in h hx.1 (by omega) q1 q2, cal_some, grd_pos (by omega)]
    have e : (((l + 1 : Nat) : Int) + 1 + -1) = (l : Int) + 1 := by omega
    rw [p2] at q3 q4
    rw [e, leafAt_L h i l n (b := x) (by omega) q5 q3 q4 (by omega), lfA, p2]
theorem leafAt_C (h : CM M A) {v i : Int} (h0 : 0 ≤ v) (h1 : v < aV A) (hi : 0 ≤ i) (hi2 : i < szA A v) (hfu : 1000 ≤ fu) : f_X8_leafAt fu M v i = some (M, lfA A (hgt (szA A v) - 1) (rtA A v) i) := by
  obtain ⟨l, l1, l2, l3, l4, l5, l6, -⟩ := G_tree h.2 h0 h1 (by omega)
  unfold f_X8_leafAt
  have e : i % pw (l + 1) = i := Int.emod_eq_of_lt hi (by omega)
  have e2 : ((hgt (szA A v) : Nat) : Int) = (l : Int) + 1 := by omega
  rw [rootAt_C h h0 h1, cal_some, heightAt_C h h0 h1, cal_some, e2, leafAt_L h i l fu (Int.le_refl _) l3 (by rw [e]; exact hi) (by rw [e]; omega) (by omega), e, l1]
  rfl
theorem elementAt_C (h : CM M A) {v i : Int} (h0 : 0 ≤ v) (h1 : v < aV A) (hi : 0 ≤ i) (hi2 : i < szA A v) (hfu : 1000 ≤ fu) : f_X8_elementAt fu M v i = some (M, ev A v i) := by
  obtain ⟨l, l1, l2, l3, l4, l5, l6, -⟩ := G_tree h.2 h0 h1 (by omega)
  obtain ⟨r1, r2, r3⟩ := lfA_ok h.2.2.2.1 l (Int.le_refl _) l3 hi (by omega)
  unfold f_X8_elementAt
  rw [leafAt_C h h0 h1 hi hi2 hfu, cal_some, positionIn_1, cal_some]
  have e : hgt (szA A v) - 1 = l := by omega
  rw [e, entryAt_in h r1.1 r1.2.1 (by omega) r2, cal_some, ← r3, l6 i hi hi2]
theorem addUp_C (h : CM M A) {v : Int} (h0 : 0 ≤ v) (h1 : v < aV A) (hfu : 1000 ≤ fu) : f_X8_addUp fu M v = some (M, sm (ev A v) (szA A v).toNat 0) := by
  have hs := (G_V h.2 h0 h1).1
  unfold f_X8_addUp
  have := lp_sum (F := fun n x i => f_X8_addUp_L4 fu n v x i M) (M := M) (ev A v) (szA A v) 999 (fun k k0 k1 => by have := ev_rng h.2 h0 h1 k0 k1; omega)
    (fun n x i i0 i1 h2 h3 => by
      have hr := ev_rng h.2 h0 h1 i0 i1
      show f_X8_addUp_L4 fu (n + 1) v x i M = f_X8_addUp_L4 fu n v (x + ev A v i) (i + 1) M
      rw [f_X8_addUp_L4, sizeAt_C h h0 h1, cal_some, if_neg (by omega), elementAt_C h h0 h1 i0 i1 hfu, cal_some, grd_pos (by omega), grd_pos (by omega)])
    (fun n x i i0 i1 h2 h3 => by
      show f_X8_addUp_L4 fu (n + 1) v x i M = some (M, x)
      rw [f_X8_addUp_L4, sizeAt_C h h0 h1, cal_some, if_pos (by omega)]) fu 0 0 (by omega) (by omega) (by omega) (by omega) (by omega)
  simpa using this
def fiA (A : AS) (v x : Int) : Int := ff (fun i => ev A v i == x) (fun i => i) (-1) (szA A v).toNat 0
def tvA (A : AS) (v : Int) : Int := tnA A (hgt (szA A v)) (rtA A v)
theorem tvA_rng (h : Good A) {v : Int} (h0 : 0 ≤ v) (h1 : v < aV A) : 0 ≤ tvA A v ∧ tvA A v ≤ 252 := by
  refine ⟨tnA_nonneg A _ _, ?_⟩
  unfold tvA
  by_cases hs : 0 < szA A v
  · obtain ⟨l, l1, l2, l3, -⟩ := G_tree h h0 h1 hs
    have := tnA_le h.2.2.1 (l + 1) (Int.le_refl _) l3
    rw [l1]
    rcases l_cases l2 with rfl | rfl | rfl <;> simp only [pw] at this <;> omega
  · rw [hgt_0 (by omega)]
    show (0 : Int) ≤ 252
    decide
def tlA (A : AS) : Int := sm (fun v => if rlA A v = 0 then tvA A v else 0) (aV A).toNat 0
theorem imin_le (x y : Int) : imin x y ≤ x ∧ imin x y ≤ y ∧ (imin x y = x ∨ imin x y = y) := by
  unfold imin
  split <;> omega
theorem iabs_rng (x : Int) : 0 ≤ iabs x ∧ (iabs x = x ∨ iabs x = -x) := by
  unfold iabs
  split <;> omega
def dfA (A : AS) (v w : Int) : Int := iabs (szA A v - szA A w) + sm (fun i => ind (ev A v i ≠ ev A w i)) (imin (szA A v) (szA A w)).toNat 0
def fdA (A : AS) (v w : Int) : Int := ff (fun i => ev A v i != ev A w i) (fun i => i) (if szA A v = szA A w then -1 else imin (szA A v) (szA A w)) (imin (szA A v) (szA A w)).toNat 0
def coV (A : AS) (v w : Int) : Int := if hgt (szA A v) = hgt (szA A w) then cpA A (hgt (szA A v)) (rtA A v) (rtA A w) else -1
end CSto
