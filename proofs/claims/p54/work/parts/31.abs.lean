/-! the state as numbers: versions, their elements, nodes -/
abbrev AS : Type := Int × Int × (Int → Int → Int) × (Int → Int → Int) × (Int → Int → Int)
def aV (A : AS) : Int := A.1
def aN (A : AS) : Int := A.2.1
def vf (A : AS) (v j : Int) : Int := A.2.2.1 v j
def ev (A : AS) (v i : Int) : Int := A.2.2.2.1 v i
def nf (A : AS) (n j : Int) : Int := A.2.2.2.2 n j
abbrev szA (A : AS) (v : Int) : Int := vf A v 0
abbrev rtA (A : AS) (v : Int) : Int := vf A v 1
abbrev paA (A : AS) (v : Int) : Int := vf A v 2
abbrev rlA (A : AS) (v : Int) : Int := vf A v 3
abbrev crA (A : AS) (v : Int) : Int := vf A v 4
abbrev lvA (A : AS) (n : Int) : Int := nf A n 0
abbrev flA (A : AS) (n : Int) : Int := nf A n 1
abbrev coA (A : AS) (n : Int) : Int := nf A n 2
abbrev enA (A : AS) (n j : Int) : Int := nf A n (3 + j)
def hgt (s : Int) : Nat := if s ≤ 0 then 0 else if s ≤ 4 then 1 else if s ≤ 16 then 2 else 3
def pw : Nat → Int
  | 0 => 1
  | l + 1 => 4 * pw l
theorem pw0 : pw 0 = 1 := rfl
theorem pw1 : pw 1 = 4 := rfl
theorem pw2 : pw 2 = 16 := rfl
theorem pw3 : pw 3 = 64 := rfl
theorem pw_pos : ∀ l, 0 < pw l
  | 0 => by decide
  | l + 1 => by have := pw_pos l; simp only [pw]; omega
def ctA (A : AS) : Nat → Int → Int
  | 0, _ => 1
  | l + 1, n => (flA A n - 1) * pw l + ctA A l (enA A n (flA A n - 1))
def gtA (A : AS) : Nat → Int → Int → Int
  | 0, x, _ => x
  | l + 1, n, i => gtA A l (enA A n (i / pw l)) (i % pw l)
def muA (A : AS) : Nat → Int → Int → Int
  | 0, _, _ => 0
  | l + 1, n, m => ind (n = m) + sm (fun j => muA A l (enA A n j) m) (flA A n).toNat 0
def tnA (A : AS) : Nat → Int → Int
  | 0, _ => 0
  | l + 1, n => 1 + sm (fun j => tnA A l (enA A n j)) (flA A n).toNat 0
/-- a tree of level l whose top is below b; at level 0 an element -/
def okB (A : AS) (b : Int) : Nat → Int → Prop
  | 0, x => -999 ≤ x ∧ x ≤ 999
  | l + 1, x => 0 ≤ x ∧ x < b ∧ lvA A x = (l : Int) + 1
def nodF (A : AS) (n : Int) (l : Nat) : Prop := 1 ≤ flA A n ∧ flA A n ≤ 4 ∧ ∀ j, 0 ≤ j → j < flA A n → okB A n l (enA A n j) ∧ (j < flA A n - 1 → ctA A l (enA A n j) = pw l)
def gN (A : AS) : Prop := ∀ n, 0 ≤ n → n < aN A → (0 ≤ coA A n ∧ coA A n ≤ 1) ∧ ∃ l : Nat, l < 3 ∧ lvA A n = (l : Int) + 1 ∧ nodF A n l
/-- a tree of the version -/
def okV (A : AS) (v : Int) : Prop := (szA A v = 0 → rtA A v = -1) ∧ (0 < szA A v → okB A (aN A) (hgt (szA A v)) (rtA A v) ∧ ctA A (hgt (szA A v)) (rtA A v) = szA A v ∧ (∀ i, 0 ≤ i → i < szA A v → gtA A (hgt (szA A v)) (rtA A v) i = ev A v i) ∧ ∀ m, muA A (hgt (szA A v)) (rtA A v) m ≤ 1)
def gV (A : AS) : Prop := ∀ v, 0 ≤ v → v < aV A → (0 ≤ szA A v ∧ szA A v ≤ 64) ∧ (0 ≤ rlA A v ∧ rlA A v ≤ 1) ∧ (0 ≤ crA A v ∧ crA A v ≤ 21) ∧ (v = 0 → paA A v = -1) ∧ (0 < v → 0 ≤ paA A v ∧ paA A v < v) ∧ okV A v ∧ (rlA A v = 0 → ∀ m, 0 < muA A (hgt (szA A v)) (rtA A v) m → coA A m = 0)
def Good (A : AS) : Prop := (1 ≤ aV A ∧ aV A ≤ 40) ∧ (0 ≤ aN A ∧ aN A ≤ 21 + 3 * (aV A - 1)) ∧ gN A ∧ gV A ∧ sm (crA A) (aV A).toNat 0 = aN A
theorem Good_N {A : AS} (h : Good A) : aN A ≤ 138 := by
  have h1 := h.1
  have h2 := h.2.1
  omega
theorem hgt_0 {s : Int} (h : s ≤ 0) : hgt s = 0 := if_pos h
theorem hgt_1 {s : Int} (h : 0 < s) (h2 : s ≤ 4) : hgt s = 1 := by
  unfold hgt
  rw [if_neg (by omega), if_pos h2]
theorem hgt_2 {s : Int} (h : 4 < s) (h2 : s ≤ 16) : hgt s = 2 := by
  unfold hgt
  rw [if_neg (by omega), if_neg (by omega), if_pos h2]
theorem hgt_3 {s : Int} (h : 16 < s) : hgt s = 3 := by
  unfold hgt
  rw [if_neg (by omega), if_neg (by omega), if_neg (by omega)]
theorem hgt_le (s : Int) : hgt s ≤ 3 := by
  unfold hgt
  split
  · decide
  · split
    · decide
    · split <;> decide
theorem hgt_cases {s : Int} (h : s ≤ 64) : (s ≤ 0 ∧ hgt s = 0) ∨ (0 < s ∧ s ≤ 4 ∧ hgt s = 1) ∨ (4 < s ∧ s ≤ 16 ∧ hgt s = 2) ∨ (16 < s ∧ s ≤ 64 ∧ hgt s = 3) := by
  by_cases h0 : s ≤ 0
  · exact Or.inl ⟨h0, hgt_0 h0⟩
  · by_cases h1 : s ≤ 4
    · exact Or.inr (Or.inl ⟨by omega, h1, hgt_1 (by omega) h1⟩)
    · by_cases h2 : s ≤ 16
      · exact Or.inr (Or.inr (Or.inl ⟨by omega, h2, hgt_2 (by omega) h2⟩))
      · exact Or.inr (Or.inr (Or.inr ⟨by omega, h, hgt_3 (by omega)⟩))
theorem okB_mono {A : AS} {b b' : Int} (h : b ≤ b') : ∀ {l : Nat} {x : Int}, okB A b l x → okB A b' l x
  | 0, _, h1 => h1
  | l + 1, x, h1 => ⟨h1.1, Int.lt_of_lt_of_le h1.2.1 h, h1.2.2⟩
theorem okB_nod {A : AS} (hN : gN A) {b : Int} (hb : b ≤ aN A) {l : Nat} {x : Int} (h : okB A b (l + 1) x) : l < 3 ∧ nodF A x l := by
  obtain ⟨l', h1, h2, h3⟩ := (hN x h.1 (Int.lt_of_lt_of_le h.2.1 hb)).2
  have h4 := h.2.2
  have : l = l' := by omega
  subst this
  exact ⟨h1, h3⟩
theorem l_cases {l : Nat} (h : l < 3) : l = 0 ∨ l = 1 ∨ l = 2 := by omega
theorem ctA_rng {A : AS} (hN : gN A) : ∀ (l : Nat) {b x : Int}, b ≤ aN A → okB A b l x → 1 ≤ ctA A l x ∧ ctA A l x ≤ pw l
  | 0, _, _, _, _ => ⟨Int.le_refl 1, Int.le_refl 1⟩
  | l + 1, b, x, hb, h => by
    obtain ⟨h1, h2, h3, h4⟩ := okB_nod hN hb h
    have h5 := (h4 (flA A x - 1) (by omega) (by omega)).1
    have h6 := ctA_rng hN l (b := x) (by have := h.2.1; omega) h5
    simp only [ctA]
    generalize ctA A l (enA A x (flA A x - 1)) = c at h6
    generalize flA A x = f at h2 h3
    rcases l_cases h1 with rfl | rfl | rfl <;> simp only [pw] at * <;> omega
/-- the entry that an index goes to, and the index there -/
theorem ct_at {A : AS} (hN : gN A) {l : Nat} {b x i : Int} (hb : b ≤ aN A) (h : okB A b (l + 1) x) (h0 : 0 ≤ i) (h1 : i < ctA A (l + 1) x) :
    0 ≤ i / pw l ∧ i / pw l < flA A x ∧ 0 ≤ i % pw l ∧ i % pw l < ctA A l (enA A x (i / pw l)) ∧ okB A x l (enA A x (i / pw l)) := by
  obtain ⟨k1, k2, k3, k4⟩ := okB_nod hN hb h
  have k5 := (k4 (flA A x - 1) (by omega) (by omega)).1
  have k6 := ctA_rng hN l (b := x) (by have := h.2.1; omega) k5
  simp only [ctA] at h1
  have key : 0 ≤ i / pw l ∧ i / pw l < flA A x ∧ 0 ≤ i % pw l ∧ i % pw l < pw l ∧ (i / pw l = flA A x - 1 → i % pw l < ctA A l (enA A x (flA A x - 1))) := by
    generalize ctA A l (enA A x (flA A x - 1)) = c at h1 k6
    generalize flA A x = f at k2 k3 h1
    rcases l_cases k1 with rfl | rfl | rfl <;> simp only [pw] at * <;> omega
  obtain ⟨q1, q2, q3, q4, q5⟩ := key
  refine ⟨q1, q2, q3, ?_, (k4 _ q1 q2).1⟩
  by_cases hq : i / pw l = flA A x - 1
  · rw [hq]
    exact q5 hq
  · rw [(k4 _ q1 q2).2 (by omega)]
    exact q4
theorem gtA_rng {A : AS} (hN : gN A) : ∀ (l : Nat) {b x i : Int}, b ≤ aN A → okB A b l x → 0 ≤ i → i < ctA A l x → -999 ≤ gtA A l x i ∧ gtA A l x i ≤ 999
  | 0, _, _, _, _, h, _, _ => h
  | l + 1, b, x, i, hb, h, h0, h1 => by
    obtain ⟨q1, q2, q3, q4, q5⟩ := ct_at hN hb h h0 h1
    simp only [gtA]
    exact gtA_rng hN l (b := x) (by have := h.2.1; omega) q5 q3 q4
theorem muA_nonneg (A : AS) : ∀ (l : Nat) (x m : Int), 0 ≤ muA A l x m
  | 0, _, _ => Int.le_refl 0
  | l + 1, x, m => by
    simp only [muA]
    have h1 := sm_nonneg (g := fun j => muA A l (enA A x j) m) (flA A x).toNat 0 (fun k _ _ => muA_nonneg A l _ m)
    have h2 := (ind_rng (x = m)).1
    omega
theorem tnA_nonneg (A : AS) : ∀ (l : Nat) (x : Int), 0 ≤ tnA A l x
  | 0, _ => Int.le_refl 0
  | l + 1, x => by
    simp only [tnA]
    have h1 := sm_nonneg (g := fun j => tnA A l (enA A x j)) (flA A x).toNat 0 (fun k _ _ => tnA_nonneg A l _)
    omega
/-- only nodes up to the top are in a tree -/
theorem muA_out {A : AS} (hN : gN A) : ∀ (l : Nat) {b x m : Int}, b ≤ aN A → okB A b l x → (m < 0 ∨ x < m) → 0 < l → muA A l x m = 0
  | 0, _, _, _, _, _, _, h => by omega
  | l + 1, b, x, m, hb, h, hm, _ => by
    obtain ⟨k1, k2, k3, k4⟩ := okB_nod hN hb h
    have hx := h.1
    have hxb := h.2.1
    simp only [muA]
    rw [ind_f (by omega), sm_zero]
    · rfl
    · intro k h1 h2
      have h3 := (k4 k h1 (by omega)).1
      cases l with
      | zero => rfl
      | succ l => exact muA_out hN (l + 1) (b := x) (by omega) h3 (by have := h3.1; have := h3.2.1; omega) (by omega)
theorem tnA_le {A : AS} (hN : gN A) : ∀ (l : Nat) {b x : Int}, b ≤ aN A → okB A b l x → tnA A l x ≤ 4 * (pw l - 1)
  | 0, _, _, _, _ => by simp [tnA, pw]
  | l + 1, b, x, hb, h => by
    obtain ⟨k1, k2, k3, k4⟩ := okB_nod hN hb h
    have hxb := h.2.1
    simp only [tnA]
    have h1 := sm_le (g := fun j => tnA A l (enA A x j)) (c := 4 * (pw l - 1)) (flA A x).toNat 0 (fun k h1 h2 => tnA_le hN l (b := x) (by omega) (k4 k h1 (by omega)).1)
    generalize sm (fun j => tnA A l (enA A x j)) (flA A x).toNat 0 = s at h1
    have e : (((flA A x).toNat : Nat) : Int) = flA A x := by omega
    rw [e] at h1
    generalize flA A x = f at *
    rcases l_cases k1 with rfl | rfl | rfl <;> simp only [pw] at * <;> omega
/-- nodes counted are nodes met -/
theorem tnA_mu {A : AS} (hN : gN A) (N : Nat) : ∀ (l : Nat) {b x : Int}, b ≤ aN A → b ≤ N → okB A b l x → sm (fun m => muA A l x m) N 0 = tnA A l x
  | 0, _, _, _, _, _ => by
    simp only [muA, tnA]
    exact sm_zero _ _ (fun _ _ _ => rfl)
  | l + 1, b, x, hb, hbN, h => by
    obtain ⟨k1, k2, k3, k4⟩ := okB_nod hN hb h
    have hx := h.1
    have hxb := h.2.1
    simp only [muA, tnA]
    rw [sm_add (g := fun m => ind (x = m)), sm_one (g := fun m => ind (x = m)) x N 0 (by omega) (by omega) (fun k _ _ hk => ind_f (fun e => hk e.symm)), ind_t rfl, sm_swap]
    rw [sm_congr (h := fun j => tnA A l (enA A x j)) _ _ (fun k h1 h2 => tnA_mu hN N l (b := x) (by omega) (by omega) (k4 k h1 (by omega)).1)]
/-! a state that keeps the nodes of another one -/
def ext (A A' : AS) : Prop := aN A ≤ aN A' ∧ ∀ n, 0 ≤ n → n < aN A → ∀ j, j ≠ 2 → nf A' n j = nf A n j
theorem ext_refl (A : AS) : ext A A := ⟨Int.le_refl _, fun _ _ _ _ _ => rfl⟩
theorem ext_trans {A B C : AS} (h : ext A B) (h2 : ext B C) : ext A C := ⟨Int.le_trans h.1 h2.1, fun n h0 h1 j hj => by rw [h2.2 n h0 (by have := h.1; omega) j hj, h.2 n h0 h1 j hj]⟩
theorem ext_en {A A' : AS} (h : ext A A') {n j : Int} (h0 : 0 ≤ n) (h1 : n < aN A) (hj : 0 ≤ j) : enA A' n j = enA A n j := h.2 n h0 h1 _ (by omega)
theorem ext_fl {A A' : AS} (h : ext A A') {n : Int} (h0 : 0 ≤ n) (h1 : n < aN A) : flA A' n = flA A n := h.2 n h0 h1 _ (by omega)
theorem ext_lv {A A' : AS} (h : ext A A') {n : Int} (h0 : 0 ≤ n) (h1 : n < aN A) : lvA A' n = lvA A n := h.2 n h0 h1 _ (by omega)
theorem ext_ok {A A' : AS} (h : ext A A') {b : Int} (hb : b ≤ aN A) : ∀ {l : Nat} {x : Int}, okB A b l x → okB A' b l x
  | 0, _, h1 => h1
  | l + 1, x, h1 => ⟨h1.1, h1.2.1, by rw [ext_lv h h1.1 (by have := h1.2.1; omega)]; exact h1.2.2⟩
theorem ext_ct {A A' : AS} (hN : gN A) (h : ext A A') : ∀ (l : Nat) {b x : Int}, b ≤ aN A → okB A b l x → ctA A' l x = ctA A l x
  | 0, _, _, _, _ => rfl
  | l + 1, b, x, hb, h1 => by
    obtain ⟨k1, k2, k3, k4⟩ := okB_nod hN hb h1
    have hx := h1.1
    have hxb := h1.2.1
    simp only [ctA]
    rw [ext_fl h hx (by omega), ext_en h hx (by omega) (by omega), ext_ct hN h l (b := x) (by omega) (k4 _ (by omega) (by omega)).1]
theorem ext_gt {A A' : AS} (hN : gN A) (h : ext A A') : ∀ (l : Nat) {b x i : Int}, b ≤ aN A → okB A b l x → 0 ≤ i → i < ctA A l x → gtA A' l x i = gtA A l x i
  | 0, _, _, _, _, _, _, _ => rfl
  | l + 1, b, x, i, hb, h1, h2, h3 => by
    obtain ⟨q1, q2, q3, q4, q5⟩ := ct_at hN hb h1 h2 h3
    have hx := h1.1
    have hxb := h1.2.1
    simp only [gtA]
    rw [ext_en h hx (by omega) q1, ext_gt hN h l (b := x) (by omega) q5 q3 q4]
theorem ext_mu {A A' : AS} (hN : gN A) (h : ext A A') (m : Int) : ∀ (l : Nat) {b x : Int}, b ≤ aN A → okB A b l x → muA A' l x m = muA A l x m
  | 0, _, _, _, _ => rfl
  | l + 1, b, x, hb, h1 => by
    obtain ⟨k1, k2, k3, k4⟩ := okB_nod hN hb h1
    have hx := h1.1
    have hxb := h1.2.1
    simp only [muA]
    rw [ext_fl h hx (by omega), sm_congr (h := fun j => muA A l (enA A x j) m) _ _ (fun k h2 h3 => by
      rw [ext_en h hx (by omega) h2, ext_mu hN h m l (b := x) (by omega) (k4 k h2 (by omega)).1])]
theorem ext_nod {A A' : AS} (hN : gN A) (h : ext A A') {n : Int} (h0 : 0 ≤ n) (h1 : n < aN A) {l : Nat} (hl : l < 3) (k : nodF A n l) : nodF A' n l := by
  obtain ⟨k2, k3, k4⟩ := k
  unfold nodF
  rw [ext_fl h h0 h1]
  refine ⟨k2, k3, fun j hj hj2 => ?_⟩
  rw [ext_en h h0 h1 hj]
  refine ⟨ext_ok h (by omega) (k4 j hj hj2).1, fun h3 => ?_⟩
  rw [ext_ct hN h l (b := n) (by omega) (k4 j hj hj2).1]
  exact (k4 j hj hj2).2 h3
/-- the sum of what the live versions but one reach -/
def rsA (A : AS) (w m : Int) : Int := sm (fun v => if rlA A v = 0 ∧ v ≠ w then muA A (hgt (szA A v)) (rtA A v) m else 0) (aV A).toNat 0
theorem rsA_nonneg (A : AS) (w m : Int) : 0 ≤ rsA A w m := sm_nonneg _ _ (fun v _ _ => by
  show 0 ≤ if rlA A v = 0 ∧ v ≠ w then muA A (hgt (szA A v)) (rtA A v) m else 0
  split
  · exact muA_nonneg A _ _ m
  · exact Int.le_refl 0)
theorem rsA_ex {A : AS} {w m : Int} (h : 0 < rsA A w m) : ∃ v, 0 ≤ v ∧ v < aV A ∧ rlA A v = 0 ∧ v ≠ w ∧ 0 < muA A (hgt (szA A v)) (rtA A v) m := by
  obtain ⟨v, h1, h2, h3⟩ := sm_pos _ _ (fun v _ _ => by
    show 0 ≤ if rlA A v = 0 ∧ v ≠ w then muA A (hgt (szA A v)) (rtA A v) m else 0
    split
    · exact muA_nonneg A _ _ m
    · exact Int.le_refl 0) h
  by_cases hc : rlA A v = 0 ∧ v ≠ w
  · rw [if_pos hc] at h3
    exact ⟨v, h1, by omega, hc.1, hc.2, h3⟩
  · rw [if_neg hc] at h3
    omega
theorem rsA_of {A : AS} {w m v : Int} (h0 : 0 ≤ v) (h1 : v < aV A) (h2 : rlA A v = 0) (h3 : v ≠ w) (h4 : 0 < muA A (hgt (szA A v)) (rtA A v) m) : 0 < rsA A w m := by
  have := sm_ge_one (g := fun v => if rlA A v = 0 ∧ v ≠ w then muA A (hgt (szA A v)) (rtA A v) m else 0) v (aV A).toNat 0 (by omega) (by omega) (fun v _ _ => by
    show 0 ≤ if rlA A v = 0 ∧ v ≠ w then muA A (hgt (szA A v)) (rtA A v) m else 0
    split
    · exact muA_nonneg A _ _ m
    · exact Int.le_refl 0)
  rw [if_pos ⟨h2, h3⟩] at this
  exact Int.lt_of_lt_of_le h4 this
theorem rsA_co {A : AS} (h : Good A) {w m : Int} (hr : 0 < rsA A w m) : coA A m = 0 := by
  obtain ⟨v, h1, h2, h3, -, h5⟩ := rsA_ex hr
  exact (h.2.2.2.1 v h1 h2).2.2.2.2.2.2 h3 m h5

