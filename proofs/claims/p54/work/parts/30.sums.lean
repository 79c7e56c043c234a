/-! sums and searches over whole numbers -/
def sm (g : Int → Int) : Nat → Int → Int
  | 0, _ => 0
  | n + 1, a => g a + sm g n (a + 1)
theorem sm_congr {g h : Int → Int} : ∀ (n : Nat) (a : Int), (∀ k, a ≤ k → k < a + n → g k = h k) → sm g n a = sm h n a
  | 0, _, _ => rfl
  | n + 1, a, H => by
    simp only [sm]
    rw [H a (Int.le_refl a) (by omega), sm_congr n (a + 1) (fun k h1 h2 => H k (by omega) (by omega))]
theorem sm_nonneg {g : Int → Int} : ∀ (n : Nat) (a : Int), (∀ k, a ≤ k → k < a + n → 0 ≤ g k) → 0 ≤ sm g n a
  | 0, _, _ => Int.le_refl 0
  | n + 1, a, H => by
    simp only [sm]
    have h1 := H a (Int.le_refl a) (by omega)
    have h2 := sm_nonneg n (a + 1) (fun k h1 h2 => H k (by omega) (by omega))
    omega
theorem sm_mono {g h : Int → Int} : ∀ (n : Nat) (a : Int), (∀ k, a ≤ k → k < a + n → g k ≤ h k) → sm g n a ≤ sm h n a
  | 0, _, _ => Int.le_refl 0
  | n + 1, a, H => by
    simp only [sm]
    have h1 := H a (Int.le_refl a) (by omega)
    have h2 := sm_mono n (a + 1) (fun k h1 h2 => H k (by omega) (by omega))
    omega
theorem sm_const (c : Int) : ∀ (n : Nat) (a : Int), sm (fun _ => c) n a = c * n
  | 0, _ => by simp [sm]
  | n + 1, a => by
    simp only [sm]
    rw [sm_const c n]
    have : ((n + 1 : Nat) : Int) = n + 1 := by omega
    rw [this, Int.mul_add]
    omega
theorem sm_le {g : Int → Int} {c : Int} (n : Nat) (a : Int) (H : ∀ k, a ≤ k → k < a + n → g k ≤ c) : sm g n a ≤ c * n := by
  have := sm_mono (h := fun _ => c) n a H
  rwa [sm_const] at this
theorem sm_ge {g : Int → Int} {c : Int} (n : Nat) (a : Int) (H : ∀ k, a ≤ k → k < a + n → c ≤ g k) : c * n ≤ sm g n a := by
  have := sm_mono (g := fun _ => c) n a H
  rwa [sm_const] at this
theorem sm_add {g h : Int → Int} : ∀ (n : Nat) (a : Int), sm (fun k => g k + h k) n a = sm g n a + sm h n a
  | 0, _ => rfl
  | n + 1, a => by
    simp only [sm]
    rw [sm_add n]
    omega
theorem sm_sub {g h : Int → Int} : ∀ (n : Nat) (a : Int), sm (fun k => g k - h k) n a = sm g n a - sm h n a
  | 0, _ => rfl
  | n + 1, a => by
    simp only [sm]
    rw [sm_sub n]
    omega
theorem sm_snoc {g : Int → Int} : ∀ (n : Nat) (a : Int), sm g (n + 1) a = sm g n a + g (a + n)
  | 0, a => by simp [sm]
  | n + 1, a => by
    rw [sm, sm_snoc n (a + 1), sm]
    have : a + 1 + (n : Int) = a + ((n + 1 : Nat) : Int) := by omega
    rw [this]
    omega
theorem sm_zero {g : Int → Int} (n : Nat) (a : Int) (H : ∀ k, a ≤ k → k < a + n → g k = 0) : sm g n a = 0 := by
  rw [sm_congr (h := fun _ => 0) n a H, sm_const]
  simp
/-- one place alone -/
theorem sm_one {g : Int → Int} (p : Int) : ∀ (n : Nat) (a : Int), a ≤ p → p < a + n → (∀ k, a ≤ k → k < a + n → k ≠ p → g k = 0) → sm g n a = g p
  | 0, a, h1, h2, _ => by omega
  | n + 1, a, h1, h2, H => by
    simp only [sm]
    by_cases h : a = p
    · rw [sm_zero n (a + 1) (fun k k1 k2 => H k (by omega) (by omega) (by omega)), h]
      omega
    · rw [sm_one p n (a + 1) (by omega) (by omega) (fun k k1 k2 k3 => H k (by omega) (by omega) k3), H a (by omega) (by omega) h]
      omega
/-- .. and another function that differs there alone -/
theorem sm_upd {g h : Int → Int} (p : Int) (n : Nat) (a : Int) (h1 : a ≤ p) (h2 : p < a + n) (H : ∀ k, a ≤ k → k < a + n → k ≠ p → g k = h k) : sm g n a = sm h n a + (g p - h p) := by
  have h3 := sm_one (g := fun k => g k - h k) p n a h1 h2 (fun k k1 k2 k3 => by
    have := H k k1 k2 k3
    omega)
  rw [sm_sub] at h3
  omega
theorem sm_ge_one {g : Int → Int} (p : Int) (n : Nat) (a : Int) (h1 : a ≤ p) (h2 : p < a + n) (H : ∀ k, a ≤ k → k < a + n → 0 ≤ g k) : g p ≤ sm g n a := by
  have h3 := sm_one (g := fun k => if k = p then g k else 0) p n a h1 h2 (fun k _ _ k3 => by simp [k3])
  have h4 := sm_mono (g := fun k => if k = p then g k else 0) (h := g) n a (fun k k1 k2 => by
    show (if k = p then g k else 0) ≤ g k
    split
    · exact Int.le_refl _
    · exact H k k1 k2)
  rw [h3] at h4
  simpa using h4
theorem sm_pos {g : Int → Int} : ∀ (n : Nat) (a : Int), (∀ k, a ≤ k → k < a + n → 0 ≤ g k) → 0 < sm g n a → ∃ k, a ≤ k ∧ k < a + n ∧ 0 < g k
  | 0, _, _, h => by simp [sm] at h
  | n + 1, a, H, h => by
    simp only [sm] at h
    by_cases h0 : 0 < g a
    · exact ⟨a, Int.le_refl a, by omega, h0⟩
    · obtain ⟨k, k1, k2, k3⟩ := sm_pos n (a + 1) (fun k h1 h2 => H k (by omega) (by omega)) (by omega)
      exact ⟨k, by omega, by omega, k3⟩
theorem sm_swap {f : Int → Int → Int} (n : Nat) (a : Int) : ∀ (k : Nat) (b : Int), sm (fun m => sm (fun j => f j m) k b) n a = sm (fun j => sm (fun m => f j m) n a) k b
  | 0, b => by
    simp only [sm]
    exact sm_zero n a (fun _ _ _ => rfl)
  | k + 1, b => by
    simp only [sm]
    rw [sm_add (g := fun m => f b m) (h := fun m => sm (fun j => f j m) k (b + 1)), sm_swap n a k]
theorem sm_ext {g : Int → Int} (n : Nat) (a : Int) : ∀ (k : Nat), (∀ j, a + n ≤ j → j < a + n + k → g j = 0) → sm g (n + k) a = sm g n a
  | 0, _ => rfl
  | k + 1, H => by
    rw [← Nat.add_assoc, sm_snoc, sm_ext n a k (fun j h1 h2 => H j h1 (by omega)), H _ (by omega) (by omega)]
    omega
/-- one if it holds -/
def ind (p : Prop) [Decidable p] : Int := if p then 1 else 0
theorem ind_t {p : Prop} [Decidable p] (h : p) : ind p = 1 := if_pos h
theorem ind_f {p : Prop} [Decidable p] (h : ¬ p) : ind p = 0 := if_neg h
theorem ind_rng (p : Prop) [Decidable p] : 0 ≤ ind p ∧ ind p ≤ 1 := by
  unfold ind
  split <;> omega
theorem ind_congr {p q : Prop} [Decidable p] [Decidable q] (h : p ↔ q) : ind p = ind q := by
  unfold ind
  by_cases hp : p
  · rw [if_pos hp, if_pos (h.mp hp)]
  · rw [if_neg hp, if_neg (fun hq => hp (h.mpr hq))]
/-! loops -/
theorem lp_sum {F : Nat → Int → Int → Option (Mem × Int)} (g : Int → Int) (B : Int) {M : Mem} (c : Int) (hc : ∀ k, 0 ≤ k → k < B → -c ≤ g k ∧ g k ≤ c)
    (hs : ∀ n x i, 0 ≤ i → i < B → -(c * i) ≤ x → x ≤ c * i → F (n + 1) x i = F n (x + g i) (i + 1)) (he : ∀ n x i, 0 ≤ i → i = B → -(c * i) ≤ x → x ≤ c * i → F (n + 1) x i = some (M, x)) :
    ∀ (n : Nat) (x i : Int), 0 ≤ i → i ≤ B → -(c * i) ≤ x → x ≤ c * i → B - i < n → F n x i = some (M, x + sm g (B - i).toNat i)
  | 0, _, _, _, _, _, _, h => by omega
  | n + 1, x, i, h0, h1, h2, h3, h4 => by
    by_cases h : i < B
    · have e : (B - i).toNat = (B - (i + 1)).toNat + 1 := by omega
      have hm : c * (i + 1) = c * i + c := by rw [Int.mul_add, Int.mul_one]
      have hg := hc i h0 h
      rw [hs n x i h0 h h2 h3, lp_sum g B c hc hs he n (x + g i) (i + 1) (by omega) (by omega) (by omega) (by omega) (by omega), e, sm]
      have : x + g i + sm g (B - (i + 1)).toNat (i + 1) = x + (g i + sm g (B - (i + 1)).toNat (i + 1)) := by omega
      rw [this]
    · have hi : i = B := by omega
      have e : (B - i).toNat = 0 := by omega
      rw [he n x i h0 hi h2 h3, e, sm]
      simp
/-- the first place where it holds -/
def ff (p : Int → Bool) (v : Int → Int) (d : Int) : Nat → Int → Int
  | 0, _ => d
  | n + 1, i => if p i then v i else ff p v d n (i + 1)
theorem ff_congr {p q : Int → Bool} {v w : Int → Int} {d : Int} : ∀ (n : Nat) (a : Int), (∀ k, a ≤ k → k < a + n → p k = q k ∧ (q k = true → v k = w k)) → ff p v d n a = ff q w d n a
  | 0, _, _ => rfl
  | n + 1, a, H => by
    simp only [ff]
    have h1 := H a (Int.le_refl a) (by omega)
    rw [h1.1, ff_congr n (a + 1) (fun k h1 h2 => H k (by omega) (by omega))]
    split
    · rename_i h
      exact h1.2 h
    · rfl
theorem lp_find {F : Nat → Int → Option (Mem × Int)} (p : Int → Bool) (v : Int → Int) (d : Int) (B : Int) {M : Mem}
    (hf : ∀ n i, 0 ≤ i → i < B → p i = true → F (n + 1) i = some (M, v i)) (hs : ∀ n i, 0 ≤ i → i < B → p i = false → F (n + 1) i = F n (i + 1)) (he : ∀ n, F (n + 1) B = some (M, d)) :
    ∀ (n : Nat) (i : Int), 0 ≤ i → i ≤ B → B - i < n → F n i = some (M, ff p v d (B - i).toNat i)
  | 0, _, _, _, h => by omega
  | n + 1, i, h0, h1, h2 => by
    by_cases h : i < B
    · have e : (B - i).toNat = (B - (i + 1)).toNat + 1 := by omega
      rw [e, ff]
      by_cases hp : p i = true
      · rw [hf n i h0 h hp, if_pos hp]
      · rw [hs n i h0 h (by simpa using hp), lp_find p v d B hf hs he n (i + 1) (by omega) (by omega) (by omega), if_neg hp]
    · have hi : i = B := by omega
      subst hi
      have e : (i - i).toNat = 0 := by omega
      rw [he n, e, ff]
/-- a loop that writes: what holds at i holds at i + 1 -/
theorem lp_mem {F : Nat → Int → Mem → Option (Mem × Int)} (P : Int → Mem → Prop) (B : Int) {Q : Mem × Int → Prop}
    (hs : ∀ n i M, 0 ≤ i → i < B → P i M → ∃ M', F (n + 1) i M = F n (i + 1) M' ∧ P (i + 1) M') (he : ∀ n M, P B M → ∃ o, F (n + 1) B M = some o ∧ Q o) :
    ∀ (n : Nat) (i : Int) (M : Mem), 0 ≤ i → i ≤ B → B - i < n → P i M → ∃ o, F n i M = some o ∧ Q o
  | 0, _, _, _, _, h, _ => by omega
  | n + 1, i, M, h0, h1, h2, hP => by
    by_cases h : i < B
    · obtain ⟨M', e, hP'⟩ := hs n i M h0 h hP
      rw [e]
      exact lp_mem P B hs he n (i + 1) M' (by omega) (by omega) (by omega) hP'
    · have hi : i = B := by omega
      subst hi
      exact he n M hP

