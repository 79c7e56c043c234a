/-! the first elements alone -/
def cuA : Nat → AS → Int → Int → AS × Int
  | 0, A, n, _ => (A, n)
  | l + 1, A, n, s => if ctA A (l + 1) n = s then (A, n) else
    (addN (cuA l A (enA A n ((s - 1) / pw l)) (s - (s - 1) / pw l * pw l)).1 ((l : Int) + 1) ((s - 1) / pw l + 1) (fun j => if j = (s - 1) / pw l then (cuA l A (enA A n ((s - 1) / pw l)) (s - (s - 1) / pw l * pw l)).2 else enA A n j),
      aN (cuA l A (enA A n ((s - 1) / pw l)) (s - (s - 1) / pw l * pw l)).1)
theorem cu_ar {l : Nat} (hl : l < 3) {f cl s : Int} (h1 : 1 ≤ f) (h2 : f ≤ 4) (h3 : 1 ≤ cl) (h4 : cl ≤ pw l) (h6 : 1 ≤ s) (h7 : s < (f - 1) * pw l + cl) :
    0 ≤ (s - 1) / pw l ∧ (s - 1) / pw l < f ∧ 1 ≤ s - (s - 1) / pw l * pw l ∧ s - (s - 1) / pw l * pw l ≤ pw l ∧ ((s - 1) / pw l = f - 1 → s - (s - 1) / pw l * pw l < cl) := by
  rcases l_cases hl with rfl | rfl | rfl <;> simp only [pw] at * <;> omega
theorem cu_ar2 {l : Nat} (hl : l < 3) {p s j : Int} (hj : 0 ≤ j) (hjs : j < s) (hp : p = (s - 1) / pw l) : 0 ≤ j / pw l ∧ j / pw l ≤ p ∧ 0 ≤ j % pw l ∧ j % pw l < pw l ∧ (j / pw l = p → j % pw l < s - p * pw l) := by
  subst hp
  rcases l_cases hl with rfl | rfl | rfl <;> simp only [pw] <;> omega
theorem Mk_same {A : AS} (hN : gN A) {l : Nat} {n : Int} (h : okB A (aN A) l n) : Mk A A l n (fun m => muA A l n m) :=
  ⟨ext_refl A, hN, ⟨rfl, rfl, rfl⟩, by omega, h, fun _ _ => rfl, fun m h1 h2 => by omega, fun m _ => Int.le_refl _, fun m hm => by
    cases l with
    | zero => show (0 : Int) ≤ 1; decide
    | succ l =>
      rw [muA_out hN (l + 1) (Int.le_refl _) h (by have := h.2.1; omega) (by omega)]
      decide⟩
theorem cuA_spec : ∀ (l : Nat), l ≤ 3 → ∀ {A : AS} (_ : gN A) (_ : 0 ≤ aN A) {n s : Int}, okB A (aN A) l n → 1 ≤ s → s ≤ ctA A l n →
    Mk A (cuA l A n s).1 l (cuA l A n s).2 (fun m => muA A l n m) ∧ ctA (cuA l A n s).1 l (cuA l A n s).2 = s ∧ (∀ j, 0 ≤ j → j < s → gtA (cuA l A n s).1 l (cuA l A n s).2 j = gtA A l n j)
  | 0, _, A, hN, h0, n, s, hok, h1, h2 => by
    have hs : s = 1 := by simp only [ctA] at h2; omega
    subst hs
    exact ⟨Mk_same hN hok, rfl, fun j _ _ => rfl⟩
  | l + 1, hl, A, hN, h0, n, s, hok, h1, h2 => by
    have hl3 : l < 3 := by omega
    simp only [cuA]
    by_cases hs : ctA A (l + 1) n = s
    · rw [if_pos hs]
      exact ⟨Mk_same hN hok, hs, fun j _ _ => rfl⟩
    · rw [if_neg hs]
      obtain ⟨k1, k2, k3, k4⟩ := okB_nod hN (Int.le_refl _) hok
      have hnx := hok.1
      have hnb := hok.2.1
      have hlast := k4 (flA A n - 1) (by omega) (by omega)
      have hcl := ctA_rng hN l (b := n) (by omega) hlast.1
      have hlt : s < (flA A n - 1) * pw l + ctA A l (enA A n (flA A n - 1)) := by
        have : ctA A (l + 1) n = (flA A n - 1) * pw l + ctA A l (enA A n (flA A n - 1)) := rfl
        omega
      obtain ⟨a1, a2, a3, a4, a5⟩ := cu_ar hl3 k2 k3 hcl.1 hcl.2 h1 hlt
      generalize hp : (s - 1) / pw l = p at a1 a2 a3 a4 a5 ⊢
      have hch := k4 p a1 a2
      have hsc : s - p * pw l ≤ ctA A l (enA A n p) := by
        by_cases h : p = flA A n - 1
        · have := a5 h
          rw [h] at this ⊢
          omega
        · rw [hch.2 (by omega)]; exact a4
      obtain ⟨i1, i2, i3⟩ := cuA_spec l (by omega) hN h0 (n := enA A n p) (s := s - p * pw l) (okB_mono (by omega) hch.1) a3 hsc
      generalize cuA l A (enA A n p) (s - p * pw l) = r at i1 i2 i3
      have hU := Mk_up (p := p) (f := p + 1) (e := fun j => enA A n j) (om := fun m => muA A (l + 1) n m) hN h0 hl3 i1 a1 (by omega) (by omega) (fun j hj hj2 hjp =>
          ⟨okB_mono (by omega) (k4 j hj (by omega)).1, fun h3 => (k4 j hj (by omega)).2 (by omega)⟩) (fun h => by omega) (fun m hm => by
        simp only [muA]
        have hind := (ind_rng (n = m)).1
        refine Int.le_trans ?_ (Int.le_add_of_nonneg_left hind)
        have e : sm (fun j => if j = p then muA A l (enA A n p) m else muA A l (enA A n j) m) (p + 1).toNat 0 = sm (fun j => muA A l (enA A n j) m) (p + 1).toNat 0 := sm_congr _ _ (fun j _ _ => by
          show (if j = p then muA A l (enA A n p) m else muA A l (enA A n j) m) = _
          split
          · rename_i h; rw [h]
          · rfl)
        rw [e]
        obtain ⟨k, hk⟩ : ∃ k, (flA A n).toNat = (p + 1).toNat + k := ⟨(flA A n).toNat - (p + 1).toNat, by omega⟩
        rw [hk]
        clear hk e
        induction k with
        | zero => exact Int.le_refl _
        | succ k ih =>
          rw [← Nat.add_assoc, sm_snoc]
          have := muA_nonneg A l (enA A n (0 + (((p + 1).toNat + k : Nat) : Int))) m
          omega)
      have hct : ctA (addN r.1 ((l : Int) + 1) (p + 1) (fun j => if j = p then r.2 else enA A n j)) (l + 1) (aN r.1) = s := by
        rw [addN_ct i1.2.1 (by omega) hU.2, if_pos (by omega), i2]
        have e : p + 1 - 1 = p := by omega
        rw [e]
        omega
      refine ⟨hU.1, hct, fun j hj hj2 => ?_⟩
      obtain ⟨q1, q2, q3, q4, q5⟩ := cu_ar2 hl3 hj hj2 hp.symm
      have hq4 : j % pw l < ctA r.1 l (if j / pw l = p then r.2 else enA A n (j / pw l)) := by
        by_cases hq : j / pw l = p
        · rw [if_pos hq, i2]; exact q5 hq
        · rw [if_neg hq, ext_ct hN i1.1 l (b := n) (by omega) (k4 _ q1 (by omega)).1, (k4 _ q1 (by omega)).2 (by omega)]
          exact q4
      rw [addN_gt i1.2.1 hU.2 q1 (by omega) q3 hq4]
      simp only [gtA]
      by_cases hq : j / pw l = p
      · rw [if_pos hq] at hq4 ⊢
        rw [i3 _ q3 (by rw [i2] at hq4; exact hq4), hq]
      · rw [if_neg hq] at hq4 ⊢
        have hch := (k4 _ q1 (by omega)).1
        rw [ext_ct hN i1.1 l (b := n) (by omega) hch] at hq4
        exact ext_gt hN i1.1 l (b := n) (by omega) hch q3 hq4
/-- the node of level k on the way along the first entries -/
def dnA (A : AS) : Nat → Int → Int
  | 0, n => n
  | k + 1, n => dnA A k (enA A n 0)
theorem dnA_spec {A : AS} (hN : gN A) : ∀ (k : Nat) {l : Nat} {b n s : Int}, b ≤ aN A → okB A b (l + k) n → 1 ≤ l → s ≤ ctA A (l + k) n → s ≤ pw l →
    okB A (aN A) l (dnA A k n) ∧ s ≤ ctA A l (dnA A k n) ∧ (∀ j, 0 ≤ j → j < s → gtA A l (dnA A k n) j = gtA A (l + k) n j) ∧ ∀ m, muA A l (dnA A k n) m ≤ muA A (l + k) n m
  | 0, l, b, n, s, hb, h, _, hs, _ => ⟨okB_mono hb h, hs, fun _ _ _ => rfl, fun m => Int.le_refl _⟩
  | k + 1, l, b, n, s, hb, h, hl, hs, hsp => by
    have h' : okB A b (l + k + 1) n := h
    obtain ⟨k1, k2, k3, k4⟩ := okB_nod hN hb h'
    have hnx := h'.1
    have hnb := h'.2.1
    have hch := k4 0 (Int.le_refl 0) (by omega)
    have hpp : pw l ≤ pw (l + k) := by
      clear h h' hs hch k4
      induction k with
      | zero => exact Int.le_refl _
      | succ k ih =>
        have : pw (l + (k + 1)) = 4 * pw (l + k) := rfl
        have h5 := pw_pos (l + k)
        have := ih (by omega)
        omega
    have hsc : s ≤ ctA A (l + k) (enA A n 0) := by
      by_cases hf : flA A n = 1
      · have h2 : ctA A (l + k + 1) n = (flA A n - 1) * pw (l + k) + ctA A (l + k) (enA A n (flA A n - 1)) := rfl
        have h3 : s ≤ ctA A (l + k + 1) n := hs
        rw [h2, hf] at h3
        simpa using h3
      · rw [hch.2 (by omega)]; omega
    obtain ⟨i1, i2, i3, i4⟩ := dnA_spec hN k (l := l) (b := n) (by omega) hch.1 hl hsc hsp
    refine ⟨i1, i2, fun j hj hj2 => ?_, fun m => ?_⟩
    · simp only [dnA]
      rw [i3 j hj hj2]
      show _ = gtA A (l + k) (enA A n (j / pw (l + k))) (j % pw (l + k))
      have e1 : j / pw (l + k) = 0 := Int.ediv_eq_zero_of_lt hj (by omega)
      have e2 : j % pw (l + k) = j := Int.emod_eq_of_lt hj (by omega)
      rw [e1, e2]
    · simp only [dnA]
      refine Int.le_trans (i4 m) ?_
      show _ ≤ ind (n = m) + sm (fun j => muA A (l + k) (enA A n j) m) (flA A n).toNat 0
      have h5 := sm_ge_one (g := fun j => muA A (l + k) (enA A n j) m) 0 (flA A n).toNat 0 (Int.le_refl 0) (by omega) (fun j _ _ => muA_nonneg A _ _ m)
      have h6 := (ind_rng (n = m)).1
      have h7 : muA A (l + k) (enA A n 0) m ≤ sm (fun j => muA A (l + k) (enA A n j) m) (flA A n).toNat 0 := h5
      omega

