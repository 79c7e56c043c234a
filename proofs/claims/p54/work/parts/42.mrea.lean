/-! the model: comparing, reaching -/
theorem sm_split {g : Int → Int} : ∀ (n : Nat) (k : Nat) (a : Int), sm g (n + k) a = sm g n a + sm g k (a + n)
  | 0, k, a => by simp [sm]
  | n + 1, k, a => by
    have e : n + 1 + k = (n + k) + 1 := by omega
    rw [e, sm, sm, sm_split n k (a + 1)]
    have e2 : a + 1 + (n : Int) = a + ((n + 1 : Nat) : Int) := by omega
    rw [e2]
    omega
section MRea
variable {A : AS} {fu : Nat}
theorem nGar_eq (h : Good A) : nGar A = nRem A := by
  unfold nGar nSto nRch nRem
  rw [← sm_sub]
  refine sm_congr _ _ (fun k _ _ => ?_)
  show ind (coA A k = 0) - ind (0 < rsA A (-1) k) = ind (coA A k = 0 ∧ rsA A (-1) k = 0)
  have hr := rsA_nonneg A (-1) k
  by_cases hp : 0 < rsA A (-1) k
  · have hc := rsA_co h hp
    rw [ind_t hc, ind_t hp, ind_f (by omega)]
    rfl
  · rw [ind_f hp]
    by_cases hc : coA A k = 0
    · rw [ind_t hc, ind_t ⟨hc, by omega⟩]; rfl
    · rw [ind_f hc, ind_f (fun q => hc q.1)]; rfl
theorem rsA_mkR (v : Int) (hv : 0 ≤ v) (m : Int) : rsA (mkR A v) (-1) m = rsA A v m := by
  unfold rsA
  show sm _ (aV A).toNat 0 = _
  refine sm_congr _ _ (fun w w0 _ => ?_)
  have hvf : ∀ j, j ≠ 3 → vf (mkR A v) w j = vf A w j := fun j hj => if_neg (fun z => hj z.2)
  have hmu : muA (mkR A v) (hgt (szA (mkR A v) w)) (rtA (mkR A v) w) m = muA A (hgt (szA A w)) (rtA A w) m := by
    rw [show szA (mkR A v) w = szA A w from hvf 0 (by decide), show rtA (mkR A v) w = rtA A w from hvf 1 (by decide)]
    have gen : ∀ (l : Nat) (x : Int), muA (mkR A v) l x m = muA A l x m := by
      intro l
      induction l with
      | zero => intro x; rfl
      | succ l ih =>
        intro x
        show ind (x = m) + sm (fun j => muA (mkR A v) l (enA A x j) m) (flA A x).toNat 0 = ind (x = m) + sm (fun j => muA A l (enA A x j) m) (flA A x).toNat 0
        rw [sm_congr (h := fun j => muA A l (enA A x j) m) _ _ (fun k _ _ => ih _)]
    exact gen _ _
  show (if rlA (mkR A v) w = 0 ∧ w ≠ -1 then muA (mkR A v) (hgt (szA (mkR A v) w)) (rtA (mkR A v) w) m else 0) = if rlA A w = 0 ∧ w ≠ v then muA A (hgt (szA A w)) (rtA A w) m else 0
  rw [hmu]
  by_cases hw : w = v
  · have e : rlA (mkR A v) w = 1 := if_pos ⟨hw, rfl⟩
    rw [e, if_neg (fun q => absurd q.1 (by decide)), if_neg (fun q => q.2 hw)]
  · have e : rlA (mkR A v) w = rlA A w := if_neg (fun z => hw z.1)
    rw [e]
    by_cases hr : rlA A w = 0
    · rw [if_pos ⟨hr, by omega⟩, if_pos ⟨hr, hw⟩]
    · rw [if_neg (fun q => hr q.1), if_neg (fun q => hr q.1)]
theorem rsA_le (w m : Int) : rsA A w m ≤ rsA A (-1) m := sm_mono _ _ (fun v v0 _ => by
  show (if rlA A v = 0 ∧ v ≠ w then muA A (hgt (szA A v)) (rtA A v) m else 0) ≤ if rlA A v = 0 ∧ v ≠ -1 then muA A (hgt (szA A v)) (rtA A v) m else 0
  have := muA_nonneg A (hgt (szA A v)) (rtA A v) m
  by_cases hc : rlA A v = 0 ∧ v ≠ w
  · rw [if_pos hc, if_pos ⟨hc.1, by omega⟩]
    exact Int.le_refl _
  · rw [if_neg hc]
    split
    · exact this
    · exact Int.le_refl 0)
theorem exc_eq (h : Good A) (v : Int) : sm (fun k => ind (coA A k = 0 ∧ rsA A v k = 0)) (aN A).toNat 0 - sm (fun k => ind (coA A k = 0 ∧ rsA A (-1) k = 0)) (aN A).toNat 0 = nRch A (-1) - nRch A v := by
  unfold nRch
  rw [← sm_sub, ← sm_sub]
  refine sm_congr _ _ (fun k _ _ => ?_)
  show ind (coA A k = 0 ∧ rsA A v k = 0) - ind (coA A k = 0 ∧ rsA A (-1) k = 0) = ind (0 < rsA A (-1) k) - ind (0 < rsA A v k)
  have h1 := rsA_nonneg A v k
  have h2 := rsA_le (A := A) v k
  by_cases hp : 0 < rsA A (-1) k
  · have hc := rsA_co h hp
    rw [ind_t hp, ind_f (show ¬ (coA A k = 0 ∧ rsA A (-1) k = 0) by omega)]
    by_cases hq : 0 < rsA A v k
    · rw [ind_t hq, ind_f (by omega)]; rfl
    · rw [ind_f hq, ind_t ⟨hc, by omega⟩]
  · rw [ind_f hp, ind_f (show ¬ 0 < rsA A v k by omega)]
    have e1 : rsA A v k = 0 := by omega
    have e2 : rsA A (-1) k = 0 := by omega
    rw [e1, e2]
    exact Int.sub_self _
end MRea
