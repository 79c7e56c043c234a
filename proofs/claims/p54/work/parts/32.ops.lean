/-! making nodes -/
def addN (A : AS) (l f : Int) (e : Int → Int) : AS := (A.1, A.2.1 + 1, A.2.2.1, A.2.2.2.1, fun n j => if n = A.2.1 then (if j = 0 then l else if j = 1 then f else if j = 2 then 0 else e (j - 3)) else A.2.2.2.2 n j)
theorem addN_V (A : AS) (l f : Int) (e : Int → Int) : aV (addN A l f e) = aV A := rfl
theorem addN_N (A : AS) (l f : Int) (e : Int → Int) : aN (addN A l f e) = aN A + 1 := rfl
theorem addN_vf (A : AS) (l f : Int) (e : Int → Int) : vf (addN A l f e) = vf A := rfl
theorem addN_ev (A : AS) (l f : Int) (e : Int → Int) : ev (addN A l f e) = ev A := rfl
theorem addN_old {A : AS} {l f : Int} {e : Int → Int} {n : Int} (h : n ≠ aN A) (j : Int) : nf (addN A l f e) n j = nf A n j := if_neg h
theorem addN_lv (A : AS) (l f : Int) (e : Int → Int) : lvA (addN A l f e) (aN A) = l := by
  show (if aN A = aN A then _ else _) = l
  rw [if_pos rfl, if_pos rfl]
theorem addN_fl (A : AS) (l f : Int) (e : Int → Int) : flA (addN A l f e) (aN A) = f := by
  show (if aN A = aN A then (if (1 : Int) = 0 then l else if (1 : Int) = 1 then f else _) else _) = f
  rw [if_pos rfl, if_neg (by decide), if_pos rfl]
theorem addN_co (A : AS) (l f : Int) (e : Int → Int) : coA (addN A l f e) (aN A) = 0 := by
  show (if aN A = aN A then (if (2 : Int) = 0 then l else if (2 : Int) = 1 then f else if (2 : Int) = 2 then 0 else _) else _) = 0
  rw [if_pos rfl, if_neg (by decide), if_neg (by decide), if_pos rfl]
theorem addN_en (A : AS) (l f : Int) (e : Int → Int) {j : Int} (h : 0 ≤ j) : enA (addN A l f e) (aN A) j = e j := by
  show (if aN A = aN A then (if 3 + j = 0 then l else if 3 + j = 1 then f else if 3 + j = 2 then 0 else e (3 + j - 3)) else _) = e j
  rw [if_pos rfl, if_neg (by omega), if_neg (by omega), if_neg (by omega)]
  congr 1
  omega
theorem addN_ext (A : AS) (l f : Int) (e : Int → Int) : ext A (addN A l f e) := ⟨by rw [addN_N]; omega, fun n _ h j _ => addN_old (by omega) j⟩
theorem addN_ct {A : AS} (hN : gN A) {l : Nat} {f : Int} {e : Int → Int} (hf : 1 ≤ f) (h : ∀ j, 0 ≤ j → j < f → okB A (aN A) l (e j)) : ctA (addN A ((l : Int) + 1) f e) (l + 1) (aN A) = (f - 1) * pw l + ctA A l (e (f - 1)) := by
  simp only [ctA]
  rw [addN_fl, addN_en _ _ _ _ (by omega), ext_ct hN (addN_ext A _ f e) l (Int.le_refl _) (h _ (by omega) (by omega))]
theorem addN_gt {A : AS} (hN : gN A) {l : Nat} {f : Int} {e : Int → Int} (h : ∀ j, 0 ≤ j → j < f → okB A (aN A) l (e j)) {i : Int} (h0 : 0 ≤ i / pw l) (h1 : i / pw l < f) (h2 : 0 ≤ i % pw l) (h3 : i % pw l < ctA A l (e (i / pw l))) : gtA (addN A ((l : Int) + 1) f e) (l + 1) (aN A) i = gtA A l (e (i / pw l)) (i % pw l) := by
  simp only [gtA]
  rw [addN_en _ _ _ _ h0, ext_gt hN (addN_ext A _ f e) l (Int.le_refl _) (h _ h0 h1) h2 h3]
theorem addN_mu {A : AS} (hN : gN A) {l : Nat} {f : Int} {e : Int → Int} (h : ∀ j, 0 ≤ j → j < f → okB A (aN A) l (e j)) (m : Int) : muA (addN A ((l : Int) + 1) f e) (l + 1) (aN A) m = ind (aN A = m) + sm (fun j => muA A l (e j) m) f.toNat 0 := by
  simp only [muA]
  rw [addN_fl, sm_congr (h := fun j => muA A l (e j) m) _ _ (fun k h1 h2 => by
    rw [addN_en _ _ _ _ h1, ext_mu hN (addN_ext A _ f e) m l (Int.le_refl _) (h _ h1 (by omega))])]
theorem gN_addN {A : AS} (hN : gN A) (h0 : 0 ≤ aN A) {l : Nat} (hl : l < 3) {f : Int} {e : Int → Int} (hf : 1 ≤ f) (hf4 : f ≤ 4) (h : ∀ j, 0 ≤ j → j < f → okB A (aN A) l (e j) ∧ (j < f - 1 → ctA A l (e j) = pw l)) : gN (addN A ((l : Int) + 1) f e) := by
  intro n hn0 hn1
  rw [addN_N] at hn1
  by_cases hn : n = aN A
  · subst hn
    rw [addN_co, addN_lv]
    refine ⟨by omega, l, hl, rfl, ?_⟩
    unfold nodF
    rw [addN_fl]
    refine ⟨hf, hf4, fun j hj hj2 => ?_⟩
    rw [addN_en _ _ _ _ hj]
    refine ⟨ext_ok (addN_ext A _ f e) (Int.le_refl _) (h j hj hj2).1, fun h3 => ?_⟩
    rw [ext_ct hN (addN_ext A _ f e) l (Int.le_refl _) (h j hj hj2).1]
    exact (h j hj hj2).2 h3
  · obtain ⟨k1, l', k2, k3, k4⟩ := hN n hn0 (by omega)
    unfold coA lvA
    rw [addN_old hn, addN_old hn]
    exact ⟨k1, l', k2, k3, ext_nod hN (addN_ext A _ f e) hn0 (by omega) k2 k4⟩
/-- what an operation that makes nodes keeps, and how its tree is -/
def Mk (A A' : AS) (l : Nat) (n' : Int) (om : Int → Int) : Prop :=
  ext A A' ∧ gN A' ∧ (aV A' = aV A ∧ vf A' = vf A ∧ ev A' = ev A) ∧ (aN A' ≤ aN A + l) ∧ okB A' (aN A') l n' ∧ (∀ m, m < aN A → coA A' m = coA A m) ∧ (∀ m, aN A ≤ m → m < aN A' → coA A' m = 0) ∧ (∀ m, m < aN A → muA A' l n' m ≤ om m) ∧ (∀ m, aN A ≤ m → muA A' l n' m ≤ 1)
theorem Mk_0 {A : AS} (hN : gN A) {x : Int} (hx : -999 ≤ x ∧ x ≤ 999) (om : Int → Int) (ho : ∀ m, 0 ≤ om m) : Mk A A 0 x om :=
  ⟨ext_refl A, hN, ⟨rfl, rfl, rfl⟩, by omega, hx, fun _ _ => rfl, fun m h1 h2 => by omega, fun m _ => ho m, fun m _ => by show (0 : Int) ≤ 1; decide⟩
/-- a node over made ones: all entries but that at p are old ones of a node whose sums are om -/
theorem Mk_up {A A1 : AS} (hN : gN A) (h0 : 0 ≤ aN A) {l : Nat} (hl : l < 3) {f p c' : Int} {e om1 om : Int → Int} (h : Mk A A1 l c' om1) (hp : 0 ≤ p) (hpf : p < f) (hf4 : f ≤ 4) (hold : ∀ j, 0 ≤ j → j < f → j ≠ p → okB A (aN A) l (e j) ∧ (j < f - 1 → ctA A l (e j) = pw l)) (hnew : p < f - 1 → ctA A1 l c' = pw l)
    (hom : ∀ m, m < aN A → sm (fun j => if j = p then om1 m else muA A l (e j) m) f.toNat 0 ≤ om m) :
    Mk A (addN A1 ((l : Int) + 1) f (fun j => if j = p then c' else e j)) (l + 1) (aN A1) om ∧ (∀ j, 0 ≤ j → j < f → okB A1 (aN A1) l (if j = p then c' else e j)) := by
  obtain ⟨k1, k2, k3, k4, k5, k6, k7, k8, k9⟩ := h
  have hok : ∀ j, 0 ≤ j → j < f → okB A1 (aN A1) l (if j = p then c' else e j) := by
    intro j hj hj2
    by_cases hjp : j = p
    · rw [if_pos hjp]; exact k5
    · rw [if_neg hjp]
      exact okB_mono k1.1 (ext_ok k1 (Int.le_refl _) (hold j hj hj2 hjp).1)
  have h01 : 0 ≤ aN A1 := by have := k1.1; omega
  have hmu : ∀ m, sm (fun j => muA A1 l (if j = p then c' else e j) m) f.toNat 0 = sm (fun j => if j = p then muA A1 l c' m else muA A l (e j) m) f.toNat 0 := fun m => sm_congr _ _ (fun j hj hj2 => by
    show muA A1 l (if j = p then c' else e j) m = if j = p then muA A1 l c' m else muA A l (e j) m
    by_cases hjp : j = p
    · rw [if_pos hjp, if_pos hjp]
    · rw [if_neg hjp, if_neg hjp]
      exact ext_mu hN k1 m l (Int.le_refl _) (hold j hj (by omega) hjp).1)
  refine ⟨⟨ext_trans k1 (addN_ext A1 _ f _), gN_addN k2 h01 hl (by omega) hf4 (fun j hj hj2 => ⟨hok j hj hj2, fun h3 => ?_⟩), k3, ?_, ⟨h01, by rw [addN_N]; omega, ?_⟩, ?_, ?_, ?_, ?_⟩, hok⟩
  · by_cases hjp : j = p
    · simp only [if_pos hjp]; exact hnew (by omega)
    · simp only [if_neg hjp]
      rw [ext_ct hN k1 l (Int.le_refl _) (hold j hj hj2 hjp).1]
      exact (hold j hj hj2 hjp).2 h3
  · rw [addN_N]; omega
  · rw [addN_lv]
  · intro m hm
    have := k1.1
    rw [show coA (addN A1 ((l : Int) + 1) f (fun j => if j = p then c' else e j)) m = coA A1 m from addN_old (by omega) 2]
    exact k6 m hm
  · intro m hm hm2
    rw [addN_N] at hm2
    by_cases hma : m = aN A1
    · rw [hma]; exact addN_co A1 _ _ _
    · rw [show coA (addN A1 ((l : Int) + 1) f (fun j => if j = p then c' else e j)) m = coA A1 m from addN_old hma 2]
      exact k7 m hm (by omega)
  · intro m hm
    have := k1.1
    rw [addN_mu k2 hok, ind_f (by omega), hmu]
    refine Int.le_trans ?_ (hom m hm)
    have h5 := sm_mono (g := fun j => if j = p then muA A1 l c' m else muA A l (e j) m) (h := fun j => if j = p then om1 m else muA A l (e j) m) f.toNat 0 (fun j _ _ => by
      show (if j = p then muA A1 l c' m else muA A l (e j) m) ≤ if j = p then om1 m else muA A l (e j) m
      split
      · exact k8 m hm
      · exact Int.le_refl _)
    omega
  · intro m hm
    have hA := k1.1
    rw [addN_mu k2 hok, hmu]
    have h5 := sm_one (g := fun j => if j = p then muA A1 l c' m else muA A l (e j) m) p f.toNat 0 hp (by omega) (fun j hj hj2 hjp => by
      rw [if_neg hjp]
      cases l with
      | zero => rfl
      | succ l =>
        have := (hold j hj (by omega) hjp).1
        exact muA_out hN (l + 1) (Int.le_refl _) this (by have := this.2.1; omega) (by omega))
    rw [h5, if_pos rfl]
    by_cases hma : aN A1 = m
    · have h6 : muA A1 l c' m = 0 := by
        cases l with
        | zero => rfl
        | succ l => exact muA_out k2 (l + 1) (Int.le_refl _) k5 (by have := k5.2.1; omega) (by omega)
      rw [h6, ind_t hma]
      decide
    · rw [ind_f hma]
      have := k9 m hm
      omega
/-! writing an element: in its place, or behind the last -/
def wrA : Nat → AS → Int → Int → Int → AS × Int
  | 0, A, _, _, x => (A, x)
  | l + 1, A, n, i, x =>
    (addN (wrA l A (if i / pw l < (if n = -1 then 0 else flA A n) then enA A n (i / pw l) else -1) (i % pw l) x).1 ((l : Int) + 1) (if i / pw l < (if n = -1 then 0 else flA A n) then (if n = -1 then 0 else flA A n) else i / pw l + 1) (fun j => if j = i / pw l then (wrA l A (if i / pw l < (if n = -1 then 0 else flA A n) then enA A n (i / pw l) else -1) (i % pw l) x).2 else enA A n j),
      aN (wrA l A (if i / pw l < (if n = -1 then 0 else flA A n) then enA A n (i / pw l) else -1) (i % pw l) x).1)
theorem wr_ar {l : Nat} (hl : l < 3) {f cl c i : Int} (h1 : 1 ≤ f) (h2 : f ≤ 4) (h3 : 1 ≤ cl) (h4 : cl ≤ pw l) (h5 : c = (f - 1) * pw l + cl) (h6 : 0 ≤ i) (h7 : i ≤ c) (h8 : i < pw (l + 1)) :
    0 ≤ i / pw l ∧ i / pw l ≤ f ∧ i / pw l ≤ 3 ∧ 0 ≤ i % pw l ∧ i % pw l < pw l ∧ (i / pw l < f - 1 → i < c) ∧ (i / pw l = f - 1 → i % pw l ≤ cl ∧ (i < c ↔ i % pw l < cl)) ∧ (i / pw l = f → i % pw l = 0 ∧ cl = pw l ∧ i = c) := by
  rcases l_cases hl with rfl | rfl | rfl <;> simp only [pw] at * <;> omega
theorem div_ar {l : Nat} (hl : l < 3) {i : Int} (h0 : 0 ≤ i) : 0 ≤ i / pw l ∧ 0 ≤ i % pw l ∧ i % pw l < pw l ∧ i = i / pw l * pw l + i % pw l := by
  rcases l_cases hl with rfl | rfl | rfl <;> simp only [pw] <;> omega
theorem wrA_spec : ∀ (l : Nat), l ≤ 3 → ∀ {A : AS} (_ : gN A) (_ : 0 ≤ aN A) {n i x c : Int}, -999 ≤ x ∧ x ≤ 999 → 0 ≤ i → i ≤ c → i < pw l → ((l = 0 ∧ c ≤ 1) ∨ (1 ≤ l ∧ n = -1 ∧ c = 0) ∨ (1 ≤ l ∧ okB A (aN A) l n ∧ c = ctA A l n)) →
    Mk A (wrA l A n i x).1 l (wrA l A n i x).2 (fun m => if n = -1 then 0 else muA A l n m) ∧ aN (wrA l A n i x).1 = aN A + l ∧ ctA (wrA l A n i x).1 l (wrA l A n i x).2 = (if i < c then c else c + 1) ∧ (∀ j, 0 ≤ j → j < (if i < c then c else c + 1) → gtA (wrA l A n i x).1 l (wrA l A n i x).2 j = if j = i then x else gtA A l n j)
  | 0, _, A, hN, h0, n, i, x, c, hx, hi, hic, hip, hc => by
    have hi0 : i = 0 := by simp only [pw] at hip; omega
    have hc' : (if i < c then c else c + 1) = 1 := by
      rcases hc with h | h | h <;> (split <;> omega)
    simp only [wrA, hc']
    refine ⟨Mk_0 hN hx _ (fun m => ?_), by omega, rfl, fun j hj hj2 => ?_⟩
    · show (0 : Int) ≤ if n = -1 then 0 else muA A 0 n m
      split
      · exact Int.le_refl 0
      · exact Int.le_refl 0
    · rw [if_pos (by omega)]
      rfl
  | l + 1, hl, A, hN, h0, n, i, x, c, hx, hi, hic, hip, hc => by
    have hl3 : l < 3 := by omega
    simp only [wrA]
    generalize hf : (if n = -1 then (0 : Int) else flA A n) = f
    generalize hcn : (if i / pw l < f then enA A n (i / pw l) else -1) = cn
    obtain ⟨d1, d2, d3, d4⟩ := div_ar hl3 hi
    -- the old node, or none
    rcases hc with hc | ⟨-, hn, hc⟩ | ⟨-, hn, hc⟩
    · omega
    · subst hn
      subst hc
      have hi0 : i = 0 := by omega
      subst hi0
      have hf0 : f = 0 := by rw [← hf]; simp
      subst hf0
      have hp0 : (0 : Int) / pw l = 0 := Int.zero_ediv _
      have hm0 : (0 : Int) % pw l = 0 := Int.zero_emod _
      rw [hp0, if_neg (by decide)] at hcn
      subst hcn
      rw [hp0, hm0, if_neg (by decide)]
      have ih := wrA_spec l (by omega) hN h0 (n := -1) (i := 0) (x := x) (c := 0) hx (Int.le_refl 0) (Int.le_refl 0) (pw_pos l) (by
        by_cases h : l = 0
        · exact Or.inl ⟨h, by decide⟩
        · exact Or.inr (Or.inl ⟨by omega, rfl, rfl⟩))
      generalize wrA l A (-1) 0 x = r at ih
      obtain ⟨i1, i2, i3, i4⟩ := ih
      have hU := Mk_up (p := 0) (f := 0 + 1) (e := fun j => enA A (-1) j) (om := fun m => if (-1 : Int) = -1 then 0 else muA A (l + 1) (-1) m) hN h0 hl3 i1 (by decide) (by decide) (by decide) (fun j hj hj2 hjp => by omega) (fun h => by omega) (fun m hm => by
        show sm (fun j => if j = 0 then (if (-1 : Int) = -1 then 0 else muA A l (-1) m) else muA A l (enA A (-1) j) m) 1 0 ≤ if (-1 : Int) = -1 then 0 else _
        simp [sm])
      refine ⟨hU.1, ?_, ?_, ?_⟩
      · rw [addN_N, i2]; omega
      · rw [addN_ct i1.2.1 (by decide) hU.2]
        rw [if_pos (by decide), i3]
        simp
      · intro j hj hj2
        have hj0 : j = 0 := by omega
        subst hj0
        have h1 := addN_gt (i := 0) i1.2.1 hU.2 (by rw [hp0]; decide) (by rw [hp0]; decide) (by rw [hm0]; decide) (by
          rw [hp0, if_pos rfl, hm0, i3]; decide)
        rw [h1, hp0, if_pos rfl, hm0, i4 0 (by decide) (by decide)]
        simp
    · obtain ⟨k1, k2, k3, k4⟩ := okB_nod hN (Int.le_refl _) hn
      have hnx := hn.1
      have hnb := hn.2.1
      have hfe : f = flA A n := by rw [← hf, if_neg (by omega)]
      subst hfe
      clear hf
      have hlast := k4 (flA A n - 1) (by omega) (by omega)
      have hcl := ctA_rng hN l (b := n) (by omega) hlast.1
      have hc2 : c = (flA A n - 1) * pw l + ctA A l (enA A n (flA A n - 1)) := by rw [hc]; rfl
      obtain ⟨a1, a2, a3, a4, a5, a6, a7, a8⟩ := wr_ar hl3 k2 k3 hcl.1 hcl.2 hc2 hi hic hip
      -- the child
      have ih : Mk A (wrA l A cn (i % pw l) x).1 l (wrA l A cn (i % pw l) x).2 (fun m => if i / pw l < flA A n then muA A l (enA A n (i / pw l)) m else 0) ∧ aN (wrA l A cn (i % pw l) x).1 = aN A + l ∧ (i / pw l < flA A n - 1 → ctA (wrA l A cn (i % pw l) x).1 l (wrA l A cn (i % pw l) x).2 = pw l) ∧ (i / pw l = flA A n - 1 → ctA (wrA l A cn (i % pw l) x).1 l (wrA l A cn (i % pw l) x).2 = if i < c then ctA A l (enA A n (flA A n - 1)) else ctA A l (enA A n (flA A n - 1)) + 1) ∧ (i / pw l = flA A n → ctA (wrA l A cn (i % pw l) x).1 l (wrA l A cn (i % pw l) x).2 = 1) ∧
          (∀ j, 0 ≤ j → j < ctA (wrA l A cn (i % pw l) x).1 l (wrA l A cn (i % pw l) x).2 → gtA (wrA l A cn (i % pw l) x).1 l (wrA l A cn (i % pw l) x).2 j = if j = i % pw l then x else gtA A l (enA A n (i / pw l)) j) := by
        by_cases hpf : i / pw l < flA A n
        · rw [if_pos hpf] at hcn
          subst hcn
          have hch := (k4 _ a1 hpf)
          have hcc : i % pw l ≤ ctA A l (enA A n (i / pw l)) := by
            by_cases h : i / pw l = flA A n - 1
            · rw [h]; exact (a7 h).1
            · rw [hch.2 (by omega)]; omega
          have := wrA_spec l (by omega) hN h0 (n := enA A n (i / pw l)) (i := i % pw l) (x := x) (c := ctA A l (enA A n (i / pw l))) hx a4 hcc a5 (by
            by_cases h : l = 0
            · subst h; exact Or.inl ⟨rfl, Int.le_refl 1⟩
            · exact Or.inr (Or.inr ⟨by omega, okB_mono (by omega) hch.1, rfl⟩))
          obtain ⟨i1, i2, i3, i4⟩ := this
          refine ⟨?_, i2, fun h => ?_, fun h => ?_, fun h => by omega, fun j hj hj2 => ?_⟩
          · obtain ⟨m1, m2, m3, m4, m5, m6, m7, m8, m9⟩ := i1
            refine ⟨m1, m2, m3, m4, m5, m6, m7, fun m hm => ?_, m9⟩
            have h8 := m8 m hm
            simp only [if_pos hpf]
            refine Int.le_trans h8 ?_
            show (if enA A n (i / pw l) = -1 then 0 else muA A l (enA A n (i / pw l)) m) ≤ _
            split
            · exact muA_nonneg A l _ m
            · exact Int.le_refl _
          · rw [i3, hch.2 h, if_pos (by omega)]
          · have h7 := a7 h
            rw [i3, h]
            by_cases h9 : i < c
            · rw [if_pos h9, if_pos (h7.2.mp h9)]
            · rw [if_neg h9, if_neg (fun h10 => h9 (h7.2.mpr h10))]
          · exact i4 j hj (by rw [← i3]; exact hj2)
        · rw [if_neg hpf] at hcn
          subst hcn
          have h8 := a8 (by omega)
          have := wrA_spec l (by omega) hN h0 (n := -1) (i := i % pw l) (x := x) (c := 0) hx a4 (by omega) a5 (by
            by_cases h : l = 0
            · exact Or.inl ⟨h, by decide⟩
            · exact Or.inr (Or.inl ⟨by omega, rfl, rfl⟩))
          obtain ⟨i1, i2, i3, i4⟩ := this
          rw [if_neg (by omega)] at i3 i4
          refine ⟨?_, i2, fun h => by omega, fun h => by omega, fun h => by rw [i3]; decide, fun j hj hj2 => ?_⟩
          · obtain ⟨m1, m2, m3, m4, m5, m6, m7, m8, m9⟩ := i1
            refine ⟨m1, m2, m3, m4, m5, m6, m7, fun m hm => ?_, m9⟩
            have h9 := m8 m hm
            simpa [if_neg hpf] using h9
          · rw [i3] at hj2
            rw [i4 j hj hj2, if_pos (by omega), if_pos (by omega)]
      generalize wrA l A cn (i % pw l) x = r at ih
      obtain ⟨i1, i2, i3, i4, i5, i6⟩ := ih
      generalize hfn : (if i / pw l < flA A n then flA A n else i / pw l + 1) = f'
      have hf' : i / pw l < f' ∧ f' ≤ 4 ∧ flA A n ≤ f' ∧ (i / pw l < flA A n → f' = flA A n) ∧ (¬ i / pw l < flA A n → f' = flA A n + 1 ∧ i / pw l = flA A n) := by
        rw [← hfn]
        split <;> omega
      clear hfn
      obtain ⟨f1, f2, f3, f4, f5⟩ := hf'
      have hU := Mk_up (p := i / pw l) (f := f') (e := fun j => enA A n j) (om := fun m => if n = -1 then 0 else muA A (l + 1) n m) hN h0 hl3 i1 a1 f1 f2 (fun j hj hj2 hjp => by
        have hjf : j < flA A n := by
          by_cases h : i / pw l < flA A n
          · have := f4 h; omega
          · have := f5 h; omega
        refine ⟨okB_mono (by omega) (k4 j hj hjf).1, fun h3 => ?_⟩
        by_cases h9 : j < flA A n - 1
        · exact (k4 j hj hjf).2 h9
        · have h10 : i / pw l = flA A n := by
            by_cases h : i / pw l < flA A n
            · have := f4 h; omega
            · exact (f5 h).2
          have : j = flA A n - 1 := by omega
          rw [this]
          exact (a8 h10).2.1) (fun h => i3 (by
            by_cases h9 : i / pw l < flA A n
            · have := f4 h9; omega
            · have := f5 h9; omega)) (fun m hm => by
        simp only [if_neg (show ¬ n = -1 by omega), muA]
        have hind := (ind_rng (n = m)).1
        refine Int.le_trans ?_ (Int.le_add_of_nonneg_left hind)
        by_cases h9 : i / pw l < flA A n
        · rw [f4 h9]
          refine Int.le_of_eq (sm_congr _ _ (fun j _ _ => ?_))
          show (if j = i / pw l then (if i / pw l < flA A n then muA A l (enA A n (i / pw l)) m else 0) else muA A l (enA A n j) m) = muA A l (enA A n j) m
          by_cases hjp : j = i / pw l
          · rw [if_pos hjp, if_pos h9, hjp]
          · rw [if_neg hjp]
        · have h10 := f5 h9
          have e : f'.toNat = (flA A n).toNat + 1 := by omega
          rw [e, sm_snoc]
          have e2 : (0 : Int) + ((flA A n).toNat : Int) = i / pw l := by omega
          rw [e2]
          simp only [if_true, if_neg h9, Int.add_zero]
          refine Int.le_of_eq (sm_congr _ _ (fun j _ hj2 => ?_))
          show (if j = i / pw l then 0 else muA A l (enA A n j) m) = muA A l (enA A n j) m
          rw [if_neg (by omega)])
      have hct : ctA (addN r.1 ((l : Int) + 1) f' (fun j => if j = i / pw l then r.2 else enA A n j)) (l + 1) (aN r.1) = if i < c then c else c + 1 := by
        rw [addN_ct i1.2.1 (by omega) hU.2]
        by_cases h9 : i / pw l < flA A n
        · rw [f4 h9]
          by_cases h10 : i / pw l = flA A n - 1
          · rw [if_pos h10.symm, i4 h10]
            split <;> omega
          · rw [if_neg (by omega), ext_ct hN i1.1 l (b := n) (by omega) hlast.1, if_pos (a6 (by omega)), hc2]
        · have h10 := f5 h9
          have h11 := a8 h10.2
          rw [h10.1, if_pos (by omega), i5 h10.2, if_neg (by omega)]
          rw [hc2, h11.2.1]
          have e : flA A n + 1 - 1 = flA A n - 1 + 1 := by omega
          rw [e, Int.add_mul]
          omega
      refine ⟨hU.1, by rw [addN_N, i2]; omega, hct, fun j hj hj2 => ?_⟩
      have hMk := hU.1
      rw [← hct] at hj2
      obtain ⟨q1, q2, q3, q4, q5⟩ := ct_at hMk.2.1 (Int.le_refl _) hMk.2.2.2.2.1 hj hj2
      rw [addN_fl] at q2
      rw [addN_en _ _ _ _ q1] at q4 q5
      rw [ext_ct i1.2.1 (addN_ext r.1 _ f' _) l (Int.le_refl _) (hU.2 _ q1 q2)] at q4
      rw [addN_gt i1.2.1 hU.2 q1 q2 q3 q4]
      obtain ⟨e1, e2, e3, e4⟩ := div_ar hl3 hj
      by_cases hq : j / pw l = i / pw l
      · rw [if_pos hq] at q4 ⊢
        rw [i6 _ q3 q4]
        simp only [gtA]
        rw [hq]
        by_cases hji : j = i
        · rw [if_pos hji, if_pos (by rw [hji])]
        · rw [if_neg hji, if_neg (fun h => hji (by rw [e4, d4, hq, h]))]
      · rw [if_neg hq] at q4 ⊢
        rw [if_neg (fun h => hq (by rw [h]))]
        simp only [gtA]
        have hjf : j / pw l < flA A n := by
          by_cases h9 : i / pw l < flA A n
          · have := f4 h9; omega
          · have := f5 h9; omega
        have hch := (k4 _ q1 hjf).1
        rw [ext_ct hN i1.1 l (b := n) (by omega) hch] at q4
        exact ext_gt hN i1.1 l (b := n) (by omega) hch q3 q4

