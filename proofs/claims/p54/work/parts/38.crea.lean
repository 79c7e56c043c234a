/-! the class's search -/
theorem lp_am {F : Nat → Int → Int → Mem → Option (Mem × Int)} (g : Int → Int) (P : Int → Mem → Prop) (B : Int) (c : Int) (hc : ∀ k, 0 ≤ k → k < B → -c ≤ g k ∧ g k ≤ c)
    (hs : ∀ n x i M, 0 ≤ i → i < B → -(c * i) ≤ x → x ≤ c * i → P i M → ∃ M', F (n + 1) x i M = F n (x + g i) (i + 1) M' ∧ P (i + 1) M') (he : ∀ n x M, P B M → -(c * B) ≤ x → x ≤ c * B → F (n + 1) x B M = some (M, x)) :
    ∀ (n : Nat) (x i : Int) (M : Mem), 0 ≤ i → i ≤ B → -(c * i) ≤ x → x ≤ c * i → B - i < n → P i M → ∃ M', F n x i M = some (M', x + sm g (B - i).toNat i) ∧ P B M'
  | 0, _, _, _, _, _, _, _, h, _ => by omega
  | n + 1, x, i, M, h0, h1, h2, h3, h4, hP => by
    by_cases h : i < B
    · have e : (B - i).toNat = (B - (i + 1)).toNat + 1 := by omega
      have hm : c * (i + 1) = c * i + c := by rw [Int.mul_add, Int.mul_one]
      have hg := hc i h0 h
      obtain ⟨M1, e1, hP1⟩ := hs n x i M h0 h h2 h3 hP
      obtain ⟨M2, e2, hP2⟩ := lp_am g P B c hc hs he n (x + g i) (i + 1) M1 (by omega) (by omega) (by omega) (by omega) (by omega) hP1
      refine ⟨M2, ?_, hP2⟩
      rw [e1, e2, e, sm]
      have : x + g i + sm g (B - (i + 1)).toNat (i + 1) = x + (g i + sm g (B - (i + 1)).toNat (i + 1)) := by omega
      rw [this]
    · have hi : i = B := by omega
      subst hi
      have e : (i - i).toNat = 0 := by omega
      refine ⟨M, ?_, hP⟩
      rw [he n x M hP h2 h3, e, sm]
      simp
/-- all cells but one are as they were -/
def only (k : Nat) (M M' : Mem) : Prop := ∀ q, q ≠ k → M' q = M q
theorem only_refl (k : Nat) (M : Mem) : only k M M := fun _ _ => rfl
theorem only_trans {k : Nat} {M M' M2 : Mem} (h : only k M M') (h2 : only k M' M2) : only k M M2 := fun q hq => by rw [h2 q hq, h q hq]
theorem only_up (k i : Nat) (x : Int) (M : Mem) : only k M (up M k i x) := fun q hq => up_cell i x hq
theorem up_toNat {M : Mem} {k : Nat} {i j x : Int} (hi : 0 ≤ i) (hj : 0 ≤ j) : up M k i.toNat x k j.toNat = if j = i then x else M k j.toNat := by
  by_cases h : j = i
  · rw [h, if_pos rfl, up_same]
  · rw [if_neg h, up_at (Or.inr (by omega))]
theorem CM_only {k : Nat} {M M' : Mem} {A : AS} (h : CM M A) (ho : only k M M') (hk : k < 5 ∨ 18 < k) : CM M' A := CM_congr h (fun q h1 h2 => ho q (by omega))
theorem muA_self {A : AS} (l : Nat) (x : Int) : 0 < muA A (l + 1) x x := by
  show 0 < ind (x = x) + sm (fun j => muA A l (enA A x j) x) (flA A x).toNat 0
  rw [ind_t rfl]
  have := sm_nonneg (g := fun j => muA A l (enA A x j) x) (flA A x).toNat 0 (fun j _ _ => muA_nonneg A l _ x)
  omega
theorem muA_kid {A : AS} {l : Nat} {x m j : Int} (h0 : 0 ≤ j) (h1 : j < flA A x) (h : 0 < muA A l (enA A x j) m) : 0 < muA A (l + 1) x m := by
  simp only [muA]
  have h2 := sm_ge_one (g := fun j => muA A l (enA A x j) m) j (flA A x).toNat 0 h0 (by omega) (fun j _ _ => muA_nonneg A l _ m)
  have h3 := (ind_rng (x = m)).1
  have h4 : muA A l (enA A x j) m ≤ sm (fun j => muA A l (enA A x j) m) (flA A x).toNat 0 := h2
  omega
theorem muA_ex {A : AS} {l : Nat} {x m : Int} (h : 0 < muA A (l + 1) x m) : x = m ∨ ∃ j, 0 ≤ j ∧ j < flA A x ∧ 0 < muA A l (enA A x j) m := by
  by_cases hx : x = m
  · exact Or.inl hx
  · simp only [muA] at h
    rw [ind_f hx] at h
    obtain ⟨j, h1, h2, h3⟩ := sm_pos (g := fun j => muA A l (enA A x j) m) (flA A x).toNat 0 (fun j _ _ => muA_nonneg A l _ m) (by omega)
    exact Or.inr ⟨j, h1, by omega, h3⟩
theorem muA_lv {A : AS} (hN : gN A) : ∀ (l : Nat) {b x m : Int}, b ≤ aN A → okB A b l x → 0 < muA A l x m → 1 ≤ lvA A m ∧ lvA A m ≤ l ∧ 0 ≤ m ∧ m < b
  | 0, _, _, _, _, _, h => absurd h (by show ¬ (0 : Int) < 0; decide)
  | l + 1, b, x, m, hb, hx, h => by
    obtain ⟨k1, k2, k3, k4⟩ := okB_nod hN hb hx
    have hxb := hx.2.1
    rcases muA_ex h with rfl | ⟨j, h1, h2, h3⟩
    · have h4 := hx.2.2
      have h5 := hx.1
      omega
    · have h4 := muA_lv hN l (b := x) (by omega) (k4 j h1 h2).1 h3
      omega
/-- marked nodes up to a level have marked children -/
def ClA (A : AS) (M : Mem) (l : Int) : Prop := ∀ x, 0 ≤ x → x < aN A → lvA A x ≤ l → M 35 x.toNat ≠ 0 → 1 < lvA A x → ∀ j, 0 ≤ j → j < flA A x → M 35 (enA A x j).toNat ≠ 0
theorem ClA_mu {A : AS} (hN : gN A) {M : Mem} : ∀ (l : Nat) {b x m : Int}, ClA A M l → b ≤ aN A → okB A b l x → M 35 x.toNat ≠ 0 → 0 < muA A l x m → M 35 m.toNat ≠ 0
  | 0, _, _, _, _, _, _, _, h => absurd h (by show ¬ (0 : Int) < 0; decide)
  | l + 1, b, x, m, hC, hb, hx, hm, h => by
    obtain ⟨k1, k2, k3, k4⟩ := okB_nod hN hb hx
    have hxb := hx.2.1
    rcases muA_ex h with rfl | ⟨j, h1, h2, h3⟩
    · exact hm
    · cases l with
      | zero => exact absurd h3 (by show ¬ (0 : Int) < 0; decide)
      | succ l =>
        refine ClA_mu hN (l + 1) (b := x) (fun y y0 y1 y2 => hC y y0 y1 (by omega)) (by omega) (k4 j h1 h2).1 (hC x hx.1 (by omega) (by have := hx.2.2; omega) hm (by have := hx.2.2; omega) j h1 h2) h3
section CRea
variable {A : AS} {fu : Nat}
theorem clear_C (M : Mem) (hfu : 1000 ≤ fu) : ∃ M', f_X5_clear fu M = some (M', 0) ∧ only 35 M M' ∧ ∀ m : Int, 0 ≤ m → m < 138 → M' 35 m.toNat = 0 := by
  unfold f_X5_clear
  have := lp_mem (F := fun n i M => f_X5_clear_L2 fu n i M) (fun i M' => only 35 M M' ∧ ∀ m : Int, 0 ≤ m → m < i → M' 35 m.toNat = 0) 138 (Q := fun o => ∃ M', o = (M', 0) ∧ only 35 M M' ∧ ∀ m : Int, 0 ≤ m → m < 138 → M' 35 m.toNat = 0)
    (fun n i M1 i0 i1 hP => by
      refine ⟨up M1 35 i.toNat 0, ?_, only_trans hP.1 (only_up _ _ _ _), fun m m0 m1 => ?_⟩
      · show f_X5_clear_L2 fu (n + 1) i M1 = _
        rw [f_X5_clear_L2, if_neg (by omega), grd_pos ⟨i0, i1⟩, grd_pos (by decide), grd_pos (by omega)]
      · rw [up_toNat i0 m0]
        split
        · rfl
        · exact hP.2 m m0 (by omega))
    (fun n M1 hP => by
      refine ⟨(M1, 0), ?_, M1, rfl, hP⟩
      show f_X5_clear_L2 fu (n + 1) 138 M1 = _
      rw [f_X5_clear_L2, if_pos (Int.le_refl _)]) fu 0 M (by omega) (by omega) (by omega) ⟨only_refl _ _, fun m m0 m1 => by omega⟩
  obtain ⟨o, e, M', rfl, h⟩ := this
  exact ⟨M', e, h⟩
theorem visit_C (hfu : 1000 ≤ fu) : ∀ (l d : Nat) {b x : Int} {M : Mem}, CM M A → b ≤ aN A → okB A b (l + 1) x → ClA A M ((l : Int) + 1) → l < d → ∃ M', f_X5_visit fu d M x ((l : Int) + 1) = some (M', 0) ∧ only 35 M M' ∧ ClA A M' ((l : Int) + 1) ∧ ∀ m, 0 ≤ m → m < aN A → (M' 35 m.toNat ≠ 0 ↔ M 35 m.toNat ≠ 0 ∨ 0 < muA A (l + 1) x m)
  | _, 0, _, _, _, _, _, _, _, h => by omega
  | l, d + 1, b, x, M, h, hb, hx, hC, hd => by
    have hN := h.2.2.2.1
    have hn := CM_nr h
    obtain ⟨k1, k2, k3, k4⟩ := okB_nod hN hb hx
    have hx0 := hx.1
    have hxb := hx.2.1
    have hxl := hx.2.2
    rw [f_X5_visit, if_neg (by omega), flagAt_in hx0 (by omega), cal_some]
    by_cases hm : M 35 x.toNat = 0
    · rw [if_pos hm, if_pos rfl, putFlag_in hx0 (by omega) (by decide), cal_some]
      -- marks after the first children
      have hmark : ∀ m, 0 ≤ m → (up M 35 x.toNat 1 35 m.toNat ≠ 0 ↔ M 35 m.toNat ≠ 0 ∨ x = m) := fun m m0 => by
        rw [up_toNat hx0 m0]
        by_cases hmx : m = x
        · rw [if_pos hmx]
          exact ⟨fun _ => Or.inr hmx.symm, fun _ => by decide⟩
        · rw [if_neg hmx]
          exact ⟨fun q => Or.inl q, fun q => by
            rcases q with q | q
            · exact q
            · exact absurd q.symm hmx⟩
      have hCl : ClA A (up M 35 x.toNat 1) l := fun y y0 y1 y2 y3 y4 j j0 j1 => by
        have hyn : nodF A y (l - 1) ∨ True := Or.inr trivial
        have hyx : y ≠ x := fun e => by subst e; omega
        have hy : M 35 y.toNat ≠ 0 := by
          rcases (hmark y y0).mp y3 with q | q
          · exact q
          · exact absurd q.symm hyx
        have h9 := hC y y0 y1 (by omega) hy y4 j j0 j1
        obtain ⟨-, l9, l91, l92, l93⟩ := hN y y0 y1
        have hok := (l93.2.2 j j0 j1).1
        have he0 : 0 ≤ enA A y j := by
          cases l9 with
          | zero => omega
          | succ l9 => exact hok.1
        exact (hmark _ he0).mpr (Or.inl h9)
      cases l with
      | zero =>
        have hf : ∃ f, fu = f + 1 := ⟨fu - 1, by omega⟩
        obtain ⟨f, rfl⟩ := hf
        refine ⟨up M 35 x.toNat 1, ?_, only_up _ _ _ _, fun y y0 y1 y2 y3 y4 => absurd y4 (by have : lvA A y ≤ 1 := y2; omega), fun m m0 m1 => ?_⟩
        · rw [f_X5_visit_L28, if_pos (by decide)]
        · rw [hmark m m0]
          constructor
          · rintro (q | q)
            · exact Or.inl q
            · subst q; exact Or.inr (muA_self 0 x)
          · rintro (q | q)
            · exact Or.inl q
            · rcases muA_ex q with q | ⟨j, -, -, q⟩
              · exact Or.inr q
              · exact absurd q (by show ¬ (0 : Int) < 0; decide)
      | succ l =>
        have hloop := lp_mem (F := fun n i M' => f_X5_visit_L28 fu (f_X5_visit fu d) n x (((l + 1 : Nat) : Int) + 1) i M')
          (fun i M' => only 35 M M' ∧ ClA A M' ((l : Int) + 1) ∧ ∀ m, 0 ≤ m → m < aN A → (M' 35 m.toNat ≠ 0 ↔ (M 35 m.toNat ≠ 0 ∨ x = m) ∨ ∃ j, 0 ≤ j ∧ j < i ∧ 0 < muA A (l + 1) (enA A x j) m)) (flA A x)
          (Q := fun o => ∃ M', o = (M', 0) ∧ only 35 M M' ∧ ClA A M' ((l : Int) + 1) ∧ ∀ m, 0 ≤ m → m < aN A → (M' 35 m.toNat ≠ 0 ↔ (M 35 m.toNat ≠ 0 ∨ x = m) ∨ ∃ j, 0 ≤ j ∧ j < flA A x ∧ 0 < muA A (l + 1) (enA A x j) m))
          (fun n i M1 i0 i1 hP => by
            have h1 : CM M1 A := CM_only h hP.1 (by decide)
            obtain ⟨M2, e2, o2, c2, m2⟩ := visit_C hfu l d (b := x) (x := enA A x i) h1 (by omega) (k4 i i0 i1).1 hP.2.1 (by omega)
            refine ⟨M2, ?_, only_trans hP.1 o2, c2, fun m m0 m1 => ?_⟩
            · show f_X5_visit_L28 fu (f_X5_visit fu d) (n + 1) x (((l + 1 : Nat) : Int) + 1) i M1 = _
              rw [f_X5_visit_L28, if_neg (by omega), fillAt_C h1 hx0 (by omega), cal_some, if_neg (by omega), entryAt_in h1 hx0 (by omega) i0 i1, cal_some, grd_pos (by omega)]
              have e : ((l + 1 : Nat) : Int) + 1 - 1 = (l : Int) + 1 := by omega
              rw [e, e2, cal_some, grd_pos (by omega)]
            · rw [m2 m m0 m1, hP.2.2 m m0 m1]
              constructor
              · rintro ((q | ⟨j, j0, j1, j2⟩) | q)
                · exact Or.inl q
                · exact Or.inr ⟨j, j0, by omega, j2⟩
                · exact Or.inr ⟨i, i0, by omega, q⟩
              · rintro (q | ⟨j, j0, j1, j2⟩)
                · exact Or.inl (Or.inl q)
                · by_cases hji : j = i
                  · subst hji; exact Or.inr j2
                  · exact Or.inl (Or.inr ⟨j, j0, by omega, j2⟩))
          (fun n M1 hP => by
            have h1 : CM M1 A := CM_only h hP.1 (by decide)
            refine ⟨(M1, 0), ?_, M1, rfl, hP⟩
            show f_X5_visit_L28 fu (f_X5_visit fu d) (n + 1) x (((l + 1 : Nat) : Int) + 1) (flA A x) M1 = _
            rw [f_X5_visit_L28, if_neg (by omega), fillAt_C h1 hx0 (by omega), cal_some, if_pos (Int.le_refl _)]) fu 0 (up M 35 x.toNat 1) (by omega) (by omega) (by omega)
          ⟨only_up _ _ _ _, hCl, fun m m0 m1 => by
            rw [hmark m m0]
            exact ⟨Or.inl, fun q => by
              rcases q with q | ⟨j, j0, j1, -⟩
              · exact q
              · omega⟩⟩
        obtain ⟨o, e, M', rfl, o1, c1, m1⟩ := hloop
        have hfin : ∀ m, 0 ≤ m → m < aN A → (M' 35 m.toNat ≠ 0 ↔ M 35 m.toNat ≠ 0 ∨ 0 < muA A (l + 1 + 1) x m) := fun m m0 mn => by
          rw [m1 m m0 mn]
          constructor
          · rintro ((q | q) | ⟨j, j0, j1, j2⟩)
            · exact Or.inl q
            · subst q; exact Or.inr (muA_self _ x)
            · exact Or.inr (muA_kid j0 j1 j2)
          · rintro (q | q)
            · exact Or.inl (Or.inl q)
            · rcases muA_ex q with q | q
              · exact Or.inl (Or.inr q)
              · exact Or.inr q
        refine ⟨M', e, o1, fun y y0 y1 y2 y3 y4 j j0 j1 => ?_, hfin⟩
        obtain ⟨-, l9, l91, l92, l93⟩ := hN y y0 y1
        have hok := (l93.2.2 j j0 j1).1
        have he : 0 ≤ enA A y j ∧ enA A y j < aN A := by
          cases l9 with
          | zero => omega
          | succ l9 => exact ⟨hok.1, by have := hok.2.1; omega⟩
        by_cases hy : lvA A y ≤ (l : Int) + 1
        · exact c1 y y0 y1 hy y3 y4 j j0 j1
        · rcases (m1 y y0 y1).mp y3 with (q | q) | ⟨i, i0, i1, i2⟩
          · have h9 := hC y y0 y1 (by omega) q y4 j j0 j1
            exact (hfin _ he.1 he.2).mpr (Or.inl h9)
          · subst q
            refine (m1 _ he.1 he.2).mpr (Or.inr ⟨j, j0, j1, muA_self l _⟩)
          · have := muA_lv hN (l + 1) (b := x) (by omega) (k4 i i0 i1).1 i2
            omega
    · rw [if_neg hm, if_neg (by decide)]
      refine ⟨M, rfl, only_refl _ _, hC, fun m m0 m1 => ⟨Or.inl, fun q => ?_⟩⟩
      rcases q with q | q
      · exact q
      · exact ClA_mu hN (l + 1) (by exact hC) hb hx hm q
/-- what a version reaches -/
def mvA (A : AS) (v m : Int) : Int := muA A (hgt (szA A v)) (rtA A v) m
theorem visitV_C (hfu : 1000 ≤ fu) {M : Mem} (h : CM M A) {v : Int} (h0 : 0 ≤ v) (h1 : v < aV A) (hC : ClA A M 3) : ∃ M', f_X5_visit fu 8 M (rtA A v) ((hgt (szA A v) : Nat) : Int) = some (M', 0) ∧ only 35 M M' ∧ ClA A M' 3 ∧ ∀ m, 0 ≤ m → m < aN A → (M' 35 m.toNat ≠ 0 ↔ M 35 m.toNat ≠ 0 ∨ 0 < mvA A v m) := by
  have hN := h.2.2.2.1
  unfold mvA
  by_cases hs : 0 < szA A v
  · obtain ⟨l, l1, l2, l3, -⟩ := G_tree h.2 h0 h1 hs
    obtain ⟨M', e, o, c, k⟩ := visit_C (A := A) hfu l 8 h (Int.le_refl _) l3 (fun y y0 y1 y2 => hC y y0 y1 (by omega)) (by omega)
    rw [l1]
    refine ⟨M', e, o, fun y y0 y1 y2 y3 y4 j j0 j1 => ?_, k⟩
    by_cases hy : lvA A y ≤ (l : Int) + 1
    · exact c y y0 y1 hy y3 y4 j j0 j1
    · obtain ⟨-, l9, l91, l92, l93⟩ := hN y y0 y1
      have hok := (l93.2.2 j j0 j1).1
      have he : 0 ≤ enA A y j ∧ enA A y j < aN A := by
        cases l9 with
        | zero => omega
        | succ l9 => exact ⟨hok.1, by have := hok.2.1; omega⟩
      rcases (k y y0 y1).mp y3 with q | q
      · exact (k _ he.1 he.2).mpr (Or.inl (hC y y0 y1 y2 q y4 j j0 j1))
      · have := muA_lv hN (l + 1) (Int.le_refl _) l3 q
        omega
  · rw [hgt_0 (by omega)]
    refine ⟨M, ?_, only_refl _ _, hC, fun m _ _ => ⟨Or.inl, fun q => ?_⟩⟩
    · rw [f_X5_visit, if_pos (by decide)]
    · rcases q with q | q
      · exact q
      · exact absurd q (by show ¬ (0 : Int) < 0; decide)
theorem searchWithout_C (hfu : 1000 ≤ fu) {M : Mem} (h : CM M A) (w : Int) : ∃ M', f_X5_searchWithout fu M w = some (M', 0) ∧ only 35 M M' ∧ ∀ m, 0 ≤ m → m < aN A → (M' 35 m.toNat ≠ 0 ↔ 0 < rsA A w m) := by
  have hv := CM_vr h
  have hn := CM_nr h
  unfold f_X5_searchWithout
  obtain ⟨M1, e1, o1, z1⟩ := clear_C M hfu
  rw [e1, cal_some]
  have h1 := CM_only h o1 (by decide)
  have := lp_mem (F := fun n i M' => f_X5_searchWithout_L6 fu n w i M')
    (fun i M' => only 35 M M' ∧ ClA A M' 3 ∧ ∀ m, 0 ≤ m → m < aN A → (M' 35 m.toNat ≠ 0 ↔ ∃ v, 0 ≤ v ∧ v < i ∧ rlA A v = 0 ∧ v ≠ w ∧ 0 < mvA A v m)) (aV A)
    (Q := fun o => ∃ M', o = (M', 0) ∧ only 35 M M' ∧ ∀ m, 0 ≤ m → m < aN A → (M' 35 m.toNat ≠ 0 ↔ 0 < rsA A w m))
    (fun n i M2 i0 i1 hP => by
      have h2 : CM M2 A := CM_only h hP.1 (by decide)
      have hskip : (¬ (rlA A i = 0 ∧ i ≠ w)) → ∀ m, 0 ≤ m → m < aN A → (M2 35 m.toNat ≠ 0 ↔ ∃ v, 0 ≤ v ∧ v < i + 1 ∧ rlA A v = 0 ∧ v ≠ w ∧ 0 < mvA A v m) := fun hn9 m m0 m1 => by
        rw [hP.2.2 m m0 m1]
        constructor
        · rintro ⟨v, q1, q2, q3⟩
          exact ⟨v, q1, by omega, q3⟩
        · rintro ⟨v, q1, q2, q3, q4, q5⟩
          refine ⟨v, q1, ?_, q3, q4, q5⟩
          by_cases hvi : v = i
          · subst hvi; exact absurd ⟨q3, q4⟩ hn9
          · omega
      by_cases hw : i = w
      · refine ⟨M2, ?_, hP.1, hP.2.1, hskip (fun q => q.2 hw)⟩
        show f_X5_searchWithout_L6 fu (n + 1) w i M2 = _
        rw [f_X5_searchWithout_L6, CM_v h2, if_neg (by omega), if_pos hw, grd_pos (by omega)]
      · by_cases hr : rlA A i = 0
        · obtain ⟨M3, e3, o3, c3, m3⟩ := visitV_C hfu h2 i0 i1 hP.2.1
          refine ⟨M3, ?_, only_trans hP.1 o3, c3, fun m m0 m1 => ?_⟩
          · show f_X5_searchWithout_L6 fu (n + 1) w i M2 = _
            rw [f_X5_searchWithout_L6, CM_v h2, if_neg (by omega), if_neg hw, isLive_C1 h2 i0 i1, cal_some, ind_t hr, if_neg (by decide), rootAt_C h2 i0 i1, cal_some, heightAt_C h2 i0 i1, cal_some, e3, cal_some, grd_pos (by omega)]
          · rw [m3 m m0 m1, hP.2.2 m m0 m1]
            constructor
            · rintro (⟨v, q1, q2, q3⟩ | q)
              · exact ⟨v, q1, by omega, q3⟩
              · exact ⟨i, i0, by omega, hr, hw, q⟩
            · rintro ⟨v, q1, q2, q3, q4, q5⟩
              by_cases hvi : v = i
              · subst hvi; exact Or.inr q5
              · exact Or.inl ⟨v, q1, by omega, q3, q4, q5⟩
        · refine ⟨M2, ?_, hP.1, hP.2.1, hskip (fun q => hr q.1)⟩
          show f_X5_searchWithout_L6 fu (n + 1) w i M2 = _
          rw [f_X5_searchWithout_L6, CM_v h2, if_neg (by omega), if_neg hw, isLive_C1 h2 i0 i1, cal_some, ind_f hr, if_pos rfl, grd_pos (by omega)])
    (fun n M2 hP => by
      have h2 : CM M2 A := CM_only h hP.1 (by decide)
      refine ⟨(M2, 0), ?_, M2, rfl, hP.1, fun m m0 m1 => ?_⟩
      · show f_X5_searchWithout_L6 fu (n + 1) w (aV A) M2 = _
        rw [f_X5_searchWithout_L6, CM_v h2, if_pos (Int.le_refl _)]
      · rw [hP.2.2 m m0 m1]
        constructor
        · rintro ⟨v, q1, q2, q3, q4, q5⟩
          exact rsA_of q1 q2 q3 q4 q5
        · intro q
          exact rsA_ex q) fu 0 M1 (by omega) (by omega) (by omega)
    ⟨o1, fun y y0 y1 _ y3 => absurd (z1 y y0 (by omega)) y3, fun m m0 m1 => by
      rw [z1 m m0 (by omega)]
      exact ⟨fun q => absurd rfl q, fun ⟨v, q1, q2, _⟩ => by omega⟩⟩
  obtain ⟨o, e, M', rfl, h9⟩ := this
  exact ⟨M', e, h9⟩
theorem hasR_C {M : Mem} {m : Int} (h0 : 0 ≤ m) (h1 : m < 138) : f_X5_has fu M m = some (M, if M 35 m.toNat = 0 then 0 else 1) := by
  unfold f_X5_has
  rw [flagAt_in h0 (by omega), cal_some, grd_pos (by split <;> decide)]
theorem countReached_C (hfu : 1000 ≤ fu) {M : Mem} (h : CM M A) (p : Int → Prop) [DecidablePred p] (hp : ∀ m, 0 ≤ m → m < aN A → (M 35 m.toNat ≠ 0 ↔ p m)) : f_X5_countReached fu M = some (M, sm (fun m => ind (p m)) (aN A).toNat 0) := by
  have hn := CM_nr h
  unfold f_X5_countReached
  have := lp_sum (F := fun n x i => f_X5_countReached_L4 fu n x i M) (M := M) (fun m => ind (p m)) (aN A) 1 (fun k _ _ => by have := ind_rng (p k); omega)
    (fun n x i h0 h1 h2 h3 => by
      show f_X5_countReached_L4 fu (n + 1) x i M = f_X5_countReached_L4 fu n (x + ind (p i)) (i + 1) M
      rw [f_X5_countReached_L4, CM_n h, if_neg (by omega), hasR_C h0 (by omega), cal_some]
      by_cases hc : M 35 i.toNat = 0
      · rw [if_pos hc, if_pos rfl, grd_pos (by omega), ind_f (fun q => ((hp i h0 h1).mpr q) hc), Int.add_zero]
      · rw [if_neg hc, if_neg (by decide), grd_pos (by omega), grd_pos (by omega), ind_t ((hp i h0 h1).mp hc)])
    (fun n x i h0 h1 h2 h3 => by
      show f_X5_countReached_L4 fu (n + 1) x i M = some (M, x)
      rw [f_X5_countReached_L4, CM_n h, if_pos (by omega)]) fu 0 0 (by omega) (by omega) (by omega) (by omega) (by omega)
  simpa using this
def nRch (A : AS) (w : Int) : Int := sm (fun m => ind (0 < rsA A w m)) (aN A).toNat 0
theorem nRch_rng (h : Good A) (w : Int) : 0 ≤ nRch A w ∧ nRch A w ≤ 138 := by
  have hn := Good_N h
  have h0 := h.2.1.1
  have h1 := sm_nonneg (g := fun m => ind (0 < rsA A w m)) (aN A).toNat 0 (fun k _ _ => (ind_rng _).1)
  have h2 := sm_le (g := fun m => ind (0 < rsA A w m)) (c := 1) (aN A).toNat 0 (fun k _ _ => (ind_rng _).2)
  unfold nRch
  omega
theorem nSto_rng (h : Good A) : 0 ≤ nSto A ∧ nSto A ≤ 138 := by
  have hn := Good_N h
  have h0 := h.2.1.1
  have h1 := sm_nonneg (g := fun m => ind (coA A m = 0)) (aN A).toNat 0 (fun k _ _ => (ind_rng _).1)
  have h2 := sm_le (g := fun m => ind (coA A m = 0)) (c := 1) (aN A).toNat 0 (fun k _ _ => (ind_rng _).2)
  unfold nSto
  omega
theorem countReachedWithout_C (hfu : 1000 ≤ fu) {M : Mem} (h : CM M A) (w : Int) : ∃ M', f_X5_countReachedWithout fu M w = some (M', nRch A w) ∧ only 35 M M' := by
  obtain ⟨M', e, o, k⟩ := searchWithout_C hfu h w
  have h' := CM_only h o (by decide)
  refine ⟨M', ?_, o⟩
  unfold f_X5_countReachedWithout
  rw [e, cal_some, countReached_C hfu h' (fun m => 0 < rsA A w m) k, cal_some]
  rfl
def nGar (A : AS) : Int := nSto A - nRch A (-1)
theorem countGarbage_C (hfu : 1000 ≤ fu) {M : Mem} (h : CM M A) : ∃ M', f_X5_countGarbage fu M = some (M', nGar A) ∧ only 35 M M' := by
  obtain ⟨M', e, o, k⟩ := searchWithout_C hfu h (-1)
  have h' := CM_only h o (by decide)
  have h1 := nRch_rng h.2 (-1)
  have h2 := nSto_rng h.2
  refine ⟨M', ?_, o⟩
  unfold f_X5_countGarbage
  rw [e, cal_some, countStored_C h' hfu, cal_some, countReached_C hfu h' (fun m => 0 < rsA A (-1) m) k, cal_some, grd_pos (by unfold nRch at h1; omega)]
  rfl
theorem countExclusive_C (hfu : 1000 ≤ fu) {M : Mem} (h : CM M A) (v : Int) : ∃ M', f_X5_countExclusive fu M v = some (M', nRch A (-1) - nRch A v) ∧ only 35 M M' := by
  obtain ⟨M1, e1, o1⟩ := countReachedWithout_C hfu h (-1)
  obtain ⟨M2, e2, o2⟩ := countReachedWithout_C hfu (CM_only h o1 (by decide)) v
  have h1 := nRch_rng h.2 (-1)
  have h2 := nRch_rng h.2 v
  refine ⟨M2, ?_, only_trans o1 o2⟩
  unfold f_X5_countExclusive
  rw [e1, cal_some, e2, cal_some, grd_pos (by omega)]
def shA (A : AS) (v w : Int) : Int := tvA A v + tvA A w - sm (fun m => ind (0 < mvA A v m ∨ 0 < mvA A w m)) (aN A).toNat 0
theorem isStored_raw {M : Mem} {N k : Int} (hN : M 5 0 = N) (hN2 : N ≤ 138) (h0 : 0 ≤ k) (h1 : k < N) : f_X3_isStored fu M k = some (M, ind (M 9 k.toNat = 0)) := by
  unfold f_X3_isStored
  rw [if_neg (by omega), hN, if_neg (by omega), flagAt_in h0 (by omega), cal_some]
  by_cases h2 : M 9 k.toNat = 0
  · rw [if_pos h2, if_pos rfl, ind_t h2]
  · rw [if_neg h2, if_neg (by decide), ind_f h2]
def nRem (A : AS) : Int := sm (fun k => ind (coA A k = 0 ∧ rsA A (-1) k = 0)) (aN A).toNat 0
theorem removeGarbage_C (hfu : 1000 ≤ fu) {M : Mem} (h : CM M A) : ∃ M', f_X5_removeGarbage fu M = some (M', nRem A) ∧ (∀ q, q ≠ 35 → q ≠ 9 → M' q = M q) ∧ CM M' (mkC A) := by
  have hn := CM_nr h
  obtain ⟨M1, e1, o1, k1⟩ := searchWithout_C hfu h (-1)
  have h1 := CM_only h o1 (by decide)
  unfold f_X5_removeGarbage nRem
  rw [e1, cal_some]
  have := lp_am (F := fun n x i M' => f_X5_removeGarbage_L9 fu n x i M') (fun k => ind (coA A k = 0 ∧ rsA A (-1) k = 0))
    (fun i M' => (∀ q, q ≠ 9 → M' q = M1 q) ∧ ∀ k, 0 ≤ k → k < aN A → M' 9 k.toNat = if k < i ∧ rsA A (-1) k = 0 then 1 else coA A k) (aN A) 1 (fun k _ _ => by have := ind_rng (coA A k = 0 ∧ rsA A (-1) k = 0); omega)
    (fun n x i M2 i0 i1 x0 x1 hP => by
      have e5 : M2 5 0 = aN A := by rw [hP.1 5 (by decide)]; exact CM_n h1
      have e9 : M2 9 i.toNat = coA A i := by rw [hP.2 i i0 i1, if_neg (by omega)]
      have e35 : M2 35 = M1 35 := hP.1 35 (by decide)
      have hk := k1 i i0 i1
      have hnn := rsA_nonneg A (-1) i
      by_cases hc : coA A i = 0
      · by_cases hr : rsA A (-1) i = 0
        · refine ⟨up M2 9 i.toNat 1, ?_, fun q hq => by rw [up_cell _ _ hq]; exact hP.1 q hq, fun k q0 q1 => ?_⟩
          · show f_X5_removeGarbage_L9 fu (n + 1) x i M2 = _
            rw [f_X5_removeGarbage_L9, e5, if_neg (by omega), isStored_raw e5 hn.2 i0 i1, cal_some, e9, ind_t hc, if_neg (by decide), hasR_C i0 (by omega), cal_some, e35, if_pos (show M1 35 i.toNat = 0 by
              by_cases hz : M1 35 i.toNat = 0
              · exact hz
              · have := hk.mp hz; omega), if_pos rfl, putFlag_in i0 (by omega) (by decide), cal_some, grd_pos (by omega), grd_pos (by omega), ind_t ⟨hc, hr⟩]
          · rw [up_toNat i0 q0]
            by_cases hki : k = i
            · rw [if_pos hki, if_pos ⟨by omega, by rw [hki]; exact hr⟩]
            · rw [if_neg hki, hP.2 k q0 q1]
              by_cases hq : k < i ∧ rsA A (-1) k = 0
              · rw [if_pos hq, if_pos ⟨by omega, hq.2⟩]
              · rw [if_neg hq, if_neg (fun z => hq ⟨by omega, z.2⟩)]
        · refine ⟨M2, ?_, hP.1, fun k q0 q1 => ?_⟩
          · show f_X5_removeGarbage_L9 fu (n + 1) x i M2 = _
            rw [f_X5_removeGarbage_L9, e5, if_neg (by omega), isStored_raw e5 hn.2 i0 i1, cal_some, e9, ind_t hc, if_neg (by decide), hasR_C i0 (by omega), cal_some, e35, if_neg (hk.mpr (by omega)), if_neg (by decide), grd_pos (by omega), ind_f (fun z => hr z.2), Int.add_zero]
          · rw [hP.2 k q0 q1]
            by_cases hq : k < i ∧ rsA A (-1) k = 0
            · rw [if_pos hq, if_pos ⟨by omega, hq.2⟩]
            · rw [if_neg hq, if_neg (fun z => by
                by_cases hki : k = i
                · exact hr (hki ▸ z.2)
                · exact hq ⟨by omega, z.2⟩)]
      · refine ⟨M2, ?_, hP.1, fun k q0 q1 => ?_⟩
        · show f_X5_removeGarbage_L9 fu (n + 1) x i M2 = _
          rw [f_X5_removeGarbage_L9, e5, if_neg (by omega), isStored_raw e5 hn.2 i0 i1, cal_some, e9, ind_f hc, if_pos rfl, grd_pos (by omega), ind_f (fun z => hc z.1), Int.add_zero]
        · rw [hP.2 k q0 q1]
          by_cases hki : k = i
          · subst hki
            rw [if_neg (by omega)]
            have hco := G_co h.2 i0 i1
            split
            · omega
            · rfl
          · by_cases hq : k < i ∧ rsA A (-1) k = 0
            · rw [if_pos hq, if_pos ⟨by omega, hq.2⟩]
            · rw [if_neg hq, if_neg (fun z => hq ⟨by omega, z.2⟩)])
    (fun n x M2 hP x0 x1 => by
      show f_X5_removeGarbage_L9 fu (n + 1) x (aN A) M2 = _
      have e5 : M2 5 0 = aN A := by rw [hP.1 5 (by decide)]; exact CM_n h1
      rw [f_X5_removeGarbage_L9, e5, if_pos (Int.le_refl _)]) fu 0 0 M1 (by omega) (by omega) (by omega) (by omega) (by omega) ⟨fun _ _ => rfl, fun k q0 q1 => by rw [if_neg (by omega)]; exact CM_co h1 q0 q1⟩
  obtain ⟨M', e, hP⟩ := this
  refine ⟨M', by simpa using e, fun q q1 q2 => by rw [hP.1 q q2, o1 q q1], ⟨?_, Good_mkC h.2⟩⟩
  obtain ⟨r1, r2, r3, r4, r5⟩ := h1.1
  refine ⟨by rw [hP.1 5 (by decide)]; exact r1, by rw [hP.1 10 (by decide)]; exact r2, ?_, fun k q0 q1 => ?_, fun v q0 q1 => by rw [hP.1 18 (by decide)]; exact r5 v q0 q1⟩
  · obtain ⟨p1, p2, p3, p4⟩ := r3
    have e8 : ∀ j, j ≠ 4 → M' (5 + j) = M1 (5 + j) := fun j hj => hP.1 _ (by omega)
    have hfl : ∀ k j, j ≠ 2 → nf (mkC A) k j = nf A k j := fun k j hj => if_neg (fun z => hj z.1)
    refine ⟨fun k q0 q1 => ?_, fun v q0 q1 => ?_, ?_, fun v q0 q1 i i0 i1 => ?_⟩
    · have e9 : flA (mkC A) k = flA A k := hfl k 1 (by decide)
      have e10 : lvA (mkC A) k = lvA A k := hfl k 0 (by decide)
      show M' (5 + 1) k.toNat = _ ∧ M' (5 + 2) k.toNat = _ ∧ ∀ j : Int, _ → _ → M' (5 + 3) (k * 4 + j).toNat = _
      rw [e8 1 (by decide), e8 2 (by decide), e8 3 (by decide), e9, e10]
      obtain ⟨w1, w2, w3⟩ := p1 k q0 q1
      refine ⟨w1, w2, fun j j0 j1 => ?_⟩
      rw [show enA (mkC A) k j = enA A k j from hfl k (3 + j) (by omega)]
      exact w3 j j0 j1
    · show M' (5 + 6) v.toNat = _ ∧ M' (5 + 7) v.toNat = _ ∧ M' (5 + 8) v.toNat = _ ∧ M' (5 + 9) v.toNat = _
      rw [e8 6 (by decide), e8 7 (by decide), e8 8 (by decide), e8 9 (by decide)]
      exact p2 v q0 q1
    · show M' (5 + 10) 0 = -1 ∧ ∀ i : Int, _ → _ → M' (5 + 12) i.toNat = _
      rw [e8 10 (by decide), e8 12 (by decide)]
      exact p3
    · show (M' (5 + 10) v.toNat = i ∧ M' (5 + 11) v.toNat = _) ∨ (M' (5 + 10) v.toNat ≠ i ∧ _)
      rw [e8 10 (by decide), e8 11 (by decide)]
      exact p4 v q0 q1 i i0 i1
  · rw [hP.2 k q0 q1, mkC_co]
    have q1' : k < aN A := q1
    by_cases hr : rsA A (-1) k = 0
    · rw [if_pos ⟨q1', hr⟩, if_pos hr]
    · rw [if_neg (fun z => hr z.2), if_neg hr]
end CRea
