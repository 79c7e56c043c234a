/-! the class's check answers true -/
theorem full_fl {A : AS} (hN : gN A) {l : Nat} {b x : Int} (hb : b ≤ aN A) (h : okB A b (l + 1) x) (hf : ctA A (l + 1) x = pw (l + 1)) : flA A x = 4 ∧ ∀ j, 0 ≤ j → j < flA A x → ctA A l (enA A x j) = pw l := by
  obtain ⟨k1, k2, k3, k4⟩ := okB_nod hN hb h
  have hxb := h.2.1
  have hlast := k4 (flA A x - 1) (by omega) (by omega)
  have hcl := ctA_rng hN l (b := x) (by omega) hlast.1
  simp only [ctA] at hf
  have key : flA A x = 4 ∧ ctA A l (enA A x (flA A x - 1)) = pw l := by
    generalize ctA A l (enA A x (flA A x - 1)) = c at hf hcl
    generalize flA A x = f at k2 k3 hf
    rcases l_cases k1 with rfl | rfl | rfl <;> simp only [pw] at * <;> omega
  refine ⟨key.1, fun j h0 h1 => ?_⟩
  by_cases hj : j = flA A x - 1
  · rw [hj]; exact key.2
  · exact (k4 j h0 h1).2 (by omega)
theorem ct_sum {A : AS} (hN : gN A) {l : Nat} {b x : Int} (hb : b ≤ aN A) (h : okB A b (l + 1) x) : sm (fun j => ctA A l (enA A x j)) (flA A x).toNat 0 = ctA A (l + 1) x := by
  obtain ⟨k1, k2, k3, k4⟩ := okB_nod hN hb h
  have e : (flA A x).toNat = (flA A x - 1).toNat + 1 := by omega
  have e2 : (0 : Int) + (((flA A x - 1).toNat : Nat) : Int) = flA A x - 1 := by omega
  rw [e, sm_snoc, e2, sm_congr (h := fun _ => pw l) _ _ (fun j h0 h1 => (k4 j h0 (by omega)).2 (by omega)), sm_const]
  show pw l * _ + _ = (flA A x - 1) * pw l + _
  have e3 : (((flA A x - 1).toNat : Nat) : Int) = flA A x - 1 := by omega
  rw [e3, Int.mul_comm]
section CChe
variable {A : AS} {fu : Nat}
theorem nodePasses_C (hfu : 1000 ≤ fu) {M : Mem} (h : CM M A) : ∀ (l d : Nat) {b x z : Int}, b ≤ aN A → okB A b (l + 1) x → (∀ m, 0 < muA A (l + 1) x m → coA A m = 0) → (z = 1 ∨ z = 0 ∧ ctA A (l + 1) x = pw (l + 1)) → l < d → f_X0_nodePasses fu d M x ((l : Int) + 1) z = some (M, 1)
  | _, 0, _, _, _, _, _, _, _, h => by omega
  | l, d + 1, b, x, z, hb, hx, hs, hz, hd => by
    have hN := h.2.2.2.1
    obtain ⟨k1, k2, k3, k4⟩ := okB_nod hN hb hx
    have hx0 := hx.1
    have hxb := hx.2.1
    have hxl := hx.2.2
    rw [f_X0_nodePasses, fillAt_C h hx0 (by omega), cal_some, isStored_C1 h hx0 (by omega), cal_some, ind_t (hs x (muA_self l x)), if_neg (by decide), levelAt_C h hx0 (by omega), cal_some, if_pos hxl, if_neg (by omega)]
    have hJ : f_X0_nodePasses_J62 fu (f_X0_nodePasses fu d) x ((l : Int) + 1) z (flA A x) M = some (M, 1) := by
      unfold f_X0_nodePasses_J62
      cases l with
      | zero =>
        have hf : ∃ f, fu = f + 1 := ⟨fu - 1, by omega⟩
        obtain ⟨f, rfl⟩ := hf
        rw [f_X0_nodePasses_L65, if_pos (by decide)]
      | succ l =>
        have ihc : ∀ i, 0 ≤ i → i < flA A x → ∀ z', (z' = 1 ∨ z' = 0 ∧ ctA A (l + 1) (enA A x i) = pw (l + 1)) → f_X0_nodePasses fu d M (enA A x i) ((l : Int) + 1) z' = some (M, 1) := fun i i0 i1 z' hz' =>
          nodePasses_C hfu h l d (b := x) (by omega) (k4 i i0 i1).1 (fun m hm => hs m (muA_kid i0 i1 hm)) hz' (by omega)
        have := lp_find (F := fun n i => f_X0_nodePasses_L65 fu (f_X0_nodePasses fu d) n x (((l + 1 : Nat) : Int) + 1) z (flA A x) i M) (M := M) (fun _ => false) (fun _ => 0) 1 (flA A x)
          (fun n i i0 i1 hp => by cases hp)
          (fun n i i0 i1 hp => by
            show f_X0_nodePasses_L65 fu (f_X0_nodePasses fu d) (n + 1) x (((l + 1 : Nat) : Int) + 1) z (flA A x) i M = f_X0_nodePasses_L65 fu (f_X0_nodePasses fu d) n x (((l + 1 : Nat) : Int) + 1) z (flA A x) (i + 1) M
            have e : ((l + 1 : Nat) : Int) + 1 - 1 = (l : Int) + 1 := by omega
            have hJ111 : ctA A (l + 1) (enA A x i) = pw (l + 1) → f_X0_nodePasses_J111 fu (f_X0_nodePasses fu d) (f_X0_nodePasses_L65 fu (f_X0_nodePasses fu d) n) x (((l + 1 : Nat) : Int) + 1) z (flA A x) i (enA A x i) ((l : Int) + 1) M = f_X0_nodePasses_L65 fu (f_X0_nodePasses fu d) n x (((l + 1 : Nat) : Int) + 1) z (flA A x) (i + 1) M := fun hc => by
              unfold f_X0_nodePasses_J111
              rw [ihc i i0 i1 0 (Or.inr ⟨rfl, hc⟩), cal_some, if_neg (by decide), grd_pos (by omega)]
            rw [f_X0_nodePasses_L65, if_neg (by omega), if_neg (by omega), entryAt_in h hx0 (by omega) i0 i1, cal_some]
            rcases hz with hz | ⟨hz, hc⟩
            · rw [if_neg (by omega), grd_pos (by omega)]
              by_cases hi : i = flA A x - 1
              · rw [if_pos hi, grd_pos (by omega), e, ihc i i0 i1 1 (Or.inl rfl), cal_some, if_neg (by decide), grd_pos (by omega)]
              · rw [if_neg hi, grd_pos (by omega), e]
                exact hJ111 ((k4 i i0 i1).2 (by omega))
            · rw [if_pos hz, grd_pos (by omega), e]
              exact hJ111 ((full_fl hN hb hx hc).2 i i0 i1))
          (fun n => by
            show f_X0_nodePasses_L65 fu (f_X0_nodePasses fu d) (n + 1) x (((l + 1 : Nat) : Int) + 1) z (flA A x) (flA A x) M = some (M, 1)
            rw [f_X0_nodePasses_L65, if_neg (by omega), if_pos (Int.le_refl _)]) fu 0 (by omega) (by omega) (by omega)
        rw [this]
        clear this
        simp only [Int.sub_zero]
        generalize (flA A x).toNat = k
        generalize (0 : Int) = a
        have hff : ∀ (k : Nat) (a : Int), ff (fun _ => false) (fun _ => (0 : Int)) 1 k a = 1 := by
          intro k
          induction k with
          | zero => intro a; rfl
          | succ k ih => intro a; simp only [ff]; rw [if_neg (by decide)]; exact ih _
        have hff2 : ∀ (k : Nat) (b a : Int), ff (fun _ => false) (fun _ => b) 1 k a = 1 := by
          intro k b
          induction k with
          | zero => intro a; rfl
          | succ k ih => intro a; simp only [ff]; rw [if_neg (by decide)]; exact ih _
        rw [hff2]
    by_cases h4 : (4 : Int) ≤ flA A x
    · rw [if_pos h4]; exact hJ
    · rw [if_neg h4]
      rcases hz with hz | ⟨hz, hc⟩
      · rw [if_neg (by omega)]; exact hJ
      · have := (full_fl hN hb hx hc).1
        omega
theorem countLeafElements_C (hfu : 1000 ≤ fu) {M : Mem} (h : CM M A) : ∀ (l d : Nat) {b x : Int}, b ≤ aN A → okB A b (l + 1) x → l < d → f_X0_countLeafElements fu d M x ((l : Int) + 1) = some (M, ctA A (l + 1) x)
  | _, 0, _, _, _, _, h => by omega
  | l, d + 1, b, x, hb, hx, hd => by
    have hN := h.2.2.2.1
    obtain ⟨k1, k2, k3, k4⟩ := okB_nod hN hb hx
    have hx0 := hx.1
    have hxb := hx.2.1
    rw [f_X0_countLeafElements, fillAt_C h hx0 (by omega), cal_some]
    cases l with
    | zero =>
      rw [if_neg (by decide)]
      show some (M, flA A x) = some (M, (flA A x - 1) * 1 + 1)
      rw [Int.mul_one]
      congr 2
      omega
    | succ l =>
      rw [if_pos (by omega)]
      have hr : ∀ j, 0 ≤ j → j < flA A x → 0 ≤ ctA A (l + 1) (enA A x j) ∧ ctA A (l + 1) (enA A x j) ≤ 64 := fun j h1 h2 => by
        have h3 := ctA_rng hN (l + 1) (b := x) (by omega) (k4 j h1 h2).1
        have : l = 0 ∨ l = 1 := by omega
        rcases this with rfl | rfl <;> simp only [pw] at h3 <;> omega
      have := lp_sum (F := fun n y i => f_X0_countLeafElements_L25 fu (f_X0_countLeafElements fu d) n x (((l + 1 : Nat) : Int) + 1) (flA A x) y i M) (M := M) (fun j => ctA A (l + 1) (enA A x j)) (flA A x) 64 (fun j h1 h2 => by have := hr j h1 h2; omega)
        (fun n y i i0 i1 h2 h3 => by
          have hrr := hr i i0 i1
          show f_X0_countLeafElements_L25 fu (f_X0_countLeafElements fu d) (n + 1) x (((l + 1 : Nat) : Int) + 1) (flA A x) y i M = f_X0_countLeafElements_L25 fu (f_X0_countLeafElements fu d) n x (((l + 1 : Nat) : Int) + 1) (flA A x) (y + ctA A (l + 1) (enA A x i)) (i + 1) M
          have e : ((l + 1 : Nat) : Int) + 1 - 1 = (l : Int) + 1 := by omega
          rw [f_X0_countLeafElements_L25, if_neg (by omega), entryAt_in h hx0 (by omega) i0 i1, cal_some, grd_pos (by omega), e, countLeafElements_C hfu h l d (b := x) (by omega) (k4 i i0 i1).1 (by omega), cal_some, grd_pos (by omega), grd_pos (by omega)])
        (fun n y i i0 i1 h2 h3 => by
          show f_X0_countLeafElements_L25 fu (f_X0_countLeafElements fu d) (n + 1) x (((l + 1 : Nat) : Int) + 1) (flA A x) y i M = some (M, y)
          rw [f_X0_countLeafElements_L25, if_pos (by omega)]) fu 0 0 (by omega) (by omega) (by omega) (by omega) (by omega)
      rw [this]
      simp only [Int.sub_zero, Int.zero_add]
      rw [ct_sum hN hb hx]
theorem treePasses_C (hfu : 1000 ≤ fu) {M : Mem} (h : CM M A) {v : Int} (h0 : 0 ≤ v) (h1 : v < aV A) (hl : rlA A v = 0) : f_X0_treePasses fu M v = some (M, 1) := by
  have g := G_V h.2 h0 h1
  unfold f_X0_treePasses
  rw [rootAt_C h h0 h1, cal_some, heightAt_C h h0 h1, cal_some]
  by_cases hs : 0 < szA A v
  · obtain ⟨l, l1, l2, l3, l4, l5, l6, -⟩ := G_tree h.2 h0 h1 hs
    have hst := g.2.2.2.2.2.2 hl
    rw [l1] at hst
    have e : ((hgt (szA A v) : Nat) : Int) = (l : Int) + 1 := by omega
    rw [e, if_neg (by omega), nodePasses_C hfu h l 8 (Int.le_refl _) l3 hst (Or.inl rfl) (by omega), cal_some, if_neg (by decide), countLeafElements_C hfu h l 8 (Int.le_refl _) l3 (by omega), cal_some, sizeAt_C h h0 h1, cal_some, if_pos l4]
  · have hz : szA A v = 0 := by have := g.1.1; omega
    rw [hz, if_pos (by decide), if_pos (g.2.2.2.2.2.1.1 hz)]
theorem elementsPass_C (hfu : 1000 ≤ fu) {M : Mem} (h : CM M A) {v : Int} (h0 : 0 ≤ v) (h1 : v < aV A) : f_X0_elementsPass fu M v = some (M, 1) := by
  have g := G_V h.2 h0 h1
  unfold f_X0_elementsPass
  have := lp_find (F := fun n i => f_X0_elementsPass_L2 fu n v i M) (M := M) (fun _ => false) (fun _ => 0) 1 (szA A v)
    (fun n i i0 i1 hp => by cases hp)
    (fun n i i0 i1 hp => by
      show f_X0_elementsPass_L2 fu (n + 1) v i M = f_X0_elementsPass_L2 fu n v (i + 1) M
      rw [f_X0_elementsPass_L2, sizeAt_C h h0 h1, cal_some, if_neg (by omega), elementAt_C h h0 h1 i0 i1 hfu, cal_some, recordedElement_C h h0 h1 i0 i1 hfu, cal_some, if_pos rfl, grd_pos (by omega)])
    (fun n => by
      show f_X0_elementsPass_L2 fu (n + 1) v (szA A v) M = some (M, 1)
      rw [f_X0_elementsPass_L2, sizeAt_C h h0 h1, cal_some, if_pos (Int.le_refl _)]) fu 0 (by omega) (by omega) (by omega)
  rw [this]
  have hff2 : ∀ (k : Nat) (b a : Int), ff (fun _ => false) (fun _ => b) 1 k a = 1 := by
    intro k b
    induction k with
    | zero => intro a; rfl
    | succ k ih => intro a; simp only [ff]; rw [if_neg (by decide)]; exact ih _
  rw [hff2]
/-- what is reached is a live root, or a child of what is reached -/
theorem rch_up (h : Good A) {m : Int} (hr : 0 < rsA A (-1) m) : 0 ≤ m ∧ m < aN A ∧ (0 < nLRt A m ∨ ∃ x, m < x ∧ x < aN A ∧ 0 < rsA A (-1) x ∧ hcA A x m) := by
  have hN := h.2.2.1
  obtain ⟨v, v0, v1, v2, v3, v4⟩ := rsA_ex hr
  by_cases hs : 0 < szA A v
  · obtain ⟨l, l1, l2, l3, -⟩ := G_tree h v0 v1 hs
    rw [l1] at v4
    have hm := muA_lv hN (l + 1) (Int.le_refl _) l3 v4
    refine ⟨hm.2.2.1, hm.2.2.2, ?_⟩
    have gen : ∀ (l : Nat) {b x : Int}, b ≤ aN A → okB A b (l + 1) x → 0 < muA A (l + 1) x m → x = m ∨ ∃ y, m < y ∧ y < b ∧ 0 < muA A (l + 1) x y ∧ hcA A y m := by
      intro l
      induction l with
      | zero =>
        intro b x hb hx hq
        rcases muA_ex hq with q | ⟨j, -, -, q⟩
        · exact Or.inl q
        · exact absurd q (by show ¬ (0 : Int) < 0; decide)
      | succ l ih =>
        intro b x hb hx hq
        obtain ⟨k1, k2, k3, k4⟩ := okB_nod hN hb hx
        have hxb := hx.2.1
        have hxl := hx.2.2
        rcases muA_ex hq with q | ⟨j, j0, j1, q⟩
        · exact Or.inl q
        · right
          have hk := (k4 j j0 j1).1
          rcases ih (b := x) (by omega) hk q with r | ⟨y, y0, y1, y2, y3⟩
          · refine ⟨x, by have := hk.2.1; omega, hxb, muA_self _ x, j, j0, j1, by omega, r⟩
          · exact ⟨y, y0, by omega, muA_kid j0 j1 y2, y3⟩
    rcases gen l (Int.le_refl _) l3 v4 with q | ⟨y, y0, y1, y2, y3⟩
    · left
      have := sm_ge_one (g := fun v => ind (rlA A v = 0 ∧ rtA A v = m)) v (aV A).toNat 0 v0 (by omega) (fun k _ _ => (ind_rng _).1)
      rw [ind_t ⟨v2, q⟩] at this
      exact Int.lt_of_lt_of_le (by decide) this
    · right
      exact ⟨y, y0, y1, rsA_of v0 v1 v2 v3 (by rw [l1]; exact y2), y3⟩
  · rw [hgt_0 (by omega)] at v4
    exact absurd v4 (by show ¬ (0 : Int) < 0; decide)
theorem rch_root (h : Good A) {m : Int} (hm : 0 ≤ m) (hr : 0 < nLRt A m) : 0 < rsA A (-1) m := by
  obtain ⟨v, v0, v1, v2⟩ := sm_pos (g := fun v => ind (rlA A v = 0 ∧ rtA A v = m)) (aV A).toNat 0 (fun k _ _ => (ind_rng _).1) hr
  have hc : rlA A v = 0 ∧ rtA A v = m := by
    by_cases hq : rlA A v = 0 ∧ rtA A v = m
    · exact hq
    · rw [ind_f hq] at v2; omega
  have g := G_V h v0 (by omega)
  have hs : 0 < szA A v := by
    by_cases hq : szA A v = 0
    · have := g.2.2.2.2.2.1.1 hq; omega
    · have := g.1.1; omega
  obtain ⟨l, l1, l2, l3, -⟩ := G_tree h v0 (by omega) hs
  refine rsA_of v0 (by omega) hc.1 (by omega) ?_
  rw [l1, hc.2]
  exact muA_self l m
theorem rch_kid (h : Good A) {x m : Int} (hr : 0 < rsA A (-1) x) (hc : hcA A x m) : 0 < rsA A (-1) m := by
  have hN := h.2.2.1
  obtain ⟨v, v0, v1, v2, v3, v4⟩ := rsA_ex hr
  obtain ⟨j, j0, j1, j2, j3⟩ := hc
  have gen : ∀ (l : Nat) {b y : Int}, b ≤ aN A → okB A b l y → 0 < muA A l y x → 0 < muA A l y m := by
    intro l
    induction l with
    | zero => intro b y _ _ hq; exact absurd hq (by show ¬ (0 : Int) < 0; decide)
    | succ l ih =>
      intro b y hb hy hq
      obtain ⟨k1, k2, k3, k4⟩ := okB_nod hN hb hy
      have hyb := hy.2.1
      rcases muA_ex hq with q | ⟨i, i0, i1, q⟩
      · subst q
        refine muA_kid j0 j1 ?_
        rw [j3]
        cases l with
        | zero => have h9 : lvA A y = 1 := hy.2.2; omega
        | succ l => exact muA_self l m
      · exact muA_kid i0 i1 (ih (b := y) (by omega) (k4 i i0 i1).1 q)
  by_cases hs : 0 < szA A v
  · obtain ⟨l, l1, l2, l3, -⟩ := G_tree h v0 v1 hs
    rw [l1] at v4
    refine rsA_of v0 v1 v2 v3 ?_
    rw [l1]
    exact gen (l + 1) (Int.le_refl _) l3 v4
  · rw [hgt_0 (by omega)] at v4
    exact absurd v4 (by show ¬ (0 : Int) < 0; decide)
theorem nLRt_nonneg (m : Int) : 0 ≤ nLRt A m := sm_nonneg _ _ (fun _ _ _ => (ind_rng _).1)
theorem hcA_rng (h : Good A) {x m : Int} (h0 : 0 ≤ x) (h1 : x < aN A) (hc : hcA A x m) : 0 ≤ m ∧ m < x := by
  obtain ⟨j, j0, j1, j2, j3⟩ := hc
  obtain ⟨-, l, k1, k2, k3, k4, k5⟩ := h.2.2.1 x h0 h1
  have := (k5 j j0 j1).1
  cases l with
  | zero => omega
  | succ l => rw [← j3]; exact ⟨this.1, this.2.1⟩
theorem holdChildren_C (hfu : 1000 ≤ fu) {M : Mem} (h : CM M A) {x : Int} (h0 : 0 ≤ x) (h1 : x < aN A) : ∃ M', f_X0_holdChildren fu M x = some (M', 0) ∧ only 37 M M' ∧ ∀ m, 0 ≤ m → m < aN A → (M' 37 m.toNat ≠ 0 ↔ M 37 m.toNat ≠ 0 ∨ hcA A x m) := by
  have hn := CM_nr h
  have hf := G_fl h.2 h0 h1
  unfold f_X0_holdChildren
  have := lp_mem (F := fun n i M' => f_X0_holdChildren_L2 fu n x i M') (fun i M' => only 37 M M' ∧ ∀ m, 0 ≤ m → m < aN A → (M' 37 m.toNat ≠ 0 ↔ M 37 m.toNat ≠ 0 ∨ ∃ j, 0 ≤ j ∧ j < i ∧ 1 < lvA A x ∧ enA A x j = m)) (flA A x)
    (Q := fun o => ∃ M', o = (M', 0) ∧ only 37 M M' ∧ ∀ m, 0 ≤ m → m < aN A → (M' 37 m.toNat ≠ 0 ↔ M 37 m.toNat ≠ 0 ∨ hcA A x m))
    (fun n i M1 i0 i1 hP => by
      have g1 := CM_only h hP.1 (by decide)
      by_cases hl : 1 < lvA A x
      · have hc : chA A x i = enA A x i := if_pos ⟨hl, i0, i1⟩
        have hr := hcA_rng h.2 h0 h1 (m := enA A x i) ⟨i, i0, i1, hl, rfl⟩
        refine ⟨up M1 37 (enA A x i).toNat 1, ?_, only_trans hP.1 (only_up _ _ _ _), fun m m0 m1 => ?_⟩
        · show f_X0_holdChildren_L2 fu (n + 1) x i M1 = _
          rw [f_X0_holdChildren_L2, fillAt_C g1 h0 h1, cal_some, if_neg (by omega), childAt_C g1 h0 h1, cal_some, hc, putFlag_in hr.1 (by omega) (by decide), cal_some, grd_pos (by omega)]
        · rw [up_toNat hr.1 m0]
          by_cases hme : m = enA A x i
          · rw [if_pos hme]
            exact ⟨fun _ => Or.inr ⟨i, i0, by omega, hl, hme.symm⟩, fun _ => by decide⟩
          · rw [if_neg hme, hP.2 m m0 m1]
            constructor
            · rintro (q | ⟨j, j0, j1, j2⟩)
              · exact Or.inl q
              · exact Or.inr ⟨j, j0, by omega, j2⟩
            · rintro (q | ⟨j, j0, j1, j2, j3⟩)
              · exact Or.inl q
              · refine Or.inr ⟨j, j0, ?_, j2, j3⟩
                by_cases hji : j = i
                · subst hji; exact absurd j3.symm hme
                · omega
      · have hc : chA A x i = -1 := if_neg (fun q => hl q.1)
        refine ⟨M1, ?_, hP.1, fun m m0 m1 => ?_⟩
        · show f_X0_holdChildren_L2 fu (n + 1) x i M1 = _
          rw [f_X0_holdChildren_L2, fillAt_C g1 h0 h1, cal_some, if_neg (by omega), childAt_C g1 h0 h1, cal_some, hc, putFlag_out (by omega), cal_some, grd_pos (by omega)]
        · rw [hP.2 m m0 m1]
          constructor
          · rintro (q | ⟨j, j0, j1, j2, -⟩)
            · exact Or.inl q
            · exact absurd j2 hl
          · rintro (q | ⟨j, j0, j1, j2, -⟩)
            · exact Or.inl q
            · exact absurd j2 hl)
    (fun n M1 hP => by
      have g1 := CM_only h hP.1 (by decide)
      refine ⟨(M1, 0), ?_, M1, rfl, hP⟩
      show f_X0_holdChildren_L2 fu (n + 1) x (flA A x) M1 = _
      rw [f_X0_holdChildren_L2, fillAt_C g1 h0 h1, cal_some, if_pos (Int.le_refl _)]) fu 0 M (by omega) (by omega) (by omega) ⟨only_refl _ _, fun m m0 m1 => ⟨Or.inl, fun q => by
        rcases q with q | ⟨j, j0, j1, -⟩
        · exact q
        · omega⟩⟩
  obtain ⟨o, e, M', rfl, h9⟩ := this
  exact ⟨M', e, h9⟩
theorem follow2_C (hfu : 1000 ≤ fu) : ∀ (n : Nat) (k : Int) {M0 M : Mem}, CM M A → only 37 M0 M → -1 ≤ k → k < aN A → k + 1 < n → (∀ m, 0 ≤ m → m < aN A → (M 37 m.toNat ≠ 0 ↔ 0 < nLRt A m ∨ ∃ x, k < x ∧ x < aN A ∧ 0 < rsA A (-1) x ∧ hcA A x m)) →
    ∃ M', f_X0_followReferences_L63 fu n k M = some (M', 0) ∧ only 37 M0 M' ∧ ∀ m, 0 ≤ m → m < aN A → (M' 37 m.toNat ≠ 0 ↔ 0 < rsA A (-1) m)
  | 0, _, _, _, _, _, _, _, h, _ => by omega
  | n + 1, k, M0, M, h, ho, k0, k1, k2, hP => by
    have hn := CM_nr h
    rw [f_X0_followReferences_L63]
    by_cases hk : k < 0
    · rw [if_pos hk]
      refine ⟨M, rfl, ho, fun m m0 m1 => ?_⟩
      rw [hP m m0 m1]
      constructor
      · rintro (q | ⟨x, x0, x1, x2, x3⟩)
        · exact rch_root h.2 m0 q
        · exact rch_kid h.2 x2 x3
      · intro q
        rcases (rch_up h.2 q).2.2 with r | ⟨x, x0, x1, x2, x3⟩
        · exact Or.inl r
        · exact Or.inr ⟨x, by omega, x1, x2, x3⟩
    · rw [if_neg hk, isStored_C1 h (by omega) k1, cal_some]
      -- whether this one is reached
      have hkr : M 37 k.toNat ≠ 0 ↔ 0 < rsA A (-1) k := by
        rw [hP k (by omega) k1]
        constructor
        · rintro (q | ⟨x, x0, x1, x2, x3⟩)
          · exact rch_root h.2 (by omega) q
          · exact rch_kid h.2 x2 x3
        · intro q
          rcases (rch_up h.2 q).2.2 with r | ⟨x, x0, x1, x2, x3⟩
          · exact Or.inl r
          · exact Or.inr ⟨x, x0, x1, x2, x3⟩
      have hskip : ¬ 0 < rsA A (-1) k → ∀ m, 0 ≤ m → m < aN A → (M 37 m.toNat ≠ 0 ↔ 0 < nLRt A m ∨ ∃ x, k + -1 < x ∧ x < aN A ∧ 0 < rsA A (-1) x ∧ hcA A x m) := fun hq m m0 m1 => by
        rw [hP m m0 m1]
        constructor
        · rintro (q | ⟨x, x0, x1, x2⟩)
          · exact Or.inl q
          · exact Or.inr ⟨x, by omega, x1, x2⟩
        · rintro (q | ⟨x, x0, x1, x2, x3⟩)
          · exact Or.inl q
          · refine Or.inr ⟨x, ?_, x1, x2, x3⟩
            by_cases hxk : x = k
            · subst hxk; exact absurd x2 hq
            · omega
      by_cases hco : coA A k = 0
      · rw [ind_t hco, if_neg (by decide), flagAt_in (by omega) (by omega), cal_some]
        by_cases hm : M 37 k.toNat = 0
        · rw [if_pos hm, if_pos rfl, grd_pos (by omega)]
          exact follow2_C hfu n (k + -1) h ho (by omega) (by omega) (by omega) (hskip (fun q => hkr.mpr q hm))
        · rw [if_neg hm, if_neg (by decide)]
          obtain ⟨M1, e1, o1, m1⟩ := holdChildren_C hfu h (x := k) (by omega) k1
          rw [e1, cal_some, grd_pos (by omega)]
          refine follow2_C hfu n (k + -1) (CM_only h o1 (by decide)) (only_trans ho o1) (by omega) (by omega) (by omega) (fun m m0 mn => ?_)
          rw [m1 m m0 mn, hP m m0 mn]
          constructor
          · rintro ((q | ⟨x, x0, x1, x2⟩) | q)
            · exact Or.inl q
            · exact Or.inr ⟨x, by omega, x1, x2⟩
            · exact Or.inr ⟨k, by omega, k1, hkr.mp hm, q⟩
          · rintro (q | ⟨x, x0, x1, x2, x3⟩)
            · exact Or.inl (Or.inl q)
            · by_cases hxk : x = k
              · subst hxk; exact Or.inr x3
              · exact Or.inl (Or.inr ⟨x, by omega, x1, x2, x3⟩)
      · rw [ind_f hco, if_pos rfl, grd_pos (by omega)]
        exact follow2_C hfu n (k + -1) h ho (by omega) (by omega) (by omega) (hskip (fun q => hco (rsA_co h.2 q)))
theorem follow1_C (hfu : 1000 ≤ fu) : ∀ (n : Nat) (k : Int) {M0 M : Mem}, CM M A → only 37 M0 M → -1 ≤ k → k < aN A → k + 1 < n → (∀ m, k < m → m < aN A → (M 37 m.toNat ≠ 0 ↔ 0 < nLRt A m)) →
    ∃ M', f_X0_followReferences_L13 fu n k M = some (M', 0) ∧ only 37 M0 M' ∧ ∀ m, 0 ≤ m → m < aN A → (M' 37 m.toNat ≠ 0 ↔ 0 < rsA A (-1) m)
  | 0, _, _, _, _, _, _, _, h, _ => by omega
  | n + 1, k, M0, M, h, ho, k0, k1, k2, hP => by
    have hn := CM_nr h
    rw [f_X0_followReferences_L13]
    by_cases hk : k < 0
    · rw [if_pos hk, CM_n h, grd_pos (by omega)]
      refine follow2_C hfu fu (aN A - 1) h ho (by omega) (by omega) (by omega) (fun m m0 m1 => ?_)
      rw [hP m (by omega) m1]
      exact ⟨Or.inl, fun q => by
        rcases q with q | ⟨x, x0, x1, -⟩
        · exact q
        · omega⟩
    · have hl := nLRt_nonneg (A := A) k
      have step : ∀ z : Int, (z ≠ 0 ↔ 0 < nLRt A k) → ∀ m, k + -1 < m → m < aN A → (up M 37 k.toNat z 37 m.toNat ≠ 0 ↔ 0 < nLRt A m) := fun z hz m m0 m1 => by
        rw [up_toNat (by omega) (by omega)]
        by_cases hmk : m = k
        · rw [if_pos hmk, hmk]; exact hz
        · rw [if_neg hmk]; exact hP m (by omega) m1
      rw [if_neg hk, countLiveRoots_C h k hfu, cal_some]
      by_cases hr : nLRt A k ≤ 0
      · rw [if_pos hr, putFlag_in (by omega) (by omega) (by decide), cal_some, grd_pos (by omega)]
        exact follow1_C hfu n (k + -1) (CM_only h (only_up _ _ _ _) (by decide)) (only_trans ho (only_up _ _ _ _)) (by omega) (by omega) (by omega) (step 0 ⟨fun q => absurd rfl q, fun q => by omega⟩)
      · rw [if_neg hr, putFlag_in (by omega) (by omega) (by decide), cal_some, grd_pos (by omega)]
        exact follow1_C hfu n (k + -1) (CM_only h (only_up _ _ _ _) (by decide)) (only_trans ho (only_up _ _ _ _)) (by omega) (by omega) (by omega) (step 1 ⟨fun q => by omega, fun q => by decide⟩)
theorem referencesPass_C (hfu : 1000 ≤ fu) {M : Mem} (h : CM M A) : ∃ M', f_X0_referencesPass fu M = some (M', 1) ∧ ∀ q, q ≠ 35 → q ≠ 37 → M' q = M q := by
  have hn := CM_nr h
  obtain ⟨M1, e1, o1, k1⟩ := searchWithout_C hfu h (-1)
  have g1 := CM_only h o1 (by decide)
  unfold f_X0_referencesPass
  rw [e1, cal_some]
  unfold f_X0_followReferences
  rw [CM_n g1, grd_pos (by omega)]
  obtain ⟨M2, e2, o2, k2⟩ := follow1_C hfu fu (aN A - 1) g1 (only_refl 37 M1) (by omega) (by omega) (by omega) (fun m m0 m1 => by omega)
  have g2 := CM_only g1 o2 (by decide)
  rw [e2, cal_some]
  refine ⟨M2, ?_, fun q q1 q2 => by rw [o2 q q2, o1 q q1]⟩
  have := lp_find (F := fun n i => f_X0_referencesPass_L14 fu n i M2) (M := M2) (fun _ => false) (fun _ => 0) 1 (aN A)
    (fun n i i0 i1 hp => by cases hp)
    (fun n i i0 i1 hp => by
      show f_X0_referencesPass_L14 fu (n + 1) i M2 = f_X0_referencesPass_L14 fu n (i + 1) M2
      have hk1 := k1 i i0 i1
      have hk2 := k2 i i0 i1
      have e35 : M2 35 = M1 35 := o2 35 (by decide)
      rw [f_X0_referencesPass_L14, CM_n g2, if_neg (by omega), flagAt_in i0 (by omega), cal_some, hasR_C i0 (by omega), cal_some, e35]
      by_cases hr : 0 < rsA A (-1) i
      · rw [if_neg (hk2.mpr hr), if_neg (hk1.mpr hr), if_pos rfl, grd_pos (by omega)]
      · have z1 : M1 35 i.toNat = 0 := by
          by_cases hz : M1 35 i.toNat = 0
          · exact hz
          · exact absurd (hk1.mp hz) hr
        have z2 : M2 37 i.toNat = 0 := by
          by_cases hz : M2 37 i.toNat = 0
          · exact hz
          · exact absurd (hk2.mp hz) hr
        rw [if_pos z2, if_pos z1, if_pos rfl, grd_pos (by omega)])
    (fun n => by
      show f_X0_referencesPass_L14 fu (n + 1) (aN A) M2 = some (M2, 1)
      rw [f_X0_referencesPass_L14, CM_n g2, if_pos (Int.le_refl _)]) fu 0 (by omega) (by omega) (by omega)
  rw [this]
  have hff2 : ∀ (k : Nat) (b a : Int), ff (fun _ => false) (fun _ => b) 1 k a = 1 := by
    intro k b
    induction k with
    | zero => intro a; rfl
    | succ k ih => intro a; simp only [ff]; rw [if_neg (by decide)]; exact ih _
  rw [hff2]
theorem passes_C (hfu : 1000 ≤ fu) {M : Mem} (h : CM M A) : ∃ M', f_X0_passes fu M = some (M', 1) ∧ ∀ q, q ≠ 35 → q ≠ 37 → M' q = M q := by
  have hv := CM_vr h
  have gen : ∀ (n : Nat) (i : Int), 0 ≤ i → i ≤ aV A → aV A - i < n → ∃ M', f_X0_passes_L2 fu n i M = some (M', 1) ∧ ∀ q, q ≠ 35 → q ≠ 37 → M' q = M q := by
    intro n
    induction n with
    | zero => intro i _ _ _; omega
    | succ n ih =>
      intro i i0 i1 i2
      rw [f_X0_passes_L2, CM_v h]
      by_cases hi : aV A ≤ i
      · obtain ⟨M1, e1, o1⟩ := referencesPass_C hfu h
        have g1 : CM M1 A := CM_congr h (fun k q1 q2 => o1 k (by omega) (by omega))
        rw [if_pos hi, e1, cal_some, if_neg (by decide), sumOfCreated_C g1 hfu, cal_some, CM_n g1, if_pos rfl]
        exact ⟨M1, rfl, o1⟩
      · rw [if_neg hi, isLive_C1 h i0 (by omega), cal_some]
        by_cases hr : rlA A i = 0
        · rw [ind_t hr, if_neg (by decide), treePasses_C hfu h i0 (by omega) hr, cal_some, if_neg (by decide), elementsPass_C hfu h i0 (by omega), cal_some, if_neg (by decide), grd_pos (by omega)]
          exact ih (i + 1) (by omega) (by omega) (by omega)
        · rw [ind_f hr, if_pos rfl, grd_pos (by omega)]
          exact ih (i + 1) (by omega) (by omega) (by omega)
  unfold f_X0_passes
  exact gen fu 0 (by omega) (by omega) (by omega)
end CChe
