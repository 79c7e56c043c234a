/-! the model's check answers true -/
def frT (M M' : Mem) : Prop := (∀ q, q ≠ 52 → q ≠ 63 → M' q = M q) ∧ ∀ i, i ≠ 25 → M' 52 i = M 52 i
theorem frT_refl (M : Mem) : frT M M := ⟨fun _ _ _ => rfl, fun _ _ => rfl⟩
theorem frT_trans {M M' M2 : Mem} (h : frT M M') (h2 : frT M' M2) : frT M M2 := ⟨fun q h3 h4 => by rw [h2.1 q h3 h4, h.1 q h3 h4], fun i hi => by rw [h2.2 i hi, h.2 i hi]⟩
theorem MM_frT {M M' : Mem} {A : AS} (h : MM M A) (hf : frT M M') : MM M' A := MM_congr h (hf.1 53 (by decide) (by decide))
theorem ar_mul {l : Nat} (hl : l < 3) {i k : Int} (hi : 0 ≤ i) (hk : 0 ≤ k) (hk2 : k < pw l) : (i * pw l + k) / pw l = i ∧ (i * pw l + k) % pw l = k ∧ 0 ≤ i * pw l ∧ (i + 1) * pw l = i * pw l + pw l := by
  rcases l_cases hl with rfl | rfl | rfl <;> simp only [pw] at * <;> omega
section MChk
variable {A : AS} {fu : Nat}
/-- how many elements the first children have -/
def sS (A : AS) (l : Nat) (x i : Int) : Int := if i < flA A x then i * pw l else ctA A (l + 1) x
theorem sS_step {l : Nat} {b x i : Int} (hN : gN A) (hb : b ≤ aN A) (h : okB A b (l + 1) x) (i0 : 0 ≤ i) (i1 : i < flA A x) : sS A l x i = i * pw l ∧ sS A l x (i + 1) = i * pw l + ctA A l (enA A x i) ∧ 0 ≤ i * pw l ∧ sS A l x (i + 1) ≤ ctA A (l + 1) x := by
  obtain ⟨k1, k2, k3, k4⟩ := okB_nod hN hb h
  have hxb := h.2.1
  have hc := ctA_rng hN l (b := x) (by omega) (k4 i i0 i1).1
  have hp := pw_pos l
  have hm : (i + 1) * pw l = i * pw l + pw l := by rw [Int.add_mul]; omega
  have h0 : 0 ≤ i * pw l := Int.mul_nonneg i0 (by omega)
  unfold sS
  rw [if_pos i1]
  by_cases hi : i + 1 < flA A x
  · have hle := (k4 (flA A x - 1) (by omega) (by omega)).1
    have hcl := ctA_rng hN l (b := x) (by omega) hle
    rw [if_pos hi, (k4 i i0 i1).2 (by omega)]
    refine ⟨rfl, hm, h0, ?_⟩
    simp only [ctA]
    have h9 : (i + 1) * pw l ≤ (flA A x - 1) * pw l := Int.mul_le_mul_of_nonneg_right (by omega) (by omega)
    omega
  · rw [if_neg hi]
    have e : i = flA A x - 1 := by omega
    refine ⟨rfl, ?_, h0, Int.le_refl _⟩
    rw [e]
    rfl
theorem sS_end (l : Nat) (x : Int) : sS A l x (flA A x) = ctA A (l + 1) x := if_neg (Int.lt_irrefl _)
theorem isTreeWhole_M (hfu : 1000 ≤ fu) : ∀ (l d : Nat) {b x z : Int} {M : Mem}, MM M A → b ≤ aN A → okB A b (l + 1) x → (∀ m, 0 < muA A (l + 1) x m → coA A m = 0) → (z = 1 ∨ z = 0 ∧ ctA A (l + 1) x = pw (l + 1)) → l < d → 0 ≤ M 52 25 → M 52 25 + ctA A (l + 1) x ≤ 64 →
    ∃ M', f_X12_isTreeWhole fu d M x ((l : Int) + 1) z = some (M', 1) ∧ frT M M' ∧ M' 52 25 = M 52 25 + ctA A (l + 1) x ∧ (∀ k, 0 ≤ k → k < ctA A (l + 1) x → M' 63 (M 52 25 + k).toNat = gtA A (l + 1) x k) ∧ ∀ k : Int, 0 ≤ k → k < M 52 25 → M' 63 k.toNat = M 63 k.toNat
  | _, 0, _, _, _, _, _, _, _, _, _, h, _, _ => by omega
  | l, d + 1, b, x, z, M, h, hb, hx, hs, hz, hd, hc0, hc1 => by
    have hN := h.2.2.2.1
    obtain ⟨k1, k2, k3, k4⟩ := okB_nod hN hb hx
    have hx0 := hx.1
    have hxb := hx.2.1
    have hxl := hx.2.2
    generalize hc : M 52 25 = c at hc0 hc1 ⊢
    -- the loop
    have hloop : ∀ (y : Int), y = (l : Int) + 1 → ∃ M', f_X12_isTreeWhole_L44 fu (f_X12_isTreeWhole fu d) fu x y z 0 M = some (M', 1) ∧ frT M M' ∧ M' 52 25 = c + ctA A (l + 1) x ∧ (∀ k, 0 ≤ k → k < ctA A (l + 1) x → M' 63 (c + k).toNat = gtA A (l + 1) x k) ∧ ∀ k : Int, 0 ≤ k → k < c → M' 63 k.toNat = M 63 k.toNat := by
      intro y hy
      have := lp_mem (F := fun n i M' => f_X12_isTreeWhole_L44 fu (f_X12_isTreeWhole fu d) n x y z i M')
        (fun i M' => frT M M' ∧ M' 52 25 = c + sS A l x i ∧ (∀ k, 0 ≤ k → k < sS A l x i → M' 63 (c + k).toNat = gtA A (l + 1) x k) ∧ ∀ k : Int, 0 ≤ k → k < c → M' 63 k.toNat = M 63 k.toNat) (flA A x)
        (Q := fun o => ∃ M', o = (M', 1) ∧ frT M M' ∧ M' 52 25 = c + ctA A (l + 1) x ∧ (∀ k, 0 ≤ k → k < ctA A (l + 1) x → M' 63 (c + k).toNat = gtA A (l + 1) x k) ∧ ∀ k : Int, 0 ≤ k → k < c → M' 63 k.toNat = M 63 k.toNat)
        (fun n i M1 i0 i1 hP => by
          have g1 := MM_frT h hP.1
          obtain ⟨s1, s2, s3, s4⟩ := sS_step hN hb hx i0 i1
          have hch := (k4 i i0 i1).1
          have hcr := ctA_rng hN l (b := x) (by omega) hch
          obtain ⟨p1, p2, p3, p4⟩ := hP
          rw [s1] at p2 p3
          cases l with
          | zero =>
            have hct1 : ctA A 0 (enA A x i) = 1 := rfl
            refine ⟨up (up M1 63 (M1 52 25).toNat (enA A x i)) 52 25 (M1 52 25 + 1), ?_, ?_, ?_, ?_, ?_⟩
            · show f_X12_isTreeWhole_L44 fu (f_X12_isTreeWhole fu d) (n + 1) x y z i M1 = _
              have e52 : up M1 63 (M1 52 25).toNat (enA A x i) 52 = M1 52 := up_cell _ _ (by decide)
              rw [f_X12_isTreeWhole_L44, countOf_M g1 hx0 (by omega), cal_some, if_neg (by omega), if_pos (by rw [hy]; rfl), entry_M g1 hx0 (by omega) i0 i1, cal_some, grd_pos (by omega), e52, grd_pos (by omega), grd_pos (by omega)]
            · refine frT_trans p1 ⟨fun q h1 h2 => by rw [up_cell _ _ h1, up_cell _ _ h2], fun j hj => ?_⟩
              rw [up_at (Or.inr hj), up_cell _ _ (by decide)]
            · rw [up_same, p2, s2, hct1]; omega
            · intro k q0 q1
              rw [s2, hct1] at q1
              rw [up_cell _ _ (by decide), up_toNat (by omega) (by omega), p2]
              have e1 : i * pw 0 = i := Int.mul_one i
              rw [e1] at q1 p2 p3 ⊢
              by_cases hk : k = i
              · rw [if_pos (by omega), hk]
                show _ = enA A x (i / pw 0)
                have : i / pw 0 = i := Int.ediv_one i
                rw [this]
              · rw [if_neg (by omega)]
                exact p3 k q0 (by omega)
            · intro k q0 q1
              rw [up_cell _ _ (by decide), up_toNat (by omega) (by omega), if_neg (by omega)]
              exact p4 k q0 q1
          | succ l =>
            have e : ((l + 1 : Nat) : Int) + 1 - 1 = (l : Int) + 1 := by omega
            have hrec : ∀ z', (z' = 1 ∨ z' = 0 ∧ ctA A (l + 1) (enA A x i) = pw (l + 1)) → ∃ M', f_X12_isTreeWhole fu d M1 (enA A x i) ((l : Int) + 1) z' = some (M', 1) ∧ frT M M' ∧ M' 52 25 = c + sS A (l + 1) x (i + 1) ∧ (∀ k, 0 ≤ k → k < sS A (l + 1) x (i + 1) → M' 63 (c + k).toNat = gtA A (l + 1 + 1) x k) ∧ ∀ k : Int, 0 ≤ k → k < c → M' 63 k.toNat = M 63 k.toNat := fun z' hz' => by
              obtain ⟨M2, e2, f2, n2, w2, v2⟩ := isTreeWhole_M hfu l d (b := x) (x := enA A x i) (z := z') g1 (by omega) hch (fun m hm => hs m (muA_kid i0 i1 hm)) hz' (by omega) (by omega) (by omega)
              refine ⟨M2, e2, frT_trans p1 f2, by rw [n2, p2, s2]; omega, fun k q0 q1 => ?_, fun k q0 q1 => ?_⟩
              · by_cases hk : k < i * pw (l + 1)
                · rw [v2 (c + k) (by omega) (by omega)]
                  exact p3 k q0 hk
                · rw [s2] at q1
                  obtain ⟨a1, a2, -, -⟩ := ar_mul k1 (i := i) (k := k - i * pw (l + 1)) i0 (by omega) (by omega)
                  have ek : i * pw (l + 1) + (k - i * pw (l + 1)) = k := by omega
                  rw [ek] at a1 a2
                  have hw := w2 (k - i * pw (l + 1)) (by omega) (by omega)
                  have e5 : M1 52 25 + (k - i * pw (l + 1)) = c + k := by omega
                  rw [e5] at hw
                  rw [hw]
                  show _ = gtA A (l + 1) (enA A x (k / pw (l + 1))) (k % pw (l + 1))
                  rw [a1, a2]
              · rw [v2 k q0 (by omega)]
                exact p4 k q0 q1
            have hJ : ∀ M2, f_X12_isTreeWhole fu d M1 (enA A x i) ((l : Int) + 1) 0 = some (M2, 1) → f_X12_isTreeWhole_J119 fu (f_X12_isTreeWhole fu d) (f_X12_isTreeWhole_L44 fu (f_X12_isTreeWhole fu d) n) x y z i (enA A x i) ((l : Int) + 1) M1 = f_X12_isTreeWhole_L44 fu (f_X12_isTreeWhole fu d) n x y z (i + 1) M2 := fun M2 e9 => by
              unfold f_X12_isTreeWhole_J119
              rw [e9, cal_some, if_neg (by decide), grd_pos (by omega)]
            have hy1 : y - 1 = (l : Int) + 1 := by omega
            have hstart : f_X12_isTreeWhole_L44 fu (f_X12_isTreeWhole fu d) (n + 1) x y z i M1 = if z = 0 then (f_X12_isTreeWhole_J119 fu (f_X12_isTreeWhole fu d) (f_X12_isTreeWhole_L44 fu (f_X12_isTreeWhole fu d) n) x y z i (enA A x i) ((l : Int) + 1) M1) else (if i = flA A x - 1 then (cal (f_X12_isTreeWhole fu d M1 (enA A x i) ((l : Int) + 1) 1) fun M33 r34 => if r34 = 0 then (some (M33, 0)) else (grd (rng (i + 1)) (f_X12_isTreeWhole_L44 fu (f_X12_isTreeWhole fu d) n x y z (i + 1) M33))) else (f_X12_isTreeWhole_J119 fu (f_X12_isTreeWhole fu d) (f_X12_isTreeWhole_L44 fu (f_X12_isTreeWhole fu d) n) x y z i (enA A x i) ((l : Int) + 1) M1)) := by
              rw [f_X12_isTreeWhole_L44, countOf_M g1 hx0 (by omega), cal_some, if_neg (by omega), if_neg (by omega), entry_M g1 hx0 (by omega) i0 i1, cal_some, hy1]
              by_cases hz0 : z = 0
              · rw [if_pos hz0, if_pos hz0, grd_pos (by omega)]
              · rw [if_neg hz0, if_neg hz0, countOf_M g1 hx0 (by omega), cal_some, grd_pos (by omega)]
                by_cases hi : i = flA A x - 1
                · rw [if_pos hi, if_pos hi, grd_pos (by omega)]
                · rw [if_neg hi, if_neg hi, grd_pos (by omega)]
            rcases hz with hz | ⟨hz, hcf⟩
            · by_cases hi : i = flA A x - 1
              · obtain ⟨M2, e2, r2⟩ := hrec 1 (Or.inl rfl)
                refine ⟨M2, ?_, r2⟩
                show f_X12_isTreeWhole_L44 fu (f_X12_isTreeWhole fu d) (n + 1) x y z i M1 = _
                rw [hstart, if_neg (by omega), if_pos hi, e2, cal_some, if_neg (by decide), grd_pos (by omega)]
              · obtain ⟨M2, e2, r2⟩ := hrec 0 (Or.inr ⟨rfl, (k4 i i0 i1).2 (by omega)⟩)
                refine ⟨M2, ?_, r2⟩
                show f_X12_isTreeWhole_L44 fu (f_X12_isTreeWhole fu d) (n + 1) x y z i M1 = _
                rw [hstart, if_neg (by omega), if_neg hi, hJ M2 e2]
            · obtain ⟨M2, e2, r2⟩ := hrec 0 (Or.inr ⟨rfl, (full_fl hN hb hx hcf).2 i i0 i1⟩)
              refine ⟨M2, ?_, r2⟩
              show f_X12_isTreeWhole_L44 fu (f_X12_isTreeWhole fu d) (n + 1) x y z i M1 = _
              rw [hstart, if_pos hz, hJ M2 e2])
        (fun n M1 hP => by
          have g1 := MM_frT h hP.1
          rw [sS_end] at hP
          refine ⟨(M1, 1), ?_, M1, rfl, hP⟩
          show f_X12_isTreeWhole_L44 fu (f_X12_isTreeWhole fu d) (n + 1) x y z (flA A x) M1 = _
          rw [f_X12_isTreeWhole_L44, countOf_M g1 hx0 (by omega), cal_some, if_pos (Int.le_refl _)]) fu 0 M (by omega) (by omega) (by omega)
        ⟨frT_refl M, by
          have : sS A l x 0 = 0 := by
            unfold sS
            rw [if_pos (by omega)]; simp
          rw [this, hc]; omega, fun k q0 q1 => by
          have : sS A l x 0 = 0 := by
            unfold sS
            rw [if_pos (by omega)]; simp
          omega, fun _ _ _ => rfl⟩
      obtain ⟨o, e, M', rfl, r⟩ := this
      exact ⟨M', e, r⟩
    obtain ⟨M', e', r'⟩ := hloop ((l : Int) + 1) rfl
    refine ⟨M', ?_, r'⟩
    have hJ23 : ∀ y0, f_X12_isTreeWhole_J23 fu (f_X12_isTreeWhole fu d) x ((l : Int) + 1) z y0 y0 M = some (M', 1) := fun y0 => by
      unfold f_X12_isTreeWhole_J23 f_X12_isTreeWhole_J41
      rw [if_pos rfl]
      rcases hz with hz | ⟨hz, hcf⟩
      · rw [if_neg (by omega)]; exact e'
      · rw [if_pos hz, countOf_M h hx0 (by omega), cal_some, if_pos (by have := (full_fl hN hb hx hcf).1; omega)]; exact e'
    rw [f_X12_isTreeWhole, isStored_M1 h hx0 (by omega), cal_some, ind_t (hs x (muA_self l x)), if_neg (by decide), isLeafNode_M h hx0 (by omega), cal_some]
    by_cases hl : (l : Int) + 1 = 1
    · rw [if_pos hl, ind_t (by omega)]
      exact hJ23 1
    · rw [if_neg hl, ind_f (by omega)]
      exact hJ23 0
theorem isVersionConsistent_M (hfu : 1000 ≤ fu) {M : Mem} (h : MM M A) {v : Int} (h0 : 0 ≤ v) (h1 : v < aV A) (hl : rlA A v = 0) : ∃ M', f_X12_isVersionConsistent fu M v = some (M', 1) ∧ frT M M' := by
  have g := G_V h.2 h0 h1
  have hf0 : frT M (up M 52 25 0) := ⟨fun q h1 h2 => up_cell _ _ h1, fun i hi => up_at (Or.inr hi)⟩
  have h' := MM_frT h hf0
  unfold f_X12_isVersionConsistent
  have e25 : up M 52 25 0 52 25 = 0 := up_same _ _ _ _
  generalize up M 52 25 0 = M0 at hf0 h' e25
  rw [root_M h' h0 h1, cal_some]
  by_cases hs : 0 < szA A v
  · obtain ⟨l, l1, l2, l3, l4, l5, l6, -⟩ := G_tree h.2 h0 h1 hs
    have hst := g.2.2.2.2.2.2 hl
    rw [l1] at hst
    have hrt := l3.1
    have e : ((hgt (szA A v) : Nat) : Int) = (l : Int) + 1 := by omega
    obtain ⟨M1, e1, f1, n1, w1, -⟩ := isTreeWhole_M hfu l 8 h' (Int.le_refl _) l3 hst (Or.inl rfl) (by omega) (by omega) (by have := g.1.2; omega)
    have g1 := MM_frT h' f1
    rw [e25, l4] at n1
    have hn : M1 52 25 = szA A v := by omega
    refine ⟨M1, ?_, frT_trans hf0 f1⟩
    rw [if_neg (by omega), heightOf_M h' h0 h1, cal_some, e, e1, cal_some, if_neg (by decide), lengthOf_M g1 h0 h1, cal_some, if_pos hn]
    have := lp_find (F := fun n i => f_X12_isVersionConsistent_L60 fu n v i M1) (M := M1) (fun _ => false) (fun _ => 0) 1 (szA A v)
      (fun n i i0 i1 hp => by cases hp)
      (fun n i i0 i1 hp => by
        show f_X12_isVersionConsistent_L60 fu (n + 1) v i M1 = f_X12_isVersionConsistent_L60 fu n v (i + 1) M1
        have hw := w1 i i0 (by omega)
        have e5 : M0 52 25 + i = i := by omega
        rw [e5, l6 i i0 i1] at hw
        rw [f_X12_isVersionConsistent_L60, hn, if_neg (by omega), grd_pos (by have := g.1.2; omega), element_M g1 h0 h1 i0 i1, cal_some, if_pos hw, grd_pos (by have := g.1.2; omega)])
      (fun n => by
        show f_X12_isVersionConsistent_L60 fu (n + 1) v (szA A v) M1 = some (M1, 1)
        rw [f_X12_isVersionConsistent_L60, hn, if_pos (Int.le_refl _)]) fu 0 (by omega) (by omega) (by have := g.1.2; omega)
    rw [this, ff_none _ _ (fun _ _ _ => rfl)]
  · have hz : szA A v = 0 := by have := g.1.1; omega
    refine ⟨M0, ?_, hf0⟩
    rw [if_pos (g.2.2.2.2.2.1.1 hz), lengthOf_M h' h0 h1, cal_some, if_pos hz]
theorem isRoot_M (hfu : 1000 ≤ fu) {M : Mem} (h : MM M A) (k : Int) : f_X12_isRoot fu M k = some (M, ind (0 < nLRt A k)) := by
  have hv := MM_vr h
  unfold f_X12_isRoot
  have := lp_find (F := fun n i => f_X12_isRoot_L2 fu n k i M) (M := M) (fun i => decide (rlA A i = 0 ∧ rtA A i = k)) (fun _ => 1) 0 (aV A)
    (fun n i i0 i1 hp => by
      have hp2 : rlA A i = 0 ∧ rtA A i = k := by simpa using hp
      show f_X12_isRoot_L2 fu (n + 1) k i M = some (M, 1)
      rw [f_X12_isRoot_L2, grd_pos (by decide), MM_v h, if_neg (by omega), isGone_M h i0 i1, cal_some, if_pos hp2.1, root_M h i0 i1, cal_some, if_pos hp2.2])
    (fun n i i0 i1 hp => by
      have hp2 : ¬ (rlA A i = 0 ∧ rtA A i = k) := by simpa using hp
      show f_X12_isRoot_L2 fu (n + 1) k i M = f_X12_isRoot_L2 fu n k (i + 1) M
      rw [f_X12_isRoot_L2, grd_pos (by decide), MM_v h, if_neg (by omega), isGone_M h i0 i1, cal_some]
      by_cases hr : rlA A i = 0
      · rw [if_pos hr, root_M h i0 i1, cal_some, if_neg (fun q => hp2 ⟨hr, q⟩), grd_pos (by omega)]
      · rw [if_neg hr, grd_pos (by omega)])
    (fun n => by
      show f_X12_isRoot_L2 fu (n + 1) k (aV A) M = some (M, 0)
      rw [f_X12_isRoot_L2, grd_pos (by decide), MM_v h, if_pos (Int.le_refl _)]) fu 0 (by omega) (by omega) (by omega)
  rw [this]
  simp only [Int.sub_zero]
  rcases ff_01 (p := fun i => decide (rlA A i = 0 ∧ rtA A i = k)) (aV A).toNat 0 with ⟨q1, j, q2, q3, q4⟩ | ⟨q1, q2⟩
  · rw [q1, ind_t]
    have := sm_ge_one (g := fun v => ind (rlA A v = 0 ∧ rtA A v = k)) j (aV A).toNat 0 q2 q3 (fun k _ _ => (ind_rng _).1)
    rw [ind_t (by simpa using q4)] at this
    exact Int.lt_of_lt_of_le (by decide) this
  · rw [q1, ind_f]
    have : nLRt A k = 0 := sm_zero _ _ (fun j j0 j1 => ind_f (by simpa using q2 j j0 j1))
    omega
theorem hcA_lv (h : Good A) {x m : Int} (h0 : 0 ≤ x) (h1 : x < aN A) (hc : hcA A x m) : lvA A x = lvA A m + 1 := by
  obtain ⟨j, j0, j1, j2, j3⟩ := hc
  obtain ⟨-, l, k1, k2, k3, k4, k5⟩ := h.2.2.1 x h0 h1
  have := (k5 j j0 j1).1
  cases l with
  | zero => have h9 : lvA A x = 1 := k2; omega
  | succ l =>
    have h9 := this.2.2
    rw [j3] at h9
    omega
theorem isHeld_M (hfu : 1000 ≤ fu) {M : Mem} (h : MM M A) : ∀ (d : Nat) {k : Int}, 0 ≤ k → k < aN A → 4 - lvA A k ≤ d → f_X12_isHeld fu d M k = some (M, ind (0 < rsA A (-1) k))
  | 0, k, h0, h1, h2 => by have := G_lv h.2 h0 h1; omega
  | d + 1, k, h0, h1, h2 => by
    have hn := MM_nr h
    have hlv := G_lv h.2 h0 h1
    rw [f_X12_isHeld, isRoot_M hfu h, cal_some]
    by_cases hr : 0 < nLRt A k
    · rw [ind_t hr, if_neg (by decide), ind_t (rch_root h.2 h0 hr)]
    · rw [ind_f hr, if_pos rfl]
      have hval : ∀ i, 0 ≤ i → i < aN A → ((if coA A i = 0 then hcB A i k else 0) ≠ 0 → hcA A i k ∧ coA A i = 0) := fun i i0 i1 hq => by
        by_cases hc : coA A i = 0
        · rw [if_pos hc] at hq
          rcases hcB_iff A i h0 with ⟨-, q⟩ | ⟨q, -⟩
          · exact ⟨q, hc⟩
          · exact absurd q hq
        · rw [if_neg hc] at hq; exact absurd rfl hq
      have := lp_find (F := fun n i => f_X12_isHeld_L12 fu (f_X12_isHeld fu d) n k i M) (M := M) (fun i => decide ((if coA A i = 0 then hcB A i k else 0) ≠ 0 ∧ 0 < rsA A (-1) i)) (fun _ => 1) 0 (aN A)
        (fun n i i0 i1 hp => by
          have hp2 : (if coA A i = 0 then hcB A i k else 0) ≠ 0 ∧ 0 < rsA A (-1) i := by simpa using hp
          have hv := hval i i0 i1 hp2.1
          have hlx := hcA_lv h.2 i0 i1 hv.1
          show f_X12_isHeld_L12 fu (f_X12_isHeld fu d) (n + 1) k i M = some (M, 1)
          rw [f_X12_isHeld_L12, grd_pos (by decide), MM_n h, if_neg (by omega), hasChild_M h i0 i1 h0 hfu, cal_some, if_neg hp2.1, isHeld_M hfu h d i0 i1 (by omega), cal_some, ind_t hp2.2, if_neg (by decide)])
        (fun n i i0 i1 hp => by
          have hp2 : ¬ ((if coA A i = 0 then hcB A i k else 0) ≠ 0 ∧ 0 < rsA A (-1) i) := by simpa using hp
          show f_X12_isHeld_L12 fu (f_X12_isHeld fu d) (n + 1) k i M = f_X12_isHeld_L12 fu (f_X12_isHeld fu d) n k (i + 1) M
          rw [f_X12_isHeld_L12, grd_pos (by decide), MM_n h, if_neg (by omega), hasChild_M h i0 i1 h0 hfu, cal_some]
          by_cases hz : (if coA A i = 0 then hcB A i k else 0) = 0
          · rw [if_pos hz, grd_pos (by omega)]
          · have hv := hval i i0 i1 hz
            have hlx := hcA_lv h.2 i0 i1 hv.1
            rw [if_neg hz, isHeld_M hfu h d i0 i1 (by omega), cal_some, ind_f (fun q => hp2 ⟨hz, q⟩), if_pos rfl, grd_pos (by omega)])
        (fun n => by
          show f_X12_isHeld_L12 fu (f_X12_isHeld fu d) (n + 1) k (aN A) M = some (M, 0)
          rw [f_X12_isHeld_L12, grd_pos (by decide), MM_n h, if_pos (Int.le_refl _)]) fu 0 (by omega) (by omega) (by omega)
      rw [this]
      simp only [Int.sub_zero]
      rcases ff_01 (p := fun i => decide ((if coA A i = 0 then hcB A i k else 0) ≠ 0 ∧ 0 < rsA A (-1) i)) (aN A).toNat 0 with ⟨q1, j, q2, q3, q4⟩ | ⟨q1, q2⟩
      · have q5 : (if coA A j = 0 then hcB A j k else 0) ≠ 0 ∧ 0 < rsA A (-1) j := by simpa using q4
        have hv := hval j q2 (by omega) q5.1
        rw [q1, ind_t (rch_kid h.2 q5.2 hv.1)]
      · rw [q1, ind_f]
        intro hq
        rcases (rch_up h.2 hq).2.2 with r | ⟨x, x0, x1, x2, x3⟩
        · exact hr r
        · have q5 := q2 x (by omega) (by omega)
          have q6 : ¬ ((if coA A x = 0 then hcB A x k else 0) ≠ 0 ∧ 0 < rsA A (-1) x) := by simpa using q5
          refine q6 ⟨?_, x2⟩
          rw [if_pos (rsA_co h.2 x2)]
          rcases hcB_iff A x h0 with ⟨q, -⟩ | ⟨-, q⟩
          · omega
          · exact absurd x3 q
theorem areNodesConsistent_M (hfu : 1000 ≤ fu) {M : Mem} (h : MM M A) : ∃ M', f_X12_areNodesConsistent fu M = some (M', 1) ∧ only 60 M M' := by
  have hn := MM_nr h
  obtain ⟨M1, e1, o1, m1⟩ := reachAll_M hfu h
  have g1 := MM_only h o1 (by decide)
  refine ⟨M1, ?_, o1⟩
  unfold f_X12_areNodesConsistent
  rw [e1, cal_some]
  have := lp_find (F := fun n i => f_X12_areNodesConsistent_L6 fu n i M1) (M := M1) (fun _ => false) (fun _ => 0) 1 (aN A)
    (fun n i i0 i1 hp => by cases hp)
    (fun n i i0 i1 hp => by
      show f_X12_areNodesConsistent_L6 fu (n + 1) i M1 = f_X12_areNodesConsistent_L6 fu n (i + 1) M1
      have hlv := G_lv h.2 i0 i1
      rw [f_X12_areNodesConsistent_L6, grd_pos (by decide), MM_n g1, if_neg (by omega), grd_pos (by omega), m1 i i0 i1]
      unfold f_X12_areNodesConsistent_J30
      by_cases hr : 0 < rsA A (-1) i
      · rw [if_neg (by omega), isStored_M1 g1 i0 i1, cal_some, ind_t (rsA_co h.2 hr), if_neg (by decide), isHeld_M hfu g1 8 i0 i1 (by omega), cal_some, ind_t hr, if_neg (by decide), if_pos rfl, grd_pos (by omega)]
      · rw [if_pos (by omega), isStored_M1 g1 i0 i1, cal_some]
        by_cases hc : coA A i = 0
        · rw [ind_t hc, if_neg (by decide), isHeld_M hfu g1 8 i0 i1 (by omega), cal_some, ind_f hr, if_pos rfl, if_pos rfl, grd_pos (by omega)]
        · rw [ind_f hc, if_pos rfl, if_pos rfl, grd_pos (by omega)])
    (fun n => by
      show f_X12_areNodesConsistent_L6 fu (n + 1) (aN A) M1 = some (M1, 1)
      rw [f_X12_areNodesConsistent_L6, grd_pos (by decide), MM_n g1, if_pos (Int.le_refl _)]) fu 0 (by omega) (by omega) (by omega)
  rw [this, ff_none _ _ (fun _ _ _ => rfl)]
theorem isConsistent_M (hfu : 1000 ≤ fu) {M : Mem} (h : MM M A) : ∃ M', f_X12_isConsistent fu M = some (M', 1) ∧ (∀ q, q ≠ 52 → q ≠ 60 → q ≠ 63 → M' q = M q) ∧ ∀ i, i ≠ 25 → M' 52 i = up M 52 6 0 52 i := by
  have hv := MM_vr h
  unfold f_X12_isConsistent
  have h' := MM_t h 0
  have hq0 : ∀ q, q ≠ 52 → up M 52 6 0 q = M q := fun q hq => up_cell _ _ hq
  generalize up M 52 6 0 = M0 at h' hq0
  have gen : ∀ (n : Nat) (x i : Int) (M1 : Mem), frT M0 M1 → 0 ≤ i → i ≤ aV A → x = sm (crA A) i.toNat 0 → 0 ≤ x → x ≤ 21 * i → aV A - i < n → ∃ M', f_X12_isConsistent_L9 fu n x i M1 = some (M', 1) ∧ (∀ q, q ≠ 52 → q ≠ 60 → q ≠ 63 → M' q = M0 q) ∧ ∀ i, i ≠ 25 → M' 52 i = M0 52 i := by
    intro n
    induction n with
    | zero => intro x i M1 _ _ _ _ _ _ _; omega
    | succ n ih =>
      intro x i M1 hf i0 i1 hx x0 x1 i2
      have g1 := MM_frT h' hf
      rw [f_X12_isConsistent_L9, grd_pos (by decide), MM_v g1]
      by_cases hi : aV A ≤ i
      · have hie : i = aV A := by omega
        obtain ⟨M2, e2, o2⟩ := areNodesConsistent_M hfu g1
        rw [if_pos hi, grd_pos (by decide), MM_n g1, if_pos (by rw [hx, hie]; exact h.2.2.2.2.2), e2, cal_some, if_neg (by decide)]
        exact ⟨M2, rfl, fun q h1 h2 h3 => by rw [o2 q h2, hf.1 q h1 h3], fun j hj => by rw [o2 52 (by decide), hf.2 j hj]⟩
      · have hc := (G_V h.2 i0 (by omega)).2.2.1
        have e : (i + 1).toNat = i.toNat + 1 := by omega
        have e3 : (0 : Int) + ((i.toNat : Nat) : Int) = i := by omega
        have hx2 : x + crA A i = sm (crA A) (i + 1).toNat 0 := by rw [e, sm_snoc, e3, hx]
        rw [if_neg hi, v_M i0 (by omega), cal_some, grd_pos (by omega), grd_pos (by omega), isGone_M g1 i0 (by omega), cal_some, cr_M g1 i0 (by omega)]
        by_cases hr : rlA A i = 0
        · obtain ⟨M2, e2, f2⟩ := isVersionConsistent_M hfu g1 i0 (by omega) hr
          rw [if_pos hr, e2, cal_some, if_neg (by decide), grd_pos (by omega), grd_pos (by omega)]
          exact ih _ _ M2 (frT_trans hf f2) (by omega) (by omega) hx2 (by omega) (by omega) (by omega)
        · rw [if_neg hr, grd_pos (by omega), grd_pos (by omega)]
          exact ih _ _ M1 hf (by omega) (by omega) hx2 (by omega) (by omega) (by omega)
  obtain ⟨M', e, p1, p2⟩ := gen fu 0 0 M0 (frT_refl _) (by omega) (by omega) rfl (by omega) (by omega) (by omega)
  exact ⟨M', e, fun q h1 h2 h3 => by rw [p1 q h1 h2 h3, hq0 q h1], p2⟩
end MChk
