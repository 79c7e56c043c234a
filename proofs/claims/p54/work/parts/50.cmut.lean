/-! the class makes nodes and versions -/
def PN (M : Mem) (A : AS) (l f : Int) (e : Int → Int) (M' : Mem) : Prop :=
  M' 5 0 = aN A + 1 ∧ M' 6 (aN A).toNat = l ∧ M' 7 (aN A).toNat = f ∧ (∀ j, 0 ≤ j → j < f → M' 8 (aN A * 4 + j).toNat = e j) ∧ M' 9 (aN A).toNat = 0 ∧
  (∀ k, 0 ≤ k → k < aN A → M' 6 k.toNat = M 6 k.toNat ∧ M' 7 k.toNat = M 7 k.toNat ∧ M' 9 k.toNat = M 9 k.toNat) ∧ (∀ k, 0 ≤ k → k < aN A * 4 → M' 8 k.toNat = M 8 k.toNat) ∧ (∀ q, q < 5 ∨ 9 < q → M' q = M q)
theorem RC_as {M : Mem} {A B : AS} (h : RC M A) (h1 : aN B = aN A) (h2 : aV B = aV A) (h3 : vf B = vf A) (h4 : ev B = ev A) (h5 : ∀ k, 0 ≤ k → k < aN A → lvA B k = lvA A k ∧ flA B k = flA A k ∧ coA B k = coA A k ∧ ∀ j, 0 ≤ j → j < flA A k → enA B k j = enA A k j) : RC M B := by
  obtain ⟨r1, r2, ⟨s1, s2, s3, s4⟩, r4, r5⟩ := h
  unfold RC repR szA rtA paA rlA crA
  rw [h1, h2, h3, h4]
  refine ⟨r1, r2, ⟨fun k k0 k1 => ?_, s2, s3, s4⟩, fun k k0 k1 => ?_, r5⟩
  · obtain ⟨q1, q2, q3, q4⟩ := h5 k k0 k1
    obtain ⟨w1, w2, w3⟩ := s1 k k0 k1
    rw [q1, q2]
    exact ⟨w1, w2, fun j j0 j1 => by rw [q4 j j0 j1]; exact w3 j j0 j1⟩
  · rw [(h5 k k0 k1).2.2.1]
    exact r4 k k0 k1
theorem RC_addN {M : Mem} {A : AS} {l f : Int} {e e' : Int → Int} (h : RC M (addN A l f e)) (he : ∀ j, 0 ≤ j → j < f → e j = e' j) : RC M (addN A l f e') := RC_as h rfl rfl rfl rfl (fun k k0 k1 => by
  by_cases hk : k = aN A
  · subst hk
    rw [addN_lv, addN_lv, addN_fl, addN_fl, addN_co, addN_co]
    exact ⟨rfl, rfl, rfl, fun j j0 j1 => by rw [addN_en _ _ _ _ j0, addN_en _ _ _ _ j0, he j j0 j1]⟩
  · exact ⟨(addN_old hk 0).trans (addN_old hk 0).symm, (addN_old hk 1).trans (addN_old hk 1).symm, (addN_old hk 2).trans (addN_old hk 2).symm, fun j _ _ => (addN_old hk _).trans (addN_old hk _).symm⟩)
section CMut
variable {fu : Nat}
theorem PN_add {M : Mem} {A : AS} (hn : M 5 0 = aN A) (h0 : 0 ≤ aN A) (h1 : aN A < 138) (l : Int) (e : Int → Int) : ∃ M1, f_X3_add fu M l = some (M1, aN A) ∧ PN M A l 0 e M1 := by
  refine ⟨up (up (up (up M 6 (aN A).toNat l) 7 (aN A).toNat 0) 9 (aN A).toNat 0) 5 0 (aN A + 1), ?_, ?_, ?_, ?_, ?_, ?_, ?_, ?_, ?_⟩
  · have e5 : up (up (up M 6 (aN A).toNat l) 7 (aN A).toNat 0) 9 (aN A).toNat 0 5 = M 5 := by rw [up_cell _ _ (by decide), up_cell _ _ (by decide), up_cell _ _ (by decide)]
    unfold f_X3_add
    rw [hn, put_in h0 (by omega), cal_some, put_in h0 (by omega), cal_some, putFlag_in h0 (by omega) (by decide), cal_some, e5, hn, grd_pos (by omega)]
  · exact up_same _ _ _ _
  · rw [up_cell _ _ (by decide), up_cell _ _ (by decide), up_cell _ _ (by decide), up_same]
  · rw [up_cell _ _ (by decide), up_cell _ _ (by decide), up_same]
  · intro j j0 j1; omega
  · rw [up_cell _ _ (by decide), up_same]
  · intro k k0 k1
    refine ⟨?_, ?_, ?_⟩
    · rw [up_cell _ _ (by decide), up_cell _ _ (by decide), up_cell _ _ (by decide), up_toNat h0 k0, if_neg (by omega)]
    · rw [up_cell _ _ (by decide), up_cell _ _ (by decide), up_toNat h0 k0, if_neg (by omega), up_cell _ _ (by decide)]
    · rw [up_cell _ _ (by decide), up_toNat h0 k0, if_neg (by omega), up_cell _ _ (by decide), up_cell _ _ (by decide)]
  · intro k k0 k1
    rw [up_cell _ _ (by decide), up_cell _ _ (by decide), up_cell _ _ (by decide), up_cell _ _ (by decide)]
  · intro q hq
    rw [up_cell _ _ (by omega), up_cell _ _ (by omega), up_cell _ _ (by omega), up_cell _ _ (by omega)]
theorem fillAt_raw {M : Mem} {k f : Int} (h0 : 0 ≤ k) (h1 : k < 138) (hf : M 7 k.toNat = f) : f_X3_fillAt fu M k = some (M, f) := by
  unfold f_X3_fillAt
  rw [if_neg (by omega), if_neg (by omega), grd_pos (by omega), hf]
theorem entryAt_raw {M : Mem} {k f j x : Int} (h0 : 0 ≤ k) (h1 : k < 138) (hf : M 7 k.toNat = f) (hf4 : f ≤ 4) (hj : 0 ≤ j) (hj2 : j < f) (hx : M 8 (k * 4 + j).toNat = x) : f_X3_entryAt fu M k j = some (M, x) := by
  unfold f_X3_entryAt
  rw [if_neg (by omega), fillAt_raw h0 h1 hf, cal_some, if_pos hj2, grd_pos (by omega), at_in (by omega) (by omega), cal_some, hx]
theorem imax_eq (x y : Int) : imax x y = if x < y then y else x := rfl
theorem PN_place {M M1 : Mem} {A : AS} {l f : Int} {e : Int → Int} (h0 : 0 ≤ aN A) (h1 : aN A < 138) (h : PN M A l f e M1) {p : Int} (x : Int) (hp : 0 ≤ p) (hpf : p ≤ f) (hp3 : p ≤ 3) (hf4 : f ≤ 4) :
    ∃ M2, f_X3_place fu M1 (aN A) p x = some (M2, 0) ∧ PN M A l (if p < f then f else p + 1) (fun j => if j = p then x else e j) M2 := by
  obtain ⟨q1, q2, q3, q4, q5, q6, q7, q8⟩ := h
  have hmx : imax f (p + 1) = if p < f then f else p + 1 := by
    rw [imax_eq]
    by_cases hc : p < f
    · rw [if_pos hc, if_neg (by omega)]
    · rw [if_neg hc, if_pos (by omega)]
  have e7 : up M1 8 (aN A * 4 + p).toNat x 7 = M1 7 := up_cell _ _ (by decide)
  refine ⟨up (up M1 8 (aN A * 4 + p).toNat x) 7 (aN A).toNat (if p < f then f else p + 1), ?_, ?_, ?_, ?_, ?_, ?_, ?_, ?_, ?_⟩
  · unfold f_X3_place
    rw [grd_pos (by omega), put_in (by omega) (by omega), cal_some, fillAt_raw (f := f) h0 h1 (by rw [e7]; exact q3), cal_some, grd_pos (by omega), hmx, put_in h0 (by omega), cal_some]
  · rw [up_cell _ _ (by decide), up_cell _ _ (by decide)]; exact q1
  · rw [up_cell _ _ (by decide), up_cell _ _ (by decide)]; exact q2
  · exact up_same _ _ _ _
  · intro j j0 j1
    rw [up_cell _ _ (by decide), up_toNat (by omega) (by omega)]
    show _ = if j = p then x else e j
    by_cases hjp : j = p
    · rw [if_pos (by omega), if_pos hjp]
    · rw [if_neg (by omega), if_neg hjp]
      refine q4 j j0 ?_
      by_cases hc : p < f
      · rw [if_pos hc] at j1; exact j1
      · rw [if_neg hc] at j1; omega
  · rw [up_cell _ _ (by decide), up_cell _ _ (by decide)]; exact q5
  · intro k k0 k1
    obtain ⟨w1, w2, w3⟩ := q6 k k0 k1
    refine ⟨?_, ?_, ?_⟩
    · rw [up_cell _ _ (by decide), up_cell _ _ (by decide)]; exact w1
    · rw [up_toNat h0 k0, if_neg (by omega), e7]; exact w2
    · rw [up_cell _ _ (by decide), up_cell _ _ (by decide)]; exact w3
  · intro k k0 k1
    rw [up_cell _ _ (by decide), up_toNat (by omega) k0, if_neg (by omega)]
    exact q7 k k0 k1
  · intro q hq
    rw [up_cell _ _ (by omega), up_cell _ _ (by omega)]
    exact q8 q hq
theorem PN_rc {M M' : Mem} {A : AS} {l f : Int} {e e' : Int → Int} (h : RC M A) (h0 : 0 ≤ aN A) (hp : PN M A l f e M') (hf4 : ∀ k, 0 ≤ k → k < aN A → flA A k ≤ 4) (he : ∀ j, 0 ≤ j → j < f → e j = e' j) : RC M' (addN A l f e') := by
  obtain ⟨q1, q2, q3, q4, q5, q6, q7, q8⟩ := hp
  obtain ⟨r1, r2, ⟨s1, s2, s3, s4⟩, r4, r5⟩ := h
  have e8 : ∀ j, 5 ≤ j → M' (5 + j) = M (5 + j) := fun j hj => q8 _ (by omega)
  refine ⟨q1, by rw [q8 10 (by decide)]; exact r2, ⟨fun k k0 k1 => ?_, fun v v0 v1 => ?_, ?_, fun v v0 v1 i i0 i1 => ?_⟩, fun k k0 k1 => ?_, fun v v0 v1 => by rw [q8 18 (by decide)]; exact r5 v v0 v1⟩
  · rw [addN_N] at k1
    show M' 6 k.toNat = _ ∧ M' 7 k.toNat = _ ∧ ∀ j : Int, _ → _ → M' 8 (k * 4 + j).toNat = _
    by_cases hk : k = aN A
    · rw [hk, addN_lv, addN_fl]
      refine ⟨q2, q3, fun j j0 j1 => ?_⟩
      rw [addN_en _ _ _ _ j0, ← he j j0 j1]
      exact q4 j j0 j1
    · obtain ⟨w1, w2, w3⟩ := s1 k k0 (by omega)
      obtain ⟨p1, p2, -⟩ := q6 k k0 (by omega)
      have hfl : flA (addN A l f e') k = flA A k := addN_old hk 1
      rw [show lvA (addN A l f e') k = lvA A k from addN_old hk 0, hfl, p1, p2]
      refine ⟨w1, w2, fun j j0 j1 => ?_⟩
      have := hf4 k k0 (by omega)
      rw [show enA (addN A l f e') k j = enA A k j from addN_old hk _, q7 _ (by omega) (by omega)]
      exact w3 j j0 j1
  · show M' (5 + 6) v.toNat = _ ∧ M' (5 + 7) v.toNat = _ ∧ M' (5 + 8) v.toNat = _ ∧ M' (5 + 9) v.toNat = _
    rw [e8 6 (by decide), e8 7 (by decide), e8 8 (by decide), e8 9 (by decide)]
    exact s2 v v0 v1
  · show M' (5 + 10) 0 = -1 ∧ ∀ i : Int, _ → _ → M' (5 + 12) i.toNat = _
    rw [e8 10 (by decide), e8 12 (by decide)]
    exact s3
  · show (M' (5 + 10) v.toNat = i ∧ M' (5 + 11) v.toNat = _) ∨ (M' (5 + 10) v.toNat ≠ i ∧ _)
    rw [e8 10 (by decide), e8 11 (by decide)]
    exact s4 v v0 v1 i i0 i1
  · rw [addN_N] at k1
    by_cases hk : k = aN A
    · rw [hk, addN_co]; exact q5
    · rw [show coA (addN A l f e') k = coA A k from addN_old hk 2, (q6 k k0 (by omega)).2.2]
      exact r4 k k0 (by omega)
/-- what stands for the nodes of A while others are made -/
theorem addCopy_C {M : Mem} {A : AS} (h : RC M A) (h0 : 0 ≤ aN A) (h1 : aN A < 138) (hfl : ∀ k, 0 ≤ k → k < aN A → 1 ≤ flA A k ∧ flA A k ≤ 4) {old kept p l x : Int} (ho : (old < 0 ∧ kept = 0) ∨ (0 ≤ old ∧ old < aN A ∧ 0 ≤ kept ∧ kept ≤ flA A old)) (hp : 0 ≤ p) (hpk : p ≤ kept) (hp3 : p ≤ 3) (hfu : 1000 ≤ fu) :
    ∃ M', f_X3_addCopy fu M old l kept p x = some (M', aN A) ∧ RC M' (addN A l (if p < kept then kept else p + 1) (fun j => if j = p then x else enA A old j)) ∧ ∀ q, q < 5 ∨ 9 < q → M' q = M q := by
  have hk4 : 0 ≤ kept ∧ kept ≤ 4 := by
    rcases ho with ho | ⟨o1, o2, o3, o4⟩
    · omega
    · have := hfl old o1 o2; omega
  obtain ⟨M1, e1, p1⟩ := PN_add (fu := fu) h.1 h0 h1 l (fun j => enA A old j)
  unfold f_X3_addCopy
  rw [e1, cal_some]
  have := lp_mem (F := fun n i M' => f_X3_addCopy_L10 fu n old kept p x (aN A) i M')
    (fun i M' => PN M A l i (fun j => enA A old j) M') kept
    (Q := fun o => ∃ M', o = (M', aN A) ∧ PN M A l (if p < kept then kept else p + 1) (fun j => if j = p then x else enA A old j) M')
    (fun n i M2 i0 i1 hP => by
      rcases ho with ho | ⟨o1, o2, o3, o4⟩
      · omega
      · obtain ⟨q1, q2, q3, q4, q5, q6, q7, q8⟩ := hP
        obtain ⟨w1, w2, w3⟩ := h.2.2.1.1 old o1 o2
        have hf := hfl old o1 o2
        have r7 : M2 7 old.toNat = flA A old := by rw [(q6 old o1 o2).2.1]; exact w2
        have r8 : M2 8 (old * 4 + i).toNat = enA A old i := by rw [q7 _ (by omega) (by omega)]; exact w3 i i0 (by omega)
        obtain ⟨M3, e3, p3⟩ := PN_place (fu := fu) h0 h1 (⟨q1, q2, q3, q4, q5, q6, q7, q8⟩ : PN M A l i (fun j => enA A old j) M2) (p := i) (enA A old i) i0 (Int.le_refl _) (by omega) (by omega)
        rw [if_neg (Int.lt_irrefl _)] at p3
        refine ⟨M3, ?_, ?_⟩
        · show f_X3_addCopy_L10 fu (n + 1) old kept p x (aN A) i M2 = _
          rw [f_X3_addCopy_L10, if_neg (by omega), entryAt_raw o1 (by omega) r7 hf.2 i0 (by omega) r8, cal_some, e3, cal_some, grd_pos (by omega)]
        · obtain ⟨z1, z2, z3, z4, z5⟩ := p3
          refine ⟨z1, z2, z3, fun j j0 j1 => ?_, z5⟩
          rw [z4 j j0 j1]
          show (if j = i then enA A old i else enA A old j) = enA A old j
          by_cases hji : j = i
          · rw [if_pos hji, hji]
          · rw [if_neg hji])
    (fun n M2 hP => by
      obtain ⟨M3, e3, p3⟩ := PN_place (fu := fu) h0 h1 hP (p := p) x hp hpk hp3 hk4.2
      refine ⟨(M3, aN A), ?_, M3, rfl, p3⟩
      show f_X3_addCopy_L10 fu (n + 1) old kept p x (aN A) kept M2 = _
      rw [f_X3_addCopy_L10, if_pos (Int.le_refl _), e3, cal_some]) fu 0 M1 (by omega) (by omega) (by omega) p1
  obtain ⟨o, e, M', rfl, hP⟩ := this
  exact ⟨M', e, PN_rc h h0 hP (fun k k0 k1 => (hfl k k0 k1).2) (fun _ _ _ => rfl), hP.2.2.2.2.2.2.2⟩
theorem gN_fl {A : AS} (hN : gN A) {k : Int} (h0 : 0 ≤ k) (h1 : k < aN A) : 1 ≤ flA A k ∧ flA A k ≤ 4 := by
  obtain ⟨-, l, -, -, q1, q2, -⟩ := hN k h0 h1
  exact ⟨q1, q2⟩
theorem pos_ar0 {l : Nat} (hl : l < 3) (i : Int) : i / pw l % 4 = i % pw (l + 1) / pw l ∧ (0 < l → i % pw (l + 1) % pw l = i % pw l) ∧ 0 ≤ i % pw (l + 1) ∧ i % pw (l + 1) < pw (l + 1) := by
  rcases l_cases hl with rfl | rfl | rfl <;> simp only [pw] <;> omega
theorem copyWithElement_C {A : AS} (hfu : 1000 ≤ fu) : ∀ (l d : Nat) {M : Mem} {n i x : Int}, CM M A → -999 ≤ x ∧ x ≤ 999 → l < 3 → aN A + (l + 1) ≤ 138 → (n = -1 ∧ i % pw (l + 1) = 0 ∨ okB A (aN A) (l + 1) n ∧ i % pw (l + 1) ≤ ctA A (l + 1) n) → l < d →
    ∃ M', f_X8_copyWithElement fu d M n ((l : Int) + 1) i x = some (M', (wrA (l + 1) A n (i % pw (l + 1)) x).2) ∧ RC M' (wrA (l + 1) A n (i % pw (l + 1)) x).1 ∧ ∀ q, q < 5 ∨ 9 < q → M' q = M q
  | _, 0, _, _, _, _, _, _, _, _, _, h => by omega
  | l, d + 1, M, n, i, x, h, hx, hl, hcap, hn, hd => by
    have hN := h.2.2.2.1
    have hnr := CM_nr h
    obtain ⟨a1, a2, a3, a4⟩ := pos_ar0 hl i
    -- the facts of wrA, as a whole and at the child
    have hJ : ∀ (M1 : Mem) (A1 : AS) (c' f p : Int), RC M1 A1 → ext A A1 → gN A1 → aN A1 < 138 → (f = if n = -1 then 0 else flA A n) → 0 ≤ p → p ≤ f → p ≤ 3 → (∀ q, q < 5 ∨ 9 < q → M1 q = M q) →
        ∃ M', f_X8_copyWithElement_J38 fu (f_X8_copyWithElement fu d) n ((l : Int) + 1) p c' M1 = some (M', aN A1) ∧ RC M' (addN A1 ((l : Int) + 1) (if p < f then f else p + 1) (fun j => if j = p then c' else enA A n j)) ∧ ∀ q, q < 5 ∨ 9 < q → M' q = M q := by
      intro M1 A1 c' f p g1 hext hN1 hc1 hf hp0 hpf hp3 hfr
      have h01 : 0 ≤ aN A1 := by have := hext.1; omega
      unfold f_X8_copyWithElement_J38
      rcases hn with ⟨hn, -⟩ | ⟨hn, -⟩
      · rw [hn, if_pos rfl] at hf
        subst hf
        obtain ⟨M2, e2, r2, fr2⟩ := addCopy_C (fu := fu) g1 h01 hc1 (fun k k0 k1 => gN_fl hN1 k0 k1) (old := n) (kept := 0) (p := p) (l := (l : Int) + 1) (x := c') (Or.inl ⟨by omega, rfl⟩) hp0 hpf hp3 hfu
        refine ⟨M2, ?_, ?_, fun q hq => by rw [fr2 q hq, hfr q hq]⟩
        · rw [fillAt_none (by omega), cal_some, e2, cal_some]
        · have e9 : p = 0 := by omega
          subst e9
          rw [if_neg (Int.lt_irrefl _)] at r2 ⊢
          refine RC_addN r2 (fun j j0 j1 => ?_)
          have hj0 : j = 0 := by omega
          show (if j = 0 then c' else enA A1 n j) = if j = 0 then c' else enA A n j
          rw [if_pos hj0, if_pos hj0]
      · have hnx := hn.1
        have hnb := hn.2.1
        rw [if_neg (by omega)] at hf
        subst hf
        have hfe := ext_fl hext hnx hnb
        have w7 : M1 7 n.toNat = flA A1 n := (g1.2.2.1.1 n hnx (by have := hext.1; omega)).2.1
        have g7 : M1 7 n.toNat = flA A n := w7.trans hfe
        obtain ⟨M2, e2, r2, fr2⟩ := addCopy_C (fu := fu) g1 h01 hc1 (fun k k0 k1 => gN_fl hN1 k0 k1) (old := n) (kept := flA A n) (p := p) (l := (l : Int) + 1) (x := c') (Or.inr ⟨hnx, by have := hext.1; omega, by have := gN_fl hN hnx hnb; omega, by rw [hfe]; exact Int.le_refl _⟩) hp0 hpf hp3 hfu
        refine ⟨M2, ?_, ?_, fun q hq => by rw [fr2 q hq, hfr q hq]⟩
        · rw [fillAt_raw hnx (by omega) g7, cal_some, e2, cal_some]
        · refine RC_addN r2 (fun j j0 j1 => ?_)
          show (if j = p then c' else enA A1 n j) = if j = p then c' else enA A n j
          rw [ext_en hext hnx hnb j0]
    rw [f_X8_copyWithElement, positionIn_C hl, cal_some, a1]
    -- the place and the filling
    have hpl : ∀ f, (f = if n = -1 then 0 else flA A n) → 0 ≤ i % pw (l + 1) / pw l ∧ i % pw (l + 1) / pw l ≤ f ∧ i % pw (l + 1) / pw l ≤ 3 := by
      intro f hf
      rcases hn with ⟨hn, hi⟩ | ⟨hn, hi⟩
      · rw [hi, Int.zero_ediv]
        rw [hn, if_pos rfl] at hf
        omega
      · have hnx := hn.1
        rw [if_neg (by omega)] at hf
        obtain ⟨k1, k2, k3, k4⟩ := okB_nod hN (Int.le_refl _) hn
        have hlast := k4 (flA A n - 1) (by omega) (by omega)
        have hcl := ctA_rng hN l (b := n) (by have := hn.2.1; omega) hlast.1
        obtain ⟨w1, w2, w3, -⟩ := wr_ar hl k2 k3 hcl.1 hcl.2 (c := ctA A (l + 1) n) rfl a3 hi a4
        subst hf
        exact ⟨w1, w2, w3⟩
    cases l with
    | zero =>
      rw [if_pos (by decide)]
      obtain ⟨b1, b2, b3⟩ := hpl _ rfl
      obtain ⟨M', e', r', fr'⟩ := hJ M A x _ _ h.1 (ext_refl A) hN (by omega) rfl b1 b2 b3 (fun _ _ => rfl)
      exact ⟨M', e', r', fr'⟩
    | succ l =>
      rw [if_neg (by omega)]
      -- the child that is there, or none
      generalize hf : (if n = -1 then (0 : Int) else flA A n) = f at hpl
      obtain ⟨b1, b2, b3⟩ := hpl f rfl
      generalize hp : i % pw (l + 1 + 1) / pw (l + 1) = p at *
      have hcn : f_X3_childAt fu M n p = some (M, if p < f then enA A n p else -1) := by
        rcases hn with ⟨hn, hi⟩ | ⟨hn, hi⟩
        · rw [childAt_none (by omega)]
          rw [hn, if_pos rfl] at hf
          rw [if_neg (by omega)]
        · have hnx := hn.1
          have hnl := hn.2.2
          rw [if_neg (by omega)] at hf
          rw [childAt_C h hnx hn.2.1]
          unfold chA
          by_cases hpf : p < f
          · rw [if_pos ⟨by omega, b1, by omega⟩, if_pos hpf]
          · rw [if_neg (by omega), if_neg hpf]
      have hchild : (if p < f then enA A n p else -1) = -1 ∧ i % pw (l + 1) = 0 ∨ okB A (aN A) (l + 1) (if p < f then enA A n p else -1) ∧ i % pw (l + 1) ≤ ctA A (l + 1) (if p < f then enA A n p else -1) := by
        have hmm := a2 (by omega)
        rcases hn with ⟨hn, hi⟩ | ⟨hn, hi⟩
        · rw [hn, if_pos rfl] at hf
          rw [if_neg (by omega)]
          refine Or.inl ⟨rfl, ?_⟩
          rw [← hmm, hi]
          exact Int.zero_emod _
        · have hnx := hn.1
          have hnb := hn.2.1
          rw [if_neg (by omega)] at hf
          subst hf
          obtain ⟨k1, k2, k3, k4⟩ := okB_nod hN (Int.le_refl _) hn
          have hlast := k4 (flA A n - 1) (by omega) (by omega)
          have hcl := ctA_rng hN (l + 1) (b := n) (by omega) hlast.1
          obtain ⟨w1, w2, w3, w4, w5, w6, w7, w8⟩ := wr_ar hl k2 k3 hcl.1 hcl.2 (c := ctA A (l + 1 + 1) n) rfl a3 hi a4
          rw [hp] at w1 w2 w3 w6 w7 w8
          rw [← hmm]
          by_cases hpf : p < flA A n
          · rw [if_pos hpf]
            have hch := k4 p w1 hpf
            refine Or.inr ⟨okB_mono (by omega) hch.1, ?_⟩
            by_cases hpl9 : p = flA A n - 1
            · rw [hpl9]; exact (w7 hpl9).1
            · rw [hch.2 (by omega)]; omega
          · rw [if_neg hpf]
            exact Or.inl ⟨rfl, (w8 (by omega)).1⟩
      obtain ⟨M1, e1, r1, fr1⟩ := copyWithElement_C hfu l d (n := if p < f then enA A n p else -1) (i := i) (x := x) h hx (by omega) (by omega) hchild (by omega)
      have es : ((l + 1 : Nat) : Int) + 1 - 1 = (l : Int) + 1 := by omega
      rw [hcn, cal_some, grd_pos (by omega), es, e1, cal_some]
      -- what wrA says of the child
      have hW := wrA_spec (l + 1) (by omega) hN hnr.1 (n := if p < f then enA A n p else -1) (i := i % pw (l + 1)) (x := x) (c := if (if p < f then enA A n p else -1) = -1 then 0 else ctA A (l + 1) (if p < f then enA A n p else -1)) hx (by have := pw_pos (l + 1); exact Int.emod_nonneg _ (by omega)) (by
          rcases hchild with ⟨c1, c2⟩ | ⟨c1, c2⟩
          · rw [if_pos c1]; omega
          · rw [if_neg (by have := c1.1; omega)]; exact c2) (Int.emod_lt_of_pos _ (pw_pos _)) (by
          rcases hchild with ⟨c1, c2⟩ | ⟨c1, c2⟩
          · exact Or.inr (Or.inl ⟨by omega, c1, by rw [if_pos c1]⟩)
          · exact Or.inr (Or.inr ⟨by omega, c1, by rw [if_neg (by have := c1.1; omega)]⟩))
      obtain ⟨m1, m2, -, -⟩ := hW
      have hmm := a2 (by omega)
      have hwr : wrA (l + 1 + 1) A n (i % pw (l + 1 + 1)) x = (addN (wrA (l + 1) A (if p < f then enA A n p else -1) (i % pw (l + 1)) x).1 (((l + 1 : Nat) : Int) + 1) (if p < f then f else p + 1) (fun j => if j = p then (wrA (l + 1) A (if p < f then enA A n p else -1) (i % pw (l + 1)) x).2 else enA A n j), aN (wrA (l + 1) A (if p < f then enA A n p else -1) (i % pw (l + 1)) x).1) := by
        rw [wrA, hp, hf, hmm]
      obtain ⟨M', e', r', fr'⟩ := hJ M1 _ (wrA (l + 1) A (if p < f then enA A n p else -1) (i % pw (l + 1)) x).2 f p r1 m1.1 m1.2.1 (by rw [m2]; omega) hf.symm b1 b2 b3 fr1
      rw [hwr]
      exact ⟨M', e', r', fr'⟩
end CMut
