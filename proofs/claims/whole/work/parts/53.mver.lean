/-! the model makes versions -/
section MVer
variable {fu : Nat}
theorem addVersion_M {M : Mem} {A : AS} (h : MR M A) (hv40 : aV A < 40) {pa s rt first : Int} (hpa : pa = -1 ∨ 0 ≤ pa ∧ pa < aV A) (hs : 0 ≤ s ∧ s ≤ 64) (hfirst : 0 ≤ first ∧ first ≤ aN A) (hfu : 1000 ≤ fu) :
    ∃ M', f_X12_addVersion fu M pa s rt first = some (M', aV A) ∧ MR M' (addV A pa rt s (aN A - first) (fun i => if pa ≠ -1 ∧ i < szA A pa then ev A pa i else 0)) ∧ only 53 M M' := by
  obtain ⟨⟨r1, r2, r3, r4⟩, ⟨h0, h138⟩, ⟨hv0, hv40'⟩, hsz, hfl⟩ := h
  have hv : M 53 (0 : Int).toNat = aV A := r1
  have hn : M 53 (1 : Int).toNat = aN A := r2
  generalize hV : 10 + 6 * aV A = V
  have hVr : 10 ≤ V ∧ V ≤ 10 + 6 * 39 := by omega
  unfold f_X12_addVersion
  rw [grd_pos (by decide), hv, v_M hv0 (by omega), cal_some, hV, grd_pos (by omega), grd_pos (by omega), grd_pos (by omega), grd_pos (by omega), heightFor_M hs.1 hs.2 hfu, cal_some, grd_pos (by omega), grd_pos (by omega), grd_pos (by omega), grd_pos (by omega), grd_pos (by omega), grd_pos (by omega), grd_pos (by decide), grd_pos (by omega), grd_pos (by omega)]
  have e1 : up (up (up (up (up M 53 (V + 0).toNat s) 53 (V + 1).toNat rt) 53 (V + 2).toNat ((hgt s : Nat) : Int)) 53 (V + 3).toNat pa) 53 (V + 4).toNat 0 53 (1 : Int).toNat = aN A := by
    rw [up_toNat (by omega) (by decide), if_neg (by omega), up_toNat (by omega) (by decide), if_neg (by omega), up_toNat (by omega) (by decide), if_neg (by omega), up_toNat (by omega) (by decide), if_neg (by omega), up_toNat (by omega) (by decide), if_neg (by omega)]
    exact hn
  rw [e1, grd_pos (by omega)]
  have g0 : ∀ i : Int, 0 ≤ i → up (up (up (up (up (up M 53 (V + 0).toNat s) 53 (V + 1).toNat rt) 53 (V + 2).toNat ((hgt s : Nat) : Int)) 53 (V + 3).toNat pa) 53 (V + 4).toNat 0) 53 (V + 5).toNat (aN A - first) 53 i.toNat = if i = V + 5 then aN A - first else if i = V + 4 then 0 else if i = V + 3 then pa else if i = V + 2 then ((hgt s : Nat) : Int) else if i = V + 1 then rt else if i = V + 0 then s else M 53 i.toNat := fun i i0 => by
    rw [up_toNat (by omega) i0, up_toNat (by omega) i0, up_toNat (by omega) i0, up_toNat (by omega) i0, up_toNat (by omega) i0, up_toNat (by omega) i0]
  have o0 : only 53 M (up (up (up (up (up (up M 53 (V + 0).toNat s) 53 (V + 1).toNat rt) 53 (V + 2).toNat ((hgt s : Nat) : Int)) 53 (V + 3).toNat pa) 53 (V + 4).toNat 0) 53 (V + 5).toNat (aN A - first)) := fun q hq => by
    rw [up_cell _ _ hq, up_cell _ _ hq, up_cell _ _ hq, up_cell _ _ hq, up_cell _ _ hq, up_cell _ _ hq]
  generalize up (up (up (up (up (up M 53 (V + 0).toNat s) 53 (V + 1).toNat rt) 53 (V + 2).toNat ((hgt s : Nat) : Int)) 53 (V + 3).toNat pa) 53 (V + 4).toNat 0) 53 (V + 5).toNat (aN A - first) = M0 at g0 o0
  generalize hE : 250 + 64 * aV A = E
  have hEr : 250 ≤ E ∧ E ≤ 250 + 64 * 39 := by omega
  have := lp_mem (F := fun n i M' => f_X12_addVersion_L89 fu n pa s (aV A) i M')
    (fun i M' => only 53 M M' ∧ (∀ j, 0 ≤ j → j < i → M' 53 (E + j).toNat = if pa ≠ -1 ∧ j < imin s (szA A pa) then ev A pa j else 0) ∧ ∀ k : Int, 0 ≤ k → (k < E ∨ E + 64 ≤ k) → M' 53 k.toNat = M0 53 k.toNat) 64
    (Q := fun o => ∃ M', o = (M', aV A) ∧ only 53 M M' ∧ (∀ j, 0 ≤ j → j < 64 → M' 53 (E + j).toNat = if pa ≠ -1 ∧ j < imin s (szA A pa) then ev A pa j else 0) ∧ M' 53 0 = aV A + 1 ∧ ∀ k : Int, 0 ≤ k → k ≠ 0 → (k < E ∨ E + 64 ≤ k) → M' 53 k.toNat = M0 53 k.toNat)
    (fun n i M1 i0 i1 hP => by
      obtain ⟨p1, p2, p3⟩ := hP
      have hst : ∀ z, (z = if pa ≠ -1 ∧ i < imin s (szA A pa) then ev A pa i else 0) → (only 53 M (up M1 53 (E + i).toNat z) ∧ (∀ j, 0 ≤ j → j < i + 1 → up M1 53 (E + i).toNat z 53 (E + j).toNat = if pa ≠ -1 ∧ j < imin s (szA A pa) then ev A pa j else 0) ∧ ∀ k : Int, 0 ≤ k → (k < E ∨ E + 64 ≤ k) → up M1 53 (E + i).toNat z 53 k.toNat = M0 53 k.toNat) := fun z hz => by
        refine ⟨only_trans p1 (only_up _ _ _ _), fun j j0 j1 => ?_, fun k k0 k1 => ?_⟩
        · rw [up_toNat (by omega) (by omega)]
          by_cases hji : j = i
          · rw [if_pos (by omega), hji]; exact hz
          · rw [if_neg (by omega)]; exact p2 j j0 (by omega)
        · rw [up_toNat (by omega) k0, if_neg (by omega)]; exact p3 k k0 k1
      have hno : ¬ (pa ≠ -1 ∧ i < imin s (szA A pa)) → f_X12_addVersion_J119 fu (f_X12_addVersion_L89 fu n) pa s (aV A) i M1 = f_X12_addVersion_L89 fu n pa s (aV A) (i + 1) (up M1 53 (E + i).toNat 0) := fun _ => by
        unfold f_X12_addVersion_J119 f_X12_addVersion_J120
        rw [e_M hv0 (by omega), cal_some, if_pos rfl, hE, grd_pos (by omega), grd_pos (by omega), grd_pos (by omega)]
      by_cases hp1 : pa = -1
      · refine ⟨up M1 53 (E + i).toNat 0, ?_, hst 0 (by rw [if_neg (fun q => q.1 hp1)])⟩
        show f_X12_addVersion_L89 fu (n + 1) pa s (aV A) i M1 = _
        rw [f_X12_addVersion_L89, if_neg (by omega), if_pos hp1]
        exact hno (fun q => q.1 hp1)
      · obtain ⟨pa0, pa1⟩ : 0 ≤ pa ∧ pa < aV A := by
          rcases hpa with q | q
          · exact absurd q hp1
          · exact q
        have hz := hsz pa pa0 pa1
        obtain ⟨w0, w1, w2, w3, w4, w5, w6⟩ := r3 pa pa0 pa1
        have hlen : f_X12_lengthOf fu M1 pa = some (M1, szA A pa) := by
          unfold f_X12_lengthOf
          rw [v_M pa0 (by omega), cal_some, grd_pos (by omega), grd_pos (by omega), p3 _ (by omega) (by omega), g0 _ (by omega), if_neg (by omega), if_neg (by omega), if_neg (by omega), if_neg (by omega), if_neg (by omega), if_neg (by omega), w0]
        by_cases hi : imin s (szA A pa) ≤ i
        · refine ⟨up M1 53 (E + i).toNat 0, ?_, hst 0 (by rw [if_neg (fun q => by have := q.2; omega)])⟩
          show f_X12_addVersion_L89 fu (n + 1) pa s (aV A) i M1 = _
          rw [f_X12_addVersion_L89, if_neg (by omega), if_neg hp1, hlen, cal_some, if_pos hi]
          exact hno (fun q => by have := q.2; omega)
        · have hil : i < szA A pa := by have := imin_le s (szA A pa); omega
          have hel : f_X12_element fu M1 pa i = some (M1, ev A pa i) := by
            unfold f_X12_element
            rw [e_M pa0 (by omega), cal_some, grd_pos (by omega), grd_pos (by omega), p3 _ (by omega) (by omega), g0 _ (by omega), if_neg (by omega), if_neg (by omega), if_neg (by omega), if_neg (by omega), if_neg (by omega), if_neg (by omega), w6 i i0 hil]
          refine ⟨up M1 53 (E + i).toNat (ev A pa i), ?_, hst _ (by rw [if_pos ⟨hp1, by omega⟩])⟩
          show f_X12_addVersion_L89 fu (n + 1) pa s (aV A) i M1 = _
          rw [f_X12_addVersion_L89, if_neg (by omega), if_neg hp1, hlen, cal_some, if_neg hi]
          unfold f_X12_addVersion_J120
          rw [e_M hv0 (by omega), cal_some, if_neg (by decide), hel, cal_some, hE, grd_pos (by omega), grd_pos (by omega), grd_pos (by omega)])
    (fun n M1 hP => by
      obtain ⟨p1, p2, p3⟩ := hP
      have e0 : M1 53 (0 : Int).toNat = aV A := by
        rw [p3 0 (by decide) (by omega), g0 0 (by decide), if_neg (by omega), if_neg (by omega), if_neg (by omega), if_neg (by omega), if_neg (by omega), if_neg (by omega)]
        exact hv
      refine ⟨(up M1 53 (0 : Int).toNat (aV A + 1), aV A), ?_, _, rfl, only_trans p1 (only_up _ _ _ _), fun j j0 j1 => ?_, up_same _ _ _ _, fun k k0 k1 k2 => ?_⟩
      · show f_X12_addVersion_L89 fu (n + 1) pa s (aV A) 64 M1 = _
        rw [f_X12_addVersion_L89, if_pos (by decide), grd_pos (by decide), grd_pos (by decide), e0, grd_pos (by omega)]
      · rw [up_toNat (by decide) (by omega), if_neg (by omega)]; exact p2 j j0 j1
      · rw [up_toNat (by decide) k0, if_neg k1]; exact p3 k k0 k2) fu 0 M0 (by omega) (by omega) (by omega)
    ⟨o0, fun j j0 j1 => by omega, fun _ _ _ => rfl⟩
  obtain ⟨o, eq, M', rfl, q1, q2, q3, q4⟩ := this
  have g1 : ∀ k : Int, 0 ≤ k → k ≠ 0 → (k < E ∨ E + 64 ≤ k) → (k < V ∨ V + 6 ≤ k) → M' 53 k.toNat = M 53 k.toNat := fun k k0 k1 k2 k3 => by
    rw [q4 k k0 k1 k2, g0 k k0, if_neg (by omega), if_neg (by omega), if_neg (by omega), if_neg (by omega), if_neg (by omega), if_neg (by omega)]
  refine ⟨M', eq, ⟨⟨q3, ?_, fun v v0 v1 => ?_, fun k k0 k1 => ?_⟩, ⟨h0, h138⟩, ⟨by rw [addV_V]; omega, by rw [addV_V]; omega⟩, fun v v0 v1 => ?_, hfl⟩, q1⟩
  · have := g1 1 (by decide) (by decide) (by omega) (by omega)
    exact this.trans hn
  · rw [addV_V] at v1
    by_cases hva : v = aV A
    · subst hva
      rw [addV_sz, addV_rt, addV_pa, addV_rl, addV_cr, hV, hE]
      refine ⟨?_, ?_, ?_, ?_, ?_, ?_, fun i i0 i1 => ?_⟩
      · rw [q4 _ (by omega) (by omega) (by omega), g0 _ (by omega), if_neg (by omega), if_neg (by omega), if_neg (by omega), if_neg (by omega), if_neg (by omega), if_pos rfl]
      · rw [q4 _ (by omega) (by omega) (by omega), g0 _ (by omega), if_neg (by omega), if_neg (by omega), if_neg (by omega), if_neg (by omega), if_pos rfl]
      · rw [q4 _ (by omega) (by omega) (by omega), g0 _ (by omega), if_neg (by omega), if_neg (by omega), if_neg (by omega), if_pos rfl]
      · rw [q4 _ (by omega) (by omega) (by omega), g0 _ (by omega), if_neg (by omega), if_neg (by omega), if_pos rfl]
      · rw [q4 _ (by omega) (by omega) (by omega), g0 _ (by omega), if_neg (by omega), if_pos rfl]
      · rw [q4 _ (by omega) (by omega) (by omega), g0 _ (by omega), if_pos rfl]
      · rw [addV_e, q2 i i0 (by omega)]
        have him := imin_le s (szA A pa)
        by_cases hc : pa ≠ -1 ∧ i < szA A pa
        · rw [if_pos hc, if_pos ⟨hc.1, by omega⟩]
        · rw [if_neg hc, if_neg (fun z => hc ⟨z.1, by omega⟩)]
    · obtain ⟨w0, w1, w2, w3, w4, w5, w6⟩ := r3 v v0 (by omega)
      have hz := hsz v v0 (by omega)
      have e0 : szA (addV A pa rt s (aN A - first) (fun i => if pa ≠ -1 ∧ i < szA A pa then ev A pa i else 0)) v = szA A v := addV_vf hva 0
      rw [e0, g1 _ (by omega) (by omega) (by omega) (by omega), g1 _ (by omega) (by omega) (by omega) (by omega), g1 _ (by omega) (by omega) (by omega) (by omega), g1 _ (by omega) (by omega) (by omega) (by omega), g1 _ (by omega) (by omega) (by omega) (by omega), g1 (10 + 6 * v + 5) (by omega) (by omega) (by omega) (by omega)]
      refine ⟨w0, w1.trans (addV_vf hva 1).symm, w2, w3.trans (addV_vf hva 2).symm, w4.trans (addV_vf hva 3).symm, w5.trans (addV_vf hva 4).symm, fun i i0 i1 => ?_⟩
      rw [g1 _ (by omega) (by omega) (by omega) (by omega), addV_ev hva]
      exact w6 i i0 i1
  · have k1' : k < aN A := k1
    obtain ⟨w0, w1, w2, w3⟩ := r4 k k0 k1'
    have hf := hfl k k0 k1'
    rw [g1 _ (by omega) (by omega) (by omega) (by omega), g1 _ (by omega) (by omega) (by omega) (by omega), g1 (2810 + 7 * k + 6) (by omega) (by omega) (by omega) (by omega)]
    refine ⟨w0, w1, fun j j0 j1 => ?_, w3⟩
    have j1' : j < flA A k := j1
    rw [g1 _ (by omega) (by omega) (by omega) (by omega)]
    exact w2 j j0 j1
  · rw [addV_V] at v1
    by_cases hva : v = aV A
    · subst hva
      rw [addV_sz]; exact hs
    · rw [show szA (addV A pa rt s (aN A - first) (fun i => if pa ≠ -1 ∧ i < szA A pa then ev A pa i else 0)) v = szA A v from addV_vf hva 0]
      exact hsz v v0 (by omega)
theorem MR_addV {M : Mem} {A : AS} {pa rt s cr : Int} {e e' : Int → Int} (h : MR M (addV A pa rt s cr e)) (he : ∀ j, 0 ≤ j → j < s → e j = e' j) : MR M (addV A pa rt s cr e') := by
  refine ⟨repM_as h.1 rfl rfl rfl (fun v v0 v1 i i0 i1 => ?_) (fun k k0 k1 => ⟨rfl, rfl, rfl, fun _ _ _ => rfl⟩), h.2⟩
  by_cases hva : v = aV A
  · subst hva
    rw [addV_sz] at i1
    rw [addV_e, addV_e, he i i0 i1]
  · rw [addV_ev hva, addV_ev hva]
/-- one element of the newest version written over -/
theorem MR_put {M : Mem} {A : AS} {pa rt s cr : Int} {e : Int → Int} (h : MR M (addV A pa rt s cr e)) (hV : 0 ≤ aV A ∧ aV A < 40) {i x : Int} (hi : 0 ≤ i ∧ i < s) : MR (up M 53 (250 + 64 * aV A + i).toNat x) (addV A pa rt s cr (setE e i x)) := by
  obtain ⟨⟨r1, r2, r3, r4⟩, h1, h2, hsz, hfl⟩ := h
  have hss := hsz (aV A) hV.1 (by rw [addV_V]; omega)
  rw [addV_sz] at hss
  have g : ∀ k : Int, 0 ≤ k → k ≠ 250 + 64 * aV A + i → up M 53 (250 + 64 * aV A + i).toNat x 53 k.toNat = M 53 k.toNat := fun k k0 k1 => by
    rw [up_toNat (by omega) k0, if_neg k1]
  refine ⟨⟨?_, ?_, fun v v0 v1 => ?_, fun k k0 k1 => ?_⟩, h1, h2, hsz, hfl⟩
  · have := g 0 (by decide) (by omega)
    exact this.trans r1
  · have := g 1 (by decide) (by omega)
    exact this.trans r2
  · have v1' : v < aV A + 1 := v1
    obtain ⟨w0, w1, w2, w3, w4, w5, w6⟩ := r3 v v0 v1
    have hz := hsz v v0 v1
    rw [g _ (by omega) (by omega), g _ (by omega) (by omega), g _ (by omega) (by omega), g _ (by omega) (by omega), g _ (by omega) (by omega), g (10 + 6 * v + 5) (by omega) (by omega)]
    refine ⟨w0, w1, w2, w3, w4, w5, fun j j0 j1 => ?_⟩
    have j1' : j < szA (addV A pa rt s cr e) v := j1
    by_cases hva : v = aV A
    · subst hva
      have hj := w6 j j0 j1'
      rw [addV_e] at hj ⊢
      unfold setE
      by_cases hji : j = i
      · rw [hji, up_same, if_pos rfl]
      · rw [g _ (by omega) (by omega), if_neg hji]; exact hj
    · rw [g _ (by omega) (by omega)]
      have hj := w6 j j0 j1'
      rw [addV_ev hva] at hj ⊢
      exact hj
  · have k1' : k < aN A := k1
    obtain ⟨w0, w1, w2, w3⟩ := r4 k k0 k1
    have hf := hfl k k0 k1
    rw [g _ (by omega) (by omega), g _ (by omega) (by omega), g (2810 + 7 * k + 6) (by omega) (by omega)]
    refine ⟨w0, w1, fun j j0 j1 => ?_, w3⟩
    rw [g _ (by omega) (by omega)]
    exact w2 j j0 j1
theorem MR_sz {M : Mem} {A1 : AS} (h : MR M A1) {v : Int} (h0 : 0 ≤ v) (h1 : v < aV A1) : f_X12_lengthOf fu M v = some (M, szA A1 v) := by
  have hv := h.2.2.1
  unfold f_X12_lengthOf
  rw [v_M h0 (by omega), cal_some, grd_pos (by omega), grd_pos (by omega), (h.1.2.2.1 v h0 h1).1]
theorem makeSet_M {M : Mem} {A : AS} (hfu : 1000 ≤ fu) (h : MM M A) (hV : aV A < 40) {v i x : Int} (hv : 0 ≤ v ∧ v < aV A) (hl : rlA A v = 0) (hi : 0 ≤ i ∧ i < szA A v) (hx : -999 ≤ x ∧ x ≤ 999) :
    ∃ M', f_X12_makeSet fu M v i x = some (M', aV A) ∧ MM M' (mkS A v i x) ∧ frM M M' := by
  have hG := h.2
  have hnr := MM_nr h
  have hvr := MM_vr h
  have gv := G_V hG hv.1 hv.2
  obtain ⟨l, l1, l2, l3, l4, l5, l6, -⟩ := G_tree hG hv.1 hv.2 (by omega)
  have hGood := Good_mkS hG hV hv hl hi hx
  have hJ : ∀ (M1 : Mem) (A1 : AS) (rt : Int), MR M1 A1 → (aV A1 = aV A ∧ vf A1 = vf A ∧ ev A1 = ev A) → aN A ≤ aN A1 → frM M M1 →
      ∃ M', f_X12_makeSet_J54 fu v i x (aN A) rt M1 = some (M', aV A) ∧ MR M' (addV A1 v rt (szA A v) (aN A1 - aN A) (setE (ev A v) i x)) ∧ frM M M' := by
    intro M1 A1 rt r1 ⟨m3, m4, m5⟩ hle f1
    have e0 : szA A1 v = szA A v := by unfold szA; rw [m4]
    unfold f_X12_makeSet_J54
    rw [MR_sz r1 hv.1 (by rw [m3]; exact hv.2), cal_some, e0]
    obtain ⟨M2, e2, r2, o2⟩ := addVersion_M (fu := fu) r1 (by rw [m3]; exact hV) (pa := v) (s := szA A v) (rt := rt) (first := aN A) (Or.inr ⟨hv.1, by rw [m3]; exact hv.2⟩) gv.1 ⟨hnr.1, hle⟩ hfu
    rw [e2, cal_some, m3, e_M (by omega) (by omega), cal_some, grd_pos (by omega), grd_pos (by omega)]
    have r3 := MR_put r2 (by rw [m3]; omega) (i := i) (x := x) ⟨hi.1, hi.2⟩
    rw [m3] at r3
    refine ⟨_, rfl, MR_addV r3 (fun j j0 j1 => ?_), fun q q1 q2 => by rw [up_cell _ _ q1, o2 q q1, f1 q q1 q2]⟩
    unfold setE
    by_cases hji : j = i
    · rw [if_pos hji, if_pos hji]
    · rw [if_neg hji, if_neg hji]
      show (if v ≠ -1 ∧ j < szA A1 v then ev A1 v j else 0) = ev A v j
      rw [if_pos ⟨by omega, by omega⟩, m5]
  unfold f_X12_makeSet
  rw [grd_pos (by decide), element_M h hv.1 hv.2 hi.1 hi.2, cal_some, MM_n h]
  unfold mkS at hGood ⊢
  by_cases he : ev A v i = x
  · rw [if_pos he] at hGood ⊢
    rw [if_pos he]
    unfold f_X12_makeSet_J23
    rw [if_neg (by decide), root_M h hv.1 hv.2, cal_some]
    obtain ⟨M', e', r', f'⟩ := hJ M A (rtA A v) (MR_of h) ⟨rfl, rfl, rfl⟩ (Int.le_refl _) (frM_refl M)
    rw [Int.sub_self] at r'
    exact ⟨M', e', ⟨r'.1, hGood⟩, f'⟩
  · rw [if_neg he] at hGood ⊢
    rw [if_neg he]
    unfold f_X12_makeSet_J23
    have eh : ((hgt (szA A v) : Nat) : Int) = (l : Int) + 1 := by omega
    have hcap : aN A + (l + 1) ≤ 138 := by have := hG.2.1.2; omega
    obtain ⟨M1, e1, r1, f1⟩ := replaced_M hfu l 8 (n := rtA A v) (i := i) (x := x) h hx l2 hcap l3 hi.1 (by omega) (by omega)
    rw [if_pos rfl, root_M h hv.1 hv.2, cal_some, heightOf_M h hv.1 hv.2, cal_some, eh, e1, cal_some]
    rw [l1] at hGood ⊢
    obtain ⟨w1, w2, -, -⟩ := wrA_spec (l + 1) (by omega) hG.2.2.1 hnr.1 (n := rtA A v) (i := i) (x := x) (c := szA A v) hx hi.1 (by omega) (by omega) (Or.inr (Or.inr ⟨by omega, l3, l4.symm⟩))
    obtain ⟨M', e', r', f'⟩ := hJ M1 _ (wrA (l + 1) A (rtA A v) i x).2 r1 w1.2.2.1 w1.1.1 f1
    exact ⟨M', e', ⟨r'.1, hGood⟩, f'⟩
theorem makeAppend_M {M : Mem} {A : AS} (hfu : 1000 ≤ fu) (h : MM M A) (hV : aV A < 40) {v x : Int} (hv : 0 ≤ v ∧ v < aV A) (hl : rlA A v = 0) (hs64 : szA A v < 64) (hx : -999 ≤ x ∧ x ≤ 999) :
    ∃ M', f_X12_makeAppend fu M v x = some (M', aV A) ∧ MM M' (mkA A v x) ∧ frM M M' := by
  have hG := h.2
  have hN := hG.2.2.1
  have hnr := MM_nr h
  have hvr := MM_vr h
  have gv := G_V hG hv.1 hv.2
  have hGood := Good_mkA hG hV hv hl hs64 hx
  have hs0 := gv.1.1
  have hcap3 : aN A + 3 ≤ 138 := by have := hG.2.1.2; omega
  have hm := hgt_mono (a := szA A v) (b := szA A v + 1) (by omega) (by omega)
  have hp1 := hgt_pos (s := szA A v + 1) (by omega)
  have hf1 := hgt_fit (s := szA A v + 1) (by omega) (by omega)
  have hle1 := hgt_le (szA A v + 1)
  -- the new tree
  have hgrow : ∃ M1, f_X12_grownRoot fu M v x = some (M1, (grA A v x).2) ∧ MR M1 (grA A v x).1 ∧ (aV (grA A v x).1 = aV A ∧ vf (grA A v x).1 = vf A ∧ ev (grA A v x).1 = ev A) ∧ aN A ≤ aN (grA A v x).1 ∧ frM M M1 := by
    unfold f_X12_grownRoot
    rw [lengthOf_M h hv.1 hv.2, cal_some, heightOf_M h hv.1 hv.2, cal_some]
    by_cases hz : szA A v = 0
    · have hgr : grA A v x = wrA (0 + 1) A (-1) 0 x := by
        unfold grA
        rw [if_neg (by omega), hz, gv.2.2.2.2.2.1.1 hz]
        rfl
      obtain ⟨M1, e1, r1, f1⟩ := extended_M hfu 0 8 (n := -1) (i := 0) (x := x) h hx (by decide) (by omega) (Or.inl ⟨rfl, rfl⟩) (Int.le_refl 0) (pw_pos _) (by decide)
      obtain ⟨w1, w2, -, -⟩ := wrA_spec (0 + 1) (by decide) hN hnr.1 (n := -1) (i := 0) (x := x) (c := 0) hx (Int.le_refl 0) (Int.le_refl 0) (pw_pos _) (Or.inr (Or.inl ⟨by decide, rfl, rfl⟩))
      rw [if_pos hz, hgr]
      have e1' : f_X12_extended fu 8 M (-1) 1 0 x = some (M1, (wrA (0 + 1) A (-1) 0 x).2) := e1
      rw [e1', cal_some]
      exact ⟨M1, rfl, r1, w1.2.2.1, w1.1.1, f1⟩
    · obtain ⟨l, l1, l2, l3, l4, l5, l6, -⟩ := G_tree hG hv.1 hv.2 (by omega)
      have eh : ((hgt (szA A v) : Nat) : Int) = (l : Int) + 1 := by omega
      have eh2 : ((hgt (szA A v) : Nat) : Int) = ((l + 1 : Nat) : Int) := by omega
      rw [if_neg hz, eh2, span_M (by omega) hfu, cal_some]
      by_cases hfull : pw (l + 1) ≤ szA A v
      · have hh : hgt (szA A v + 1) = hgt (szA A v) + 1 := by
          rcases hgt_cases (s := szA A v) (by omega) with q | q | q | q
          · omega
          · have : l = 0 := by omega
            subst this
            rw [show pw (0 + 1) = 4 from rfl] at hfull
            rw [q.2.2, hgt_2 (by omega) (by omega)]
          · have : l = 1 := by omega
            subst this
            rw [show pw (1 + 1) = 16 from rfl] at hfull
            rw [q.2.2, hgt_3 (by omega)]
          · have : l = 2 := by omega
            subst this
            rw [show pw (2 + 1) = 64 from rfl] at hfull
            omega
        have hgr : grA A v x = (addN (wrA (l + 1) A (-1) 0 x).1 (((l + 1 : Nat) : Int) + 1) 2 (fun j => if j = 1 then (wrA (l + 1) A (-1) 0 x).2 else rtA A v), aN (wrA (l + 1) A (-1) 0 x).1) := by
          unfold grA
          rw [if_pos ⟨by omega, by omega⟩, l1]
        obtain ⟨M1, e1, r1, f1⟩ := extended_M hfu l 8 (n := -1) (i := 0) (x := x) h hx (by omega) (by omega) (Or.inl ⟨rfl, rfl⟩) (Int.le_refl 0) (pw_pos _) (by omega)
        obtain ⟨w1, w2, -, -⟩ := wrA_spec (l + 1) (by omega) hN hnr.1 (n := -1) (i := 0) (x := x) (c := 0) hx (Int.le_refl 0) (Int.le_refl 0) (pw_pos _) (Or.inr (Or.inl ⟨by omega, rfl, rfl⟩))
        have e9 : ((l + 1 : Nat) : Int) = (l : Int) + 1 := by omega
        rw [if_pos hfull, e9, e1, cal_some]
        rw [hgr]
        generalize wrA (l + 1) A (-1) 0 x = r at r1 w1 w2 ⊢
        have hrt : f_X12_root fu M1 v = some (M1, rtA A v) := by
          have hv1 : v < aV r.1 := by rw [w1.2.2.1.1]; exact hv.2
          unfold f_X12_root
          rw [v_M hv.1 (by omega), cal_some, grd_pos (by omega), grd_pos (by omega), (r1.1.2.2.1 v hv.1 hv1).2.1]
          unfold rtA
          rw [w1.2.2.1.2.1]
        rw [hrt, cal_some, grd_pos (by decide), grd_pos (by decide)]
        have g2 : MR (up (up M1 57 (0 : Int).toNat (rtA A v)) 57 (1 : Int).toNat r.2) r.1 := MR_ext r1 (by rw [up_cell _ _ (by decide), up_cell _ _ (by decide)])
        obtain ⟨M2, e2, r2, o2⟩ := makeNode_M (fu := fu) g2 (by omega) (b := 0) (c := 2) (l := ((l : Int) + 1) + 1) (e := fun j => if j = 1 then r.2 else rtA A v) (Or.inl ⟨rfl, by omega⟩) (by decide) (fun j j0 j1 => by
          rw [up_toNat (by decide) j0, up_toNat (by decide) j0]
          show _ = if j = 1 then r.2 else rtA A v
          by_cases hj : j = 1
          · rw [if_pos hj, if_pos hj]
          · rw [if_neg hj, if_neg hj, if_pos (by omega)]) hfu
        rw [e2, cal_some]
        rw [e9]
        exact ⟨M2, rfl, r2, ⟨w1.2.2.1.1, w1.2.2.1.2.1, w1.2.2.1.2.2⟩, by rw [addN_N]; have := w1.1.1; omega, fun q q1 q2 => by rw [o2 q q1, up_cell _ _ q2, up_cell _ _ q2, f1 q q1 q2]⟩
      · have hh : hgt (szA A v + 1) = hgt (szA A v) := by
          rcases hgt_cases (s := szA A v) (by omega) with q | q | q | q
          · omega
          · have : l = 0 := by omega
            subst this
            rw [show pw (0 + 1) = 4 from rfl] at hfull
            rw [q.2.2, hgt_1 (by omega) (by omega)]
          · have : l = 1 := by omega
            subst this
            rw [show pw (1 + 1) = 16 from rfl] at hfull
            rw [q.2.2, hgt_2 (by omega) (by omega)]
          · rw [q.2.2, hgt_3 (by omega)]
        have hgr : grA A v x = wrA (l + 1) A (rtA A v) (szA A v) x := by
          unfold grA
          rw [if_neg (by omega), hh, l1]
        obtain ⟨M1, e1, r1, f1⟩ := extended_M hfu l 8 (n := rtA A v) (i := szA A v) (x := x) h hx (by omega) (by omega) (Or.inr ⟨l3, l4.symm⟩) hs0 (by omega) (by omega)
        obtain ⟨w1, w2, -, -⟩ := wrA_spec (l + 1) (by omega) hN hnr.1 (n := rtA A v) (i := szA A v) (x := x) (c := szA A v) hx hs0 (Int.le_refl _) (by omega) (Or.inr (Or.inr ⟨by omega, l3, l4.symm⟩))
        have e9 : ((l + 1 : Nat) : Int) = (l : Int) + 1 := by omega
        rw [if_neg hfull, root_M h hv.1 hv.2, cal_some, e9, e1, cal_some, hgr]
        exact ⟨M1, rfl, r1, w1.2.2.1, w1.1.1, f1⟩
  obtain ⟨M1, e1, r1, ⟨m3, m4, m5⟩, hle, f1⟩ := hgrow
  unfold f_X12_makeAppend
  rw [grd_pos (by decide), lengthOf_M h hv.1 hv.2, cal_some, e1, cal_some, grd_pos (by omega), MM_n h]
  unfold mkA at hGood ⊢
  generalize grA A v x = r at r1 m3 m4 m5 hle hGood ⊢
  obtain ⟨M2, e2, r2, o2⟩ := addVersion_M (fu := fu) r1 (by rw [m3]; exact hV) (pa := v) (s := szA A v + 1) (rt := r.2) (first := aN A) (Or.inr ⟨hv.1, by rw [m3]; exact hv.2⟩) (by omega) ⟨hnr.1, hle⟩ hfu
  rw [e2, cal_some, m3, e_M (by omega) (by omega), cal_some, grd_pos (by omega), grd_pos (by omega)]
  have r3 := MR_put r2 (by rw [m3]; omega) (i := szA A v) (x := x) ⟨hs0, by omega⟩
  rw [m3] at r3
  have e0 : szA r.1 v = szA A v := by unfold szA; rw [m4]
  have r4 := MR_addV r3 (e' := setE (ev A v) (szA A v) x) (fun j j0 j1 => by
    unfold setE
    by_cases hji : j = szA A v
    · rw [if_pos hji, if_pos hji]
    · rw [if_neg hji, if_neg hji]
      show (if v ≠ -1 ∧ j < szA r.1 v then ev r.1 v j else 0) = ev A v j
      rw [if_pos ⟨by omega, by omega⟩, m5])
  exact ⟨_, rfl, ⟨r4.1, hGood⟩, fun q q1 q2 => by rw [up_cell _ _ q1, o2 q q1, f1 q q1 q2]⟩
theorem cutRoot_L {M : Mem} {A : AS} (hfu : 1000 ≤ fu) (h : MM M A) {s : Int} (hs : 1 ≤ s ∧ s ≤ 64) {l : Nat} (hl : hgt s = l + 1) : ∀ (k n : Nat) {b x : Int}, b ≤ aN A → okB A b (l + 1 + k) x → l + 1 + k ≤ 3 → k < n →
    f_X12_cutRoot_L19 fu n s x ((l + 1 + k : Nat) : Int) M = cal (f_X12_cut fu 8 M (dnA A k x) ((l : Int) + 1) s) (fun M1 r => some (M1, r))
  | _, 0, _, _, _, _, _, h => by omega
  | 0, n + 1, b, x, hb, hx, h3, hn => by
    have eh : ((hgt s : Nat) : Int) = (l : Int) + 1 := by omega
    rw [f_X12_cutRoot_L19, heightFor_M (by omega) hs.2 hfu, cal_some, eh, if_pos (by omega), heightFor_M (by omega) hs.2 hfu, cal_some, eh]
    rfl
  | k + 1, n + 1, b, x, hb, hx, h3, hn => by
    have eh : ((hgt s : Nat) : Int) = (l : Int) + 1 := by omega
    have hx' : okB A b (l + 1 + k + 1) x := hx
    obtain ⟨k1, k2, k3, k4⟩ := okB_nod h.2.2.2.1 hb hx'
    have hxb := hx'.2.1
    have e : ((l + 1 + (k + 1) : Nat) : Int) + -1 = ((l + 1 + k : Nat) : Int) := by omega
    rw [f_X12_cutRoot_L19, heightFor_M (by omega) hs.2 hfu, cal_some, eh, if_neg (by omega), entry_M h hx'.1 (by omega) (by decide) (by omega), cal_some, grd_pos (by omega), e, cutRoot_L hfu h hs hl k n (b := x) (by omega) (k4 0 (by decide) (by omega)).1 (by omega) (by omega)]
    rfl
theorem makeTruncate_M {M : Mem} {A : AS} (hfu : 1000 ≤ fu) (h : MM M A) (hV : aV A < 40) {v s : Int} (hv : 0 ≤ v ∧ v < aV A) (hl : rlA A v = 0) (hs : 0 ≤ s ∧ s ≤ szA A v) :
    ∃ M', f_X12_makeTruncate fu M v s = some (M', aV A) ∧ MM M' (mkT A v s) ∧ frM M M' := by
  have hG := h.2
  have hN := hG.2.2.1
  have hnr := MM_nr h
  have hvr := MM_vr h
  have gv := G_V hG hv.1 hv.2
  have hGood := Good_mkT hG hV hv hl hs
  have hJ : ∀ (M1 : Mem) (A1 : AS) (rt : Int), MR M1 A1 → (aV A1 = aV A ∧ vf A1 = vf A ∧ ev A1 = ev A) → aN A ≤ aN A1 → frM M M1 →
      ∃ M', (cal (f_X12_addVersion fu M1 v s rt (aN A)) fun M5 r6 => some (M5, r6)) = some (M', aV A) ∧ MR M' (addV A1 v rt s (aN A1 - aN A) (ev A v)) ∧ frM M M' := by
    intro M1 A1 rt r1 ⟨m3, m4, m5⟩ hle f1
    have e0 : szA A1 v = szA A v := by unfold szA; rw [m4]
    obtain ⟨M2, e2, r2, o2⟩ := addVersion_M (fu := fu) r1 (by rw [m3]; exact hV) (pa := v) (s := s) (rt := rt) (first := aN A) (Or.inr ⟨hv.1, by rw [m3]; exact hv.2⟩) (by have := gv.1; omega) ⟨hnr.1, hle⟩ hfu
    rw [e2, cal_some, m3]
    refine ⟨M2, rfl, MR_addV r2 (fun j j0 j1 => ?_), fun q q1 q2 => by rw [o2 q q1, f1 q q1 q2]⟩
    rw [if_pos ⟨by omega, by omega⟩, m5]
  unfold f_X12_makeTruncate f_X12_cutRoot
  rw [grd_pos (by decide), MM_n h]
  unfold mkT at hGood ⊢
  by_cases hz : s = 0
  · rw [if_pos hz] at hGood ⊢
    rw [if_pos hz, cal_some]
    obtain ⟨M', e', r', f'⟩ := hJ M A (-1) (MR_of h) ⟨rfl, rfl, rfl⟩ (Int.le_refl _) (frM_refl M)
    rw [Int.sub_self, hz] at r'
    exact ⟨M', e', ⟨r'.1, hGood⟩, f'⟩
  · rw [if_neg hz] at hGood ⊢
    obtain ⟨l', l1, l2, l3, l4, l5, l6, -⟩ := G_tree hG hv.1 hv.2 (by omega)
    have hm := hgt_mono hs.2 gv.1.2
    have hp := hgt_pos (s := s) (by omega)
    have hfit := hgt_fit (s := s) (by omega) (by have := gv.1.2; omega)
    obtain ⟨l, hl1⟩ : ∃ l, hgt s = l + 1 := ⟨hgt s - 1, by omega⟩
    have e : hgt (szA A v) = (l + 1) + (hgt (szA A v) - hgt s) := by omega
    have hok : okB A (aN A) (l + 1 + (hgt (szA A v) - hgt s)) (rtA A v) := by rw [← e, l1]; exact l3
    obtain ⟨d1, d2, d3, d4⟩ := dnA_spec hN (hgt (szA A v) - hgt s) (l := l + 1) (b := aN A) (n := rtA A v) (s := s) (Int.le_refl _) hok (by omega) (by rw [← e, l1]; omega) (by rw [← hl1]; exact hfit)
    have hcap : aN A + (l + 1) ≤ 138 := by have := hG.2.1.2; omega
    obtain ⟨M1, e1, r1, f1⟩ := cut_M hfu l 8 h (by omega) hcap d1 (by omega) d2 (by omega)
    obtain ⟨c1, -, -⟩ := cuA_spec (l + 1) (by omega) hN hnr.1 d1 (by omega) d2
    have hL := cutRoot_L hfu h (s := s) ⟨by omega, by have := gv.1.2; omega⟩ hl1 (hgt (szA A v) - hgt s) fu (Int.le_refl _) hok (by omega) (by omega)
    rw [← e] at hL
    rw [if_neg hz, root_M h hv.1 hv.2, cal_some, heightOf_M h hv.1 hv.2, cal_some, hL, e1, cal_some, cal_some]
    rw [hl1] at hGood ⊢
    rw [hl1] at r1 c1
    obtain ⟨M', e', r', f'⟩ := hJ M1 _ (cuA (l + 1) A (dnA A (hgt (szA A v) - (l + 1)) (rtA A v)) s).2 r1 c1.2.2.1 c1.1.1 f1
    exact ⟨M', e', ⟨r'.1, hGood⟩, f'⟩
theorem releaseVersion_M {M : Mem} {A : AS} (hfu : 1000 ≤ fu) (h : MM M A) {v : Int} (hv : 0 ≤ v ∧ v < aV A) : ∃ M', f_X12_releaseVersion fu M v = some (M', nGar (mkR A v)) ∧ MM M' (mkR A v) ∧ ∀ q, q ≠ 53 → q ≠ 60 → M' q = M q := by
  have hvr := MM_vr h
  have g := MM_mkR h hv.1 hv.2
  obtain ⟨M1, e1, o1, -⟩ := countGarbage_M hfu g
  refine ⟨M1, ?_, MM_only g o1 (by decide), fun q q1 q2 => by rw [o1 q q2, up_cell _ _ q1]⟩
  unfold f_X12_releaseVersion
  rw [v_M hv.1 (by omega), cal_some, grd_pos (by omega), grd_pos (by omega), e1, cal_some, nGar_eq g.2]
theorem collectAll_M {M : Mem} {A : AS} (hfu : 1000 ≤ fu) (h : MM M A) : ∃ M', f_X12_collectAll fu M = some (M', nRem A) ∧ MM M' (mkC A) ∧ ∀ q, q ≠ 53 → q ≠ 60 → M' q = M q := by
  have hnr := MM_nr h
  have hvr := MM_vr h
  obtain ⟨M1, e1, o1, m1⟩ := countGarbage_M hfu h
  have g1 := MM_only h o1 (by decide)
  obtain ⟨r1, r2, r3, r4⟩ := g1.1
  unfold f_X12_collectAll
  rw [e1, cal_some]
  have := lp_mem (F := fun n i M' => f_X12_collectAll_L7 fu n (nRem A) i M')
    (fun i M' => only 53 M1 M' ∧ (∀ k, 0 ≤ k → k < aN A → M' 53 (2810 + 7 * k + 6).toNat = if k < i ∧ rsA A (-1) k = 0 then 0 else 1 - coA A k) ∧ ∀ k : Int, 0 ≤ k → (∀ j, 0 ≤ j → j < aN A → k ≠ 2810 + 7 * j + 6) → M' 53 k.toNat = M1 53 k.toNat) (aN A)
    (Q := fun o => ∃ M', o = (M', nRem A) ∧ only 53 M1 M' ∧ (∀ k, 0 ≤ k → k < aN A → M' 53 (2810 + 7 * k + 6).toNat = if k < aN A ∧ rsA A (-1) k = 0 then 0 else 1 - coA A k) ∧ ∀ k : Int, 0 ≤ k → (∀ j, 0 ≤ j → j < aN A → k ≠ 2810 + 7 * j + 6) → M' 53 k.toNat = M1 53 k.toNat)
    (fun n i M2 i0 i1 hP => by
      obtain ⟨p1, p2, p3⟩ := hP
      have e1 : M2 53 (1 : Int).toNat = aN A := by
        rw [p3 1 (by decide) (fun j j0 j1 => by omega)]; exact r2
      have e60 : M2 60 i.toNat = rsA A (-1) i := by rw [p1 60 (by decide)]; exact m1 i i0 i1
      by_cases hr : rsA A (-1) i = 0
      · refine ⟨up M2 53 (2810 + 7 * i + 6).toNat 0, ?_, only_trans p1 (only_up _ _ _ _), fun k k0 k1 => ?_, fun k k0 k1 => ?_⟩
        · show f_X12_collectAll_L7 fu (n + 1) (nRem A) i M2 = _
          rw [f_X12_collectAll_L7, grd_pos (by decide), e1, if_neg (by omega), grd_pos (by omega), e60, if_pos hr, n_M i0 (by omega), cal_some, grd_pos (by omega), grd_pos (by omega), grd_pos (by omega)]
        · rw [up_toNat (by omega) (by omega)]
          by_cases hki : k = i
          · rw [if_pos (by omega), if_pos ⟨by omega, by rw [hki]; exact hr⟩]
          · rw [if_neg (by omega), p2 k k0 k1]
            by_cases hq : k < i ∧ rsA A (-1) k = 0
            · rw [if_pos hq, if_pos ⟨by omega, hq.2⟩]
            · rw [if_neg hq, if_neg (fun z => hq ⟨by omega, z.2⟩)]
        · rw [up_toNat (by omega) k0, if_neg (k1 i i0 i1)]; exact p3 k k0 k1
      · refine ⟨M2, ?_, p1, fun k k0 k1 => ?_, p3⟩
        · show f_X12_collectAll_L7 fu (n + 1) (nRem A) i M2 = _
          rw [f_X12_collectAll_L7, grd_pos (by decide), e1, if_neg (by omega), grd_pos (by omega), e60, if_neg hr, grd_pos (by omega)]
        · rw [p2 k k0 k1]
          by_cases hq : k < i ∧ rsA A (-1) k = 0
          · rw [if_pos hq, if_pos ⟨by omega, hq.2⟩]
          · rw [if_neg hq, if_neg (fun z => by
              by_cases hki : k = i
              · exact hr (hki ▸ z.2)
              · exact hq ⟨by omega, z.2⟩)])
    (fun n M2 hP => by
      obtain ⟨p1, p2, p3⟩ := hP
      have e1 : M2 53 (1 : Int).toNat = aN A := by
        rw [p3 1 (by decide) (fun j j0 j1 => by omega)]; exact r2
      refine ⟨(M2, nRem A), ?_, M2, rfl, p1, p2, p3⟩
      show f_X12_collectAll_L7 fu (n + 1) (nRem A) (aN A) M2 = _
      rw [f_X12_collectAll_L7, grd_pos (by decide), e1, if_pos (Int.le_refl _)]) fu 0 M1 (by omega) (by omega) (by omega)
    ⟨only_refl _ _, fun k k0 k1 => by rw [if_neg (by omega)]; exact (r4 k k0 k1).2.2.2, fun _ _ _ => rfl⟩
  obtain ⟨o, e, M', rfl, p1, p2, p3⟩ := this
  refine ⟨M', e, ⟨⟨?_, ?_, fun v v0 v1 => ?_, fun k k0 k1 => ?_⟩, Good_mkC h.2⟩, fun q q1 q2 => by rw [p1 q q1, o1 q q2]⟩
  · have := p3 0 (by decide) (fun j j0 j1 => by omega)
    exact this.trans r1
  · have := p3 1 (by decide) (fun j j0 j1 => by omega)
    exact this.trans r2
  · have v1' : v < aV A := v1
    obtain ⟨w0, w1, w2, w3, w4, w5, w6⟩ := r3 v v0 v1'
    have hz := (G_V h.2 v0 v1').1
    rw [p3 _ (by omega) (fun j j0 j1 => by omega), p3 _ (by omega) (fun j j0 j1 => by omega), p3 _ (by omega) (fun j j0 j1 => by omega), p3 _ (by omega) (fun j j0 j1 => by omega), p3 _ (by omega) (fun j j0 j1 => by omega), p3 (10 + 6 * v + 5) (by omega) (fun j j0 j1 => by omega)]
    refine ⟨w0, w1, w2, w3, w4, w5, fun i i0 i1 => ?_⟩
    have i1' : i < szA A v := i1
    rw [p3 _ (by omega) (fun j j0 j1 => by omega)]
    exact w6 i i0 i1
  · have k1' : k < aN A := k1
    obtain ⟨w0, w1, w2, w3⟩ := r4 k k0 k1'
    have hf := G_fl h.2 k0 k1'
    have hfl : ∀ j, j ≠ 2 → nf (mkC A) k j = nf A k j := fun j hj => if_neg (fun z => hj z.1)
    have e0 : lvA (mkC A) k = lvA A k := hfl 0 (by decide)
    have e1 : flA (mkC A) k = flA A k := hfl 1 (by decide)
    rw [p3 _ (by omega) (fun j j0 j1 => by omega), p3 _ (by omega) (fun j j0 j1 => by omega), p2 k k0 k1', mkC_co, e0, e1]
    refine ⟨w0, w1, fun j j0 j1 => ?_, ?_⟩
    · rw [p3 _ (by omega) (fun i i0 i1 => by omega), show enA (mkC A) k j = enA A k j from hfl _ (by omega)]
      exact w2 j j0 j1
    · by_cases hr : rsA A (-1) k = 0
      · rw [if_pos ⟨k1', hr⟩, if_pos hr]; rfl
      · rw [if_neg (fun z => hr z.2), if_neg hr]
end MVer
