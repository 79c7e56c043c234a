/-! the class makes versions -/
section CMut2
variable {fu : Nat}
theorem vadd_C {M : Mem} {A : AS} (h : RC M A) (hv : 0 < aV A) (hv40 : aV A < 40) {pa rt s cr ci cv : Int} {e : Int → Int} (hpa : pa < aV A)
    (hrec : ∀ i, 0 ≤ i → i < s → (ci = i ∧ cv = e i) ∨ (ci ≠ i ∧ i < szA A pa ∧ e i = ev A pa i)) (hpl : ∀ v, 0 < v → v < aV A → paA A v < aV A) :
    ∃ M', f_X10_add fu M pa rt s cr ci cv = some (M', aV A) ∧ RC M' (addV A pa rt s cr e) ∧ ∀ q, q < 10 ∨ 18 < q → M' q = M q := by
  obtain ⟨r1, r2, ⟨s1, s2, s3, s4⟩, r4, r5⟩ := h
  refine ⟨up (up (up (up (up (up (up (up M 11 (aV A).toNat pa) 12 (aV A).toNat rt) 13 (aV A).toNat s) 14 (aV A).toNat cr) 15 (aV A).toNat ci) 16 (aV A).toNat cv) 18 (aV A).toNat 0) 10 0 (aV A + 1), ?_, ?_, fun q hq => ?_⟩
  · have e10 : up (up (up (up (up (up (up M 11 (aV A).toNat pa) 12 (aV A).toNat rt) 13 (aV A).toNat s) 14 (aV A).toNat cr) 15 (aV A).toNat ci) 16 (aV A).toNat cv) 18 (aV A).toNat 0 10 = M 10 := by
      rw [up_cell _ _ (by decide), up_cell _ _ (by decide), up_cell _ _ (by decide), up_cell _ _ (by decide), up_cell _ _ (by decide), up_cell _ _ (by decide), up_cell _ _ (by decide)]
    unfold f_X10_add
    rw [r2, put_in (by omega) (by omega), cal_some, put_in (by omega) (by omega), cal_some, put_in (by omega) (by omega), cal_some, put_in (by omega) (by omega), cal_some, put_in (by omega) (by omega), cal_some, put_in (by omega) (by omega), cal_some, putFlag_in (by omega) (by omega) (by decide), cal_some, e10, r2, grd_pos (by omega)]
  · have e5 : ∀ q, q < 10 ∨ 18 < q ∨ q = 17 → up (up (up (up (up (up (up (up M 11 (aV A).toNat pa) 12 (aV A).toNat rt) 13 (aV A).toNat s) 14 (aV A).toNat cr) 15 (aV A).toNat ci) 16 (aV A).toNat cv) 18 (aV A).toNat 0) 10 0 (aV A + 1) q = M q := fun q hq => by
      rw [up_cell _ _ (by omega), up_cell _ _ (by omega), up_cell _ _ (by omega), up_cell _ _ (by omega), up_cell _ _ (by omega), up_cell _ _ (by omega), up_cell _ _ (by omega), up_cell _ _ (by omega)]
    have g11 : ∀ v : Int, 0 ≤ v → up (up (up (up (up (up (up (up M 11 (aV A).toNat pa) 12 (aV A).toNat rt) 13 (aV A).toNat s) 14 (aV A).toNat cr) 15 (aV A).toNat ci) 16 (aV A).toNat cv) 18 (aV A).toNat 0) 10 0 (aV A + 1) 11 v.toNat = if v = aV A then pa else M 11 v.toNat := fun v v0 => by
      rw [up_cell _ _ (by decide), up_cell _ _ (by decide), up_cell _ _ (by decide), up_cell _ _ (by decide), up_cell _ _ (by decide), up_cell _ _ (by decide), up_cell _ _ (by decide), up_toNat (by omega) v0]
    have g12 : ∀ v : Int, 0 ≤ v → up (up (up (up (up (up (up (up M 11 (aV A).toNat pa) 12 (aV A).toNat rt) 13 (aV A).toNat s) 14 (aV A).toNat cr) 15 (aV A).toNat ci) 16 (aV A).toNat cv) 18 (aV A).toNat 0) 10 0 (aV A + 1) 12 v.toNat = if v = aV A then rt else M 12 v.toNat := fun v v0 => by
      rw [up_cell _ _ (by decide), up_cell _ _ (by decide), up_cell _ _ (by decide), up_cell _ _ (by decide), up_cell _ _ (by decide), up_cell _ _ (by decide), up_toNat (by omega) v0, up_cell _ _ (by decide)]
    have g13 : ∀ v : Int, 0 ≤ v → up (up (up (up (up (up (up (up M 11 (aV A).toNat pa) 12 (aV A).toNat rt) 13 (aV A).toNat s) 14 (aV A).toNat cr) 15 (aV A).toNat ci) 16 (aV A).toNat cv) 18 (aV A).toNat 0) 10 0 (aV A + 1) 13 v.toNat = if v = aV A then s else M 13 v.toNat := fun v v0 => by
      rw [up_cell _ _ (by decide), up_cell _ _ (by decide), up_cell _ _ (by decide), up_cell _ _ (by decide), up_cell _ _ (by decide), up_toNat (by omega) v0, up_cell _ _ (by decide), up_cell _ _ (by decide)]
    have g14 : ∀ v : Int, 0 ≤ v → up (up (up (up (up (up (up (up M 11 (aV A).toNat pa) 12 (aV A).toNat rt) 13 (aV A).toNat s) 14 (aV A).toNat cr) 15 (aV A).toNat ci) 16 (aV A).toNat cv) 18 (aV A).toNat 0) 10 0 (aV A + 1) 14 v.toNat = if v = aV A then cr else M 14 v.toNat := fun v v0 => by
      rw [up_cell _ _ (by decide), up_cell _ _ (by decide), up_cell _ _ (by decide), up_cell _ _ (by decide), up_toNat (by omega) v0, up_cell _ _ (by decide), up_cell _ _ (by decide), up_cell _ _ (by decide)]
    have g15 : ∀ v : Int, 0 ≤ v → up (up (up (up (up (up (up (up M 11 (aV A).toNat pa) 12 (aV A).toNat rt) 13 (aV A).toNat s) 14 (aV A).toNat cr) 15 (aV A).toNat ci) 16 (aV A).toNat cv) 18 (aV A).toNat 0) 10 0 (aV A + 1) 15 v.toNat = if v = aV A then ci else M 15 v.toNat := fun v v0 => by
      rw [up_cell _ _ (by decide), up_cell _ _ (by decide), up_cell _ _ (by decide), up_toNat (by omega) v0, up_cell _ _ (by decide), up_cell _ _ (by decide), up_cell _ _ (by decide), up_cell _ _ (by decide)]
    have g16 : ∀ v : Int, 0 ≤ v → up (up (up (up (up (up (up (up M 11 (aV A).toNat pa) 12 (aV A).toNat rt) 13 (aV A).toNat s) 14 (aV A).toNat cr) 15 (aV A).toNat ci) 16 (aV A).toNat cv) 18 (aV A).toNat 0) 10 0 (aV A + 1) 16 v.toNat = if v = aV A then cv else M 16 v.toNat := fun v v0 => by
      rw [up_cell _ _ (by decide), up_cell _ _ (by decide), up_toNat (by omega) v0, up_cell _ _ (by decide), up_cell _ _ (by decide), up_cell _ _ (by decide), up_cell _ _ (by decide), up_cell _ _ (by decide)]
    have g18 : ∀ v : Int, 0 ≤ v → up (up (up (up (up (up (up (up M 11 (aV A).toNat pa) 12 (aV A).toNat rt) 13 (aV A).toNat s) 14 (aV A).toNat cr) 15 (aV A).toNat ci) 16 (aV A).toNat cv) 18 (aV A).toNat 0) 10 0 (aV A + 1) 18 v.toNat = if v = aV A then 0 else M 18 v.toNat := fun v v0 => by
      rw [up_cell _ _ (by decide), up_toNat (by omega) v0, up_cell _ _ (by decide), up_cell _ _ (by decide), up_cell _ _ (by decide), up_cell _ _ (by decide), up_cell _ _ (by decide), up_cell _ _ (by decide)]
    have g10 : up (up (up (up (up (up (up (up M 11 (aV A).toNat pa) 12 (aV A).toNat rt) 13 (aV A).toNat s) 14 (aV A).toNat cr) 15 (aV A).toNat ci) 16 (aV A).toNat cv) 18 (aV A).toNat 0) 10 0 (aV A + 1) 10 0 = aV A + 1 := up_same _ _ _ _
    generalize up (up (up (up (up (up (up (up M 11 (aV A).toNat pa) 12 (aV A).toNat rt) 13 (aV A).toNat s) 14 (aV A).toNat cr) 15 (aV A).toNat ci) 16 (aV A).toNat cv) 18 (aV A).toNat 0) 10 0 (aV A + 1) = M' at *
    refine ⟨by rw [e5 5 (by decide)]; exact r1, g10, ⟨fun k k0 k1 => ?_, fun v v0 v1 => ?_, ?_, fun v v0 v1 i i0 i1 => ?_⟩, fun k k0 k1 => by rw [e5 9 (by decide)]; exact r4 k k0 k1, fun v v0 v1 => ?_⟩
    · show M' 6 k.toNat = _ ∧ M' 7 k.toNat = _ ∧ ∀ j : Int, _ → _ → M' 8 (k * 4 + j).toNat = _
      rw [e5 6 (by decide), e5 7 (by decide), e5 8 (by decide)]
      exact s1 k k0 k1
    · rw [addV_V] at v1
      show M' 11 v.toNat = _ ∧ M' 12 v.toNat = _ ∧ M' 13 v.toNat = _ ∧ M' 14 v.toNat = _
      rw [g11 v v0, g12 v v0, g13 v v0, g14 v v0]
      by_cases hva : v = aV A
      · rw [if_pos hva, if_pos hva, if_pos hva, if_pos hva, hva, addV_pa, addV_rt, addV_sz, addV_cr]
        exact ⟨rfl, rfl, rfl, rfl⟩
      · rw [if_neg hva, if_neg hva, if_neg hva, if_neg hva]
        obtain ⟨w1, w2, w3, w4⟩ := s2 v v0 (by omega)
        exact ⟨w1.trans (addV_vf hva 2).symm, w2.trans (addV_vf hva 1).symm, w3.trans (addV_vf hva 0).symm, w4.trans (addV_vf hva 4).symm⟩
    · show M' 15 0 = -1 ∧ ∀ i : Int, _ → _ → M' 17 i.toNat = _
      have h15 : M' 15 0 = M 15 0 := by
        have := g15 0 (Int.le_refl 0)
        rw [if_neg (by omega)] at this
        exact this
      rw [h15, e5 17 (by decide)]
      refine ⟨s3.1, fun i i0 i1 => ?_⟩
      have hsz : szA (addV A pa rt s cr e) 0 = szA A 0 := addV_vf (by omega) 0
      rw [hsz] at i1
      exact (s3.2 i i0 i1).trans (addV_ev (by omega) i).symm
    · rw [addV_V] at v1
      show (M' 15 v.toNat = i ∧ M' 16 v.toNat = _) ∨ (M' 15 v.toNat ≠ i ∧ _)
      rw [g15 v (by omega), g16 v (by omega)]
      by_cases hva : v = aV A
      · subst hva
        rw [addV_sz] at i1
        rw [if_pos rfl, if_pos rfl, addV_e, addV_pa]
        rcases hrec i i0 i1 with q | ⟨q1, q2, q3⟩
        · exact Or.inl q
        · refine Or.inr ⟨q1, ?_, ?_⟩
          · rw [show szA (addV A pa rt s cr e) pa = szA A pa from addV_vf (by omega) 0]; exact q2
          · rw [addV_ev (by omega)]; exact q3
      · rw [if_neg hva, if_neg hva]
        have hsz : szA (addV A pa rt s cr e) v = szA A v := addV_vf hva 0
        rw [hsz] at i1
        rw [addV_ev hva]
        rcases s4 v v0 (by omega) i i0 i1 with q | ⟨q1, q2, q3⟩
        · exact Or.inl q
        · have hpv := hpl v v0 (by omega)
          have hpe : paA (addV A pa rt s cr e) v = paA A v := addV_vf hva 2
          refine Or.inr ⟨q1, ?_, ?_⟩
          · rw [hpe, show szA (addV A pa rt s cr e) (paA A v) = szA A (paA A v) from addV_vf (by omega) 0]; exact q2
          · rw [hpe, addV_ev (by omega)]; exact q3
    · rw [addV_V] at v1
      rw [g18 v v0]
      by_cases hva : v = aV A
      · rw [if_pos hva, hva, addV_rl]
      · rw [if_neg hva]
        exact (r5 v v0 (by omega)).trans (addV_vf hva 3).symm
  · rw [up_cell _ _ (by omega), up_cell _ _ (by omega), up_cell _ _ (by omega), up_cell _ _ (by omega), up_cell _ _ (by omega), up_cell _ _ (by omega), up_cell _ _ (by omega), up_cell _ _ (by omega)]
theorem G_pal {A : AS} (hG : Good A) : ∀ v, 0 < v → v < aV A → paA A v < aV A := fun v h0 h1 => by
  have := (G_V hG (by omega) h1).2.2.2.2.1 h0
  omega
/-- what lies outside a store's own cells is as it was -/
def frS (M M' : Mem) : Prop := ∀ q, q < 5 ∨ 18 < q → M' q = M q
theorem makeWithElement_C {M : Mem} {A : AS} (hfu : 1000 ≤ fu) (h : CM M A) (hV : aV A < 40) {v i x : Int} (hv : 0 ≤ v ∧ v < aV A) (hl : rlA A v = 0) (hi : 0 ≤ i ∧ i < szA A v) (hx : -999 ≤ x ∧ x ≤ 999) :
    ∃ M', f_X8_makeWithElement fu M v i x = some (M', aV A) ∧ CM M' (mkS A v i x) ∧ frS M M' := by
  have hG := h.2
  have hnr := CM_nr h
  have hvr := CM_vr h
  have gv := G_V hG hv.1 hv.2
  obtain ⟨l, l1, l2, l3, l4, l5, l6, -⟩ := G_tree hG hv.1 hv.2 (by omega)
  have hGood := Good_mkS hG hV hv hl hi hx
  have hrec : ∀ A1 : AS, vf A1 = vf A → ev A1 = ev A → ∀ j, 0 ≤ j → j < szA A v → (i = j ∧ x = setE (ev A v) i x j) ∨ (i ≠ j ∧ j < szA A1 v ∧ setE (ev A v) i x j = ev A1 v j) := fun A1 h1 h2 j j0 j1 => by
    unfold setE
    by_cases hji : j = i
    · rw [if_pos hji]; exact Or.inl ⟨hji.symm, rfl⟩
    · rw [if_neg hji]
      refine Or.inr ⟨fun e => hji e.symm, ?_, ?_⟩
      · unfold szA; rw [h1]; exact j1
      · rw [h2]
  unfold f_X8_makeWithElement
  rw [rootAt_C h hv.1 hv.2, cal_some, elementAt_C h hv.1 hv.2 hi.1 hi.2 hfu, cal_some, CM_n h]
  unfold mkS at hGood ⊢
  by_cases he : ev A v i = x
  · rw [if_pos he] at hGood ⊢
    rw [if_pos he]
    unfold f_X8_makeWithElement_J44
    rw [sizeAt_C h hv.1 hv.2, cal_some, CM_n h, grd_pos (by omega), Int.sub_self]
    obtain ⟨M1, e1, r1, f1⟩ := vadd_C (fu := fu) h.1 (by omega) hV (pa := v) (rt := rtA A v) (s := szA A v) (cr := 0) (ci := i) (cv := x) (e := setE (ev A v) i x) hv.2 (hrec A rfl rfl) (G_pal hG)
    rw [e1, cal_some]
    exact ⟨M1, rfl, ⟨r1, hGood⟩, fun q hq => f1 q (by omega)⟩
  · rw [if_neg he] at hGood ⊢
    rw [if_neg he]
    have him : i % pw (l + 1) = i := Int.emod_eq_of_lt hi.1 (by omega)
    have eh : ((hgt (szA A v) : Nat) : Int) = (l : Int) + 1 := by omega
    have hcap : aN A + (l + 1) ≤ 138 := by have := hG.2.1.2; omega
    obtain ⟨M1, e1, r1, f1⟩ := copyWithElement_C hfu l 8 (n := rtA A v) (i := i) (x := x) h hx l2 hcap (Or.inr ⟨l3, by rw [him]; omega⟩) (by omega)
    rw [heightAt_C h hv.1 hv.2, cal_some, eh, e1, cal_some]
    rw [him] at r1
    rw [l1] at hGood ⊢
    rw [him]
    obtain ⟨w1, w2, -, -⟩ := wrA_spec (l + 1) (by omega) hG.2.2.1 hnr.1 (n := rtA A v) (i := i) (x := x) (c := szA A v) hx hi.1 (by omega) (by omega) (Or.inr (Or.inr ⟨by omega, l3, l4.symm⟩))
    generalize wrA (l + 1) A (rtA A v) i x = r at r1 w1 w2 hGood ⊢
    obtain ⟨m1, m2, ⟨m3, m4, m5⟩, -⟩ := w1
    unfold f_X8_makeWithElement_J44
    have hv1 : v < aV r.1 := by rw [m3]; exact hv.2
    have hsz : f_X10_sizeAt fu M1 v = some (M1, szA A v) := by
      have w3 : M1 13 v.toNat = szA r.1 v := (r1.2.2.1.2.1 v hv.1 hv1).2.2.1
      unfold f_X10_sizeAt
      rw [at_in hv.1 (by omega), cal_some, w3]
      unfold szA
      rw [m4]
    rw [hsz, cal_some, r1.1, grd_pos (by omega)]
    obtain ⟨M2, e2, r2, f2⟩ := vadd_C (fu := fu) r1 (by rw [m3]; omega) (by rw [m3]; exact hV) (pa := v) (rt := r.2) (s := szA A v) (cr := aN r.1 - aN A) (ci := i) (cv := x) (e := setE (ev A v) i x) hv1 (hrec r.1 m4 m5) (fun w w0 w1 => by
      rw [m3] at w1 ⊢
      unfold paA; rw [m4]
      exact G_pal hG w w0 w1)
    rw [e2, cal_some, m3]
    exact ⟨M2, rfl, ⟨r2, hGood⟩, fun q hq => by rw [f2 q (by omega), f1 q (by omega)]⟩
theorem addRoot_C {M : Mem} {A : AS} (h : RC M A) (h0 : 0 ≤ aN A) (h1 : aN A < 138) (hfl : ∀ k, 0 ≤ k → k < aN A → flA A k ≤ 4) (l x y : Int) :
    ∃ M', f_X8_addRoot fu M l x y = some (M', aN A) ∧ RC M' (addN A l 2 (fun j => if j = 1 then y else x)) ∧ ∀ q, q < 5 ∨ 9 < q → M' q = M q := by
  obtain ⟨M1, e1, p1⟩ := PN_add (fu := fu) h.1 h0 h1 l (fun _ => x)
  obtain ⟨M2, e2, p2⟩ := PN_place (fu := fu) h0 h1 p1 (p := 0) x (by decide) (by decide) (by decide) (by decide)
  rw [if_neg (Int.lt_irrefl _)] at p2
  obtain ⟨M3, e3, p3⟩ := PN_place (fu := fu) h0 h1 p2 (p := 1) y (by decide) (by decide) (by decide) (by decide)
  rw [if_neg (by decide)] at p3
  refine ⟨M3, ?_, PN_rc h h0 p3 hfl (fun j j0 j1 => ?_), p3.2.2.2.2.2.2.2⟩
  · unfold f_X8_addRoot
    rw [e1, cal_some, e2, cal_some, e3, cal_some]
  · show (if j = 1 then y else if j = 0 then x else x) = if j = 1 then y else x
    split
    · rfl
    · split <;> rfl
theorem makeLonger_C {M : Mem} {A : AS} (hfu : 1000 ≤ fu) (h : CM M A) (hV : aV A < 40) {v x : Int} (hv : 0 ≤ v ∧ v < aV A) (hl : rlA A v = 0) (hs64 : szA A v < 64) (hx : -999 ≤ x ∧ x ≤ 999) :
    ∃ M', f_X8_makeLonger fu M v x = some (M', aV A) ∧ CM M' (mkA A v x) ∧ frS M M' := by
  have hG := h.2
  have hN := hG.2.2.1
  have hnr := CM_nr h
  have hvr := CM_vr h
  have gv := G_V hG hv.1 hv.2
  have hGood := Good_mkA hG hV hv hl hs64 hx
  have hs0 := gv.1.1
  have hcap3 : aN A + 3 ≤ 138 := by have := hG.2.1.2; omega
  -- behind the new tree
  have hJ : ∀ (M1 : Mem) (A1 : AS) (rt : Int), RC M1 A1 → (aV A1 = aV A ∧ vf A1 = vf A ∧ ev A1 = ev A) → aN A ≤ aN A1 → aN A1 ≤ 138 → (∀ q, q < 5 ∨ 9 < q → M1 q = M q) →
      ∃ M', f_X8_makeLonger_J94 fu v x (aN A) (szA A v) rt M1 = some (M', aV A) ∧ RC M' (addV A1 v rt (szA A v + 1) (aN A1 - aN A) (setE (ev A v) (szA A v) x)) ∧ frS M M' := by
    intro M1 A1 rt r1 ⟨m3, m4, m5⟩ hle hle2 f1
    unfold f_X8_makeLonger_J94
    have hv1 : v < aV A1 := by rw [m3]; exact hv.2
    rw [grd_pos (by omega), r1.1, grd_pos (by omega)]
    obtain ⟨M2, e2, r2, f2⟩ := vadd_C (fu := fu) r1 (by rw [m3]; omega) (by rw [m3]; exact hV) (pa := v) (rt := rt) (s := szA A v + 1) (cr := aN A1 - aN A) (ci := szA A v) (cv := x) (e := setE (ev A v) (szA A v) x) hv1 (fun j j0 j1 => by
      unfold setE
      by_cases hji : j = szA A v
      · rw [if_pos hji]; exact Or.inl ⟨hji.symm, rfl⟩
      · rw [if_neg hji]
        refine Or.inr ⟨fun e => hji e.symm, ?_, ?_⟩
        · have : szA A1 v = szA A v := by unfold szA; rw [m4]
          omega
        · rw [m5]) (fun w w0 w1 => by
      rw [m3] at w1 ⊢
      unfold paA; rw [m4]
      exact G_pal hG w w0 w1)
    rw [e2, cal_some, m3]
    exact ⟨M2, rfl, r2, fun q hq => by rw [f2 q (by omega), f1 q (by omega)]⟩
  -- the copy of one path, on top
  have hP81 : ∀ (l : Nat), hgt (szA A v + 1) = l + 1 → l < 3 → (rtA A v = -1 ∧ szA A v = 0 ∨ okB A (aN A) (l + 1) (rtA A v) ∧ szA A v = ctA A (l + 1) (rtA A v)) → szA A v < pw (l + 1) → grA A v x = wrA (l + 1) A (rtA A v) (szA A v) x →
      ∃ M', f_X8_makeLonger_J81 fu v x (aN A) (szA A v) (rtA A v) ((l : Int) + 1) M = some (M', aV A) ∧ CM M' (mkA A v x) ∧ frS M M' := by
    intro l hl1 hl3 hrt hlt hgr
    have him : szA A v % pw (l + 1) = szA A v := Int.emod_eq_of_lt hs0 hlt
    obtain ⟨M1, e1, r1, f1⟩ := copyWithElement_C hfu l 8 (n := rtA A v) (i := szA A v) (x := x) h hx hl3 (by omega) (by
      rw [him]
      rcases hrt with ⟨q1, q2⟩ | ⟨q1, q2⟩
      · exact Or.inl ⟨q1, q2⟩
      · exact Or.inr ⟨q1, by omega⟩) (by omega)
    rw [him] at e1 r1
    obtain ⟨w1, w2, -, -⟩ := wrA_spec (l + 1) (by omega) hN hnr.1 (n := rtA A v) (i := szA A v) (x := x) (c := szA A v) hx hs0 (Int.le_refl _) hlt (by
      rcases hrt with ⟨q1, q2⟩ | ⟨q1, q2⟩
      · exact Or.inr (Or.inl ⟨by omega, q1, q2⟩)
      · exact Or.inr (Or.inr ⟨by omega, q1, q2⟩))
    unfold f_X8_makeLonger_J81
    rw [e1, cal_some]
    obtain ⟨M2, e2, r2, f2⟩ := hJ M1 _ _ r1 w1.2.2.1 w1.1.1 (by omega) f1
    refine ⟨M2, e2, ⟨?_, hGood⟩, f2⟩
    unfold mkA
    rw [hgr]
    exact r2
  have hm := hgt_mono (a := szA A v) (b := szA A v + 1) (by omega) (by omega)
  have hp1 := hgt_pos (s := szA A v + 1) (by omega)
  have hf1 := hgt_fit (s := szA A v + 1) (by omega) (by omega)
  have hle1 := hgt_le (szA A v + 1)
  obtain ⟨l, hl1⟩ : ∃ l, hgt (szA A v + 1) = l + 1 := ⟨hgt (szA A v + 1) - 1, by omega⟩
  have eh : ((hgt (szA A v + 1) : Nat) : Int) = (l : Int) + 1 := by omega
  unfold f_X8_makeLonger
  rw [sizeAt_C h hv.1 hv.2, cal_some, rootAt_C h hv.1 hv.2, cal_some, grd_pos (by omega), heightFor_C (by omega), cal_some, CM_n h]
  by_cases hs : szA A v ≤ 0
  · have hz : szA A v = 0 := by omega
    rw [if_pos hs, eh]
    exact hP81 l hl1 (by omega) (Or.inl ⟨gv.2.2.2.2.2.1.1 hz, hz⟩) (by rw [hl1] at hf1; omega) (by unfold grA; rw [if_neg (by omega), hl1])
  · rw [if_neg hs, heightFor_C (by omega), cal_some]
    obtain ⟨l', l1, l2, l3, l4, l5, l6, -⟩ := G_tree hG hv.1 hv.2 (by omega)
    by_cases hc : ((hgt (szA A v + 1) : Nat) : Int) ≤ ((hgt (szA A v) : Nat) : Int)
    · have he : l = l' := by omega
      subst he
      rw [if_pos hc, eh]
      exact hP81 l hl1 (by omega) (Or.inr ⟨l3, l4.symm⟩) (by rw [hl1] at hf1; omega) (by unfold grA; rw [if_neg (by omega), hl1])
    · rw [if_neg hc, grd_pos (by omega)]
      have hh : hgt (szA A v) = l ∧ l = l' + 1 ∧ szA A v = pw l := by
        have hfit := hgt_fit (s := szA A v) (by omega) (by omega)
        rcases hgt_cases (s := szA A v) (by omega) with q | q | q | q
        · omega
        · rcases hgt_cases (s := szA A v + 1) (by omega) with r | r | r | r
          · omega
          · omega
          · refine ⟨by omega, by omega, ?_⟩
            have : l = 1 := by omega
            rw [this, pw1]; omega
          · omega
        · rcases hgt_cases (s := szA A v + 1) (by omega) with r | r | r | r
          · omega
          · omega
          · omega
          · refine ⟨by omega, by omega, ?_⟩
            have : l = 2 := by omega
            rw [this, pw2]; omega
        · rcases hgt_cases (s := szA A v + 1) (by omega) with r | r | r | r <;> omega
      obtain ⟨hh1, hh2, hh3⟩ := hh
      have him : szA A v % pw (l' + 1) = 0 := by rw [← hh2, hh3]; exact Int.emod_self
      have es : ((hgt (szA A v + 1) : Nat) : Int) - 1 = (l' : Int) + 1 := by omega
      obtain ⟨M1, e1, r1, f1⟩ := copyWithElement_C hfu l' 8 (n := -1) (i := szA A v) (x := x) h hx (by omega) (by omega) (Or.inl ⟨rfl, him⟩) (by omega)
      rw [him] at e1 r1
      obtain ⟨w1, w2, -, -⟩ := wrA_spec (l' + 1) (by omega) hN hnr.1 (n := -1) (i := 0) (x := x) (c := 0) hx (Int.le_refl 0) (Int.le_refl 0) (pw_pos _) (Or.inr (Or.inl ⟨by omega, rfl, rfl⟩))
      rw [es, e1, cal_some]
      have hgr : grA A v x = (addN (wrA (l' + 1) A (-1) 0 x).1 ((hgt (szA A v + 1) : Nat) : Int) 2 (fun j => if j = 1 then (wrA (l' + 1) A (-1) 0 x).2 else rtA A v), aN (wrA (l' + 1) A (-1) 0 x).1) := by
        unfold grA
        rw [if_pos ⟨by omega, by omega⟩]
        have e3 : ((hgt (szA A v) : Nat) : Int) + 1 = ((hgt (szA A v + 1) : Nat) : Int) := by omega
        rw [e3, l1]
      generalize wrA (l' + 1) A (-1) 0 x = r at r1 w1 w2 hgr ⊢
      obtain ⟨M2, e2, r2, f2⟩ := addRoot_C (fu := fu) r1 (by have := w1.1.1; omega) (by omega) (fun k k0 k1 => (gN_fl w1.2.1 k0 k1).2) ((hgt (szA A v + 1) : Nat) : Int) (rtA A v) r.2
      rw [e2, cal_some]
      obtain ⟨M3, e3, r3, f3⟩ := hJ M2 _ (aN r.1) r2 ⟨w1.2.2.1.1, w1.2.2.1.2.1, w1.2.2.1.2.2⟩ (by rw [addN_N]; have := w1.1.1; omega) (by rw [addN_N]; omega) (fun q hq => by rw [f2 q hq, f1 q hq])
      refine ⟨M3, e3, ⟨?_, hGood⟩, f3⟩
      unfold mkA
      rw [hgr]
      exact r3
/-! the first elements alone -/
theorem countElements_C {M : Mem} {A : AS} (h : CM M A) : ∀ (l n : Nat) {b x y : Int}, b ≤ aN A → okB A b (l + 1) x → 0 ≤ y → y ≤ 1000 - pw (l + 1) → l < n → f_X8_countElements_L8 fu n x y ((l : Int) + 1) M = some (M, y + ctA A (l + 1) x)
  | _, 0, _, _, _, _, _, _, _, h => by omega
  | 0, n + 1, b, x, y, hb, hx, hy, hy2, hn => by
    have hf := G_fl h.2 hx.1 (by have := hx.2.1; omega)
    rw [f_X8_countElements_L8, if_pos (by decide), fillAt_C h hx.1 (by have := hx.2.1; omega), cal_some, grd_pos (by simp only [pw] at hy2; omega)]
    show some (M, y + flA A x) = some (M, y + ((flA A x - 1) * 1 + 1))
    rw [Int.mul_one]
    congr 2
    omega
  | l + 1, n + 1, b, x, y, hb, hx, hy, hy2, hn => by
    have hN := h.2.2.2.1
    obtain ⟨k1, k2, k3, k4⟩ := okB_nod hN hb hx
    have hx0 := hx.1
    have hxb := hx.2.1
    have es : ((l + 1 : Nat) : Int) + 1 - 1 = ((l + 1 : Nat) : Int) := by omega
    have es2 : ((l + 1 : Nat) : Int) + 1 + -1 = (l : Int) + 1 := by omega
    have hb1 : 0 ≤ (flA A x - 1) * pw (l + 1) ∧ y + (flA A x - 1) * pw (l + 1) ≤ 1000 - pw (l + 1) ∧ 0 < pw (l + 1) := by
      generalize flA A x = f at k2 k3
      have : l = 0 ∨ l = 1 := by omega
      rcases this with rfl | rfl <;> simp only [pw] at hy2 ⊢ <;> omega
    rw [f_X8_countElements_L8, if_neg (by omega), fillAt_C h hx0 (by omega), cal_some, grd_pos (by omega), es, capacity_C (by omega), cal_some, grd_pos (by omega), entryAt_in h hx0 (by omega) (by omega) (by omega), cal_some, grd_pos (by omega), grd_pos (by omega), es2]
    rw [countElements_C h l n (b := x) (by omega) (k4 _ (by omega) (by omega)).1 (by omega) hb1.2.1 (by omega)]
    show some (M, y + (flA A x - 1) * pw (l + 1) + ctA A (l + 1) (enA A x (flA A x - 1))) = some (M, y + ((flA A x - 1) * pw (l + 1) + ctA A (l + 1) (enA A x (flA A x - 1))))
    rw [Int.add_assoc]
theorem copyWithFirst_C {A : AS} (hfu : 1000 ≤ fu) : ∀ (l d : Nat) {M : Mem} {n s : Int}, CM M A → l < 3 → aN A + (l + 1) ≤ 138 → okB A (aN A) (l + 1) n → 1 ≤ s → s ≤ ctA A (l + 1) n → l < d →
    ∃ M', f_X8_copyWithFirst fu d M n ((l : Int) + 1) s = some (M', (cuA (l + 1) A n s).2) ∧ RC M' (cuA (l + 1) A n s).1 ∧ ∀ q, q < 5 ∨ 9 < q → M' q = M q
  | _, 0, _, _, _, _, _, _, _, _, _, h => by omega
  | l, d + 1, M, n, s, h, hl, hcap, hn, hs1, hs2, hd => by
    have hN := h.2.2.2.1
    have hnr := CM_nr h
    have hnx := hn.1
    have hnb := hn.2.1
    obtain ⟨k1, k2, k3, k4⟩ := okB_nod hN (Int.le_refl _) hn
    have hce : f_X8_countElements fu M n ((l : Int) + 1) = some (M, ctA A (l + 1) n) := by
      unfold f_X8_countElements
      rw [countElements_C h l fu (Int.le_refl _) hn (by decide) (by rcases l_cases hl with rfl | rfl | rfl <;> decide) (by omega)]
      simp
    have hct := ctA_rng hN (l + 1) (Int.le_refl _) hn
    have hpw : pw (l + 1) ≤ 64 := by rcases l_cases hl with rfl | rfl | rfl <;> decide
    rw [f_X8_copyWithFirst, hce, cal_some]
    by_cases hs : ctA A (l + 1) n = s
    · rw [if_pos hs]
      have hc : cuA (l + 1) A n s = (A, n) := by rw [cuA, if_pos hs]
      rw [hc]
      exact ⟨M, rfl, h.1, fun _ _ => rfl⟩
    · rw [if_neg hs]
      have hlast := k4 (flA A n - 1) (by omega) (by omega)
      have hcl := ctA_rng hN l (b := n) (by omega) hlast.1
      have hlt : s < (flA A n - 1) * pw l + ctA A l (enA A n (flA A n - 1)) := by
        have : ctA A (l + 1) n = (flA A n - 1) * pw l + ctA A l (enA A n (flA A n - 1)) := rfl
        omega
      obtain ⟨a1, a2, a3, a4, a5⟩ := cu_ar hl k2 k3 hcl.1 hcl.2 hs1 hlt
      have hpos : (s - 1) / pw l % 4 = (s - 1) / pw l := Int.emod_eq_of_lt a1 (by omega)
      have hcu : cuA (l + 1) A n s = (addN (cuA l A (enA A n ((s - 1) / pw l)) (s - (s - 1) / pw l * pw l)).1 ((l : Int) + 1) ((s - 1) / pw l + 1) (fun j => if j = (s - 1) / pw l then (cuA l A (enA A n ((s - 1) / pw l)) (s - (s - 1) / pw l * pw l)).2 else enA A n j), aN (cuA l A (enA A n ((s - 1) / pw l)) (s - (s - 1) / pw l * pw l)).1) := by
        rw [cuA, if_neg hs]
      rw [hcu]
      generalize hp : (s - 1) / pw l = p at a1 a2 a3 a4 a5 hpos ⊢
      have hch := k4 p a1 a2
      have hsc : s - p * pw l ≤ ctA A l (enA A n p) := by
        by_cases h9 : p = flA A n - 1
        · have := a5 h9
          rw [h9] at this ⊢
          omega
        · rw [hch.2 (by omega)]; exact a4
      rw [grd_pos (by omega), positionIn_C hl, cal_some, hp, hpos, entryAt_in h hnx hnb a1 a2, cal_some]
      have hJ : ∀ (M1 : Mem) (A1 : AS) (c' : Int), RC M1 A1 → ext A A1 → gN A1 → aN A1 < 138 → (∀ q, q < 5 ∨ 9 < q → M1 q = M q) →
          ∃ M', f_X8_copyWithFirst_J60 fu (f_X8_copyWithFirst fu d) n ((l : Int) + 1) p c' M1 = some (M', aN A1) ∧ RC M' (addN A1 ((l : Int) + 1) (p + 1) (fun j => if j = p then c' else enA A n j)) ∧ ∀ q, q < 5 ∨ 9 < q → M' q = M q := by
        intro M1 A1 c' g1 hext hN1 hc1 hfr
        have hle := hext.1
        unfold f_X8_copyWithFirst_J60
        obtain ⟨M2, e2, r2, fr2⟩ := addCopy_C (fu := fu) g1 (by omega) hc1 (fun k k0 k1 => gN_fl hN1 k0 k1) (old := n) (kept := p) (p := p) (l := (l : Int) + 1) (x := c') (Or.inr ⟨hnx, by omega, a1, by rw [ext_fl hext hnx hnb]; omega⟩) a1 (Int.le_refl _) (by omega) hfu
        rw [if_neg (Int.lt_irrefl _)] at r2
        refine ⟨M2, by rw [e2, cal_some], RC_addN r2 (fun j j0 j1 => ?_), fun q hq => by rw [fr2 q hq, hfr q hq]⟩
        show (if j = p then c' else enA A1 n j) = if j = p then c' else enA A n j
        rw [ext_en hext hnx hnb j0]
      cases l with
      | zero =>
        rw [if_pos (by decide)]
        exact hJ M A (enA A n p) h.1 (ext_refl A) hN (by omega) (fun _ _ => rfl)
      | succ l =>
        have es : ((l + 1 : Nat) : Int) + 1 - 1 = ((l + 1 : Nat) : Int) := by omega
        have hpp : 0 ≤ p * pw (l + 1) ∧ p * pw (l + 1) ≤ 64 := by
          have : l = 0 ∨ l = 1 := by omega
          rcases this with rfl | rfl <;> simp only [pw] <;> omega
        rw [if_neg (by omega), grd_pos (by omega), es, capacity_C (by omega), cal_some, grd_pos (by omega), grd_pos (by omega)]
        obtain ⟨M1, e1, r1, f1⟩ := copyWithFirst_C hfu l d (n := enA A n p) (s := s - p * pw (l + 1)) h (by omega) (by omega) (okB_mono (by omega) hch.1) a3 hsc (by omega)
        have e9 : ((l + 1 : Nat) : Int) = (l : Int) + 1 := by omega
        rw [← e9] at e1
        rw [e1, cal_some]
        obtain ⟨w1, -, -⟩ := cuA_spec (l + 1) (by omega) hN hnr.1 (okB_mono (by omega) hch.1) a3 hsc
        exact hJ M1 _ _ r1 w1.1 w1.2.1 (by have := w1.2.2.2.1; omega) f1
theorem firstNodeAt_L {M : Mem} {A : AS} (h : CM M A) : ∀ (k l n : Nat) {b x : Int}, b ≤ aN A → okB A b (l + k) x → 1 ≤ l → k < n → f_X8_firstNodeAt_L16 fu n (l : Int) x ((l + k : Nat) : Int) M = some (M, dnA A k x)
  | _, _, 0, _, _, _, _, _, h => by omega
  | 0, l, n + 1, b, x, hb, hx, hl, hn => by
    rw [f_X8_firstNodeAt_L16, if_pos (by omega)]
    rfl
  | k + 1, l, n + 1, b, x, hb, hx, hl, hn => by
    have hx' : okB A b (l + k + 1) x := hx
    obtain ⟨k1, k2, k3, k4⟩ := okB_nod h.2.2.2.1 hb hx'
    have hxb := hx'.2.1
    have e : ((l + (k + 1) : Nat) : Int) + -1 = ((l + k : Nat) : Int) := by omega
    rw [f_X8_firstNodeAt_L16, if_neg (by omega), entryAt_in h hx'.1 (by omega) (by decide) (by omega), cal_some, grd_pos (by omega), e, firstNodeAt_L h k l n (b := x) (by omega) (k4 0 (by decide) (by omega)).1 hl (by omega)]
    rfl
theorem makeShorter_C {M : Mem} {A : AS} (hfu : 1000 ≤ fu) (h : CM M A) (hV : aV A < 40) {v s : Int} (hv : 0 ≤ v ∧ v < aV A) (hl : rlA A v = 0) (hs : 0 ≤ s ∧ s ≤ szA A v) :
    ∃ M', f_X8_makeShorter fu M v s = some (M', aV A) ∧ CM M' (mkT A v s) ∧ frS M M' := by
  have hG := h.2
  have hN := hG.2.2.1
  have hnr := CM_nr h
  have hvr := CM_vr h
  have gv := G_V hG hv.1 hv.2
  have hGood := Good_mkT hG hV hv hl hs
  have hJ : ∀ (M1 : Mem) (A1 : AS) (rt : Int), RC M1 A1 → (aV A1 = aV A ∧ vf A1 = vf A ∧ ev A1 = ev A) → aN A ≤ aN A1 → aN A1 ≤ 138 → (∀ q, q < 5 ∨ 9 < q → M1 q = M q) →
      ∃ M', f_X8_makeShorter_J35 fu v s (aN A) rt M1 = some (M', aV A) ∧ RC M' (addV A1 v rt s (aN A1 - aN A) (ev A v)) ∧ frS M M' := by
    intro M1 A1 rt r1 ⟨m3, m4, m5⟩ hle hle2 f1
    unfold f_X8_makeShorter_J35
    have hv1 : v < aV A1 := by rw [m3]; exact hv.2
    rw [r1.1, grd_pos (by omega)]
    obtain ⟨M2, e2, r2, f2⟩ := vadd_C (fu := fu) r1 (by rw [m3]; omega) (by rw [m3]; exact hV) (pa := v) (rt := rt) (s := s) (cr := aN A1 - aN A) (ci := -1) (cv := 0) (e := ev A v) hv1 (fun j j0 j1 => by
      refine Or.inr ⟨by omega, ?_, ?_⟩
      · have : szA A1 v = szA A v := by unfold szA; rw [m4]
        omega
      · rw [m5]) (fun w w0 w1 => by
      rw [m3] at w1 ⊢
      unfold paA; rw [m4]
      exact G_pal hG w w0 w1)
    rw [e2, cal_some, m3]
    exact ⟨M2, rfl, r2, fun q hq => by rw [f2 q (by omega), f1 q (by omega)]⟩
  unfold f_X8_makeShorter
  rw [CM_n h]
  unfold mkT at hGood ⊢
  by_cases hz : s = 0
  · rw [if_pos hz] at hGood ⊢
    rw [if_pos (by omega)]
    obtain ⟨M2, e2, r2, f2⟩ := hJ M A (-1) h.1 ⟨rfl, rfl, rfl⟩ (Int.le_refl _) hnr.2 (fun _ _ => rfl)
    rw [Int.sub_self, hz] at r2
    exact ⟨M2, e2, ⟨r2, hGood⟩, f2⟩
  · rw [if_neg hz] at hGood ⊢
    obtain ⟨l', l1, l2, l3, l4, l5, l6, -⟩ := G_tree hG hv.1 hv.2 (by omega)
    have hm := hgt_mono hs.2 gv.1.2
    have hp := hgt_pos (s := s) (by omega)
    have hfit := hgt_fit (s := s) (by omega) (by omega)
    obtain ⟨l, hl1⟩ : ∃ l, hgt s = l + 1 := ⟨hgt s - 1, by omega⟩
    have e : hgt (szA A v) = (l + 1) + (hgt (szA A v) - hgt s) := by omega
    have hok : okB A (aN A) (l + 1 + (hgt (szA A v) - hgt s)) (rtA A v) := by rw [← e, l1]; exact l3
    have hfn : f_X8_firstNodeAt fu M v ((hgt s : Nat) : Int) = some (M, dnA A (hgt (szA A v) - hgt s) (rtA A v)) := by
      unfold f_X8_firstNodeAt
      rw [rootAt_C h hv.1 hv.2, cal_some, heightAt_C h hv.1 hv.2, cal_some]
      have := firstNodeAt_L (fu := fu) h (hgt (szA A v) - hgt s) (l + 1) fu (Int.le_refl _) hok (by omega) (by omega)
      rw [← e] at this
      rw [hl1] at this ⊢
      exact this
    obtain ⟨d1, d2, d3, d4⟩ := dnA_spec hN (hgt (szA A v) - hgt s) (l := l + 1) (b := aN A) (n := rtA A v) (s := s) (Int.le_refl _) hok (by omega) (by rw [← e, l1]; omega) (by rw [← hl1]; exact hfit)
    rw [if_neg (by omega), heightFor_C (by omega), cal_some, hfn, cal_some, heightFor_C (by omega), cal_some]
    have eh : ((hgt s : Nat) : Int) = (l : Int) + 1 := by omega
    have hcap : aN A + (l + 1) ≤ 138 := by have := hG.2.1.2; omega
    obtain ⟨M1, e1, r1, f1⟩ := copyWithFirst_C hfu l 8 h (by omega) hcap d1 (by omega) d2 (by omega)
    obtain ⟨c1, -, -⟩ := cuA_spec (l + 1) (by omega) hN hnr.1 d1 (by omega) d2
    rw [eh, e1, cal_some]
    rw [hl1] at hGood ⊢
    rw [hl1] at r1 c1
    obtain ⟨M2, e2, r2, f2⟩ := hJ M1 _ (cuA (l + 1) A (dnA A (hgt (szA A v) - (l + 1)) (rtA A v)) s).2 r1 c1.2.2.1 c1.1.1 (by have := c1.2.2.2.1; omega) f1
    exact ⟨M2, e2, ⟨r2, hGood⟩, f2⟩
theorem drop_C {M : Mem} {A : AS} (h : CM M A) {v : Int} (hv : 0 ≤ v ∧ v < aV A) : ∃ M', f_X10_drop fu M v = some (M', 0) ∧ CM M' (mkR A v) ∧ frS M M' := by
  have hvr := CM_vr h
  refine ⟨up M 18 v.toNat 1, ?_, ⟨?_, Good_mkR h.2 hv⟩, fun q hq => up_cell _ _ (by omega)⟩
  · unfold f_X10_drop
    rw [putFlag_in hv.1 (by omega) (by decide), cal_some]
  · obtain ⟨r1, r2, ⟨s1, s2, s3, s4⟩, r4, r5⟩ := h.1
    have e : ∀ q, q ≠ 18 → up M 18 v.toNat 1 q = M q := fun q hq => up_cell _ _ hq
    have hvf : ∀ w j, j ≠ 3 → vf (mkR A v) w j = vf A w j := fun w j hj => if_neg (fun z => hj z.2)
    refine ⟨by rw [e 5 (by decide)]; exact r1, by rw [e 10 (by decide)]; exact r2, ⟨fun k k0 k1 => ?_, fun w w0 w1 => ?_, ?_, fun w w0 w1 i i0 i1 => ?_⟩, fun k k0 k1 => by rw [e 9 (by decide)]; exact r4 k k0 k1, fun w w0 w1 => ?_⟩
    · show up M 18 v.toNat 1 6 k.toNat = _ ∧ up M 18 v.toNat 1 7 k.toNat = _ ∧ ∀ j : Int, _ → _ → up M 18 v.toNat 1 8 (k * 4 + j).toNat = _
      rw [e 6 (by decide), e 7 (by decide), e 8 (by decide)]
      exact s1 k k0 k1
    · show up M 18 v.toNat 1 11 w.toNat = _ ∧ up M 18 v.toNat 1 12 w.toNat = _ ∧ up M 18 v.toNat 1 13 w.toNat = _ ∧ up M 18 v.toNat 1 14 w.toNat = _
      rw [e 11 (by decide), e 12 (by decide), e 13 (by decide), e 14 (by decide)]
      obtain ⟨w3, w4, w5, w6⟩ := s2 w w0 w1
      exact ⟨w3.trans (hvf w 2 (by decide)).symm, w4.trans (hvf w 1 (by decide)).symm, w5.trans (hvf w 0 (by decide)).symm, w6.trans (hvf w 4 (by decide)).symm⟩
    · show up M 18 v.toNat 1 15 0 = -1 ∧ ∀ i : Int, _ → _ → up M 18 v.toNat 1 17 i.toNat = _
      rw [e 15 (by decide), e 17 (by decide)]
      refine ⟨s3.1, fun i i0 i1 => s3.2 i i0 ?_⟩
      have e0 : szA (mkR A v) 0 = szA A 0 := hvf 0 0 (by decide)
      omega
    · show (up M 18 v.toNat 1 15 w.toNat = i ∧ up M 18 v.toNat 1 16 w.toNat = _) ∨ (up M 18 v.toNat 1 15 w.toNat ≠ i ∧ _)
      rw [e 15 (by decide), e 16 (by decide)]
      have e0 : szA (mkR A v) w = szA A w := hvf w 0 (by decide)
      have e2 : paA (mkR A v) w = paA A w := hvf w 2 (by decide)
      have e3 : szA (mkR A v) (paA A w) = szA A (paA A w) := hvf _ 0 (by decide)
      rw [e2, e3]
      exact s4 w w0 w1 i i0 (by omega)
    · rw [up_toNat hv.1 w0]
      by_cases hw : w = v
      · rw [if_pos hw]
        exact (if_pos ⟨hw, rfl⟩ : rlA (mkR A v) w = 1).symm
      · rw [if_neg hw]
        exact (r5 w w0 w1).trans (if_neg (fun z => hw z.1) : rlA (mkR A v) w = rlA A w).symm
end CMut2
