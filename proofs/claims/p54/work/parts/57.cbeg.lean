/-! the class makes version 0 -/
def RN (M : Mem) (A : AS) : Prop := M 5 0 = aN A ∧ (∀ k, 0 ≤ k → k < aN A → (M 6 k.toNat = lvA A k ∧ M 7 k.toNat = flA A k ∧ ∀ j, 0 ≤ j → j < flA A k → M 8 (k * 4 + j).toNat = enA A k j) ∧ flA A k ≤ 4) ∧ (∀ k, 0 ≤ k → k < aN A → M 9 k.toNat = coA A k)
section CBeg
variable {fu : Nat}
theorem PN_rn {M M' : Mem} {A : AS} {l f : Int} {e e' : Int → Int} (h : RN M A) (h0 : 0 ≤ aN A) (hp : PN M A l f e M') (hf4 : f ≤ 4) (he : ∀ j, 0 ≤ j → j < f → e j = e' j) : RN M' (addN A l f e') := by
  obtain ⟨q1, q2, q3, q4, q5, q6, q7, q8⟩ := hp
  obtain ⟨r1, s1, r4⟩ := h
  refine ⟨q1, fun k k0 k1 => ?_, fun k k0 k1 => ?_⟩
  · rw [addN_N] at k1
    by_cases hk : k = aN A
    · rw [hk, addN_lv, addN_fl]
      refine ⟨⟨q2, q3, fun j j0 j1 => ?_⟩, hf4⟩
      rw [addN_en _ _ _ _ j0, ← he j j0 j1]
      exact q4 j j0 j1
    · obtain ⟨⟨w1, w2, w3⟩, w4⟩ := s1 k k0 (by omega)
      obtain ⟨p1, p2, -⟩ := q6 k k0 (by omega)
      have hfl : flA (addN A l f e') k = flA A k := addN_old hk 1
      rw [show lvA (addN A l f e') k = lvA A k from addN_old hk 0, hfl, p1, p2]
      refine ⟨⟨w1, w2, fun j j0 j1 => ?_⟩, w4⟩
      rw [show enA (addN A l f e') k j = enA A k j from addN_old hk _, q7 _ (by omega) (by omega)]
      exact w3 j j0 j1
  · rw [addN_N] at k1
    by_cases hk : k = aN A
    · rw [hk, addN_co]; exact q5
    · rw [show coA (addN A l f e') k = coA A k from addN_old hk 2, (q6 k k0 (by omega)).2.2]
      exact r4 k k0 (by omega)
theorem PN_e {M M' : Mem} {A : AS} {l f : Int} {e e' : Int → Int} (h : PN M A l f e M') (he : ∀ j, 0 ≤ j → j < f → e j = e' j) : PN M A l f e' M' :=
  ⟨h.1, h.2.1, h.2.2.1, fun j j0 j1 => by rw [← he j j0 j1]; exact h.2.2.2.1 j j0 j1, h.2.2.2.2⟩
/-- i items of a level placed -/
def LI (l c : Int) (ent : Int → Int) (A0 : AS) (M0 : Mem) (i : Int) (M : Mem) : Prop :=
  ∃ Mb, RN Mb (mkL l c ent (i / 4).toNat A0) ∧ ((i % 4 = 0 ∧ M = Mb) ∨ (i % 4 ≠ 0 ∧ PN Mb (mkL l c ent (i / 4).toNat A0) l (i % 4) (fun j => ent (4 * (i / 4) + j)) M)) ∧ ∀ q, q < 5 ∨ 9 < q → M q = M0 q
theorem LI_step {l c : Int} {ent : Int → Int} {A0 : AS} {M0 M : Mem} {i : Int} (h : LI l c ent A0 M0 i M) (h0 : 0 ≤ aN A0) (hcap : aN A0 + 16 ≤ 138) (hc : c ≤ 64) (i0 : 0 ≤ i) (i1 : i < c) :
    (i % 4 = 0 → ∃ M1 M2, f_X3_add fu M l = some (M1, aN A0 + i / 4) ∧ (∀ q, q < 5 ∨ 9 < q → M1 q = M q) ∧ f_X3_place fu M1 (aN A0 + i / 4) (i % 4) (ent i) = some (M2, 0) ∧ LI l c ent A0 M0 (i + 1) M2) ∧
    (i % 4 ≠ 0 → ∃ M2, f_X3_place fu M (aN A0 + i / 4) (i % 4) (ent i) = some (M2, 0) ∧ LI l c ent A0 M0 (i + 1) M2) := by
  obtain ⟨Mb, r, hcase, hfr⟩ := h
  have hN := mkL_N l c ent A0 (i / 4).toNat
  have hNe : aN (mkL l c ent (i / 4).toNat A0) = aN A0 + i / 4 := by rw [hN]; omega
  have hmk : mkL l c ent ((i / 4).toNat + 1) A0 = addN (mkL l c ent (i / 4).toNat A0) l (imin 4 (c - 4 * (((i / 4).toNat : Nat) : Int))) (fun j => ent (4 * (((i / 4).toNat : Nat) : Int) + j)) := rfl
  have ei : (((i / 4).toNat : Nat) : Int) = i / 4 := by omega
  rw [ei] at hmk
  refine ⟨fun hz => ?_, fun hz => ?_⟩
  · rcases hcase with ⟨-, hM⟩ | ⟨hn, -⟩
    · subst hM
      obtain ⟨M1, e1, p1⟩ := PN_add (fu := fu) r.1 (by rw [hNe]; omega) (by rw [hNe]; omega) l (fun j => ent (4 * (i / 4) + j))
      obtain ⟨M2, e2, p2⟩ := PN_place (fu := fu) (by rw [hNe]; omega) (by rw [hNe]; omega) p1 (p := 0) (ent i) (Int.le_refl 0) (Int.le_refl 0) (by decide) (by decide)
      rw [if_neg (Int.lt_irrefl _)] at p2
      rw [hNe] at e1 e2
      rw [hz]
      have hd1 : (i + 1) / 4 = i / 4 := by omega
      have hm1 : (i + 1) % 4 = 0 + 1 := by omega
      refine ⟨M1, M2, e1, p1.2.2.2.2.2.2.2, e2, M, by rw [hd1]; exact r, Or.inr ⟨by omega, ?_⟩, fun q hq => by rw [p2.2.2.2.2.2.2.2 q hq]; exact hfr q hq⟩
      rw [hd1, hm1]
      refine PN_e p2 (fun j j0 j1 => ?_)
      show (if j = 0 then ent i else ent (4 * (i / 4) + j)) = ent (4 * (i / 4) + j)
      have hj : j = 0 := by omega
      rw [if_pos hj]
      congr 1
      omega
    · exact absurd hz hn
  · rcases hcase with ⟨hn, -⟩ | ⟨-, p⟩
    · exact absurd hn hz
    · obtain ⟨M2, e2, p2⟩ := PN_place (fu := fu) (by rw [hNe]; omega) (by rw [hNe]; omega) p (p := i % 4) (ent i) (by omega) (Int.le_refl _) (by omega) (by omega)
      rw [if_neg (Int.lt_irrefl _)] at p2
      rw [hNe] at e2
      have p3 : PN Mb (mkL l c ent (i / 4).toNat A0) l (i % 4 + 1) (fun j => ent (4 * (i / 4) + j)) M2 := PN_e p2 (fun j j0 j1 => by
        show (if j = i % 4 then ent i else ent (4 * (i / 4) + j)) = ent (4 * (i / 4) + j)
        by_cases hj : j = i % 4
        · rw [if_pos hj]
          congr 1
          omega
        · rw [if_neg hj])
      refine ⟨M2, e2, ?_⟩
      by_cases h4 : i % 4 = 3
      · have hd1 : ((i + 1) / 4).toNat = (i / 4).toNat + 1 := by omega
        have h9 : i % 4 + 1 = imin 4 (c - 4 * (i / 4)) := by unfold imin; split <;> omega
        refine ⟨M2, ?_, Or.inl ⟨by omega, rfl⟩, fun q hq => by rw [p2.2.2.2.2.2.2.2 q hq]; exact (p.2.2.2.2.2.2.2 q hq).symm.trans (hfr q hq)⟩
        rw [hd1, hmk]
        rw [h9] at p3
        exact PN_rn r (by rw [hNe]; omega) p3 (by omega) (fun _ _ _ => rfl)
      · have hd1 : (i + 1) / 4 = i / 4 := by omega
        have hm1 : (i + 1) % 4 = i % 4 + 1 := by omega
        refine ⟨Mb, by rw [hd1]; exact r, Or.inr ⟨by omega, ?_⟩, fun q hq => by rw [p2.2.2.2.2.2.2.2 q hq]; exact (p.2.2.2.2.2.2.2 q hq).symm.trans (hfr q hq)⟩
        rw [hd1, hm1]
        exact p3
theorem LI_end {l c : Int} {ent : Int → Int} {A0 : AS} {M0 M : Mem} (h : LI l c ent A0 M0 c M) (h0 : 0 ≤ aN A0) (hc : 0 ≤ c) : RN M (mkL l c ent (cei c) A0) ∧ ∀ q, q < 5 ∨ 9 < q → M q = M0 q := by
  obtain ⟨Mb, r, hcase, hfr⟩ := h
  refine ⟨?_, hfr⟩
  have hN := mkL_N l c ent A0 (c / 4).toNat
  rcases hcase with ⟨hz, hM⟩ | ⟨hn, p⟩
  · have : cei c = (c / 4).toNat := by unfold cei; omega
    rw [this, hM]
    exact r
  · have : cei c = (c / 4).toNat + 1 := by unfold cei; omega
    have ei : (((c / 4).toNat : Nat) : Int) = c / 4 := by omega
    have h9 : c % 4 = imin 4 (c - 4 * (c / 4)) := by unfold imin; split <;> omega
    rw [this, mkL, ei, ← h9]
    exact PN_rn r (by rw [hN]; omega) p (by omega) (fun _ _ _ => rfl)
theorem LI_0 {l c : Int} {ent : Int → Int} {A0 : AS} {M : Mem} (h : RN M A0) : LI l c ent A0 M 0 M := ⟨M, h, Or.inl ⟨rfl, rfl⟩, fun _ _ => rfl⟩
theorem addLeaves_C {M : Mem} {k1 n1 : Nat} {s : Int} (hr : RN M E0) (hk : k1 < 5 ∨ 9 < k1) (hs : 0 ≤ s ∧ s ≤ n1) (hn : n1 ≤ 64) (hfu : 1000 ≤ fu) :
    ∃ M', f_X8_addLeaves fu M k1 n1 s = some (M', 0) ∧ RN M' (nd1 s (fun i => M k1 i.toNat)) ∧ ∀ q, q < 5 ∨ 9 < q → M' q = M q := by
  unfold f_X8_addLeaves
  have := lp_mem (F := fun n i M' => f_X8_addLeaves_L5 fu k1 n1 n s (if i = 0 then -1 else (i - 1) / 4) i M') (fun i M' => LI 1 s (fun i => M k1 i.toNat) E0 M i M') s
    (Q := fun o => ∃ M', o = (M', 0) ∧ RN M' (nd1 s (fun i => M k1 i.toNat)) ∧ ∀ q, q < 5 ∨ 9 < q → M' q = M q)
    (fun n i M1 i0 i1 hP => by
      obtain ⟨st1, st2⟩ := LI_step (fu := fu) hP (show (0 : Int) ≤ 0 by decide) (show (0 : Int) + 16 ≤ 138 by decide) (by omega) i0 i1
      have hN0 : aN E0 + i / 4 = i / 4 := by show (0 : Int) + i / 4 = i / 4; omega
      rw [hN0] at st1 st2
      have hnx : (if i + 1 = 0 then (-1 : Int) else (i + 1 - 1) / 4) = i / 4 := by rw [if_neg (by omega)]; congr 1; omega
      obtain ⟨-, -, -, hfrq⟩ := hP
      by_cases hz : i % 4 = 0
      · obtain ⟨M2, M3, e2, f2, e3, l3⟩ := st1 hz
        refine ⟨M3, ?_, l3⟩
        show f_X8_addLeaves_L5 fu k1 n1 (n + 1) s (if i = 0 then -1 else (i - 1) / 4) i M1 = f_X8_addLeaves_L5 fu k1 n1 n s (if i + 1 = 0 then -1 else (i + 1 - 1) / 4) (i + 1) M3
        have ev1 : M2 k1 i.toNat = M k1 i.toNat := by rw [f2 k1 hk, hfrq k1 hk]
        rw [f_X8_addLeaves_L5, if_neg (by omega), positionIn_1, cal_some, if_pos hz, e2, cal_some]
        unfold f_X8_addLeaves_J33
        rw [at_in i0 (by omega), cal_some, ev1, e3, cal_some, grd_pos (by omega), hnx]
      · obtain ⟨M3, e3, l3⟩ := st2 hz
        refine ⟨M3, ?_, l3⟩
        show f_X8_addLeaves_L5 fu k1 n1 (n + 1) s (if i = 0 then -1 else (i - 1) / 4) i M1 = f_X8_addLeaves_L5 fu k1 n1 n s (if i + 1 = 0 then -1 else (i + 1 - 1) / 4) (i + 1) M3
        have hold : (if i = 0 then (-1 : Int) else (i - 1) / 4) = i / 4 := by rw [if_neg (by omega)]; omega
        have ev1 : M1 k1 i.toNat = M k1 i.toNat := by rw [hfrq k1 hk]
        rw [f_X8_addLeaves_L5, if_neg (by omega), positionIn_1, cal_some, if_neg hz]
        unfold f_X8_addLeaves_J33
        rw [at_in i0 (by omega), cal_some, ev1, hold, e3, cal_some, grd_pos (by omega), hnx])
    (fun n M1 hP => by
      refine ⟨(M1, 0), ?_, M1, rfl, LI_end hP (show (0 : Int) ≤ 0 by decide) hs.1⟩
      show f_X8_addLeaves_L5 fu k1 n1 (n + 1) s _ s M1 = _
      rw [f_X8_addLeaves_L5, if_pos (Int.le_refl _)]) fu 0 M (by omega) (by omega) (by omega) (LI_0 hr)
  obtain ⟨o, e, M', rfl, r⟩ := this
  exact ⟨M', e, r⟩
theorem addParents_C {M : Mem} {A0 : AS} {l b c : Int} (hr : RN M A0) (h0 : 0 ≤ aN A0) (hcap : aN A0 + 16 ≤ 138) (hb : 0 ≤ b ∧ b ≤ 100) (hc : 0 ≤ c ∧ c ≤ 64) (hfu : 1000 ≤ fu) :
    ∃ M', f_X8_addParents fu M l b (b + c) = some (M', 0) ∧ RN M' (mkL l c (fun k => b + k) (cei c) A0) ∧ ∀ q, q < 5 ∨ 9 < q → M' q = M q := by
  unfold f_X8_addParents
  have := lp_mem (F := fun n i M' => f_X8_addParents_L6 fu n l b (b + c) (if i = 0 then -1 else aN A0 + (i - 1) / 4) (b + i) M') (fun i M' => LI l c (fun k => b + k) A0 M i M') c
    (Q := fun o => ∃ M', o = (M', 0) ∧ RN M' (mkL l c (fun k => b + k) (cei c) A0) ∧ ∀ q, q < 5 ∨ 9 < q → M' q = M q)
    (fun n i M1 i0 i1 hP => by
      obtain ⟨st1, st2⟩ := LI_step (fu := fu) hP h0 hcap hc.2 i0 i1
      have hnx : (if i + 1 = 0 then (-1 : Int) else aN A0 + (i + 1 - 1) / 4) = aN A0 + i / 4 := by rw [if_neg (by omega)]; congr 2; omega
      have eb : b + i - b = i := by omega
      by_cases hz : i % 4 = 0
      · obtain ⟨M2, M3, e2, f2, e3, l3⟩ := st1 hz
        refine ⟨M3, ?_, l3⟩
        show f_X8_addParents_L6 fu (n + 1) l b (b + c) (if i = 0 then -1 else aN A0 + (i - 1) / 4) (b + i) M1 = f_X8_addParents_L6 fu n l b (b + c) (if i + 1 = 0 then -1 else aN A0 + (i + 1 - 1) / 4) (b + (i + 1)) M3
        rw [f_X8_addParents_L6, if_neg (by omega), eb, grd_pos (by omega), positionIn_1, cal_some, if_pos hz, e2, cal_some]
        unfold f_X8_addParents_J37
        rw [e3, cal_some, grd_pos (by omega), hnx, Int.add_assoc]
      · obtain ⟨M3, e3, l3⟩ := st2 hz
        refine ⟨M3, ?_, l3⟩
        show f_X8_addParents_L6 fu (n + 1) l b (b + c) (if i = 0 then -1 else aN A0 + (i - 1) / 4) (b + i) M1 = f_X8_addParents_L6 fu n l b (b + c) (if i + 1 = 0 then -1 else aN A0 + (i + 1 - 1) / 4) (b + (i + 1)) M3
        have hold : (if i = 0 then (-1 : Int) else aN A0 + (i - 1) / 4) = aN A0 + i / 4 := by rw [if_neg (by omega)]; omega
        rw [f_X8_addParents_L6, if_neg (by omega), eb, grd_pos (by omega), positionIn_1, cal_some, if_neg hz]
        unfold f_X8_addParents_J37
        rw [hold, e3, cal_some, grd_pos (by omega), hnx, Int.add_assoc])
    (fun n M1 hP => by
      refine ⟨(M1, 0), ?_, M1, rfl, LI_end hP h0 hc.1⟩
      show f_X8_addParents_L6 fu (n + 1) l b (b + c) _ (b + c) M1 = _
      rw [f_X8_addParents_L6, if_pos (Int.le_refl _)]) fu 0 M (by omega) (by omega) (by omega) (LI_0 hr)
  obtain ⟨o, e, M', rfl, r⟩ := this
  rw [Int.add_zero, if_pos rfl] at e
  exact ⟨M', e, r⟩
theorem copyRow2_C (M : Mem) {k0 n0 k1 n1 : Nat} (hk : k0 ≠ k1) (hn : n0 ≤ n1) (hn2 : n1 ≤ 1000) (hfu : 2000 ≤ fu) : ∃ M', f_X11_copyRow fu M k0 n0 k1 n1 = some (M', 0) ∧ only k1 M M' ∧ ∀ i : Int, 0 ≤ i → i < n0 → M' k1 i.toNat = M k0 i.toNat := by
  unfold f_X11_copyRow
  have := lp_mem (F := fun m i M' => f_X11_copyRow_L2 fu k0 n0 k1 n1 m i M') (fun i M' => only k1 M M' ∧ ∀ j : Int, 0 ≤ j → j < i → M' k1 j.toNat = M k0 j.toNat) n0
    (Q := fun o => ∃ M', o = (M', 0) ∧ only k1 M M' ∧ ∀ j : Int, 0 ≤ j → j < n0 → M' k1 j.toNat = M k0 j.toNat)
    (fun m i M1 i0 i1 hP => by
      refine ⟨up M1 k1 i.toNat (M1 k0 i.toNat), ?_, only_trans hP.1 (only_up _ _ _ _), fun j j0 j1 => ?_⟩
      · show f_X11_copyRow_L2 fu k0 n0 k1 n1 (m + 1) i M1 = _
        rw [f_X11_copyRow_L2, if_neg (by omega), if_neg (by omega), grd_pos ⟨i0, i1⟩, grd_pos ⟨i0, by omega⟩, grd_pos (by omega)]
      · rw [up_toNat i0 j0]
        by_cases hji : j = i
        · rw [if_pos hji, hji, hP.1 k0 hk]
        · rw [if_neg hji]; exact hP.2 j j0 (by omega))
    (fun m M1 hP => by
      refine ⟨(M1, 0), ?_, M1, rfl, hP⟩
      show f_X11_copyRow_L2 fu k0 n0 k1 n1 (m + 1) n0 M1 = _
      rw [f_X11_copyRow_L2, if_pos (Int.le_refl _)]) fu 0 M (by omega) (by omega) (by omega) ⟨only_refl _ _, fun j j0 j1 => by omega⟩
  obtain ⟨o, e, M', rfl, h⟩ := this
  exact ⟨M', e, h⟩
theorem vzero_C {M : Mem} {B : AS} {k1 n1 : Nat} {s rt cr : Int} (h : RN M B) (hV : aV B = 0) (hk : k1 < 10 ∨ 18 < k1) (hs : 0 ≤ s ∧ s ≤ n1) (hn : n1 ≤ 64) (hfu : 2000 ≤ fu) :
    ∃ M', f_X10_begin fu M k1 n1 s rt cr = some (M', 0) ∧ RC M' (addV B (-1) rt s cr (fun i => M k1 i.toNat)) ∧ ∀ q, q < 10 ∨ 18 < q → M' q = M q := by
  obtain ⟨M1, e1, o1, c1⟩ := copyRow2_C (fu := fu) M (k0 := k1) (n0 := n1) (k1 := 17) (n1 := 64) (by omega) hn (by decide) hfu
  have z0 : ((0 : Int)).toNat = 0 := rfl
  have e10 : up M1 10 0 0 10 0 = 0 := up_same _ _ _ _
  have hadd : f_X10_add fu (up M1 10 0 0) (-1) rt s cr (-1) 0 = some (up (up (up (up (up (up (up (up (up M1 10 0 0) 11 0 (-1)) 12 0 rt) 13 0 s) 14 0 cr) 15 0 (-1)) 16 0 0) 18 0 0) 10 0 1, 0) := by
    have e10b : up (up (up (up (up (up (up (up M1 10 0 0) 11 0 (-1)) 12 0 rt) 13 0 s) 14 0 cr) 15 0 (-1)) 16 0 0) 18 0 0 10 0 = 0 := by
      rw [up_cell _ _ (by decide), up_cell _ _ (by decide), up_cell _ _ (by decide), up_cell _ _ (by decide), up_cell _ _ (by decide), up_cell _ _ (by decide), up_cell _ _ (by decide)]
      exact e10
    unfold f_X10_add
    rw [e10, put_in (by decide) (by decide), cal_some, put_in (by decide) (by decide), cal_some, put_in (by decide) (by decide), cal_some, put_in (by decide) (by decide), cal_some, put_in (by decide) (by decide), cal_some, put_in (by decide) (by decide), cal_some, putFlag_in (by decide) (by decide) (by decide), cal_some]
    simp only [z0]
    rw [e10b, grd_pos (by decide)]
    rfl
  unfold f_X10_begin
  rw [e1, cal_some, hadd, cal_some]
  refine ⟨_, rfl, ?_, fun q hq => ?_⟩
  · have g : ∀ q, q < 10 ∨ 18 < q ∨ q = 17 → up (up (up (up (up (up (up (up (up M1 10 0 0) 11 0 (-1)) 12 0 rt) 13 0 s) 14 0 cr) 15 0 (-1)) 16 0 0) 18 0 0) 10 0 1 q = M1 q := fun q hq => by
      rw [up_cell _ _ (by omega), up_cell _ _ (by omega), up_cell _ _ (by omega), up_cell _ _ (by omega), up_cell _ _ (by omega), up_cell _ _ (by omega), up_cell _ _ (by omega), up_cell _ _ (by omega), up_cell _ _ (by omega)]
    have g10 : up (up (up (up (up (up (up (up (up M1 10 0 0) 11 0 (-1)) 12 0 rt) 13 0 s) 14 0 cr) 15 0 (-1)) 16 0 0) 18 0 0) 10 0 1 10 0 = 1 := up_same _ _ _ _
    have g11 : up (up (up (up (up (up (up (up (up M1 10 0 0) 11 0 (-1)) 12 0 rt) 13 0 s) 14 0 cr) 15 0 (-1)) 16 0 0) 18 0 0) 10 0 1 11 0 = -1 := by
      rw [up_cell _ _ (by decide), up_cell _ _ (by decide), up_cell _ _ (by decide), up_cell _ _ (by decide), up_cell _ _ (by decide), up_cell _ _ (by decide), up_cell _ _ (by decide), up_same]
    have g12 : up (up (up (up (up (up (up (up (up M1 10 0 0) 11 0 (-1)) 12 0 rt) 13 0 s) 14 0 cr) 15 0 (-1)) 16 0 0) 18 0 0) 10 0 1 12 0 = rt := by
      rw [up_cell _ _ (by decide), up_cell _ _ (by decide), up_cell _ _ (by decide), up_cell _ _ (by decide), up_cell _ _ (by decide), up_cell _ _ (by decide), up_same]
    have g13 : up (up (up (up (up (up (up (up (up M1 10 0 0) 11 0 (-1)) 12 0 rt) 13 0 s) 14 0 cr) 15 0 (-1)) 16 0 0) 18 0 0) 10 0 1 13 0 = s := by
      rw [up_cell _ _ (by decide), up_cell _ _ (by decide), up_cell _ _ (by decide), up_cell _ _ (by decide), up_cell _ _ (by decide), up_same]
    have g14 : up (up (up (up (up (up (up (up (up M1 10 0 0) 11 0 (-1)) 12 0 rt) 13 0 s) 14 0 cr) 15 0 (-1)) 16 0 0) 18 0 0) 10 0 1 14 0 = cr := by
      rw [up_cell _ _ (by decide), up_cell _ _ (by decide), up_cell _ _ (by decide), up_cell _ _ (by decide), up_same]
    have g15 : up (up (up (up (up (up (up (up (up M1 10 0 0) 11 0 (-1)) 12 0 rt) 13 0 s) 14 0 cr) 15 0 (-1)) 16 0 0) 18 0 0) 10 0 1 15 0 = -1 := by
      rw [up_cell _ _ (by decide), up_cell _ _ (by decide), up_cell _ _ (by decide), up_same]
    have g18 : up (up (up (up (up (up (up (up (up M1 10 0 0) 11 0 (-1)) 12 0 rt) 13 0 s) 14 0 cr) 15 0 (-1)) 16 0 0) 18 0 0) 10 0 1 18 0 = 0 := by
      rw [up_cell _ _ (by decide), up_same]
    generalize up (up (up (up (up (up (up (up (up M1 10 0 0) 11 0 (-1)) 12 0 rt) 13 0 s) 14 0 cr) 15 0 (-1)) 16 0 0) 18 0 0) 10 0 1 = M' at *
    obtain ⟨r1, s1, r4⟩ := h
    have q : ∀ k, k < 10 → M' k = M k := fun k hk => by rw [g k (Or.inl hk), o1 k (by omega)]
    have hva : aV (addV B (-1) rt s cr (fun i => M k1 i.toNat)) = 1 := by rw [addV_V, hV]; rfl
    have a0 := addV_sz B (-1) rt s cr (fun i => M k1 i.toNat)
    have a1 := addV_rt B (-1) rt s cr (fun i => M k1 i.toNat)
    have a2 := addV_pa B (-1) rt s cr (fun i => M k1 i.toNat)
    have a3 := addV_rl B (-1) rt s cr (fun i => M k1 i.toNat)
    have a4 := addV_cr B (-1) rt s cr (fun i => M k1 i.toNat)
    have a5 := addV_e B (-1) rt s cr (fun i => M k1 i.toNat)
    rw [hV] at a0 a1 a2 a3 a4 a5
    refine ⟨by rw [q 5 (by decide)]; exact r1, by rw [hva]; exact g10, ⟨fun k k0 k1' => ?_, fun v v0 v1 => ?_, ⟨g15, fun i i0 i1 => ?_⟩, fun v v0 v1 => by rw [hva] at v1; omega⟩, fun k k0 k1' => by rw [q 9 (by decide)]; exact r4 k k0 k1', fun v v0 v1 => ?_⟩
    · show M' 6 k.toNat = _ ∧ M' 7 k.toNat = _ ∧ ∀ j : Int, _ → _ → M' 8 (k * 4 + j).toNat = _
      rw [q 6 (by decide), q 7 (by decide), q 8 (by decide)]
      exact (s1 k k0 k1').1
    · rw [hva] at v1
      have hz : v = 0 := by omega
      subst hz
      show M' 11 0 = _ ∧ M' 12 0 = _ ∧ M' 13 0 = _ ∧ M' 14 0 = _
      rw [g11, g12, g13, g14, a0, a1, a2, a4]
      exact ⟨rfl, rfl, rfl, rfl⟩
    · rw [a0] at i1
      show M' 17 i.toNat = _
      rw [g 17 (Or.inr (Or.inr rfl)), c1 i i0 (by omega), a5]
    · rw [hva] at v1
      have hz : v = 0 := by omega
      subst hz
      rw [a3]
      exact g18
  · rw [up_cell _ _ (by omega), up_cell _ _ (by omega), up_cell _ _ (by omega), up_cell _ _ (by omega), up_cell _ _ (by omega), up_cell _ _ (by omega), up_cell _ _ (by omega), up_cell _ _ (by omega), up_cell _ _ (by omega), o1 q (by omega)]
theorem begin_C {M : Mem} {k1 n1 : Nat} {s : Int} (hk : k1 < 5 ∨ 18 < k1) (hs : 0 ≤ s ∧ s ≤ n1) (hn : n1 ≤ 64) (hfu : 2000 ≤ fu) (hv : ∀ i, 0 ≤ i → i < s → -999 ≤ M k1 i.toNat ∧ M k1 i.toNat ≤ 999) :
    ∃ M', f_X8_begin fu M k1 n1 s = some (M', 0) ∧ CM M' (mk0 s (fun i => M k1 i.toNat)) ∧ ∀ q, q < 5 ∨ 18 < q → M' q = M q := by
  have hRN0 : RN (up M 5 0 0) E0 := ⟨up_same _ _ _ _, fun k k0 k1 => by have h9 : k < 0 := k1; omega, fun k k0 k1 => by have h9 : k < 0 := k1; omega⟩
  obtain ⟨M1, e1, r1, f1⟩ := addLeaves_C (fu := fu) hRN0 (k1 := k1) (n1 := n1) (s := s) (by omega) hs hn (by omega)
  have hk5 : up M 5 0 0 k1 = M k1 := up_cell _ _ (by omega)
  rw [hk5] at r1
  generalize hvals : (fun i : Int => M k1 i.toNat) = vals at r1
  have hGood : Good (mk0 s vals) := Good_mk0 hs.1 (by omega) (fun i i0 i1 => by rw [← hvals]; exact hv i i0 i1)
  have hend : ∀ (M2 : Mem), RN M2 (nd0 s vals) → (∀ q, q < 5 ∨ 9 < q → M2 q = M q) → ∃ M', f_X8_begin_J72 fu k1 n1 s (if s ≤ 0 then -1 else aN (nd0 s vals) - 1) M2 = some (M', 0) ∧ CM M' (mk0 s vals) ∧ ∀ q, q < 5 ∨ 18 < q → M' q = M q := fun M2 r2 f2 => by
    have hV : aV (nd0 s vals) = 0 := by
      by_cases h0 : s ≤ 0
      · have : nd0 s vals = E0 := if_pos h0
        rw [this]; rfl
      · exact (nd0_lv (by omega) (by omega) (fun i i0 i1 => by rw [← hvals]; exact hv i i0 i1)).2.2.2.1
    obtain ⟨M3, e3, r3, f3⟩ := vzero_C (fu := fu) r2 hV (k1 := k1) (n1 := n1) (s := s) (rt := if s ≤ 0 then -1 else aN (nd0 s vals) - 1) (cr := aN (nd0 s vals)) (by omega) hs hn hfu
    have e9 : (fun i : Int => M2 k1 i.toNat) = vals := by rw [← hvals, f2 k1 (by omega)]
    rw [e9] at r3
    unfold f_X8_begin_J72
    rw [r2.1, e3, cal_some]
    exact ⟨M3, rfl, ⟨r3, hGood⟩, fun q hq => by rw [f3 q (by omega), f2 q (by omega)]⟩
  have f1' : ∀ q, q < 5 ∨ 9 < q → M1 q = M q := fun q hq => by rw [f1 q hq, up_cell _ _ (by omega)]
  obtain ⟨f, hf⟩ : ∃ f, fu = f + 4 := ⟨fu - 4, by omega⟩
  have hh := fun (Mx : Mem) => heightFor_C (M := Mx) (fu := fu) (s := s) (by omega)
  unfold f_X8_begin
  rw [e1, cal_some]
  have c1 : 4 * ((cei s : Int) - 1) < s ∧ s ≤ 4 * (cei s : Int) := by unfold cei; omega
  have n1' : aN (nd1 s vals) = (cei s : Int) := by unfold nd1; rw [mkL_N]; show (0 : Int) + _ = _; omega
  have key : ∀ (a : Nat), a = f + 4 → ∃ M', f_X8_begin_L19 fu k1 n1 a s 0 2 M1 = some (M', 0) ∧ CM M' (mk0 s vals) ∧ ∀ q, q < 5 ∨ 18 < q → M' q = M q := by
    intro a ha
    subst ha
    rw [f_X8_begin_L19, hh, cal_some]
    rcases hgt_cases (s := s) (by omega) with q | q | q | q
    · have hz : s = 0 := by omega
      have hce : cei s = 0 := by rw [hz]; rfl
      have e0 : nd0 s vals = E0 := if_pos q.1
      have e1' : nd1 s vals = E0 := by unfold nd1; rw [hce]; rfl
      rw [e1'] at r1
      obtain ⟨M', e', r', f'⟩ := hend M1 (by rw [e0]; exact r1) f1'
      rw [if_pos q.1] at e'
      rw [q.2, if_pos (by decide), if_pos hz]
      exact ⟨M', e', r', f'⟩
    · have e0 : nd0 s vals = nd1 s vals := by unfold nd0; rw [if_neg (by omega), if_pos q.2.1]
      obtain ⟨M', e', r', f'⟩ := hend M1 (by rw [e0]; exact r1) f1'
      rw [if_neg (by omega), e0] at e'
      rw [q.2.2, if_pos (by decide), if_neg (by omega), r1.1, grd_pos (by omega)]
      exact ⟨M', e', r', f'⟩
    · obtain ⟨M2, e2, r2, f2⟩ := addParents_C (fu := fu) (l := 2) (b := 0) (c := (cei s : Int)) r1 (by omega) (by omega) (by decide) (by omega) (by omega)
      have e0 : nd0 s vals = nd2 s vals := by unfold nd0; rw [if_neg (by omega), if_neg (by omega), if_pos q.2.1]
      have e5 : nd2 s vals = mkL 2 (cei s) (fun k => 0 + k) (cei (cei s)) (nd1 s vals) := by
        unfold nd2
        congr 1
        funext k
        omega
      rw [← e5] at r2
      have n2 : aN (nd2 s vals) = (cei s : Int) + cei (cei s) := by unfold nd2; rw [mkL_N, n1']
      obtain ⟨M', e', r', f'⟩ := hend M2 (by rw [e0]; exact r2) (fun q hq => by rw [f2 q hq, f1' q hq])
      rw [if_neg (by omega), e0] at e'
      rw [Int.zero_add] at e2
      have c2 : (cei (cei s) : Int) ≤ 16 := by unfold cei; omega
      rw [q.2.2, if_neg (by decide), r1.1, n1', e2, cal_some, grd_pos (by decide), f_X8_begin_L19, hh, cal_some, q.2.2, if_pos (by decide), if_neg (by omega), r2.1, grd_pos (by omega)]
      exact ⟨M', e', r', f'⟩
    · obtain ⟨M2, e2, r2, f2⟩ := addParents_C (fu := fu) (l := 2) (b := 0) (c := (cei s : Int)) r1 (by omega) (by omega) (by decide) (by omega) (by omega)
      have e5 : nd2 s vals = mkL 2 (cei s) (fun k => 0 + k) (cei (cei s)) (nd1 s vals) := by
        unfold nd2
        congr 1
        funext k
        omega
      rw [← e5] at r2
      have n2 : aN (nd2 s vals) = (cei s : Int) + cei (cei s) := by unfold nd2; rw [mkL_N, n1']
      have c2 : (cei (cei s) : Int) ≤ 16 := by unfold cei; omega
      obtain ⟨M3, e3, r3, f3⟩ := addParents_C (fu := fu) (l := 3) (b := (cei s : Int)) (c := (cei (cei s) : Int)) r2 (by omega) (by omega) (by omega) (by omega) (by omega)
      have e0 : nd0 s vals = nd3 s vals := by unfold nd0; rw [if_neg (by omega), if_neg (by omega), if_neg (by omega)]
      have c3 : (cei (cei (cei s)) : Int) ≤ 16 := by unfold cei; omega
      have n3 : aN (nd3 s vals) = (cei s : Int) + cei (cei s) + cei (cei (cei s)) := by unfold nd3; rw [mkL_N, n2]
      have r3' : RN M3 (nd3 s vals) := r3
      obtain ⟨M', e', r', f'⟩ := hend M3 (by rw [e0]; exact r3') (fun q hq => by rw [f3 q hq, f2 q hq, f1' q hq])
      rw [if_neg (by omega), e0] at e'
      rw [Int.zero_add] at e2
      rw [q.2.2, if_neg (by decide), r1.1, n1', e2, cal_some, grd_pos (by decide), f_X8_begin_L19, hh, cal_some, q.2.2, if_neg (by decide), r2.1, n2]
      have e23 : (2 : Int) + 1 = 3 := rfl
      rw [e23, e3, cal_some, grd_pos (by decide), f_X8_begin_L19, hh, cal_some, q.2.2, if_pos (by decide), if_neg (by omega), r3'.1, grd_pos (by omega)]
      exact ⟨M', e', r', f'⟩
  exact key fu hf
end CBeg
