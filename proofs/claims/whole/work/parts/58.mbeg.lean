/-! the model makes version 0 -/
theorem lp_to {F : Nat → Int → Mem → Option (Mem × Int)} (P : Int → Mem → Prop) (B : Int) (R : Mem → Option (Mem × Int)) {Q : Mem → Prop}
    (hs : ∀ n i M, 0 ≤ i → i < B → P i M → ∃ M', F (n + 1) i M = F n (i + 1) M' ∧ P (i + 1) M') (he : ∀ n M, P B M → ∃ M', F (n + 1) B M = R M' ∧ Q M') :
    ∀ (n : Nat) (i : Int) (M : Mem), 0 ≤ i → i ≤ B → B - i < n → P i M → ∃ M', F n i M = R M' ∧ Q M'
  | 0, _, _, _, _, h, _ => by omega
  | n + 1, i, M, h0, h1, h2, hP => by
    by_cases h : i < B
    · obtain ⟨M', e, hP'⟩ := hs n i M h0 h hP
      rw [e]
      exact lp_to P B R hs he n (i + 1) M' (by omega) (by omega) (by omega) hP'
    · have hi : i = B := by omega
      subst hi
      exact he n M hP
section MBeg
variable {fu : Nat}
/-- cells but the model's rows, entries and level -/
def frB (M M' : Mem) : Prop := ∀ q, q ≠ 53 → q ≠ 57 → q ≠ 59 → M' q = M q
theorem clear_M (M : Mem) (hfu : 10000 ≤ fu) : ∃ M', f_X12_clear fu M = some (M', 0) ∧ MR M' E0 ∧ only 53 M M' := by
  unfold f_X12_clear
  have := lp_mem (F := fun n i M' => f_X12_clear_L2 fu n i M') (fun i M' => only 53 M M' ∧ ∀ j : Int, 0 ≤ j → j < i → M' 53 j.toNat = 0) 4210
    (Q := fun o => ∃ M', o = (M', 0) ∧ only 53 M M' ∧ ∀ j : Int, 0 ≤ j → j < 4210 → M' 53 j.toNat = 0)
    (fun n i M2 i0 i1 hP => by
      refine ⟨up M2 53 i.toNat 0, ?_, only_trans hP.1 (only_up _ _ _ _), fun j j0 j1 => ?_⟩
      · show f_X12_clear_L2 fu (n + 1) i M2 = _
        rw [f_X12_clear_L2, if_neg (by omega), grd_pos (by omega), grd_pos (by omega)]
      · rw [up_toNat i0 j0]
        by_cases hji : j = i
        · rw [if_pos hji]
        · rw [if_neg hji]; exact hP.2 j j0 (by omega))
    (fun n M2 hP => by
      refine ⟨(M2, 0), ?_, M2, rfl, hP⟩
      show f_X12_clear_L2 fu (n + 1) 4210 M2 = _
      rw [f_X12_clear_L2, if_pos (by decide)]) fu 0 M (by omega) (by omega) (by omega) ⟨only_refl _ _, fun j j0 j1 => by omega⟩
  obtain ⟨o, e, M', rfl, o1, z⟩ := this
  refine ⟨M', e, ⟨⟨z 0 (by decide) (by decide), z 1 (by decide) (by decide), fun v v0 v1 => by have h9 : v < 0 := v1; omega, fun k k0 k1 => by have h9 : k < 0 := k1; omega⟩, by show (0 : Int) ≤ 0 ∧ (0 : Int) ≤ 138; decide, by show (0 : Int) ≤ 0 ∧ (0 : Int) ≤ 40; decide, fun v v0 v1 => by have h9 : v < 0 := v1; omega, fun k k0 k1 => by have h9 : k < 0 := k1; omega⟩, o1⟩
theorem makeLeaves_M {s : Int} {vals : Int → Int} (hs : 0 ≤ s ∧ s ≤ 64) (hfu : 1000 ≤ fu) {M0 : Mem} (hv : ∀ i : Int, 0 ≤ i → i < s → M0 58 i.toNat = vals i) (h52 : M0 52 9 = s) : ∀ (r : Nat) (N n : Nat) {M : Mem}, (cei s : Int) = n + r → r < N → frB M0 M → MR M (mkL 1 s vals n E0) → (∀ k : Int, 0 ≤ k → k < n → M 59 k.toNat = k) →
    ∃ M', f_X12_makeLeaves_L4 fu N n (4 * n) M = some (M', (cei s : Int)) ∧ frB M0 M' ∧ MR M' (nd1 s vals) ∧ ∀ k : Int, 0 ≤ k → k < cei s → M' 59 k.toNat = k
  | _, 0, _, _, _, h, _, _, _ => by omega
  | 0, N + 1, n, M, hr, _, hf, hM, hlev => by
    have e52 : M 52 9 = s := by rw [hf 52 (by decide) (by decide) (by decide)]; exact h52
    have c1 : s ≤ 4 * (cei s : Int) := by unfold cei; omega
    have hn : n = cei s := by omega
    subst hn
    refine ⟨M, ?_, hf, hM, hlev⟩
    rw [f_X12_makeLeaves_L4, e52, if_pos (by omega)]
  | r + 1, N + 1, n, M, hr, hN, hf, hM, hlev => by
    have e52 : M 52 9 = s := by rw [hf 52 (by decide) (by decide) (by decide)]; exact h52
    have c1 : 4 * ((cei s : Int) - 1) < s ∧ s ≤ 4 * (cei s : Int) := by unfold cei; omega
    have hNe : aN (mkL 1 s vals n E0) = n := by rw [mkL_N]; show (0 : Int) + _ = _; omega
    have hmin := imin_le 4 (s - 4 * (n : Int))
    rw [f_X12_makeLeaves_L4, e52, if_neg (by omega), grd_pos (by omega)]
    have hin := lp_to (F := fun t i M' => f_X12_makeLeaves_L26 fu (f_X12_makeLeaves_L4 fu N) t n (4 * n) (imin 4 (s - 4 * n)) i M') (fun i M' => only 57 M M' ∧ ∀ j : Int, 0 ≤ j → j < i → M' 57 j.toNat = vals (4 * n + j)) (imin 4 (s - 4 * n))
      (fun M' => f_X12_makeLeaves_L4 fu N ((n + 1 : Nat) : Int) (4 * ((n + 1 : Nat) : Int)) M') (Q := fun M' => frB M0 M' ∧ MR M' (mkL 1 s vals (n + 1) E0) ∧ ∀ k : Int, 0 ≤ k → k < ((n + 1 : Nat) : Int) → M' 59 k.toNat = k)
      (fun t i M1 i0 i1 hP => by
        have e58 : M1 58 (4 * n + i).toNat = vals (4 * n + i) := by rw [hP.1 58 (by decide), hf 58 (by decide) (by decide) (by decide)]; exact hv _ (by omega) (by omega)
        refine ⟨up M1 57 i.toNat (vals (4 * n + i)), ?_, only_trans hP.1 (only_up _ _ _ _), fun j j0 j1 => ?_⟩
        · show f_X12_makeLeaves_L26 fu (f_X12_makeLeaves_L4 fu N) (t + 1) n (4 * n) (imin 4 (s - 4 * n)) i M1 = _
          rw [f_X12_makeLeaves_L26, if_neg (by omega), grd_pos (by omega), grd_pos (by omega), grd_pos (by omega), grd_pos (by omega), e58]
        · rw [up_toNat i0 j0]
          by_cases hji : j = i
          · rw [if_pos hji, hji]
          · rw [if_neg hji]; exact hP.2 j j0 (by omega))
      (fun t M1 hP => by
        have g1 : MR M1 (mkL 1 s vals n E0) := MR_ext hM (hP.1 53 (by decide))
        obtain ⟨M2, e2, r2, o2⟩ := makeNode_M (fu := fu) g1 (by omega) (b := 1) (c := imin 4 (s - 4 * n)) (l := 1) (e := fun j => vals (4 * n + j)) (Or.inr ⟨rfl, rfl⟩) (by omega) hP.2 hfu
        rw [hNe] at e2
        refine ⟨up M2 59 ((n : Nat) : Int).toNat n, ?_, fun q q1 q2 q3 => by rw [up_cell _ _ q3, o2 q q1, hP.1 q q2, hf q q1 q2 q3], MR_ext r2 (up_cell _ _ (by decide)), fun k k0 k1 => ?_⟩
        · show f_X12_makeLeaves_L26 fu (f_X12_makeLeaves_L4 fu N) (t + 1) n (4 * n) (imin 4 (s - 4 * n)) (imin 4 (s - 4 * n)) M1 = _
          have ea : (n : Int) + 1 = ((n + 1 : Nat) : Int) := by omega
          have eb : 4 * (n : Int) + 4 = 4 * ((n + 1 : Nat) : Int) := by omega
          rw [f_X12_makeLeaves_L26, if_pos (Int.le_refl _), e2, cal_some, grd_pos (by omega), grd_pos (by omega), grd_pos (by omega), ea, eb]
        · rw [up_toNat (by omega) k0]
          by_cases hk : k = n
          · rw [if_pos hk, hk]
          · rw [if_neg hk, o2 59 (by decide), hP.1 59 (by decide)]
            exact hlev k k0 (by omega)) fu 0 M (by omega) (by omega) (by omega) ⟨only_refl _ _, fun j j0 j1 => by omega⟩
    obtain ⟨M1, e1, f1, r1, l1⟩ := hin
    rw [e1]
    exact makeLeaves_M hs hfu hv h52 r N (n + 1) (by omega) (by omega) f1 r1 l1
theorem makeLevel_M {c l : Int} {ent : Int → Int} {A0 : AS} (hc : 2 ≤ c ∧ c ≤ 16) (hl : l ≠ 1) (hA : 0 ≤ aN A0 ∧ aN A0 + 16 ≤ 138) (hfu : 1000 ≤ fu) {M0 : Mem} : ∀ (r : Nat) (N n : Nat) {M : Mem}, (cei c : Int) = n + r → r < N → frB M0 M → MR M (mkL l c ent n A0) → (∀ k : Int, 0 ≤ k → k < n → M 59 k.toNat = aN A0 + k) → (∀ k : Int, n ≤ k → k < c → M 59 k.toNat = ent k) →
    ∃ M', f_X12_makeLevel_L4 fu N c n (4 * n) M = some (M', (cei c : Int)) ∧ frB M0 M' ∧ MR M' (mkL l c ent (cei c) A0) ∧ ∀ k : Int, 0 ≤ k → k < cei c → M' 59 k.toNat = aN A0 + k
  | _, 0, _, _, _, h, _, _, _, _ => by omega
  | 0, N + 1, n, M, hr, _, hf, hM, hlev, _ => by
    have c1 : c ≤ 4 * (cei c : Int) := by unfold cei; omega
    have hn : n = cei c := by omega
    subst hn
    refine ⟨M, ?_, hf, hM, hlev⟩
    rw [f_X12_makeLevel_L4, if_pos (by omega)]
  | r + 1, N + 1, n, M, hr, hN, hf, hM, hlev, hent => by
    have c1 : 4 * ((cei c : Int) - 1) < c ∧ c ≤ 4 * (cei c : Int) := by unfold cei; omega
    have hNe : aN (mkL l c ent n A0) = aN A0 + n := mkL_N _ _ _ _ _
    have hmin := imin_le 4 (c - 4 * (n : Int))
    rw [f_X12_makeLevel_L4, if_neg (by omega), grd_pos (by omega)]
    have hin := lp_to (F := fun t i M' => f_X12_makeLevel_L21 fu (f_X12_makeLevel_L4 fu N) t c n (4 * n) (imin 4 (c - 4 * n)) i M') (fun i M' => only 57 M M' ∧ ∀ j : Int, 0 ≤ j → j < i → M' 57 j.toNat = ent (4 * n + j)) (imin 4 (c - 4 * n))
      (fun M' => f_X12_makeLevel_L4 fu N c ((n + 1 : Nat) : Int) (4 * ((n + 1 : Nat) : Int)) M') (Q := fun M' => frB M0 M' ∧ MR M' (mkL l c ent (n + 1) A0) ∧ (∀ k : Int, 0 ≤ k → k < ((n + 1 : Nat) : Int) → M' 59 k.toNat = aN A0 + k) ∧ ∀ k : Int, ((n + 1 : Nat) : Int) ≤ k → k < c → M' 59 k.toNat = ent k)
      (fun t i M1 i0 i1 hP => by
        have e59 : M1 59 (4 * n + i).toNat = ent (4 * n + i) := by rw [hP.1 59 (by decide)]; exact hent _ (by omega) (by omega)
        refine ⟨up M1 57 i.toNat (ent (4 * n + i)), ?_, only_trans hP.1 (only_up _ _ _ _), fun j j0 j1 => ?_⟩
        · show f_X12_makeLevel_L21 fu (f_X12_makeLevel_L4 fu N) (t + 1) c n (4 * n) (imin 4 (c - 4 * n)) i M1 = _
          rw [f_X12_makeLevel_L21, if_neg (by omega), grd_pos (by omega), grd_pos (by omega), grd_pos (by omega), grd_pos (by omega), e59]
        · rw [up_toNat i0 j0]
          by_cases hji : j = i
          · rw [if_pos hji, hji]
          · rw [if_neg hji]; exact hP.2 j j0 (by omega))
      (fun t M1 hP => by
        have g1 : MR M1 (mkL l c ent n A0) := MR_ext hM (hP.1 53 (by decide))
        obtain ⟨M2, e2, r2, o2⟩ := makeNode_M (fu := fu) g1 (by omega) (b := 0) (c := imin 4 (c - 4 * n)) (l := l) (e := fun j => ent (4 * n + j)) (Or.inl ⟨rfl, hl⟩) (by omega) hP.2 hfu
        rw [hNe] at e2
        refine ⟨up M2 59 ((n : Nat) : Int).toNat (aN A0 + n), ?_, fun q q1 q2 q3 => by rw [up_cell _ _ q3, o2 q q1, hP.1 q q2, hf q q1 q2 q3], MR_ext r2 (up_cell _ _ (by decide)), fun k k0 k1 => ?_, fun k k0 k1 => ?_⟩
        · show f_X12_makeLevel_L21 fu (f_X12_makeLevel_L4 fu N) (t + 1) c n (4 * n) (imin 4 (c - 4 * n)) (imin 4 (c - 4 * n)) M1 = _
          have ea : (n : Int) + 1 = ((n + 1 : Nat) : Int) := by omega
          have eb : 4 * (n : Int) + 4 = 4 * ((n + 1 : Nat) : Int) := by omega
          rw [f_X12_makeLevel_L21, if_pos (Int.le_refl _), e2, cal_some, grd_pos (by omega), grd_pos (by omega), grd_pos (by omega), ea, eb]
        · rw [up_toNat (by omega) k0]
          by_cases hk : k = n
          · rw [if_pos hk, hk]
          · rw [if_neg hk, o2 59 (by decide), hP.1 59 (by decide)]
            exact hlev k k0 (by omega)
        · rw [up_toNat (by omega) (by omega), if_neg (by omega), o2 59 (by decide), hP.1 59 (by decide)]
          exact hent k (by omega) k1) fu 0 M (by omega) (by omega) (by omega) ⟨only_refl _ _, fun j j0 j1 => by omega⟩
    obtain ⟨M1, e1, f1, r1, l1, l2⟩ := hin
    rw [e1]
    exact makeLevel_M hc hl hA hfu r N (n + 1) (by omega) (by omega) f1 r1 l1 l2
theorem begin_M {M : Mem} {s : Int} {vals : Int → Int} (hs : 0 ≤ s ∧ s ≤ 64) (h52 : M 52 9 = s) (hfu : 10000 ≤ fu) (hv : ∀ i, 0 ≤ i → i < s → -999 ≤ M 58 i.toNat ∧ M 58 i.toNat ≤ 999) (hvv : ∀ i : Int, 0 ≤ i → i < s → M 58 i.toNat = vals i) :
    ∃ M', f_X12_begin fu M = some (M', 0) ∧ MM M' (mk0 s vals) ∧ frB M M' := by
  obtain ⟨M1, e1, r1, o1⟩ := clear_M (fu := fu) M hfu
  have f1 : frB M M1 := fun q q1 _ _ => o1 q q1
  have hGood : Good (mk0 s vals) := Good_mk0 hs.1 hs.2 (fun i i0 i1 => by rw [← hvv i i0 i1]; exact hv i i0 i1)
  have c1 : 4 * ((cei s : Int) - 1) < s ∧ s ≤ 4 * (cei s : Int) := by unfold cei; omega
  obtain ⟨M2, e2, f2, r2, l2⟩ := makeLeaves_M (fu := fu) (M0 := M) hs (by omega) hvv h52 (cei s) fu 0 (M := M1) (by omega) (by omega) f1 r1 (fun k k0 k1 => by omega)
  have n1 : aN (nd1 s vals) = (cei s : Int) := by unfold nd1; rw [mkL_N]; show (0 : Int) + _ = _; omega
  have hJ : ∀ (M3 : Mem), MR M3 (nd0 s vals) → frB M M3 → ∃ M', f_X12_begin_J43 fu (-1) s (if s ≤ 0 then -1 else aN (nd0 s vals) - 1) M3 = some (M', 0) ∧ MM M' (mk0 s vals) ∧ frB M M' := fun M3 r3 f3 => by
    have hV : aV (nd0 s vals) = 0 := by
      by_cases h0 : s ≤ 0
      · have : nd0 s vals = E0 := if_pos h0
        rw [this]; rfl
      · exact (nd0_lv (by omega) hs.2 (fun i i0 i1 => by rw [← hvv i i0 i1]; exact hv i i0 i1)).2.2.2.1
    obtain ⟨M4, e4, r4, o4⟩ := addVersion_M (fu := fu) r3 (by omega) (pa := -1) (s := s) (rt := if s ≤ 0 then -1 else aN (nd0 s vals) - 1) (first := 0) (Or.inl rfl) hs ⟨Int.le_refl 0, r3.2.1.1⟩ (by omega)
    rw [hV] at e4
    rw [Int.sub_zero] at r4
    unfold f_X12_begin_J43
    rw [e4, cal_some]
    have := lp_mem (F := fun n i M' => f_X12_begin_L50 fu n 0 i M') (fun i M' => only 53 M4 M' ∧ MR M' (addV (nd0 s vals) (-1) (if s ≤ 0 then -1 else aN (nd0 s vals) - 1) s (aN (nd0 s vals)) (fun j => if j < i then vals j else 0))) s
      (Q := fun o => ∃ M', o = (M', 0) ∧ only 53 M4 M' ∧ MR M' (addV (nd0 s vals) (-1) (if s ≤ 0 then -1 else aN (nd0 s vals) - 1) s (aN (nd0 s vals)) (fun j => if j < s then vals j else 0)))
      (fun n i M5 i0 i1 hP => by
        have e52 : M5 52 9 = s := by rw [hP.1 52 (by decide), o4 52 (by decide), f3 52 (by decide) (by decide) (by decide)]; exact h52
        have e58 : M5 58 i.toNat = vals i := by rw [hP.1 58 (by decide), o4 58 (by decide), f3 58 (by decide) (by decide) (by decide)]; exact hvv i i0 i1
        have r5 := MR_put hP.2 (by omega) (i := i) (x := vals i) ⟨i0, i1⟩
        rw [hV] at r5
        refine ⟨up M5 53 (250 + 64 * 0 + i).toNat (vals i), ?_, only_trans hP.1 (only_up _ _ _ _), MR_addV r5 (fun j j0 j1 => ?_)⟩
        · show f_X12_begin_L50 fu (n + 1) 0 i M5 = _
          rw [f_X12_begin_L50, e52, if_neg (by omega), e_M (by decide) (by decide), cal_some, grd_pos (by omega), grd_pos (by omega), grd_pos (by omega), grd_pos (by omega), e58]
        · show setE (fun j => if j < i then vals j else 0) i (vals i) j = if j < i + 1 then vals j else 0
          unfold setE
          by_cases hji : j = i
          · rw [if_pos hji, if_pos (by omega), hji]
          · rw [if_neg hji]
            show (if j < i then vals j else 0) = if j < i + 1 then vals j else 0
            by_cases hj : j < i
            · rw [if_pos hj, if_pos (by omega)]
            · rw [if_neg hj, if_neg (by omega)])
      (fun n M5 hP => by
        have e52 : M5 52 9 = s := by rw [hP.1 52 (by decide), o4 52 (by decide), f3 52 (by decide) (by decide) (by decide)]; exact h52
        refine ⟨(M5, 0), ?_, M5, rfl, hP⟩
        show f_X12_begin_L50 fu (n + 1) 0 s M5 = _
        rw [f_X12_begin_L50, e52, if_pos (Int.le_refl _)]) fu 0 M4 (by omega) (by omega) (by omega) ⟨only_refl _ _, MR_addV r4 (fun j j0 j1 => by
        show (if (-1 : Int) ≠ -1 ∧ j < szA (nd0 s vals) (-1) then ev (nd0 s vals) (-1) j else 0) = if j < 0 then vals j else 0
        rw [if_neg (fun z => z.1 rfl), if_neg (by omega)])⟩
    obtain ⟨o, e5, M', rfl, o5, r5⟩ := this
    have r6 := MR_addV r5 (e' := vals) (fun j j0 j1 => by
      show (if j < s then vals j else 0) = vals j
      rw [if_pos j1])
    exact ⟨M', e5, ⟨r6.1, hGood⟩, fun q q1 q2 q3 => by rw [o5 q q1, o4 q q1, f3 q q1 q2 q3]⟩
  have e52 : ∀ Mx, frB M Mx → Mx 52 9 = s := fun Mx hx => by rw [hx 52 (by decide) (by decide) (by decide)]; exact h52
  unfold f_X12_begin f_X12_makeLeaves
  have z4 : (4 : Int) * ((0 : Nat) : Int) = 0 := rfl
  rw [z4] at e2
  have e2' : f_X12_makeLeaves_L4 fu fu 0 0 M1 = some (M2, (cei s : Int)) := e2
  rw [e1, cal_some, e2', cal_some]
  obtain ⟨f, hf⟩ : ∃ f, fu = f + 4 := ⟨fu - 4, by omega⟩
  have key : ∀ (a : Nat), a = f + 4 → ∃ M', f_X12_begin_L9 fu a (cei s) M2 = some (M', 0) ∧ MM M' (mk0 s vals) ∧ frB M M' := by
    intro a ha
    subst ha
    rw [f_X12_begin_L9]
    by_cases h4 : s ≤ 4
    · rw [if_pos (by omega)]
      by_cases hz : s ≤ 0
      · have hce : cei s = 0 := by unfold cei; omega
        have e0 : nd0 s vals = E0 := if_pos hz
        have e1' : nd1 s vals = E0 := by unfold nd1; rw [hce]; rfl
        rw [e1'] at r2
        obtain ⟨M', e', r', f'⟩ := hJ M2 (by rw [e0]; exact r2) f2
        rw [if_pos hz] at e'
        rw [if_pos (by omega), e52 M2 f2]
        exact ⟨M', e', r', f'⟩
      · have e0 : nd0 s vals = nd1 s vals := by unfold nd0; rw [if_neg hz, if_pos h4]
        obtain ⟨M', e', r', f'⟩ := hJ M2 (by rw [e0]; exact r2) f2
        rw [if_neg hz, e0, n1] at e'
        have l20 := l2 0 (by decide) (by omega)
        rw [if_neg (by omega), grd_pos (by decide), e52 M2 f2, l20]
        have : (cei s : Int) - 1 = 0 := by omega
        rw [this] at e'
        exact ⟨M', e', r', f'⟩
    · rw [if_neg (by omega)]
      have c2 : 4 * ((cei (cei s) : Int) - 1) < (cei s : Int) ∧ (cei s : Int) ≤ 4 * (cei (cei s) : Int) := by
        generalize (cei s : Int) = c at c1
        unfold cei; omega
      obtain ⟨M3, e3, f3, r3, l3⟩ := makeLevel_M (fu := fu) (M0 := M) (c := (cei s : Int)) (l := 2) (ent := fun k => k) (A0 := nd1 s vals) (by omega) (by decide) (by omega) (by omega) (cei (cei s)) fu 0 (M := M2) (by omega) (by omega) f2 r2 (fun k k0 k1 => by omega) (fun k k0 k1 => l2 k (by omega) k1)
      have r3' : MR M3 (nd2 s vals) := r3
      have n2 : aN (nd2 s vals) = (cei s : Int) + cei (cei s) := by unfold nd2; rw [mkL_N, n1]
      rw [z4] at e3
      have e3' : f_X12_makeLevel fu M2 (cei s : Int) = some (M3, (cei (cei s) : Int)) := e3
      rw [e3', cal_some, f_X12_begin_L9]
      by_cases h16 : s ≤ 16
      · have e0 : nd0 s vals = nd2 s vals := by unfold nd0; rw [if_neg (by omega), if_neg h4, if_pos h16]
        obtain ⟨M', e', r', f'⟩ := hJ M3 (by rw [e0]; exact r3') f3
        rw [if_neg (by omega), e0, n2] at e'
        have l30 := l3 0 (by decide) (by omega)
        rw [if_pos (by omega), if_neg (by omega), grd_pos (by decide), e52 M3 f3, l30, n1]
        have : (cei s : Int) + (cei (cei s) : Int) - 1 = (cei s : Int) + 0 := by omega
        rw [this] at e'
        exact ⟨M', e', r', f'⟩
      · have c3 : 4 * ((cei (cei (cei s)) : Int) - 1) < (cei (cei s) : Int) ∧ (cei (cei s) : Int) ≤ 4 * (cei (cei (cei s)) : Int) := by
          generalize (cei (cei s) : Int) = c at c2
          unfold cei; omega
        rw [if_neg (by omega)]
        obtain ⟨M4, e4, f4, r4, l4⟩ := makeLevel_M (fu := fu) (M0 := M) (c := (cei (cei s) : Int)) (l := 3) (ent := fun k => (cei s : Int) + k) (A0 := nd2 s vals) (by omega) (by decide) (by omega) (by omega) (cei (cei (cei s))) fu 0 (M := M3) (by omega) (by omega) f3 r3' (fun k k0 k1 => by omega) (fun k k0 k1 => by
          have := l3 k (by omega) k1
          rw [n1] at this
          exact this)
        have r4' : MR M4 (nd3 s vals) := r4
        have n3 : aN (nd3 s vals) = (cei s : Int) + cei (cei s) + cei (cei (cei s)) := by unfold nd3; rw [mkL_N, n2]
        rw [z4] at e4
        have e4' : f_X12_makeLevel fu M3 (cei (cei s) : Int) = some (M4, (cei (cei (cei s)) : Int)) := e4
        have e0 : nd0 s vals = nd3 s vals := by unfold nd0; rw [if_neg (by omega), if_neg h4, if_neg h16]
        obtain ⟨M', e', r', f'⟩ := hJ M4 (by rw [e0]; exact r4') f4
        rw [if_neg (by omega), e0, n3] at e'
        have l40 := l4 0 (by decide) (by omega)
        rw [e4', cal_some, f_X12_begin_L9, if_pos (by omega), if_neg (by omega), grd_pos (by decide), e52 M4 f4, l40, n2]
        have : (cei s : Int) + (cei (cei s) : Int) + (cei (cei (cei s)) : Int) - 1 = (cei s : Int) + (cei (cei s) : Int) + 0 := by omega
        rw [this] at e'
        exact ⟨M', e', r', f'⟩
  exact key fu hf
end MBeg
