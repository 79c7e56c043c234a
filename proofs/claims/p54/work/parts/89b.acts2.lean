/-! what a new version is to the law's rows -/
theorem ext_sv {A A' : AS} (h : ext A A') {n k : Int} (n0 : 0 ≤ n) (n1 : n < aN A) (k0 : 0 ≤ k) : svA A' n k = svA A n k := by
  unfold svA chA
  rw [ext_lv h n0 n1, ext_fl h n0 n1, ext_en h n0 n1 k0]
theorem LS_ext {M M' : Mem} {A A' : AS} (hS : LSn M A) (he : ext A A') (f : ∀ q, q = 57 ∨ (98 ≤ q ∧ q < 298) → M' q = M q) : LSn M' A' := by
  intro n n0 n1
  rw [f 57 (Or.inl rfl), f (98 + n.toNat) (Or.inr ⟨by omega, by omega⟩)]
  rcases hS n n0 n1 with h | ⟨h1, h2⟩
  · exact Or.inl h
  · exact Or.inr ⟨Int.lt_of_lt_of_le h1 he.1, fun k k0 k1 => by rw [h2 k k0 k1, ext_sv he n0 h1 k0]⟩
/-- a new version over made nodes -/
def NV (A A1 : AS) : Prop := ext A A1 ∧ aV A1 = aV A ∧ vf A1 = vf A ∧ ev A1 = ev A
theorem NV_refl (A : AS) : NV A A := ⟨ext_refl A, rfl, rfl, rfl⟩
theorem addV_eqc {A1 : AS} {pa rt s cr cr' : Int} {e : Int → Int} (h : cr = cr') : addV A1 pa rt s cr e = addV A1 pa rt s cr' e := by rw [h]
theorem mkS_form {A : AS} (hG : Good A) {v i x : Int} (hv : 0 ≤ v ∧ v < aV A) (hi : 0 ≤ i ∧ i < szA A v) (hx : -999 ≤ x ∧ x ≤ 999) : ∃ A1 rt, NV A A1 ∧ mkS A v i x = addV A1 v rt (szA A v) (if ev A v i = x then 0 else ((hgt (szA A v) : Nat) : Int)) (setE (ev A v) i x) := by
  unfold mkS
  by_cases he : ev A v i = x
  · rw [if_pos he, if_pos he]
    exact ⟨A, _, NV_refl A, rfl⟩
  · rw [if_neg he, if_neg he]
    obtain ⟨l, l1, l2, l3, l4, -⟩ := G_tree hG hv.1 hv.2 (by omega)
    have hs := (hG.2.2.2.1 v hv.1 hv.2).1
    have hok : okB A (aN A) (hgt (szA A v)) (rtA A v) ∧ ctA A (hgt (szA A v)) (rtA A v) = szA A v := by
      have := (hG.2.2.2.1 v hv.1 hv.2).2.2.2.2.2.1.2 (by omega)
      exact ⟨this.1, this.2.1⟩
    obtain ⟨w1, w2, -⟩ := wrA_spec (hgt (szA A v)) (hgt_le _) hG.2.2.1 hG.2.1.1 (n := rtA A v) (i := i) (x := x) (c := szA A v) hx hi.1 (by omega) (by have := hgt_fit (s := szA A v) (by omega) hs.2; omega) (Or.inr (Or.inr ⟨hgt_pos (by omega), hok.1, hok.2.symm⟩))
    refine ⟨_, _, ⟨w1.1, w1.2.2.1⟩, addV_eqc ?_⟩
    rw [w2]
    omega
theorem mkA_form {A : AS} (hG : Good A) {v x : Int} (hv : 0 ≤ v ∧ v < aV A) (hs : szA A v < 64) (hx : -999 ≤ x ∧ x ≤ 999) : ∃ A1 rt, NV A A1 ∧ mkA A v x = addV A1 v rt (szA A v + 1) ((hgt (szA A v + 1) : Nat) : Int) (setE (ev A v) (szA A v) x) := by
  have hz := (hG.2.2.2.1 v hv.1 hv.2).1
  have hok := (hG.2.2.2.1 v hv.1 hv.2).2.2.2.2.2.1
  have hN := hG.2.2.1
  unfold mkA grA
  by_cases hg : 0 < szA A v ∧ hgt (szA A v) < hgt (szA A v + 1)
  · rw [if_pos hg]
    obtain ⟨w1, w2, -⟩ := wrA_spec (hgt (szA A v)) (hgt_le _) hN hG.2.1.1 (n := -1) (i := 0) (x := x) (c := 0) hx (Int.le_refl 0) (Int.le_refl 0) (by have := pw_pos (hgt (szA A v)); omega) (Or.inr (Or.inl ⟨hgt_pos hg.1, rfl, rfl⟩))
    have e1 : hgt (szA A v + 1) = hgt (szA A v) + 1 := by
      have h1 := hg.2
      unfold hgt at h1 ⊢
      repeat' split at h1
      all_goals (repeat' split)
      all_goals omega
    refine ⟨_, _, ?_, addV_eqc ?_⟩
    · exact ⟨ext_trans w1.1 (addN_ext _ _ _ _), w1.2.2.1.1, w1.2.2.1.2.1, w1.2.2.1.2.2⟩
    · dsimp only
      rw [addN_N, w2, e1]
      omega
  · rw [if_neg hg]
    have hp := hgt_pos (s := szA A v + 1) (by omega)
    have hfit := hgt_fit (s := szA A v + 1) (by omega) (by omega)
    have hcase : (1 ≤ hgt (szA A v + 1) ∧ rtA A v = -1 ∧ szA A v = 0) ∨ (1 ≤ hgt (szA A v + 1) ∧ okB A (aN A) (hgt (szA A v + 1)) (rtA A v) ∧ szA A v = ctA A (hgt (szA A v + 1)) (rtA A v)) := by
      by_cases h0 : szA A v = 0
      · exact Or.inl ⟨hp, hok.1 h0, h0⟩
      · have e1 : hgt (szA A v + 1) = hgt (szA A v) := by
          have h1 := hgt_mono (a := szA A v) (b := szA A v + 1) (by omega) (by omega)
          omega
        have := hok.2 (by omega)
        rw [e1]
        exact Or.inr ⟨by omega, this.1, this.2.1.symm⟩
    obtain ⟨w1, w2, -⟩ := wrA_spec (hgt (szA A v + 1)) (hgt_le _) hN hG.2.1.1 (n := rtA A v) (i := szA A v) (x := x) (c := szA A v) hx hz.1 (Int.le_refl _) (by omega) (Or.inr hcase)
    refine ⟨_, _, ⟨w1.1, w1.2.2.1⟩, addV_eqc ?_⟩
    rw [w2]
    omega
theorem mkT_form {A : AS} (hG : Good A) {v s : Int} (hv : 0 ≤ v ∧ v < aV A) (hs : 0 ≤ s ∧ s ≤ szA A v) : ∃ A1 rt cr, NV A A1 ∧ cr ≤ ((hgt s : Nat) : Int) ∧ mkT A v s = addV A1 v rt s cr (ev A v) := by
  have hz := (hG.2.2.2.1 v hv.1 hv.2).1
  have hok := (hG.2.2.2.1 v hv.1 hv.2).2.2.2.2.2.1
  unfold mkT
  by_cases h0 : s = 0
  · rw [if_pos h0, h0]
    exact ⟨A, _, 0, NV_refl A, by omega, rfl⟩
  · rw [if_neg h0]
    have k := hok.2 (by omega)
    have hm := hgt_mono (a := s) (b := szA A v) hs.2 hz.2
    have e1 : hgt s + (hgt (szA A v) - hgt s) = hgt (szA A v) := by omega
    obtain ⟨d1, d2, -⟩ := dnA_spec hG.2.2.1 (hgt (szA A v) - hgt s) (l := hgt s) (b := aN A) (n := rtA A v) (s := s) (Int.le_refl _) (by rw [e1]; exact k.1) (hgt_pos (by omega)) (by rw [e1, k.2.1]; exact hs.2) (hgt_fit (by omega) (by omega))
    obtain ⟨w1, -⟩ := cuA_spec (hgt s) (hgt_le _) hG.2.2.1 hG.2.1.1 d1 (by omega) d2
    refine ⟨_, _, _, ⟨w1.1, w1.2.2.1⟩, ?_, rfl⟩
    have := w1.2.2.2.1
    omega
/-- the law's rows behind a new version -/
theorem LR_new {M M' : Mem} {A A1 : AS} (hR : LR M A) (hN : NV A A1) (hV : 1 ≤ aV A ∧ aV A < 40) {pa rt s cr : Int} {e : Int → Int} (h1 : M' 52 6 = aV A + 1) (h2 : M' 53 (aV A).toNat = s) (h3 : M' 54 (aV A).toNat = pa) (h4 : ∀ i, 0 ≤ i → i < s → M' (58 + (aV A).toNat) i.toNat = e i)
    (f53 : ∀ j, j ≠ (aV A).toNat → M' 53 j = M 53 j) (f54 : ∀ j, j ≠ (aV A).toNat → M' 54 j = M 54 j) (f55 : M' 55 = M 55) (fr : ∀ v, 0 ≤ v → v < aV A → M' (58 + v.toNat) = M (58 + v.toNat)) : LR M' (addV A1 pa rt s cr e) := by
  obtain ⟨n1, n2, n3, n4⟩ := hN
  refine ⟨by rw [addV_V, n2]; exact h1, fun v v0 v1 => ?_, fun v v0 v1 => ?_⟩
  · rw [addV_V, n2] at v1
    by_cases hv : v = aV A
    · rw [hv, h2, h3, f55, hR.2.2 (aV A) (Int.le_refl _) hV.2, ← n2, addV_sz, addV_pa, addV_rl]
      refine ⟨⟨rfl, rfl, rfl⟩, fun i i0 i1 => ?_⟩
      rw [addV_e, n2]
      exact h4 i i0 i1
    · have hv2 : v ≠ aV A1 := by rw [n2]; exact hv
      have e0 : ∀ j, vf (addV A1 pa rt s cr e) v j = vf A v j := fun j => by rw [addV_vf hv2, n3]
      show (M' 53 v.toNat = vf (addV A1 pa rt s cr e) v 0 ∧ M' 54 v.toNat = vf (addV A1 pa rt s cr e) v 2 ∧ M' 55 v.toNat = vf (addV A1 pa rt s cr e) v 3) ∧ ∀ i, 0 ≤ i → i < vf (addV A1 pa rt s cr e) v 0 → M' (58 + v.toNat) i.toNat = ev (addV A1 pa rt s cr e) v i
      rw [e0, e0, e0, f53 _ (by omega), f54 _ (by omega), f55, fr v v0 (by omega)]
      obtain ⟨a1, a2⟩ := hR.2.1 v v0 (by omega)
      refine ⟨a1, fun i i0 i1 => ?_⟩
      rw [addV_ev hv2, n4]
      exact a2 i i0 i1
  · rw [addV_V, n2] at v0
    rw [f55]
    exact hR.2.2 v (by omega) v1
/-- a row begun from another -/
theorem makes_ok {fu : Nat} (hfu : 2000 ≤ fu) {M : Mem} {A : AS} (hR : LR M A) (hz : ∀ v, 0 ≤ v → v < aV A → 0 ≤ szA A v ∧ szA A v ≤ 64) (hV : 1 ≤ aV A ∧ aV A < 40) {v n : Int} (v0 : 0 ≤ v) (v1 : v < aV A) (n0 : 0 ≤ n) (n1 : n ≤ 64) :
    ∃ M', f_L_makes fu M v n = some (M', aV A) ∧ M' 52 6 = aV A + 1 ∧ M' 53 (aV A).toNat = n ∧ M' 54 (aV A).toNat = v ∧ (∀ i, 0 ≤ i → i < n → i < szA A v → M' (58 + (aV A).toNat) i.toNat = ev A v i) ∧ (∀ j, j ≠ (aV A).toNat → M' 53 j = M 53 j) ∧ (∀ j, j ≠ (aV A).toNat → M' 54 j = M 54 j) ∧ ∀ q, q ≠ 52 → q ≠ 53 → q ≠ 54 → q ≠ 58 + (aV A).toNat → M' q = M q := by
  have loop : ∀ (m : Nat) (k : Int) (M1 : Mem), 0 ≤ k → k ≤ 64 → 64 - k < m → (∀ q, q ≠ 58 + (aV A).toNat → M1 q = M q) → (∀ i, 0 ≤ i → i < k → M1 (58 + (aV A).toNat) i.toNat = ev A v i) →
      ∃ M2, (∀ q, q ≠ 58 + (aV A).toNat → M2 q = M q) ∧ (∀ i, 0 ≤ i → i < n → i < szA A v → M2 (58 + (aV A).toNat) i.toNat = ev A v i) ∧ f_L_makes_L8 fu m v n (aV A) k M1 = f_L_makes_J49 fu v n (aV A) M2 := by
    intro m
    induction m with
    | zero => intro k M1 _ _ h; omega
    | succ m ih =>
      intro k M1 k0 k1 hm f1 r1
      have hs := hz v v0 v1
      rw [f_L_makes_L8]
      by_cases h1 : n ≤ k
      · rw [if_pos h1]
        exact ⟨M1, f1, fun i i0 i1 _ => r1 i i0 (by omega), rfl⟩
      · rw [if_neg h1, grd_pos ⟨v0, by omega⟩, f1 53 (by omega), (hR.2.1 v v0 v1).1.1]
        by_cases h2 : szA A v ≤ k
        · rw [if_pos h2]
          exact ⟨M1, f1, fun i i0 _ i2 => r1 i i0 (by omega), rfl⟩
        · rw [if_neg h2, grd_pos ⟨by omega, by omega⟩, grd_pos ⟨v0, by omega⟩, grd_pos ⟨k0, by omega⟩, grd_pos ⟨k0, by omega⟩, grd_pos ⟨by omega, by omega⟩, f1 (58 + v.toNat) (by omega), (hR.2.1 v v0 v1).2 k k0 (by omega)]
          refine ih (k + 1) _ (by omega) (by omega) (by omega) (fun q hq => by rw [up_cell _ _ hq]; exact f1 q hq) (fun i i0 i1 => ?_)
          by_cases hi : i = k
          · subst hi
            rw [up_same]
          · rw [up_at (Or.inr (by omega))]
            exact r1 i i0 (by omega)
  obtain ⟨M2, f2, r2, e2⟩ := loop fu 0 M (Int.le_refl 0) (by decide) (by omega) (fun _ _ => rfl) (fun i i0 i1 => by omega)
  unfold f_L_makes
  rw [hR.1, e2]
  unfold f_L_makes_J49
  have e52 : up (up M2 53 (aV A).toNat n) 54 (aV A).toNat v 52 6 = aV A := by
    rw [up_cell _ _ (by decide), up_cell _ _ (by decide), f2 52 (by omega)]
    exact hR.1
  rw [grd_pos ⟨by omega, hV.2⟩, grd_pos ⟨by omega, hV.2⟩, e52, grd_pos ⟨by omega, by omega⟩]
  refine ⟨_, rfl, up_same _ _ _ _, ?_, ?_, fun i i0 i1 i2 => ?_, fun j hj => ?_, fun j hj => ?_, fun q q1 q2 q3 q4 => ?_⟩
  · rw [up_cell _ _ (by decide), up_cell _ _ (by decide), up_same]
  · rw [up_cell _ _ (by decide), up_same]
  · rw [up_cell _ _ (by omega), up_cell _ _ (by omega), up_cell _ _ (by omega)]
    exact r2 i i0 i1 i2
  · rw [up_cell _ _ (by decide), up_cell _ _ (by decide), up_at (Or.inr hj), f2 53 (by omega)]
  · rw [up_cell _ _ (by decide), up_at (Or.inr hj), up_cell _ _ (by decide), f2 54 (by omega)]
  · rw [up_cell _ _ q1, up_cell _ _ q3, up_cell _ _ q2, f2 q q4]
/-- the sums of a release and of a collection -/
theorem gar_mkR {A : AS} (hG : Good A) {v : Int} (hv : 0 ≤ v ∧ v < aV A) : nGar (mkR A v) = nGar A + (nRch A (-1) - nRch A v) := by
  have e1 : nGar (mkR A v) = nRem (mkR A v) := nGar_eq (Good_mkR hG hv)
  have e2 := nGar_eq hG
  have e3 := exc_eq hG v
  have e4 : nRem (mkR A v) = sm (fun k => ind (coA A k = 0 ∧ rsA A v k = 0)) (aN A).toNat 0 := by
    unfold nRem
    refine sm_congr _ _ (fun k _ _ => ?_)
    rw [rsA_mkR v hv.1 k]
    rfl
  have e5 : nRem A = sm (fun k => ind (coA A k = 0 ∧ rsA A (-1) k = 0)) (aN A).toNat 0 := rfl
  rw [e1, e4]
  omega
theorem sto_mkC {A : AS} (hG : Good A) : nSto (mkC A) = nSto A - nGar A ∧ nGar (mkC A) = 0 := by
  have hc : ∀ m, coA (mkC A) m = 0 ↔ coA A m = 0 ∧ rsA A (-1) m ≠ 0 := fun m => by
    rw [mkC_co]
    by_cases h : rsA A (-1) m = 0
    · rw [if_pos h]
      exact ⟨fun z => absurd z (by decide), fun z => absurd h z.2⟩
    · rw [if_neg h]
      exact ⟨fun z => ⟨z, h⟩, fun z => z.1⟩
  have hrs : ∀ m, rsA (mkC A) (-1) m = rsA A (-1) m := fun m => by
    have hx : ext A (mkC A) := ⟨Int.le_refl _, fun n _ _ j hj => if_neg (fun z => hj z.1)⟩
    unfold rsA
    refine sm_congr _ _ (fun w w0 w1 => ?_)
    show (if rlA A w = 0 ∧ w ≠ -1 then muA (mkC A) (hgt (szA A w)) (rtA A w) m else 0) = if rlA A w = 0 ∧ w ≠ -1 then muA A (hgt (szA A w)) (rtA A w) m else 0
    have hv1 : w < aV A := by
      have e9 : aV (mkC A) = aV A := rfl
      rw [e9] at w1
      omega
    have hg := hG.2.2.2.1 w w0 hv1
    have e8 : muA (mkC A) (hgt (szA A w)) (rtA A w) m = muA A (hgt (szA A w)) (rtA A w) m := mu_ext hG.2.2.1 hx (v := w) (fun _ => rfl) hg.2.2.2.2.2.1 hg.1.1 m
    rw [e8]
  refine ⟨?_, ?_⟩
  · rw [nGar_eq hG]
    unfold nRem nSto
    show sm (fun k => ind (coA (mkC A) k = 0)) (aN A).toNat 0 = _
    rw [← sm_sub]
    refine sm_congr _ _ (fun k _ _ => ?_)
    unfold ind
    by_cases h1 : coA A k = 0
    · by_cases h2 : rsA A (-1) k = 0
      · rw [if_neg (fun z => ((hc k).mp z).2 h2), if_pos h1, if_pos ⟨h1, h2⟩]
        rfl
      · rw [if_pos ((hc k).mpr ⟨h1, h2⟩), if_pos h1, if_neg (fun z => h2 z.2)]
        rfl
    · rw [if_neg (fun z => h1 ((hc k).mp z).1), if_neg h1, if_neg (fun z => h1 z.1)]
      rfl
  · rw [nGar_eq (Good_mkC hG)]
    unfold nRem
    refine sm_zero _ _ (fun k _ _ => ?_)
    show ind (coA (mkC A) k = 0 ∧ rsA (mkC A) (-1) k = 0) = 0
    rw [hrs k]
    exact ind_f (fun z => ((hc k).mp z.1).2 z.2)
