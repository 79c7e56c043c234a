/-! each action *-/
def AOK (r : Option (Mem × Int)) : Prop := ∃ (M' : Mem) (A' : AS) (H' : Int → AS) (c' : Int), r = some (M', 1) ∧ KS M' A' H' c' ∧ LR M' A' ∧ LSn M' A'
theorem bits_T (fu : Nat) (M : Mem) (a : Int) {p m : Int} (hp : 0 ≤ p ∧ p ≤ 31) (hm : 0 ≤ m ∧ m ≤ 30) : ∃ b, (∀ M1, f_L_bits fu M1 a p m = some (M1, b)) ∧ 0 ≤ b ∧ b < ((2 ^ m.toNat : Nat) : Int) := by
  have h0 : (0 : Int) < ((2 ^ m.toNat : Nat) : Int) := by
    have : 0 < 2 ^ m.toNat := Nat.pow_pos (by decide)
    omega
  refine ⟨a % 4294967296 / ((2 ^ p.toNat : Nat) : Int) % ((2 ^ m.toNat : Nat) : Int), fun M1 => ?_, Int.emod_nonneg _ (by omega), Int.emod_lt_of_pos _ h0⟩
  unfold f_L_bits
  rw [grd_pos hp, grd_pos hm]
section Acts3
variable {fu : Nat} {M : Mem} {A : AS} {H : Int → AS} {c : Int} {v : Int}
theorem KS_hi {M' : Mem} (h : KS M A H c) (f : ∀ q, q < 52 → M' q = M q) : KS M' A H c := ⟨CM_congr h.1 (fun q _ q1 => f q (by omega)), HC_congr h.2.1 (fun q _ q1 => f q (by omega)), h.2.2⟩
theorem szR (h : KS M A H c) : ∀ w, 0 ≤ w → w < aV A → 0 ≤ szA A w ∧ szA A w ≤ 64 := fun w w0 w1 => (h.1.2.2.2.2.1 w w0 w1).1
theorem created_T {M1 : Mem} {A' : AS} (h : CM M1 A') {w : Int} (w0 : 0 ≤ w) (w1 : w < aV A') : f_X11_nodesCreatedFor fu M1 w = some (M1, ((0 : Nat), crA A' w)) := by
  rw [nodesCreatedFor_X h, ox_0 (xI_t ⟨w0, w1⟩)]
theorem J514_ok (h : KS M A H c) (hR : LR M A) (hS : LSn M A) (v0 : 0 ≤ v) (v1 : v < aV A) : AOK (f_L_acts_J514 fu v M) := by
  have hV := h.1.2.1.2
  unfold f_L_acts_J514
  rw [isReleased_T h.1 v0 v1, cax_ret, grd_pos ⟨v0, by omega⟩, (hR.2.1 v v0 v1).1.2.2, if_pos rfl]
  exact ⟨M, A, H, c, rfl, h, hR, hS⟩
theorem J232_ok (hfu : 2000 ≤ fu) (h : KS M A H c) (hR : LR M A) (hS : LSn M A) (v0 : 0 ≤ v) (v1 : v < aV A) (hl : rlA A v = 0) (hV : aV A < 40) {x i y : Int} (hi : 0 ≤ i ∧ i < szA A v) (hx : -999 ≤ x ∧ x ≤ 999) (hy : y = if ev A v i = x then 0 else ((hgt (szA A v) : Nat) : Int)) : AOK (f_L_acts_J232 fu v x i y M) := by
  have hG := h.1.2
  have hV1 := hG.1
  have hs := szR h v v0 v1
  unfold f_L_acts_J232
  have hP : fltP A v i x = 0 := by
    rw [fltP_e hx, fltE_t v0 v1 hl hi.1 hi.2]
  rw [nodesForSet_X h.1 _ _ _ (by omega), ox_0 hP, cax_ret, if_pos hy.symm, grd_pos ⟨v0, by omega⟩, (hR.2.1 v v0 v1).1.1]
  obtain ⟨M1, m1, m2, m3, m4, m5, m6, m7, m8⟩ := makes_ok hfu hR (szR h) ⟨hV1.1, hV⟩ v0 v1 hs.1 hs.2
  rw [m1, cal_some, grd_pos ⟨by omega, hV⟩, grd_pos ⟨by omega, by omega⟩]
  have k1 : KS (up M1 (58 + (aV A).toNat) i.toNat x) A H c := KS_hi h (fun q hq => by rw [up_cell _ _ (by omega), m8 q (by omega) (by omega) (by omega) (by omega)])
  obtain ⟨M2, e2, k2, f2⟩ := set_K k1 hfu hV ⟨v0, v1⟩ hl hi hx
  obtain ⟨A1, rt, nv, ef⟩ := mkS_form hG ⟨v0, v1⟩ hi hx
  have f3 : ∀ q, 52 ≤ q → q ≠ 58 + (aV A).toNat → M2 q = M1 q := fun q q0 q1 => by rw [f2 q q0, up_cell _ _ q1]
  have hav : aV (mkS A v i x) = aV A + 1 := by rw [ef, addV_V, nv.2.1]
  have hcr : crA (mkS A v i x) (aV A) = y := by rw [ef, ← nv.2.1, addV_cr, hy]
  rw [e2, cax_ret, if_pos rfl, created_T k2.1 (by omega) (by rw [hav]; omega), cax_ret, hcr, if_pos rfl]
  refine ⟨M2, _, _, _, rfl, k2, ?_, ?_⟩
  · rw [ef]
    refine LR_new hR nv ⟨hV1.1, hV⟩ (by rw [f3 52 (by decide) (by omega)]; exact m2) (by rw [f3 53 (by decide) (by omega)]; exact m3) (by rw [f3 54 (by decide) (by omega)]; exact m4) (fun k k0 k1' => ?_) (fun j hj => by rw [f3 53 (by decide) (by omega)]; exact m6 j hj) (fun j hj => by rw [f3 54 (by decide) (by omega)]; exact m7 j hj) (by rw [f3 55 (by decide) (by omega)]; exact m8 55 (by decide) (by decide) (by decide) (by omega)) (fun w w0 w1 => by rw [f3 _ (by omega) (by omega)]; exact m8 _ (by omega) (by omega) (by omega) (by omega))
    rw [f2 _ (by omega)]
    unfold setE
    by_cases hk : k = i
    · subst hk
      rw [if_pos rfl, up_same]
    · rw [if_neg hk, up_at (Or.inr (by omega)), m5 k k0 k1' k1']
  · refine LS_ext hS (by rw [ef]; exact ext_trans nv.1 (addV_ext ..)) (fun q hq => ?_)
    rw [f3 q (by omega) (by omega)]
    exact m8 q (by omega) (by omega) (by omega) (by omega)
theorem J188_ok (hfu : 2000 ≤ fu) (h : KS M A H c) (hR : LR M A) (hS : LSn M A) (v0 : 0 ≤ v) (v1 : v < aV A) {x i y : Int} (hi : szA A v ≠ 0 → 0 ≤ i ∧ i < szA A v) (hx : -999 ≤ x ∧ x ≤ 999) (hz : rlA A v = 0 → szA A v ≠ 0) (hy : (y = 1 ∧ rlA A v = 0 ∧ aV A < 40) ∨ (y = 0 ∧ (rlA A v ≠ 0 ∨ 40 ≤ aV A))) : AOK (f_L_acts_J188 fu v x i y M) := by
  have hs := szR h v v0 v1
  have hV := h.1.2.1
  unfold f_L_acts_J188
  rcases hy with ⟨rfl, hl, hv40⟩ | ⟨rfl, hc⟩
  · have hi' := hi (hz hl)
    rw [if_neg (by decide), grd_pos ⟨v0, by omega⟩, grd_pos ⟨by omega, by omega⟩, (hR.2.1 v v0 v1).2 i hi'.1 hi'.2]
    by_cases he : ev A v i = x
    · rw [if_pos he]
      exact J232_ok hfu h hR hS v0 v1 hl hv40 hi' hx (by rw [if_pos he])
    · rw [if_neg he, grd_pos ⟨v0, by omega⟩, (hR.2.1 v v0 v1).1.1, hgt_T hs.1, cal_some]
      exact J232_ok hfu h hR hS v0 v1 hl hv40 hi' hx (by rw [if_neg he])
  · have hc2 : rlA A v ≠ 0 ∨ (40 ≤ aV A ∧ 0 ≤ i ∧ i < szA A v) := by
      by_cases hl : rlA A v = 0
      · have := hi (hz hl)
        exact Or.inr ⟨by omega, this.1, this.2⟩
      · exact Or.inl hl
    rw [if_pos rfl, refused_K h.1 ⟨v0, v1⟩ hx (Or.inl ⟨rfl, hc2⟩), cal_some, grd_pos (by decide)]
    exact ⟨M, A, H, c, rfl, h, hR, hS⟩
theorem J156_ok (hfu : 2000 ≤ fu) (h : KS M A H c) (hR : LR M A) (hS : LSn M A) (v0 : 0 ≤ v) (v1 : v < aV A) {x i y : Int} (hi : szA A v ≠ 0 → 0 ≤ i ∧ i < szA A v) (hx : -999 ≤ x ∧ x ≤ 999) (hy : (y = 1 ∧ rlA A v = 0 ∧ aV A < 40) ∨ (y = 0 ∧ (rlA A v ≠ 0 ∨ 40 ≤ aV A))) : AOK (f_L_acts_J156 fu v x i y M) := by
  have hV := h.1.2.1
  unfold f_L_acts_J156
  rw [grd_pos ⟨v0, by omega⟩, (hR.2.1 v v0 v1).1.2.2]
  by_cases hl : rlA A v = 0
  · rw [if_pos hl, grd_pos ⟨v0, by omega⟩, (hR.2.1 v v0 v1).1.1]
    by_cases hz : szA A v = 0
    · rw [if_pos hz, size_T h.1 v0 v1 hl, cax_ret, if_pos hz]
      exact ⟨M, A, H, c, rfl, h, hR, hS⟩
    · rw [if_neg hz]
      exact J188_ok hfu h hR hS v0 v1 hi hx (fun _ => hz) hy
  · rw [if_neg hl]
    exact J188_ok hfu h hR hS v0 v1 hi hx (fun z => absurd z hl) hy
theorem J322_ok (h : KS M A H c) (hR : LR M A) (hS : LSn M A) (v0 : 0 ≤ v) (v1 : v < aV A) {x : Int} (hx : -999 ≤ x ∧ x ≤ 999) (hc : rlA A v ≠ 0 ∨ 64 ≤ szA A v ∨ 40 ≤ aV A) : AOK (f_L_acts_J322 fu v x M) := by
  unfold f_L_acts_J322
  rw [refused_K h.1 ⟨v0, v1⟩ hx (Or.inr (Or.inl ⟨rfl, hc⟩)), cal_some, grd_pos (by decide)]
  exact ⟨M, A, H, c, rfl, h, hR, hS⟩
theorem J306_ok (hfu : 2000 ≤ fu) (h : KS M A H c) (hR : LR M A) (hS : LSn M A) (v0 : 0 ≤ v) (v1 : v < aV A) {x y : Int} (hx : -999 ≤ x ∧ x ≤ 999) (hy : (y = 1 ∧ rlA A v = 0 ∧ aV A < 40) ∨ (y = 0 ∧ (rlA A v ≠ 0 ∨ 40 ≤ aV A))) : AOK (f_L_acts_J306 fu v x y M) := by
  have hG := h.1.2
  have hV1 := hG.1
  have hs := szR h v v0 v1
  unfold f_L_acts_J306
  rcases hy with ⟨rfl, hl, hV⟩ | ⟨rfl, hc⟩
  · rw [if_neg (by decide), grd_pos ⟨v0, by omega⟩, (hR.2.1 v v0 v1).1.1]
    by_cases h64 : szA A v = 64
    · rw [if_pos h64]
      exact J322_ok h hR hS v0 v1 hx (Or.inr (Or.inl (by omega)))
    · obtain ⟨M1, m1, m2, m3, m4, m5, m6, m7, m8⟩ := makes_ok hfu hR (szR h) ⟨hV1.1, hV⟩ v0 v1 (n := szA A v + 1) (by omega) (by omega)
      have e53 : M1 53 v.toNat = szA A v := by rw [m6 _ (by omega)]; exact (hR.2.1 v v0 v1).1.1
      have k1 : KS (up M1 (58 + (aV A).toNat) (szA A v).toNat x) A H c := KS_hi h (fun q hq => by rw [up_cell _ _ (by omega), m8 q (by omega) (by omega) (by omega) (by omega)])
      obtain ⟨M2, e2, k2, f2⟩ := append_K k1 hfu hV ⟨v0, v1⟩ hl (by omega) hx
      obtain ⟨A1, rt, nv, ef⟩ := mkA_form hG ⟨v0, v1⟩ (by omega) hx
      have f3 : ∀ q, 52 ≤ q → q ≠ 58 + (aV A).toNat → M2 q = M1 q := fun q q0 q1 => by rw [f2 q q0, up_cell _ _ q1]
      have hav : aV (mkA A v x) = aV A + 1 := by rw [ef, addV_V, nv.2.1]
      have hcr : crA (mkA A v x) (aV A) = ((hgt (szA A v + 1) : Nat) : Int) := by rw [ef, ← nv.2.1, addV_cr]
      have eu : up M1 (58 + (aV A).toNat) (szA A v).toNat x 53 v.toNat = szA A v := by rw [up_cell _ _ (by omega)]; exact e53
      have e2v : M2 53 v.toNat = szA A v := by rw [f3 53 (by decide) (by omega)]; exact e53
      rw [if_neg h64, grd_pos ⟨v0, by omega⟩, grd_pos ⟨by omega, by omega⟩, m1, cal_some, grd_pos ⟨by omega, hV⟩, grd_pos ⟨v0, by omega⟩, e53, grd_pos ⟨by omega, by omega⟩, nodesForAppend_X k1.1, ox_0 (fltR_t v0 v1 hl), cax_ret, if_neg h64, grd_pos ⟨v0, by omega⟩, eu, grd_pos ⟨by omega, by omega⟩, hgt_T (by omega), cal_some, if_pos rfl, e2, cax_ret, if_pos rfl, created_T k2.1 (by omega) (by rw [hav]; omega), cax_ret, grd_pos ⟨v0, by omega⟩, e2v, grd_pos ⟨by omega, by omega⟩, hgt_T (by omega), cal_some, hcr, if_pos rfl]
      refine ⟨M2, _, _, _, rfl, k2, ?_, ?_⟩
      · rw [ef]
        refine LR_new hR nv ⟨hV1.1, hV⟩ (by rw [f3 52 (by decide) (by omega)]; exact m2) (by rw [f3 53 (by decide) (by omega)]; exact m3) (by rw [f3 54 (by decide) (by omega)]; exact m4) (fun k k0 k1' => ?_) (fun j hj => by rw [f3 53 (by decide) (by omega)]; exact m6 j hj) (fun j hj => by rw [f3 54 (by decide) (by omega)]; exact m7 j hj) (by rw [f3 55 (by decide) (by omega)]; exact m8 55 (by decide) (by decide) (by decide) (by omega)) (fun w w0 w1 => by rw [f3 _ (by omega) (by omega)]; exact m8 _ (by omega) (by omega) (by omega) (by omega))
        rw [f2 _ (by omega)]
        unfold setE
        by_cases hk : k = szA A v
        · subst hk
          rw [if_pos rfl, up_same]
        · rw [if_neg hk, up_at (Or.inr (by omega)), m5 k k0 k1' (by omega)]
      · refine LS_ext hS (by rw [ef]; exact ext_trans nv.1 (addV_ext ..)) (fun q hq => ?_)
        rw [f3 q (by omega) (by omega)]
        exact m8 q (by omega) (by omega) (by omega) (by omega)
  · rw [if_pos rfl]
    exact J322_ok h hR hS v0 v1 hx (hc.imp id Or.inr)
theorem J422_ok (hfu : 2000 ≤ fu) (h : KS M A H c) (hR : LR M A) (hS : LSn M A) (v0 : 0 ≤ v) (v1 : v < aV A) {a y : Int} (hy : (y = 1 ∧ rlA A v = 0 ∧ aV A < 40) ∨ (y = 0 ∧ (rlA A v ≠ 0 ∨ 40 ≤ aV A))) : AOK (f_L_acts_J422 fu a v y M) := by
  have hG := h.1.2
  have hV1 := hG.1
  have hs := szR h v v0 v1
  unfold f_L_acts_J422
  rcases hy with ⟨rfl, hl, hV⟩ | ⟨rfl, hc⟩
  · obtain ⟨b, eb, b0, b1⟩ := bits_T fu M a (p := 17) (m := 6) (by decide) (by decide)
    have hb2 : b < 64 := b1
    rw [if_neg (by decide), eb M, cal_some, grd_pos ⟨v0, by omega⟩, (hR.2.1 v v0 v1).1.1, grd_pos ⟨⟨b0, by omega⟩, by omega, by omega⟩]
    have n0 : 0 ≤ b % (szA A v + 1) := Int.emod_nonneg _ (by omega)
    have n1 : b % (szA A v + 1) < szA A v + 1 := Int.emod_lt_of_pos _ (by omega)
    generalize b % (szA A v + 1) = n at n0 n1 ⊢
    obtain ⟨M1, m1, m2, m3, m4, m5, m6, m7, m8⟩ := makes_ok hfu hR (szR h) ⟨hV1.1, hV⟩ v0 v1 (n := n) n0 (by omega)
    have k1 : KS M1 A H c := KS_hi h (fun q hq => m8 q (by omega) (by omega) (by omega) (by omega))
    obtain ⟨M2, e2, k2, f2⟩ := truncate_K k1 hfu hV ⟨v0, v1⟩ hl (s := n) ⟨n0, by omega⟩
    obtain ⟨A1, rt, cr, nv, hcr9, ef⟩ := mkT_form hG ⟨v0, v1⟩ (s := n) ⟨n0, by omega⟩
    have hav : aV (mkT A v n) = aV A + 1 := by rw [ef, addV_V, nv.2.1]
    have hcr : crA (mkT A v n) (aV A) = cr := by rw [ef, ← nv.2.1, addV_cr]
    rw [grd_pos ⟨by omega, by omega⟩, m1, cal_some, e2, cax_ret, if_pos rfl, created_T k2.1 (by omega) (by rw [hav]; omega), cax_ret, hgt_T n0, cal_some, hcr, if_neg (by omega)]
    refine ⟨M2, _, _, _, rfl, k2, ?_, ?_⟩
    · rw [ef]
      exact LR_new hR nv ⟨hV1.1, hV⟩ (by rw [f2 52 (by decide)]; exact m2) (by rw [f2 53 (by decide)]; exact m3) (by rw [f2 54 (by decide)]; exact m4) (fun k k0 k1' => by rw [f2 _ (by omega)]; exact m5 k k0 k1' (by omega)) (fun j hj => by rw [f2 53 (by decide)]; exact m6 j hj) (fun j hj => by rw [f2 54 (by decide)]; exact m7 j hj) (by rw [f2 55 (by decide)]; exact m8 55 (by decide) (by decide) (by decide) (by omega)) (fun w w0 w1 => by rw [f2 _ (by omega)]; exact m8 _ (by omega) (by omega) (by omega) (by omega))
    · refine LS_ext hS (by rw [ef]; exact ext_trans nv.1 (addV_ext ..)) (fun q hq => ?_)
      rw [f2 q (by omega)]
      exact m8 q (by omega) (by omega) (by omega) (by omega)
  · rw [if_pos rfl, refused_K h.1 ⟨v0, v1⟩ (x := 0) (by decide) (Or.inr (Or.inr ⟨rfl, rfl, hc⟩)), cal_some, grd_pos (by decide)]
    exact ⟨M, A, H, c, rfl, h, hR, hS⟩
theorem garbage_T (hfu : 1000 ≤ fu) (h : CM M A) : ∃ M1, f_X11_garbageNodes fu M = some (M1, nGar A) ∧ only 35 M M1 := by
  obtain ⟨M1, e1, f1⟩ := countGarbage_C (fu := fu) hfu h
  refine ⟨M1, ?_, f1⟩
  unfold f_X11_garbageNodes
  rw [e1, cal_some]
theorem stored_T (hfu : 1000 ≤ fu) (h : CM M A) : f_X11_storedNodes fu M = some (M, nSto A) := by
  unfold f_X11_storedNodes
  rw [countStored_C h hfu, cal_some]
theorem LR_only {M1 : Mem} (hR : LR M A) (hV : aV A ≤ 40) (f : ∀ q, 52 ≤ q → M1 q = M q) : LR M1 A := by
  refine ⟨by rw [f 52 (by decide)]; exact hR.1, fun w w0 w1 => ?_, fun w w0 w1 => by rw [f 55 (by decide)]; exact hR.2.2 w w0 w1⟩
  rw [f 53 (by decide), f 54 (by decide), f 55 (by decide), f _ (show 52 ≤ 58 + w.toNat by omega)]
  exact hR.2.1 w w0 w1
theorem KS_35 {M' : Mem} (h : KS M A H c) (f : only 35 M M') : KS M' A H c := ⟨CM_congr h.1 (fun q _ q1 => f q (by omega)), HC_congr h.2.1 (fun q q0 _ => f q (by omega)), h.2.2⟩
theorem mkR_vf {w j : Int} (hj : ¬ (w = v ∧ j = 3)) : vf (mkR A v) w j = vf A w j := if_neg hj
theorem rel_ok (hfu : 2000 ≤ fu) (h : KS M A H c) (hR : LR M A) (hS : LSn M A) (v0 : 0 ≤ v) (v1 : v < aV A) (hl : rlA A v = 0) : AOK (cax (f_X11_garbageIfReleased fu M v) (fun M176 r177 => cal (f_X11_garbageNodes fu M176) fun M181 r182 => grd (0 ≤ v ∧ v < 40) (grd (0 ≤ (1 : Int) ∧ (1 : Int) ≤ 1) (cax (f_X11_release fu (up M181 55 (v : Int).toNat (1 : Int)) v) (fun M186 r187 => grd (rng (r182 + r177)) (if r187 = r182 + r177 then (some (M186, (1 : Int))) else (some (M186, (0 : Int))))) (fun _ _ => none)))) (fun _ _ => none)) := by
  have hG := h.1.2
  have hV := hG.1
  obtain ⟨M1, e1, f1⟩ := garbageIfReleased_X (fu := fu) h.1 v (by omega)
  have h1 := KS_35 h f1
  obtain ⟨M2, e2, f2⟩ := garbage_T (fu := fu) (by omega) h1.1
  have h2 := KS_35 h1 f2
  have h3 : KS (up M2 55 v.toNat 1) A H c := KS_hi h2 (fun q hq => up_cell _ _ (by omega))
  obtain ⟨M4, e4, k4, f4⟩ := release_K h3 hfu ⟨v0, v1⟩ hl
  have b1 := nSto_rng hG
  have b2 := nRch_rng hG (-1)
  have b3 := nRch_rng hG v
  have hr : rng (nGar A + (nRch A (-1) - nRch A v)) := by
    unfold nGar
    exact ⟨by omega, by omega⟩
  rw [e1, ox_0 (fltR_t v0 v1 hl), cax_ret, e2, cal_some, grd_pos ⟨v0, by omega⟩, grd_pos (by decide), e4, cax_ret, grd_pos hr, if_pos (gar_mkR hG ⟨v0, v1⟩)]
  have g : ∀ q, 52 ≤ q → q ≠ 55 → M4 q = M q := fun q q0 q1 => by rw [f4 q q0, up_cell _ _ q1, f2 q (by omega), f1 q (by omega)]
  have g55 : ∀ j, j ≠ v.toNat → M4 55 j = M 55 j := fun j hj => by rw [f4 55 (by decide), up_at (Or.inr hj), f2 55 (by decide), f1 55 (by decide)]
  refine ⟨M4, _, _, _, rfl, k4, ⟨by rw [g 52 (by decide) (by decide)]; exact hR.1, fun w w0 w1 => ?_, fun w w0 w1 => ?_⟩, LS_ext hS ⟨Int.le_refl _, fun _ _ _ _ _ => rfl⟩ (fun q hq => g q (by omega) (by omega))⟩
  · obtain ⟨⟨a1, a2, a3⟩, a4⟩ := hR.2.1 w w0 w1
    show (M4 53 w.toNat = vf (mkR A v) w 0 ∧ M4 54 w.toNat = vf (mkR A v) w 2 ∧ M4 55 w.toNat = vf (mkR A v) w 3) ∧ ∀ i, 0 ≤ i → i < vf (mkR A v) w 0 → M4 (58 + w.toNat) i.toNat = ev A w i
    rw [mkR_vf (by omega), mkR_vf (by omega), g 53 (by decide) (by decide), g 54 (by decide) (by decide), g (58 + w.toNat) (by omega) (by omega)]
    refine ⟨⟨a1, a2, ?_⟩, a4⟩
    by_cases hw : w = v
    · subst hw
      rw [f4 55 (by decide), up_same]
      exact (if_pos ⟨rfl, rfl⟩).symm
    · rw [mkR_vf (fun z => hw z.1), g55 _ (by omega)]
      exact a3
  · have w0' : aV A ≤ w := w0
    rw [g55 _ (by omega)]
    exact hR.2.2 w w0 w1
theorem col_ok (hfu : 2000 ≤ fu) (h : KS M A H c) (hR : LR M A) (hS : LSn M A) : AOK (cal (f_X11_garbageNodes fu M) fun M194 r195 => cal (f_X11_storedNodes fu M194) fun M197 r198 => cax (f_X11_collect fu M197) (fun M200 r201 => if r201 = r195 then (cal (f_X11_storedNodes fu M200) fun M206 r207 => grd (rng (r198 - r195)) (if r207 = r198 - r195 then (cal (f_X11_garbageNodes fu M206) fun M211 r212 => if r212 = (0 : Int) then (some (M211, (1 : Int))) else (some (M211, (0 : Int)))) else (some (M206, (0 : Int))))) else (some (M200, (0 : Int)))) (fun _ _ => none)) := by
  have hG := h.1.2
  have hV := hG.1
  obtain ⟨M1, e1, f1⟩ := garbage_T (fu := fu) (by omega) h.1
  have h1 := KS_35 h f1
  obtain ⟨M2, e2, k2, f2⟩ := collect_K h1 hfu
  obtain ⟨M3, e3, f3⟩ := garbage_T (fu := fu) (by omega) k2.1
  obtain ⟨s1, s2⟩ := sto_mkC hG
  have b1 := nSto_rng hG
  have b2 := nRch_rng hG (-1)
  have hr : rng (nSto A - nGar A) := by
    unfold nGar
    exact ⟨by omega, by omega⟩
  rw [e1, cal_some, stored_T (by omega) h1.1, cal_some, e2, cax_ret, if_pos (nGar_eq hG).symm, stored_T (by omega) k2.1, cal_some, grd_pos hr, if_pos s1, e3, cal_some, if_pos s2]
  have g : ∀ q, 52 ≤ q → M3 q = M q := fun q q0 => by rw [f3 q (by omega), f2 q q0, f1 q (by omega)]
  refine ⟨M3, _, _, _, rfl, KS_35 k2 f3, ?_, LS_ext hS ⟨Int.le_refl _, fun n _ _ j hj => if_neg (fun z => hj z.1)⟩ (fun q hq => g q (by omega))⟩
  exact LR_only (A := mkC A) ⟨hR.1, hR.2.1, hR.2.2⟩ hV.2 g
theorem J79_ok (hfu : 2000 ≤ fu) (h : KS M A H c) (hR : LR M A) (hS : LSn M A) (v0 : 0 ≤ v) (v1 : v < aV A) {a x i y : Int} (hi : szA A v ≠ 0 → 0 ≤ i ∧ i < szA A v) (hx : -999 ≤ x ∧ x ≤ 999) (hy : (y = 1 ∧ rlA A v = 0 ∧ aV A < 40) ∨ (y = 0 ∧ (rlA A v ≠ 0 ∨ 40 ≤ aV A))) : AOK (f_L_acts_J79 fu a v x i y M) := by
  have hV := h.1.2.1
  obtain ⟨b, eb, b0, b1⟩ := bits_T fu M a (p := 0) (m := 4) (by decide) (by decide)
  have w1 := J156_ok hfu h hR hS v0 v1 hi hx hy
  have w2 := J306_ok hfu h hR hS v0 v1 hx hy
  have w3 := J422_ok hfu h hR hS v0 v1 (a := a) hy
  have w4 := J514_ok (fu := fu) h hR hS v0 v1
  unfold f_L_acts_J79
  rw [eb M, cal_some]
  by_cases c0 : b = 0
  · rw [if_pos c0]; exact w1
  rw [if_neg c0]
  by_cases c1 : b = 1
  · rw [if_pos c1]; exact w1
  rw [if_neg c1]
  by_cases c2 : b = 2
  · rw [if_pos c2]; exact w1
  rw [if_neg c2]
  by_cases c3 : b = 3
  · rw [if_pos c3]; exact w1
  rw [if_neg c3]
  by_cases c4 : b = 4
  · rw [if_pos c4]; exact w2
  rw [if_neg c4]
  by_cases c5 : b = 5
  · rw [if_pos c5]; exact w2
  rw [if_neg c5]
  by_cases c6 : b = 6
  · rw [if_pos c6]; exact w2
  rw [if_neg c6]
  by_cases c7 : b = 7
  · rw [if_pos c7]; exact w2
  rw [if_neg c7]
  by_cases c8 : b = 8
  · rw [if_pos c8]; exact w2
  rw [if_neg c8]
  by_cases c9 : b = 9
  · rw [if_pos c9]; exact w2
  rw [if_neg c9]
  by_cases c10 : b = 10
  · rw [if_pos c10]; exact w3
  rw [if_neg c10]
  by_cases c11 : b = 11
  · rw [if_pos c11]; exact w3
  rw [if_neg c11]
  by_cases c12 : b = 12
  · rw [if_pos c12, grd_pos ⟨v0, by omega⟩, (hR.2.1 v v0 v1).1.2.2]
    by_cases hl : rlA A v = 0
    · rw [if_pos hl]
      by_cases h4 : 4 ≤ M 52 6
      · rw [if_pos h4]
        exact rel_ok hfu h hR hS v0 v1 hl
      · rw [if_neg h4]
        exact w4
    · rw [if_neg hl]
      exact w4
  rw [if_neg c12]
  by_cases c13 : b = 13
  · rw [if_pos c13]
    exact col_ok hfu h hR hS
  rw [if_neg c13]
  exact w4
theorem J54_ok (hfu : 2000 ≤ fu) (h : KS M A H c) (hR : LR M A) (hS : LSn M A) (v0 : 0 ≤ v) (v1 : v < aV A) {a x i : Int} (hi : szA A v ≠ 0 → 0 ≤ i ∧ i < szA A v) (hx : -999 ≤ x ∧ x ≤ 999) : AOK (f_L_acts_J54 fu a v x i M) := by
  have hV := h.1.2.1
  unfold f_L_acts_J54 f_L_acts_J78
  rw [grd_pos ⟨v0, by omega⟩, (hR.2.1 v v0 v1).1.2.2, hR.1]
  by_cases hl : rlA A v = 0
  · rw [if_pos hl]
    by_cases h40 : 40 ≤ aV A
    · rw [if_pos h40]
      exact J79_ok hfu h hR hS v0 v1 hi hx (Or.inr ⟨rfl, Or.inr h40⟩)
    · rw [if_neg h40]
      exact J79_ok hfu h hR hS v0 v1 hi hx (Or.inl ⟨rfl, hl, by omega⟩)
  · rw [if_neg hl]
    exact J79_ok hfu h hR hS v0 v1 hi hx (Or.inr ⟨rfl, Or.inl hl⟩)
theorem acts_ok (hfu : 2000 ≤ fu) (h : KS M A H c) (hR : LR M A) (hS : LSn M A) (a : Int) : AOK (f_L_acts fu M a) := by
  have hV := h.1.2.1
  obtain ⟨b, eb, b0, b1⟩ := bits_T fu M a (p := 4) (m := 6) (by decide) (by decide)
  obtain ⟨d, ed, d0, d1⟩ := bits_T fu M a (p := 10) (m := 7) (by decide) (by decide)
  obtain ⟨g, eg, g0, g1⟩ := bits_T fu M a (p := 17) (m := 6) (by decide) (by decide)
  have hb : b < 64 := b1
  have hd : d < 128 := d1
  have hg : g < 64 := g1
  have v0 : 0 ≤ b % aV A := Int.emod_nonneg _ (by omega)
  have v1 : b % aV A < aV A := Int.emod_lt_of_pos _ (by omega)
  unfold f_L_acts
  rw [eb M, cal_some, hR.1, grd_pos ⟨⟨b0, by omega⟩, by omega, by omega⟩, ed M, cal_some]
  generalize b % aV A = v at v0 v1 ⊢
  have hs := szR h v v0 v1
  rw [grd_pos ⟨by omega, by omega⟩, grd_pos ⟨v0, by omega⟩, (hR.2.1 v v0 v1).1.1]
  by_cases hz : szA A v = 0
  · rw [if_pos hz, grd_pos ⟨by omega, by omega⟩]
    exact J54_ok hfu h hR hS v0 v1 (fun z => absurd hz z) ⟨by omega, by omega⟩
  · have n0 : 0 ≤ g % szA A v := Int.emod_nonneg _ (by omega)
    have n1 : g % szA A v < szA A v := Int.emod_lt_of_pos _ (by omega)
    rw [if_neg hz, eg M, cal_some, grd_pos ⟨v0, by omega⟩, (hR.2.1 v v0 v1).1.1, grd_pos ⟨⟨g0, by omega⟩, by omega, by omega⟩, grd_pos ⟨by omega, by omega⟩, grd_pos ⟨by omega, by omega⟩]
    exact J54_ok hfu h hR hS v0 v1 (fun _ => ⟨n0, n1⟩) ⟨by omega, by omega⟩
end Acts3
