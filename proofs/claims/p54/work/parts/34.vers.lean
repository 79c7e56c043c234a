/-! making versions -/
def addV (A : AS) (pa rt s cr : Int) (e : Int → Int) : AS := (A.1 + 1, A.2.1, fun v j => if v = A.1 then (if j = 0 then s else if j = 1 then rt else if j = 2 then pa else if j = 3 then 0 else cr) else A.2.2.1 v j, fun v i => if v = A.1 then e i else A.2.2.2.1 v i, A.2.2.2.2)
theorem addV_V (A : AS) (pa rt s cr : Int) (e : Int → Int) : aV (addV A pa rt s cr e) = aV A + 1 := rfl
theorem addV_N (A : AS) (pa rt s cr : Int) (e : Int → Int) : aN (addV A pa rt s cr e) = aN A := rfl
theorem addV_nf (A : AS) (pa rt s cr : Int) (e : Int → Int) : nf (addV A pa rt s cr e) = nf A := rfl
theorem addV_vf {A : AS} {pa rt s cr : Int} {e : Int → Int} {v : Int} (h : v ≠ aV A) (j : Int) : vf (addV A pa rt s cr e) v j = vf A v j := if_neg h
theorem addV_ev {A : AS} {pa rt s cr : Int} {e : Int → Int} {v : Int} (h : v ≠ aV A) (j : Int) : ev (addV A pa rt s cr e) v j = ev A v j := if_neg h
theorem addV_sz (A : AS) (pa rt s cr : Int) (e : Int → Int) : szA (addV A pa rt s cr e) (aV A) = s := by
  show (if aV A = aV A then _ else _) = s
  rw [if_pos rfl]; rfl
theorem addV_rt (A : AS) (pa rt s cr : Int) (e : Int → Int) : rtA (addV A pa rt s cr e) (aV A) = rt := by
  show (if aV A = aV A then _ else _) = rt
  rw [if_pos rfl]; rfl
theorem addV_pa (A : AS) (pa rt s cr : Int) (e : Int → Int) : paA (addV A pa rt s cr e) (aV A) = pa := by
  show (if aV A = aV A then _ else _) = pa
  rw [if_pos rfl]; rfl
theorem addV_rl (A : AS) (pa rt s cr : Int) (e : Int → Int) : rlA (addV A pa rt s cr e) (aV A) = 0 := by
  show (if aV A = aV A then _ else _) = (0 : Int)
  rw [if_pos rfl]; rfl
theorem addV_cr (A : AS) (pa rt s cr : Int) (e : Int → Int) : crA (addV A pa rt s cr e) (aV A) = cr := by
  show (if aV A = aV A then _ else _) = cr
  rw [if_pos rfl]; rfl
theorem addV_e (A : AS) (pa rt s cr : Int) (e : Int → Int) (i : Int) : ev (addV A pa rt s cr e) (aV A) i = e i := by
  show (if aV A = aV A then _ else _) = e i
  rw [if_pos rfl]
theorem addV_ext (A : AS) (pa rt s cr : Int) (e : Int → Int) : ext A (addV A pa rt s cr e) := ⟨Int.le_refl _, fun _ _ _ _ _ => rfl⟩
theorem gN_same {A B : AS} (hN : gN A) (h1 : aN B = aN A) (h2 : ext A B) (hco : ∀ n, 0 ≤ n → n < aN A → 0 ≤ coA B n ∧ coA B n ≤ 1) : gN B := by
  intro n h0 hn
  rw [h1] at hn
  obtain ⟨-, l, k1, k2, k3⟩ := hN n h0 hn
  exact ⟨hco n h0 hn, l, k1, by rw [ext_lv h2 h0 hn]; exact k2, ext_nod hN h2 h0 hn k1 k3⟩
theorem okV_mu {A : AS} (v m : Int) (h : okV A v) (h0 : 0 ≤ szA A v) : muA A (hgt (szA A v)) (rtA A v) m ≤ 1 := by
  by_cases hs : 0 < szA A v
  · exact (h.2 hs).2.2.2 m
  · rw [hgt_0 (by omega)]
    show (0 : Int) ≤ 1
    decide
theorem mu_ext {A B : AS} (hN : gN A) (h : ext A B) {v : Int} (hvf : ∀ j, vf B v j = vf A v j) (hk : okV A v) (h0 : 0 ≤ szA A v) (m : Int) : muA B (hgt (szA B v)) (rtA B v) m = muA A (hgt (szA A v)) (rtA A v) m := by
  have e0 : szA B v = szA A v := hvf 0
  have e1 : rtA B v = rtA A v := hvf 1
  rw [e0, e1]
  by_cases hs : 0 < szA A v
  · exact ext_mu hN h m _ (Int.le_refl _) (hk.2 hs).1
  · rw [hgt_0 (by omega)]; rfl
theorem okV_ext {A B : AS} (hN : gN A) (h : ext A B) {v : Int} (hvf : ∀ j, vf B v j = vf A v j) (hev : ∀ i, ev B v i = ev A v i) (hk : okV A v) : okV B v := by
  have e0 : szA B v = szA A v := hvf 0
  have e1 : rtA B v = rtA A v := hvf 1
  unfold okV
  rw [e0, e1]
  refine ⟨hk.1, fun hs => ?_⟩
  obtain ⟨k1, k2, k3, k4⟩ := hk.2 hs
  refine ⟨okB_mono h.1 (ext_ok h (Int.le_refl _) k1), by rw [ext_ct hN h _ (Int.le_refl _) k1]; exact k2, fun i hi hi2 => ?_, fun m => ?_⟩
  · rw [ext_gt hN h _ (Int.le_refl _) k1 hi (by rw [k2]; exact hi2), hev]
    exact k3 i hi hi2
  · rw [ext_mu hN h m _ (Int.le_refl _) k1]
    exact k4 m
theorem gV_old {A B : AS} (hN : gN A) (h : ext A B) {v : Int} (hvf : ∀ j, vf B v j = vf A v j) (hev : ∀ i, ev B v i = ev A v i) (hco : ∀ m, 0 < muA A (hgt (szA A v)) (rtA A v) m → coA A m = 0 → coA B m = 0)
    (hk : (0 ≤ szA A v ∧ szA A v ≤ 64) ∧ (0 ≤ rlA A v ∧ rlA A v ≤ 1) ∧ (0 ≤ crA A v ∧ crA A v ≤ 21) ∧ (v = 0 → paA A v = -1) ∧ (0 < v → 0 ≤ paA A v ∧ paA A v < v) ∧ okV A v ∧ (rlA A v = 0 → ∀ m, 0 < muA A (hgt (szA A v)) (rtA A v) m → coA A m = 0)) :
    (0 ≤ szA B v ∧ szA B v ≤ 64) ∧ (0 ≤ rlA B v ∧ rlA B v ≤ 1) ∧ (0 ≤ crA B v ∧ crA B v ≤ 21) ∧ (v = 0 → paA B v = -1) ∧ (0 < v → 0 ≤ paA B v ∧ paA B v < v) ∧ okV B v ∧ (rlA B v = 0 → ∀ m, 0 < muA B (hgt (szA B v)) (rtA B v) m → coA B m = 0) := by
  obtain ⟨k1, k2, k3, k4, k5, k6, k7⟩ := hk
  have e2 : paA B v = paA A v := hvf 2
  have e3 : rlA B v = rlA A v := hvf 3
  have e4 : crA B v = crA A v := hvf 4
  have e0 : szA B v = szA A v := hvf 0
  refine ⟨by rw [e0]; exact k1, by rw [e3]; exact k2, by rw [e4]; exact k3, by rw [e2]; exact k4, by rw [e2]; exact k5, okV_ext hN h hvf hev k6, fun h9 m hm => ?_⟩
  rw [mu_ext hN h hvf k6 k1.1] at hm
  rw [e3] at h9
  exact hco m hm (k7 h9 m hm)
theorem Good_make {A A1 : AS} (hG : Good A) (hV : aV A < 40) {v : Int} (hv : 0 ≤ v ∧ v < aV A) {s rt : Int} {e : Int → Int}
    (hext : ext A A1) (hN1 : gN A1) (hsm : aV A1 = aV A ∧ vf A1 = vf A ∧ ev A1 = ev A) (hn : aN A1 ≤ aN A + 3) (hco : ∀ m, m < aN A → coA A1 m = coA A m) (hs : 0 ≤ s ∧ s ≤ 64)
    (hok : (s = 0 ∧ rt = -1) ∨ (0 < s ∧ okB A1 (aN A1) (hgt s) rt ∧ ctA A1 (hgt s) rt = s ∧ (∀ i, 0 ≤ i → i < s → gtA A1 (hgt s) rt i = e i) ∧ (∀ m, muA A1 (hgt s) rt m ≤ 1) ∧ (∀ m, 0 < muA A1 (hgt s) rt m → coA A1 m = 0))) :
    Good (addV A1 v rt s (aN A1 - aN A) e) := by
  obtain ⟨g1, g2, g3, g4, g5⟩ := hG
  have hB : ext A (addV A1 v rt s (aN A1 - aN A) e) := ext_trans hext (addV_ext A1 v rt s _ e)
  have hB1 := addV_ext A1 v rt s (aN A1 - aN A) e
  have hle := hext.1
  have hvfo : ∀ w, w ≠ aV A → ∀ j, vf (addV A1 v rt s (aN A1 - aN A) e) w j = vf A w j := fun w hw j => by
    rw [addV_vf (by rw [hsm.1]; exact hw), hsm.2.1]
  have hevo : ∀ w, w ≠ aV A → ∀ j, ev (addV A1 v rt s (aN A1 - aN A) e) w j = ev A w j := fun w hw j => by
    rw [addV_ev (by rw [hsm.1]; exact hw), hsm.2.2]
  have hcoo : ∀ m, coA (addV A1 v rt s (aN A1 - aN A) e) m = coA A1 m := fun m => rfl
  refine ⟨?_, ?_, gN_same hN1 (addV_N A1 v rt s _ e) hB1 (fun n h0 h1 => (hN1 n h0 h1).1), ?_, ?_⟩
  · rw [addV_V, hsm.1]; omega
  · rw [addV_V, addV_N, hsm.1]; omega
  · intro w h0 h1
    rw [addV_V, hsm.1] at h1
    by_cases hw : w = aV A
    · have e1 := addV_sz A1 v rt s (aN A1 - aN A) e
      have e2 := addV_rt A1 v rt s (aN A1 - aN A) e
      have e3 := addV_pa A1 v rt s (aN A1 - aN A) e
      have e4 := addV_rl A1 v rt s (aN A1 - aN A) e
      have e5 := addV_cr A1 v rt s (aN A1 - aN A) e
      have e6 := addV_e A1 v rt s (aN A1 - aN A) e
      rw [hsm.1, ← hw] at e1 e2 e3 e4 e5 e6
      rw [e1, e2, e3, e4, e5]
      refine ⟨hs, by decide, by omega, fun h => by omega, fun h => by omega, ?_, fun _ m hm => ?_⟩
      · unfold okV
        rw [e1, e2]
        refine ⟨fun h => ?_, fun h => ?_⟩
        · rcases hok with h2 | h2
          · exact h2.2
          · omega
        · rcases hok with h2 | ⟨-, h3, h4, h5, h6, h7⟩
          · omega
          · refine ⟨ext_ok hB1 (Int.le_refl _) h3, by rw [ext_ct hN1 hB1 _ (Int.le_refl _) h3]; exact h4, fun i hi hi2 => ?_, fun m => ?_⟩
            · rw [ext_gt hN1 hB1 _ (Int.le_refl _) h3 hi (by rw [h4]; exact hi2), e6]
              exact h5 i hi hi2
            · rw [ext_mu hN1 hB1 m _ (Int.le_refl _) h3]
              exact h6 m
      · rcases hok with h2 | ⟨-, h3, h4, h5, h6, h7⟩
        · rw [h2.1, hgt_0 (Int.le_refl 0)] at hm
          exact absurd hm (by show ¬ (0 : Int) < 0; decide)
        · rw [ext_mu hN1 hB1 m _ (Int.le_refl _) h3] at hm
          rw [hcoo]
          exact h7 m hm
    · have hw2 : w < aV A := by omega
      have h9 := g4 w h0 hw2
      refine gV_old g3 hB (hvfo w hw) (hevo w hw) (fun m hm hc => ?_) h9
      rw [hcoo]
      by_cases hmA : m < aN A
      · rw [hco m hmA]; exact hc
      · exfalso
        by_cases hs9 : 0 < szA A w
        · rw [muA_out g3 _ (Int.le_refl _) (h9.2.2.2.2.2.1.2 hs9).1 (by
            have h10 := (h9.2.2.2.2.2.1.2 hs9).1
            rcases hgt_cases h9.1.2 with h | h | h | h
            · omega
            · rw [h.2.2] at h10; have := h10.2.1; omega
            · rw [h.2.2] at h10; have := h10.2.1; omega
            · rw [h.2.2] at h10; have := h10.2.1; omega) (by
            rcases hgt_cases h9.1.2 with h | h | h | h
            · omega
            · rw [h.2.2]; decide
            · rw [h.2.2]; decide
            · rw [h.2.2]; decide)] at hm
          omega
        · rw [hgt_0 (by omega)] at hm
          exact absurd hm (by show ¬ (0 : Int) < 0; decide)
  · rw [addV_V, addV_N, hsm.1]
    have eT : (aV A + 1).toNat = (aV A).toNat + 1 := by omega
    rw [eT, sm_snoc]
    have e2 : (0 : Int) + ((aV A).toNat : Int) = aV A := by omega
    have e5 := addV_cr A1 v rt s (aN A1 - aN A) e
    rw [hsm.1] at e5
    rw [e2, e5, sm_congr (h := crA A) _ _ (fun k h0 h1 => hvfo k (by omega) 4), g5]
    omega
/-- out of Mk, for a live version -/
theorem Good_mk {A A1 : AS} (hG : Good A) (hV : aV A < 40) {v : Int} (hv : 0 ≤ v ∧ v < aV A) (hl : rlA A v = 0) {s rt : Int} {e om : Int → Int} (hs : 0 < s ∧ s ≤ 64) (h : Mk A A1 (hgt s) rt om) (hom : ∀ m, m < aN A → om m ≤ muA A (hgt (szA A v)) (rtA A v) m)
    (hct : ctA A1 (hgt s) rt = s) (hgt' : ∀ i, 0 ≤ i → i < s → gtA A1 (hgt s) rt i = e i) : Good (addV A1 v rt s (aN A1 - aN A) e) := by
  obtain ⟨k1, k2, k3, k4, k5, k6, k7, k8, k9⟩ := h
  have hle3 : ((hgt s : Nat) : Int) ≤ 3 := by have := hgt_le s; omega
  have gv := hG.2.2.2.1 v hv.1 hv.2
  refine Good_make hG hV hv k1 k2 k3 (by omega) k6 ⟨by omega, hs.2⟩ (Or.inr ⟨hs.1, k5, hct, hgt', fun m => ?_, fun m hm => ?_⟩)
  · by_cases hm : m < aN A
    · exact Int.le_trans (k8 m hm) (Int.le_trans (hom m hm) (okV_mu v m gv.2.2.2.2.2.1 gv.1.1))
    · exact k9 m (by omega)
  · by_cases hmA : m < aN A
    · rw [k6 m hmA]
      exact gv.2.2.2.2.2.2 hl m (Int.lt_of_lt_of_le hm (Int.le_trans (k8 m hmA) (hom m hmA)))
    · by_cases hm1 : m < aN A1
      · exact k7 m (by omega) hm1
      · exfalso
        rw [muA_out k2 _ (Int.le_refl _) k5 (by
          rcases hgt_cases hs.2 with h | h | h | h
          · omega
          · rw [h.2.2] at k5; have := k5.2.1; omega
          · rw [h.2.2] at k5; have := k5.2.1; omega
          · rw [h.2.2] at k5; have := k5.2.1; omega) (by
          rcases hgt_cases hs.2 with h | h | h | h
          · omega
          · rw [h.2.2]; decide
          · rw [h.2.2]; decide
          · rw [h.2.2]; decide)] at hm
        omega
/-! the changes -/
def setE (f : Int → Int) (i x : Int) : Int → Int := fun j => if j = i then x else f j
def mkS (A : AS) (v i x : Int) : AS := if ev A v i = x then addV A v (rtA A v) (szA A v) 0 (setE (ev A v) i x) else
  addV (wrA (hgt (szA A v)) A (rtA A v) i x).1 v (wrA (hgt (szA A v)) A (rtA A v) i x).2 (szA A v) (aN (wrA (hgt (szA A v)) A (rtA A v) i x).1 - aN A) (setE (ev A v) i x)
/-- the new tree of a longer version -/
def grA (A : AS) (v x : Int) : AS × Int := if 0 < szA A v ∧ hgt (szA A v) < hgt (szA A v + 1) then
    (addN (wrA (hgt (szA A v)) A (-1) 0 x).1 ((hgt (szA A v) : Int) + 1) 2 (fun j => if j = 1 then (wrA (hgt (szA A v)) A (-1) 0 x).2 else rtA A v), aN (wrA (hgt (szA A v)) A (-1) 0 x).1)
  else wrA (hgt (szA A v + 1)) A (rtA A v) (szA A v) x
def mkA (A : AS) (v x : Int) : AS := addV (grA A v x).1 v (grA A v x).2 (szA A v + 1) (aN (grA A v x).1 - aN A) (setE (ev A v) (szA A v) x)
def mkT (A : AS) (v s : Int) : AS := if s = 0 then addV A v (-1) 0 0 (ev A v) else
  addV (cuA (hgt s) A (dnA A (hgt (szA A v) - hgt s) (rtA A v)) s).1 v (cuA (hgt s) A (dnA A (hgt (szA A v) - hgt s) (rtA A v)) s).2 s (aN (cuA (hgt s) A (dnA A (hgt (szA A v) - hgt s) (rtA A v)) s).1 - aN A) (ev A v)
def mkR (A : AS) (v : Int) : AS := (A.1, A.2.1, fun w j => if w = v ∧ j = 3 then 1 else A.2.2.1 w j, A.2.2.2.1, A.2.2.2.2)
def mkC (A : AS) : AS := (A.1, A.2.1, A.2.2.1, A.2.2.2.1, fun n j => if j = 2 ∧ rsA A (-1) n = 0 then 1 else A.2.2.2.2 n j)
theorem hgt_pos {s : Int} (h : 0 < s) : 1 ≤ hgt s := by
  unfold hgt
  rw [if_neg (by omega)]
  split
  · decide
  · split <;> decide
theorem hgt_fit {s : Int} (h0 : 0 < s) (h : s ≤ 64) : s ≤ pw (hgt s) := by
  rcases hgt_cases h with q | q | q | q
  · omega
  · rw [q.2.2]; simp only [pw]; omega
  · rw [q.2.2]; simp only [pw]; omega
  · rw [q.2.2]; simp only [pw]; omega
theorem hgt_mono {a b : Int} (h : a ≤ b) (hb : b ≤ 64) : hgt a ≤ hgt b := by
  rcases hgt_cases (s := a) (by omega) with q | q | q | q <;> rcases hgt_cases hb with r | r | r | r <;> omega
theorem Mk_om {A A' : AS} {l : Nat} {n : Int} {o1 o2 : Int → Int} (h : Mk A A' l n o1) (ho : ∀ m, o1 m ≤ o2 m) : Mk A A' l n o2 := by
  obtain ⟨k1, k2, k3, k4, k5, k6, k7, k8, k9⟩ := h
  exact ⟨k1, k2, k3, k4, k5, k6, k7, fun m hm => Int.le_trans (k8 m hm) (ho m), k9⟩
theorem Good_mkS {A : AS} (hG : Good A) (hV : aV A < 40) {v i x : Int} (hv : 0 ≤ v ∧ v < aV A) (hl : rlA A v = 0) (hi : 0 ≤ i ∧ i < szA A v) (hx : -999 ≤ x ∧ x ≤ 999) : Good (mkS A v i x) := by
  have gv := hG.2.2.2.1 v hv.1 hv.2
  have hs : 0 < szA A v := by omega
  obtain ⟨t1, t2, t3, t4⟩ := gv.2.2.2.2.2.1.2 hs
  have hN := hG.2.2.1
  unfold mkS
  by_cases he : ev A v i = x
  · rw [if_pos he]
    have h := Good_mk (e := setE (ev A v) i x) hG hV hv hl ⟨hs, gv.1.2⟩ (Mk_same hN t1) (fun m _ => Int.le_refl _) t2 (fun j hj hj2 => by
      rw [t3 j hj hj2]
      unfold setE
      split
      · rename_i hji; rw [hji, he]
      · rfl)
    rw [Int.sub_self] at h
    exact h
  · rw [if_neg he]
    have hrt : rtA A v ≠ -1 := by
      rcases hgt_cases gv.1.2 with h | h | h | h
      · omega
      · rw [h.2.2] at t1; have := t1.1; omega
      · rw [h.2.2] at t1; have := t1.1; omega
      · rw [h.2.2] at t1; have := t1.1; omega
    have hf := hgt_fit hs gv.1.2
    obtain ⟨w1, w2, w3, w4⟩ := wrA_spec (hgt (szA A v)) (hgt_le _) hN hG.2.1.1 (n := rtA A v) (i := i) (x := x) (c := szA A v) hx hi.1 (by omega) (by omega) (Or.inr (Or.inr ⟨hgt_pos hs, t1, t2.symm⟩))
    rw [if_pos hi.2] at w3 w4
    refine Good_mk hG hV hv hl ⟨hs, gv.1.2⟩ (Mk_om w1 (o2 := fun m => muA A (hgt (szA A v)) (rtA A v) m) (fun m => ?_)) (fun m _ => Int.le_refl _) w3 (fun j hj hj2 => ?_)
    · show (if rtA A v = -1 then 0 else muA A (hgt (szA A v)) (rtA A v) m) ≤ _
      rw [if_neg hrt]
      exact Int.le_refl _
    · rw [w4 j hj hj2]
      unfold setE
      split
      · rfl
      · exact t3 j hj hj2
theorem Good_mkA {A : AS} (hG : Good A) (hV : aV A < 40) {v x : Int} (hv : 0 ≤ v ∧ v < aV A) (hl : rlA A v = 0) (hs64 : szA A v < 64) (hx : -999 ≤ x ∧ x ≤ 999) : Good (mkA A v x) := by
  have gv := hG.2.2.2.1 v hv.1 hv.2
  have hN := hG.2.2.1
  have h0 := hG.2.1.1
  have hs0 := gv.1.1
  unfold mkA
  have key : Mk A (grA A v x).1 (hgt (szA A v + 1)) (grA A v x).2 (fun m => muA A (hgt (szA A v)) (rtA A v) m) ∧ ctA (grA A v x).1 (hgt (szA A v + 1)) (grA A v x).2 = szA A v + 1 ∧ ∀ i, 0 ≤ i → i < szA A v + 1 → gtA (grA A v x).1 (hgt (szA A v + 1)) (grA A v x).2 i = setE (ev A v) (szA A v) x i := by
    unfold grA
    by_cases hb : 0 < szA A v ∧ hgt (szA A v) < hgt (szA A v + 1)
    · rw [if_pos hb]
      obtain ⟨t1, t2, t3, t4⟩ := gv.2.2.2.2.2.1.2 hb.1
      have hp : szA A v = pw (hgt (szA A v)) ∧ hgt (szA A v + 1) = hgt (szA A v) + 1 ∧ hgt (szA A v) < 3 ∧ 1 ≤ hgt (szA A v) := by
        have hb2 := hb.2
        rcases hgt_cases (s := szA A v) (by omega) with q | q | q | q
        · omega
        · rcases hgt_cases (s := szA A v + 1) (by omega) with r | r | r | r
          · omega
          · omega
          · exact ⟨by rw [q.2.2, pw1]; omega, by omega, by omega, by omega⟩
          · omega
        · rcases hgt_cases (s := szA A v + 1) (by omega) with r | r | r | r
          · omega
          · omega
          · omega
          · exact ⟨by rw [q.2.2, pw2]; omega, by omega, by omega, by omega⟩
        · rcases hgt_cases (s := szA A v + 1) (by omega) with r | r | r | r <;> omega
      rw [hp.2.1]
      generalize hgt (szA A v) = h at *
      obtain ⟨w1, w2, w3, w4⟩ := wrA_spec h (by omega) hN h0 (n := -1) (i := 0) (x := x) (c := 0) hx (Int.le_refl 0) (Int.le_refl 0) (pw_pos h) (Or.inr (Or.inl ⟨hp.2.2.2, rfl, rfl⟩))
      generalize wrA h A (-1) 0 x = r at w1 w2 w3 w4 ⊢
      rw [if_neg (by decide)] at w3 w4
      have hU := Mk_up (p := 1) (f := 2) (e := fun _ => rtA A v) (om := fun m => muA A h (rtA A v) m) hN h0 hp.2.2.1 w1 (by decide) (by decide) (by decide) (fun j hj hj2 hjp => ⟨t1, fun _ => by rw [t2]; exact hp.1⟩) (fun h => by omega) (fun m hm => by
        show sm (fun j => if j = 1 then (if (-1 : Int) = -1 then 0 else muA A h (-1) m) else muA A h (rtA A v) m) 2 0 ≤ _
        simp [sm])
      refine ⟨hU.1, ?_, ?_⟩
      · rw [addN_ct w1.2.1 (by decide) hU.2, if_pos (by decide), w3, ← hp.1]
        omega
      · intro i hi hi2
        have hpp := pw_pos h
        by_cases hil : i < szA A v
        · have e1 : i / pw h = 0 := Int.ediv_eq_zero_of_lt hi (by omega)
          have e2 : i % pw h = i := Int.emod_eq_of_lt hi (by omega)
          have hct0 : ctA r.1 h (rtA A v) = szA A v := by rw [ext_ct hN w1.1 h (Int.le_refl _) t1, t2]
          rw [addN_gt w1.2.1 hU.2 (by rw [e1]; decide) (by rw [e1]; decide) (by rw [e2]; exact hi) (by rw [e1, e2, if_neg (by decide), hct0]; exact hil)]
          rw [e1, e2, if_neg (by decide), ext_gt hN w1.1 h (Int.le_refl _) t1 hi (by rw [t2]; exact hil), t3 i hi hil]
          unfold setE
          rw [if_neg (by omega)]
        · have hie : i = pw h := by omega
          have e1 : i / pw h = 1 := by rw [hie]; exact Int.ediv_self (by omega)
          have e2 : i % pw h = 0 := by rw [hie]; exact Int.emod_self
          rw [addN_gt w1.2.1 hU.2 (by rw [e1]; decide) (by rw [e1]; decide) (by rw [e2]; decide) (by rw [e1, e2, if_pos rfl, w3]; decide)]
          rw [e1, e2, if_pos rfl, w4 0 (by decide) (by decide), if_pos rfl]
          unfold setE
          rw [if_pos (by omega)]
    · rw [if_neg hb]
      have hf := hgt_fit (s := szA A v + 1) (by omega) (by omega)
      have hsp := hgt_pos (s := szA A v + 1) (by omega)
      by_cases hs : 0 < szA A v
      · have he : hgt (szA A v + 1) = hgt (szA A v) := by
          have := hgt_mono (a := szA A v) (b := szA A v + 1) (by omega) (by omega)
          omega
        rw [he] at hf hsp ⊢
        obtain ⟨t1, t2, t3, t4⟩ := gv.2.2.2.2.2.1.2 hs
        have hrt : rtA A v ≠ -1 := by
          rcases hgt_cases gv.1.2 with h | h | h | h
          · omega
          · rw [h.2.2] at t1; have := t1.1; omega
          · rw [h.2.2] at t1; have := t1.1; omega
          · rw [h.2.2] at t1; have := t1.1; omega
        obtain ⟨w1, w2, w3, w4⟩ := wrA_spec (hgt (szA A v)) (hgt_le _) hN h0 (n := rtA A v) (i := szA A v) (x := x) (c := szA A v) hx hs0 (Int.le_refl _) (by omega) (Or.inr (Or.inr ⟨hsp, t1, t2.symm⟩))
        rw [if_neg (by omega)] at w3 w4
        refine ⟨Mk_om w1 (fun m => ?_), w3, fun j hj hj2 => ?_⟩
        · show (if rtA A v = -1 then 0 else muA A (hgt (szA A v)) (rtA A v) m) ≤ _
          rw [if_neg hrt]
          exact Int.le_refl _
        · rw [w4 j hj hj2]
          unfold setE
          split
          · rfl
          · exact t3 j hj (by omega)
      · have hs9 : szA A v = 0 := by omega
        have hrt := gv.2.2.2.2.2.1.1 hs9
        rw [hs9, hrt] at *
        obtain ⟨w1, w2, w3, w4⟩ := wrA_spec (hgt (0 + 1)) (hgt_le _) hN h0 (n := -1) (i := 0) (x := x) (c := 0) hx (Int.le_refl 0) (Int.le_refl 0) (pw_pos _) (Or.inr (Or.inl ⟨by decide, rfl, rfl⟩))
        rw [if_neg (by decide)] at w3 w4
        refine ⟨Mk_om w1 (fun m => ?_), w3, fun j hj hj2 => ?_⟩
        · show (if (-1 : Int) = -1 then 0 else _) ≤ _
          rw [if_pos rfl]
          exact muA_nonneg A _ _ m
        · rw [w4 j hj hj2]
          unfold setE
          rw [if_pos (by omega), if_pos (by omega)]
  exact Good_mk hG hV hv hl ⟨by omega, by omega⟩ key.1 (fun m _ => Int.le_refl _) key.2.1 key.2.2
theorem Good_mkT {A : AS} (hG : Good A) (hV : aV A < 40) {v s : Int} (hv : 0 ≤ v ∧ v < aV A) (hl : rlA A v = 0) (hs : 0 ≤ s ∧ s ≤ szA A v) : Good (mkT A v s) := by
  have gv := hG.2.2.2.1 v hv.1 hv.2
  have hN := hG.2.2.1
  have h0 := hG.2.1.1
  unfold mkT
  by_cases hs0 : s = 0
  · rw [if_pos hs0]
    have h := Good_make (e := ev A v) hG hV hv (ext_refl A) hN ⟨rfl, rfl, rfl⟩ (by omega) (fun _ _ => rfl) (s := 0) (rt := -1) (by decide) (Or.inl ⟨rfl, rfl⟩)
    rw [Int.sub_self] at h
    exact h
  · rw [if_neg hs0]
    obtain ⟨t1, t2, t3, t4⟩ := gv.2.2.2.2.2.1.2 (by omega)
    have hm := hgt_mono hs.2 gv.1.2
    have e : hgt (szA A v) = hgt s + (hgt (szA A v) - hgt s) := by omega
    have hf := hgt_fit (s := s) (by omega) (by omega)
    obtain ⟨d1, d2, d3, d4⟩ := dnA_spec hN (hgt (szA A v) - hgt s) (l := hgt s) (b := aN A) (n := rtA A v) (s := s) (Int.le_refl _) (by rw [← e]; exact t1) (hgt_pos (by omega)) (by rw [← e, t2]; exact hs.2) hf
    rw [← e] at d3 d4
    obtain ⟨c1, c2, c3⟩ := cuA_spec (hgt s) (hgt_le _) hN h0 d1 (by omega) d2
    exact Good_mk hG hV hv hl ⟨by omega, by omega⟩ c1 (fun m _ => d4 m) c2 (fun j hj hj2 => by rw [c3 j hj hj2, d3 j hj hj2, t3 j hj (by omega)])
theorem Good_mkR {A : AS} (hG : Good A) {v : Int} (hv : 0 ≤ v ∧ v < aV A) : Good (mkR A v) := by
  obtain ⟨g1, g2, g3, g4, g5⟩ := hG
  have hB : ext A (mkR A v) := ⟨Int.le_refl _, fun _ _ _ _ _ => rfl⟩
  have hvf : ∀ w j, j ≠ 3 → vf (mkR A v) w j = vf A w j := fun w j hj => if_neg (fun h => hj h.2)
  refine ⟨g1, g2, gN_same g3 rfl hB (fun n h0 h1 => (g3 n h0 h1).1), fun w h0 h1 => ?_, ?_⟩
  · by_cases hw : w = v
    · have h9 := g4 w h0 h1
      have e0 : szA (mkR A v) w = szA A w := hvf w 0 (by decide)
      have e1 : rtA (mkR A v) w = rtA A w := hvf w 1 (by decide)
      have e2 : paA (mkR A v) w = paA A w := hvf w 2 (by decide)
      have e3 : rlA (mkR A v) w = 1 := if_pos ⟨hw, rfl⟩
      have e4 : crA (mkR A v) w = crA A w := hvf w 4 (by decide)
      obtain ⟨k1, k2, k3, k4, k5, k6, k7⟩ := h9
      rw [e0, e1, e2, e3, e4]
      refine ⟨k1, by decide, k3, k4, k5, ?_, fun h => absurd h (by decide)⟩
      unfold okV
      rw [e0, e1]
      refine ⟨k6.1, fun hs => ?_⟩
      obtain ⟨q1, q2, q3, q4⟩ := k6.2 hs
      exact ⟨ext_ok hB (Int.le_refl _) q1, by rw [ext_ct g3 hB _ (Int.le_refl _) q1]; exact q2, fun i hi hi2 => by
        rw [ext_gt g3 hB _ (Int.le_refl _) q1 hi (by rw [q2]; exact hi2)]; exact q3 i hi hi2, fun m => by rw [ext_mu g3 hB m _ (Int.le_refl _) q1]; exact q4 m⟩
    · exact gV_old g3 hB (fun j => if_neg (fun h => hw h.1)) (fun i => rfl) (fun m _ hc => hc) (g4 w h0 h1)
  · show sm (crA (mkR A v)) (aV A).toNat 0 = aN A
    rw [← g5]
    exact sm_congr _ _ (fun k _ _ => hvf k 4 (by decide))
theorem mkC_co (A : AS) (m : Int) : coA (mkC A) m = if rsA A (-1) m = 0 then 1 else coA A m := by
  show (if (2 : Int) = 2 ∧ rsA A (-1) m = 0 then (1 : Int) else nf A m 2) = _
  by_cases h : rsA A (-1) m = 0
  · rw [if_pos ⟨rfl, h⟩, if_pos h]
  · rw [if_neg (fun h2 => h h2.2), if_neg h]
theorem Good_mkC {A : AS} (hG : Good A) : Good (mkC A) := by
  obtain ⟨g1, g2, g3, g4, g5⟩ := hG
  have hB : ext A (mkC A) := ⟨Int.le_refl _, fun n _ _ j hj => if_neg (fun h => hj h.1)⟩
  refine ⟨g1, g2, gN_same g3 rfl hB (fun n h0 h1 => ?_), fun w h0 h1 => ?_, g5⟩
  · rw [mkC_co]
    split
    · decide
    · exact (g3 n h0 h1).1
  · have h9 := g4 w h0 h1
    by_cases hl : rlA A w = 0
    · refine gV_old g3 hB (fun j => rfl) (fun i => rfl) (fun m hm hc => ?_) h9
      rw [mkC_co, if_neg]
      · exact hc
      · have := rsA_of (A := A) (w := -1) h0 h1 hl (by omega) hm
        omega
    · obtain ⟨k1, k2, k3, k4, k5, k6, k7⟩ := h9
      refine ⟨k1, k2, k3, k4, k5, okV_ext g3 hB (fun j => rfl) (fun i => rfl) k6, fun h => absurd h hl⟩

