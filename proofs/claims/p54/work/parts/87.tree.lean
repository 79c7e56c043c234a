/-! the law's own rows, and the walk of a tree -/
def svA (A : AS) (n k : Int) : Int := if lvA A n = 1 then (if k < flA A n then enA A n k else -2000) else chA A n k
def LR (M : Mem) (A : AS) : Prop := M 52 6 = aV A ∧ (∀ v, 0 ≤ v → v < aV A → (M 53 v.toNat = szA A v ∧ M 54 v.toNat = paA A v ∧ M 55 v.toNat = rlA A v) ∧ ∀ i, 0 ≤ i → i < szA A v → M (58 + v.toNat) i.toNat = ev A v i) ∧ ∀ v, aV A ≤ v → v < 40 → M 55 v.toNat = 0
def LSn (M : Mem) (A : AS) : Prop := ∀ n, 0 ≤ n → n < 200 → M 57 n.toNat = 0 ∨ (n < aN A ∧ ∀ k, 0 ≤ k → k < 4 → M (98 + n.toNat) k.toNat = svA A n k)
def frG9 (M M' : Mem) : Prop := (∀ q, q ≠ 52 → q ≠ 57 → q < 98 ∨ 298 ≤ q → M' q = M q) ∧ M' 52 6 = M 52 6
theorem frG9_refl (M : Mem) : frG9 M M := ⟨fun _ _ _ _ => rfl, rfl⟩
theorem frG9_trans {M M1 M2 : Mem} (h : frG9 M M1) (h2 : frG9 M1 M2) : frG9 M M2 := ⟨fun q q1 q2 q3 => by rw [h2.1 q q1 q2 q3, h.1 q q1 q2 q3], h2.2.trans h.2⟩
theorem LR_W {M M' : Mem} {A : AS} (h : LR M A) (hV : aV A ≤ 40) (f : frG9 M M') : LR M' A := by
  refine ⟨f.2.trans h.1, fun v v0 v1 => ?_, fun v v0 v1 => by rw [f.1 55 (by decide) (by decide) (by decide)]; exact h.2.2 v v0 v1⟩
  obtain ⟨⟨h1, h2, h3⟩, h4⟩ := h.2.1 v v0 v1
  rw [f.1 53 (by decide) (by decide) (by decide), f.1 54 (by decide) (by decide) (by decide), f.1 55 (by decide) (by decide) (by decide), f.1 (58 + v.toNat) (by omega) (by omega) (Or.inl (by omega))]
  exact ⟨⟨h1, h2, h3⟩, h4⟩
theorem CM_W {M M' : Mem} {A : AS} (h : CM M A) (f : frG9 M M') : CM M' A := CM_congr h (fun q _ q1 => f.1 q (by omega) (by omega) (by omega))
/-- x is the top of l + 1 levels of the version v, from its element off on -/
def TW (A : AS) (v off : Int) (l : Nat) (x : Int) : Prop := okB A (aN A) (l + 1) x ∧ 0 ≤ off ∧ off + ctA A (l + 1) x ≤ szA A v ∧ (∀ i, 0 ≤ i → i < ctA A (l + 1) x → gtA A (l + 1) x i = ev A v (off + i) ∧ lfA A l x i = lfA A (hgt (szA A v) - 1) (rtA A v) (off + i)) ∧ ∀ m, 0 < muA A (l + 1) x m → coA A m = 0
theorem TW_root {A : AS} (hG : Good A) {v : Int} (hv : 0 ≤ v ∧ v < aV A) (hl : rlA A v = 0) (hs : 0 < szA A v) : TW A v 0 (hgt (szA A v) - 1) (rtA A v) := by
  obtain ⟨g1, g2, g3, g4, g5, g6, g7⟩ := hG.2.2.2.1 v hv.1 hv.2
  obtain ⟨k1, k2, k3, k4⟩ := g6.2 hs
  have hp := hgt_pos hs
  have e : hgt (szA A v) - 1 + 1 = hgt (szA A v) := by omega
  unfold TW
  rw [e]
  exact ⟨k1, Int.le_refl 0, by omega, fun i i0 i1 => ⟨by rw [Int.zero_add]; exact k3 i i0 (by omega), by rw [Int.zero_add]⟩, g7 hl⟩
theorem kid_ar {l : Nat} (hl : l < 2) {j i : Int} (j0 : 0 ≤ j) (i0 : 0 ≤ i) (i1 : i < pw (l + 1)) : (j * pw (l + 1) + i) / pw (l + 1) = j ∧ (j * pw (l + 1) + i) % pw (l + 1) = i := by
  have : l = 0 ∨ l = 1 := by omega
  rcases this with rfl | rfl <;> simp only [pw] at * <;> omega
theorem TW_kid {A : AS} (hN : gN A) {v off x : Int} {l : Nat} (h : TW A v off (l + 1) x) {j : Int} (j0 : 0 ≤ j) (j1 : j < flA A x) : TW A v (off + j * pw (l + 1)) l (enA A x j) ∧ (j < flA A x - 1 → ctA A (l + 1) (enA A x j) = pw (l + 1)) := by
  obtain ⟨h1, h2, h3, h4, h5⟩ := h
  obtain ⟨n1, n2, n3, n4⟩ := okB_nod hN (Int.le_refl _) h1
  have hl : l < 2 := by omega
  have hx := h1.2.1
  have hk := n4 j j0 j1
  have hkl := n4 (flA A x - 1) (by omega) (by omega)
  have hct := ctA_rng hN (l + 1) (b := x) (by omega) hk.1
  have hctl := ctA_rng hN (l + 1) (b := x) (by omega) hkl.1
  have e0 : ctA A (l + 1 + 1) x = (flA A x - 1) * pw (l + 1) + ctA A (l + 1) (enA A x (flA A x - 1)) := rfl
  have hle : j * pw (l + 1) + ctA A (l + 1) (enA A x j) ≤ ctA A (l + 1 + 1) x := by
    by_cases hj : j = flA A x - 1
    · rw [e0, hj]
      exact Int.le_refl _
    · rw [e0]
      have h9 : l = 0 ∨ l = 1 := by omega
      rcases h9 with rfl | rfl <;> simp only [pw] at * <;> omega
  have hjp : 0 ≤ j * pw (l + 1) := Int.mul_nonneg j0 (by have := pw_pos (l + 1); omega)
  refine ⟨⟨okB_mono (by omega) hk.1, by omega, by omega, fun i i0 i1 => ?_, fun m hm => h5 m (muA_kid j0 j1 hm)⟩, hk.2⟩
  obtain ⟨a1, a2⟩ := kid_ar hl j0 i0 (by omega)
  obtain ⟨b1, b2⟩ := h4 (j * pw (l + 1) + i) (by omega) (by omega)
  have e1 : gtA A (l + 1 + 1) x (j * pw (l + 1) + i) = gtA A (l + 1) (enA A x j) i := by
    show gtA A (l + 1) (enA A x ((j * pw (l + 1) + i) / pw (l + 1))) ((j * pw (l + 1) + i) % pw (l + 1)) = _
    rw [a1, a2]
  have e2 : lfA A (l + 1) x (j * pw (l + 1) + i) = lfA A l (enA A x j) i := by
    show lfA A l (enA A x ((j * pw (l + 1) + i) / pw (l + 1))) ((j * pw (l + 1) + i) % pw (l + 1)) = _
    rw [a1, a2]
  rw [← e1, ← e2, b1, b2, show off + j * pw (l + 1) + i = off + (j * pw (l + 1) + i) by omega]
  exact ⟨rfl, rfl⟩
theorem nRef_kid {A : AS} {x j : Int} (x0 : 0 ≤ x) (x1 : x < aN A) (hc : coA A x = 0) (hl : 1 < lvA A x) (j0 : 0 ≤ j) (j1 : j < flA A x) (he : 0 ≤ enA A x j) : 1 ≤ nRef A (enA A x j) := by
  unfold nRef
  have := sm_ge_one (g := fun k => if coA A k = 0 then hcB A k (enA A x j) else 0) x (aN A).toNat 0 (by omega) (by omega) (fun k _ _ => by
    show 0 ≤ if coA A k = 0 then hcB A k (enA A x j) else 0
    split
    · exact (hcB_rng A k _).1
    · exact Int.le_refl 0)
  rw [if_pos hc] at this
  rcases hcB_iff A x he with h | h
  · rw [h.1] at this
    exact this
  · exact absurd ⟨j, j0, j1, hl, rfl⟩ h.2
theorem nLRt_root {A : AS} {v : Int} (v0 : 0 ≤ v) (v1 : v < aV A) (hl : rlA A v = 0) : 1 ≤ nLRt A (rtA A v) := by
  unfold nLRt
  have := sm_ge_one (g := fun w => ind (rlA A w = 0 ∧ rtA A w = rtA A v)) v (aV A).toNat 0 (by omega) (by omega) (fun k _ _ => (ind_rng _).1)
  rw [show ind (rlA A v = 0 ∧ rtA A v = rtA A v) = 1 from if_pos ⟨hl, rfl⟩] at this
  exact this
theorem xI_t {p : Prop} [Decidable p] (h : p) : xI p = 0 := if_pos h
section Tree
variable {fu : Nat} {A : AS} {v : Int}
theorem entryCount_T {M : Mem} (h : CM M A) {x : Int} (hx : 0 ≤ x ∧ x < aN A ∧ coA A x = 0) : f_X11_entryCount fu M x = some (M, ((0 : Nat), flA A x)) := by
  rw [entryCount_X h, ox_0 (xI_t hx)]
theorem isLeaf_T {M : Mem} (h : CM M A) {x : Int} (hx : 0 ≤ x ∧ x < aN A ∧ coA A x = 0) : f_X11_isLeaf fu M x = some (M, ((0 : Nat), ind (lvA A x = 1))) := by
  rw [isLeaf_X h, ox_0 (xI_t hx), if_pos hx]
theorem childOf_T {M : Mem} (h : CM M A) {x : Int} (hx : 0 ≤ x ∧ x < aN A ∧ coA A x = 0) (j : Int) : f_X11_childOf fu M x j = some (M, ((0 : Nat), chA A x j)) := by
  rw [childOf_X h, ox_0 (xI_t hx)]
theorem referencesTo_T {M : Mem} (h : CM M A) (hfu : 1000 ≤ fu) {x : Int} (hx : 0 ≤ x ∧ x < aN A ∧ coA A x = 0) : f_X11_referencesTo fu M x = some (M, ((0 : Nat), nLRt A x + nRef A x)) := by
  rw [referencesTo_X h _ hfu, ox_0 (xI_t hx)]
theorem fltR_t (v0 : 0 ≤ v) (v1 : v < aV A) (hl : rlA A v = 0) : fltR A v = 0 := by
  unfold fltR
  rw [if_pos ⟨v0, v1⟩, if_pos hl]
theorem fltE_t {i : Int} (v0 : 0 ≤ v) (v1 : v < aV A) (hl : rlA A v = 0) (i0 : 0 ≤ i) (i1 : i < szA A v) : fltE A v i = 0 := by
  unfold fltE
  rw [fltR_t v0 v1 hl, if_neg (fun z => z.2 ⟨i0, i1⟩)]
theorem get_T {M : Mem} (h : CM M A) (hfu : 1000 ≤ fu) (v0 : 0 ≤ v) (v1 : v < aV A) (hl : rlA A v = 0) {i : Int} (i0 : 0 ≤ i) (i1 : i < szA A v) : f_X11_get fu M v i = some (M, ((0 : Nat), ev A v i)) := by
  rw [get_X h _ _ hfu, ox_0 (fltE_t v0 v1 hl i0 i1)]
theorem leafOf_T {M : Mem} (h : CM M A) (hfu : 1000 ≤ fu) (v0 : 0 ≤ v) (v1 : v < aV A) (hl : rlA A v = 0) {i : Int} (i0 : 0 ≤ i) (i1 : i < szA A v) : f_X11_leafOf fu M v i = some (M, ((0 : Nat), lfA A (hgt (szA A v) - 1) (rtA A v) i)) := by
  rw [leafOf_X h _ _ hfu, ox_0 (fltE_t v0 v1 hl i0 i1)]
/-- one entry seen -/
theorem J99_ok {sf : Mem → Int → Int → Int → Option (Mem × Int)} {k52 : Int → Int → Int → Int → Int → Mem → Option (Mem × Int)} {M : Mem} {x h fl k y : Int} (hS : LSn M A) (x0 : 0 ≤ x) (x1 : x < 200) (k0 : 0 ≤ k) (k1 : k < 4) (hy : y = svA A x k) :
    f_L_isTree_J99 fu sf k52 v x h fl k y M = k52 v x h fl (k + 1) (up M (98 + x.toNat) k.toNat y) := by
  have ej : f_L_isTree_J126 fu sf k52 v x h fl k y M = k52 v x h fl (k + 1) (up M (98 + x.toNat) k.toNat y) := by
    unfold f_L_isTree_J126
    rw [grd_pos ⟨x0, x1⟩, grd_pos ⟨k0, k1⟩, grd_pos ⟨by omega, by omega⟩]
  unfold f_L_isTree_J99
  rw [grd_pos ⟨x0, x1⟩]
  rcases hS x x0 x1 with h0 | ⟨h1, h2⟩
  · rw [if_pos h0, ej]
  · by_cases h0 : M 57 x.toNat = 0
    · rw [if_pos h0, ej]
    · rw [if_neg h0, grd_pos ⟨x0, x1⟩, grd_pos ⟨k0, k1⟩, if_pos (by rw [h2 k k0 k1, hy]), ej]
theorem LS_up {M : Mem} {x k y : Int} (hS : LSn M A) (x0 : 0 ≤ x) (k0 : 0 ≤ k) (hy : y = svA A x k) : LSn (up M (98 + x.toNat) k.toNat y) A := by
  intro n n0 n1
  rw [up_cell _ _ (show 57 ≠ 98 + x.toNat by omega)]
  rcases hS n n0 n1 with h0 | ⟨h1, h2⟩
  · exact Or.inl h0
  · refine Or.inr ⟨h1, fun j j0 j1 => ?_⟩
    by_cases hn : n = x
    · subst hn
      by_cases hj : j = k
      · subst hj
        rw [up_same, hy]
      · rw [up_at (Or.inr (by omega)), h2 j j0 j1]
    · rw [up_cell _ _ (show 98 + n.toNat ≠ 98 + x.toNat by omega), h2 j j0 j1]
def tail52 (fu : Nat) (sf : Mem → Int → Int → Int → Option (Mem × Int)) (v x h fl : Int) (M : Mem) : Option (Mem × Int) := if h = (1 : Int) then (f_L_isTree_L159 fu sf fu v x fl (0 : Int) (up M 57 x.toNat (1 : Int))) else (f_L_isTree_L249 fu sf fu v x h fl (0 : Int) (up M 57 x.toNat (1 : Int)))
/-- the four entries -/
theorem L52_ok {sf : Mem → Int → Int → Int → Option (Mem × Int)} (hfu : 1000 ≤ fu) (v0 : 0 ≤ v) (v1 : v < aV A) (hrl : rlA A v = 0) {l : Nat} {off x : Int} (hT : TW A v off l x) (hx : 0 ≤ x ∧ x < aN A ∧ coA A x = 0) (hx2 : x < 200) (hlv : lvA A x = (l : Int) + 1) (hfl : 1 ≤ flA A x ∧ flA A x ≤ 4) (hct : l = 0 → ctA A (l + 1) x = flA A x) :
    ∀ (n : Nat) (k : Int) (M : Mem), 0 ≤ k → k ≤ 4 → 4 - k < n → CM M A → LSn M A → M 52 7 = off → (∀ j, 0 ≤ j → j < k → M (98 + x.toNat) j.toNat = svA A x j) →
    ∃ M', (∀ q, q ≠ 98 + x.toNat → M' q = M q) ∧ LSn M' A ∧ (∀ j, 0 ≤ j → j < 4 → M' (98 + x.toNat) j.toNat = svA A x j) ∧ f_L_isTree_L52 fu sf n v x ((l : Int) + 1) (flA A x) k M = tail52 fu sf v x ((l : Int) + 1) (flA A x) M'
  | 0, k, M, _, _, h, _, _, _, _ => by omega
  | n + 1, k, M, k0, k4, hn, hC, hS, hm, hr => by
    have g1 : ∀ q, q ≠ 98 + x.toNat → ∀ y, up M (98 + x.toNat) k.toNat y q = M q := fun q hq y => up_cell _ _ hq
    have sz := (hC.2.2.2.2.1 v v0 v1).1
    by_cases hk : k = 4
    · subst hk
      refine ⟨M, fun _ _ => rfl, hS, hr, ?_⟩
      rw [f_L_isTree_L52, if_pos (Int.le_refl 4), grd_pos ⟨hx.1, hx2⟩, grd_pos (by decide)]
      rfl
    · have next : ∀ y, y = svA A x k → ∃ M', (∀ q, q ≠ 98 + x.toNat → M' q = M q) ∧ LSn M' A ∧ (∀ j, 0 ≤ j → j < 4 → M' (98 + x.toNat) j.toNat = svA A x j) ∧ f_L_isTree_J99 fu sf (f_L_isTree_L52 fu sf n) v x ((l : Int) + 1) (flA A x) k y M = tail52 fu sf v x ((l : Int) + 1) (flA A x) M' := fun y hy => by
        obtain ⟨M', a1, a2, a3, a4⟩ := L52_ok hfu v0 v1 hrl hT hx hx2 hlv hfl hct n (k + 1) (up M (98 + x.toNat) k.toNat y) (by omega) (by omega) (by omega) (CM_congr hC (fun q _ q1 => g1 q (by omega) y)) (LS_up hS hx.1 k0 hy) (by rw [g1 52 (by omega)]; exact hm) (fun j j0 j1 => by
          by_cases hj : j = k
          · subst hj
            rw [up_same, hy]
          · rw [up_at (Or.inr (by omega)), hr j j0 (by omega)])
        exact ⟨M', fun q hq => by rw [a1 q hq, g1 q hq], a2, a3, by rw [J99_ok hS hx.1 hx2 k0 (by omega) hy]; exact a4⟩
      rw [f_L_isTree_L52, if_neg (by omega)]
      by_cases hl0 : l = 0
      · subst hl0
        rw [if_pos (by decide)]
        have hlv1 : lvA A x = 1 := hlv
        by_cases hkf : flA A x ≤ k
        · rw [if_pos hkf]
          exact next _ (by unfold svA; rw [if_pos hlv1, if_neg (by omega)])
        · have hoff := hT.2.1
          have hsz := hT.2.2.1
          rw [hct rfl] at hsz
          rw [if_neg hkf, hm, grd_pos ⟨by omega, by omega⟩, get_T hC hfu v0 v1 hrl (by omega) (by omega), cax_ret]
          refine next _ ?_
          unfold svA
          rw [if_pos hlv1, if_pos (by omega), ← (hT.2.2.2.1 k k0 (by rw [hct rfl]; omega)).1]
          show enA A x (k / pw 0) = enA A x k
          rw [pw0, Int.ediv_one]
      · rw [if_neg (by omega), childOf_T hC hx, cax_ret]
        exact next _ (by unfold svA; rw [if_neg (by omega)])
/-- the elements of a leaf -/
theorem L159_ok {sf : Mem → Int → Int → Int → Option (Mem × Int)} (hfu : 1000 ≤ fu) (v0 : 0 ≤ v) (v1 : v < aV A) (hrl : rlA A v = 0) {off x : Int} (hT : TW A v off 0 x) (hx : 0 ≤ x ∧ x < aN A ∧ coA A x = 0) (hlv : lvA A x = 1) (hfl : 1 ≤ flA A x ∧ flA A x ≤ 4) (hct : ctA A 1 x = flA A x) {M : Mem} (hC : CM M A) (hR : LR M A) (hm : M 52 7 = off) :
    ∀ (n : Nat) (i : Int), 0 ≤ i → i ≤ flA A x → flA A x - i < n → f_L_isTree_L159 fu sf n v x (flA A x) i M = some (up M 52 7 (off + flA A x), 1)
  | 0, i, _, _, h => by omega
  | n + 1, i, i0, i1, hn => by
    have sz := (hC.2.2.2.2.1 v v0 v1).1
    have hV := hC.2.1.2
    have hoff := hT.2.1
    have hsz := hT.2.2.1
    have hct' : ctA A (0 + 1) x = flA A x := hct
    rw [hct'] at hsz
    rw [f_L_isTree_L159]
    by_cases hi : flA A x ≤ i
    · have f : ∀ q, q ≠ 52 → up M 52 7 (off + flA A x) q = M q := fun q hq => up_cell _ _ hq
      rw [if_pos hi, hm, grd_pos ⟨by omega, by omega⟩, childOf_T (CM_congr hC (fun q _ q1 => f q (by omega))) hx, cax_ret]
      have : chA A x 0 = -1 := by
        unfold chA
        rw [if_neg (by omega)]
      rw [this, if_pos rfl]
    · obtain ⟨b1, b2⟩ := hT.2.2.2.1 i i0 (by rw [hct']; omega)
      rw [if_neg hi, hm, grd_pos ⟨by omega, by omega⟩, leafOf_T hC hfu v0 v1 hrl (by omega) (by omega), cax_ret, ← b2, show lfA A 0 x i = x from rfl, if_pos rfl, hm, grd_pos ⟨by omega, by omega⟩, get_T hC hfu v0 v1 hrl (by omega) (by omega), cax_ret, grd_pos ⟨by omega, by omega⟩, hm, grd_pos ⟨by omega, by omega⟩, grd_pos ⟨by omega, by omega⟩,
        (hR.2.1 v v0 v1).2 (off + i) (by omega) (by omega), if_pos rfl, grd_pos ⟨by omega, by omega⟩]
      exact L159_ok hfu v0 v1 hrl hT hx hlv hfl hct hC hR hm n (i + 1) (by omega) (by omega) (by omega)
theorem LS_known {M : Mem} {x : Int} (hS : LSn M A) (x0 : 0 ≤ x) (x1 : x < aN A) (hr : ∀ j, 0 ≤ j → j < 4 → M (98 + x.toNat) j.toNat = svA A x j) : LSn (up M 57 x.toNat 1) A := by
  intro n n0 n1
  rw [up_cell _ _ (show 98 + n.toNat ≠ 57 by omega)]
  by_cases hn : n = x
  · subst hn
    exact Or.inr ⟨x1, hr⟩
  · rw [up_at (Or.inr (by omega))]
    exact hS n n0 n1
/-- the walk of a tree -/
theorem isTree_ok (hfu : 2000 ≤ fu) (v0 : 0 ≤ v) (v1 : v < aV A) (hrl : rlA A v = 0) : ∀ (l d : Nat) {M : Mem} {off x : Int}, l < d → CM M A → LR M A → LSn M A → M 52 7 = off → TW A v off l x → 1 ≤ nLRt A x + nRef A x →
    ∃ M', f_L_isTree fu d M v x ((l : Int) + 1) = some (M', 1) ∧ LSn M' A ∧ frG9 M M' ∧ M' 52 7 = off + ctA A (l + 1) x
  | l, 0, M, off, x, h, _, _, _, _, _, _ => absurd h (Nat.not_lt_zero l)
  | l, d + 1, M, off, x, hld, hC, hR, hS, hm, hT, href => by
    have hG := hC.2
    have hN := hG.2.2.1
    have hN138 := Good_N hG
    obtain ⟨hl3, f1, f4, hn⟩ := okB_nod hN (Int.le_refl _) hT.1
    have hlv : lvA A x = (l : Int) + 1 := hT.1.2.2
    have hx : 0 ≤ x ∧ x < aN A ∧ coA A x = 0 := ⟨hT.1.1, hT.1.2.1, hT.2.2.2.2 x (muA_self l x)⟩
    have hct : l = 0 → ctA A (l + 1) x = flA A x := fun h => by
      subst h
      show (flA A x - 1) * pw 0 + 1 = flA A x
      rw [pw0]
      omega
    obtain ⟨M4, a1, a2, a3, a4⟩ := L52_ok (fu := fu) (sf := f_L_isTree fu d) (by omega) v0 v1 hrl hT hx (by omega) hlv ⟨f1, f4⟩ hct fu 0 M (Int.le_refl 0) (by decide) (by omega) hC hS hm (fun j j0 j1 => by omega)
    have hS5 := LS_known a2 hx.1 hx.2.1 a3
    have g5 : ∀ q, q ≠ 57 → q ≠ 98 + x.toNat → up M4 57 x.toNat 1 q = M q := fun q q1 q2 => by rw [up_cell _ _ q1, a1 q q2]
    have fw : frG9 M (up M4 57 x.toNat 1) := ⟨fun q _ q2 q3 => g5 q q2 (by omega), by rw [g5 52 (by decide) (by omega)]⟩
    have hm5 : up M4 57 x.toNat 1 52 7 = off := by rw [g5 52 (by decide) (by omega)]; exact hm
    have e1 : f_L_isTree fu (d + 1) M v x ((l : Int) + 1) = tail52 fu (f_L_isTree fu d) v x ((l : Int) + 1) (flA A x) M4 := by
      rw [f_L_isTree, entryCount_T hC hx, cax_ret, isLeaf_T hC hx, cax_ret]
      have ez : ∀ z : Int, z = ind (lvA A x = 1) → f_L_isTree_J23 fu (f_L_isTree fu d) v x ((l : Int) + 1) (flA A x) (ind (lvA A x = 1)) z M = tail52 fu (f_L_isTree fu d) v x ((l : Int) + 1) (flA A x) M4 := fun z hz => by
        unfold f_L_isTree_J23
        rw [if_pos hz.symm, if_neg (by omega), if_neg (by omega), referencesTo_T hC (by omega) hx, cax_ret, if_pos href]
        exact a4
      by_cases hl0 : l = 0
      · subst hl0
        rw [if_pos (by decide)]
        exact ez 1 (if_pos hlv).symm
      · rw [if_neg (by omega)]
        exact ez 0 (if_neg (by omega)).symm
    rw [e1]
    unfold tail52
    have hC5 := CM_W hC fw
    have hR5 := LR_W hR hG.1.2 fw
    match l, hld, hT, hlv, hct, hl3, hn with
    | 0, hld, hT, hlv, hct, hl3, hn =>
      rw [if_pos (by decide), L159_ok (fu := fu) (by omega) v0 v1 hrl hT hx hlv ⟨f1, f4⟩ (hct rfl) hC5 hR5 hm5 fu 0 (Int.le_refl 0) (by omega) (by omega)]
      refine ⟨_, rfl, fun n n0 n1 => ?_, frG9_trans fw ⟨fun q q1 _ _ => up_cell _ _ q1, up_at (Or.inr (by decide))⟩, ?_⟩
      · rw [up_cell _ _ (by decide), up_cell _ _ (show 98 + n.toNat ≠ 52 by omega)]
        exact hS5 n n0 n1
      · rw [up_same, hct rfl]
    | l + 1, hld, hT, hlv, hct, hl3, hn =>
      rw [if_neg (by omega)]
      have loop : ∀ (n : Nat) (j : Int) (M6 : Mem), 0 ≤ j → j ≤ flA A x → flA A x - j < n → LSn M6 A → frG9 M M6 → (j < flA A x → M6 52 7 = off + j * pw (l + 1)) → (j = flA A x → M6 52 7 = off + ctA A (l + 1 + 1) x) →
          ∃ M', f_L_isTree_L249 fu (f_L_isTree fu d) n v x (((l + 1 : Nat) : Int) + 1) (flA A x) j M6 = some (M', 1) ∧ LSn M' A ∧ frG9 M M' ∧ M' 52 7 = off + ctA A (l + 1 + 1) x := by
        intro n
        induction n with
        | zero => intro j M6 _ _ h; omega
        | succ n ih =>
          intro j M6 j0 j1 hjn hS6 f6 m6 m7
          rw [f_L_isTree_L249]
          by_cases hj : flA A x ≤ j
          · rw [if_pos hj]
            exact ⟨M6, rfl, hS6, f6, m7 (by omega)⟩
          · have hC6 := CM_W hC f6
            have hR6 := LR_W hR hG.1.2 f6
            obtain ⟨t1, t2⟩ := TW_kid hN hT j0 (by omega : j < flA A x)
            have hch : chA A x j = enA A x j := by
              unfold chA
              rw [if_pos ⟨by omega, j0, by omega⟩]
            have hkr : 1 ≤ nLRt A (enA A x j) + nRef A (enA A x j) := by
              have k1 := nRef_kid (A := A) hx.1 hx.2.1 hx.2.2 (by omega) j0 (by omega : j < flA A x) t1.1.1
              have k2 := nLRt_nonneg (A := A) (enA A x j)
              omega
            obtain ⟨M7, c1, c2, c3, c4⟩ := isTree_ok hfu v0 v1 hrl l d (by omega) hC6 hR6 hS6 (m6 (by omega)) t1 hkr
            rw [if_neg hj, childOf_T hC6 hx, cax_ret, hch, grd_pos ⟨by omega, by omega⟩, show ((l + 1 : Nat) : Int) + 1 - 1 = (l : Int) + 1 by omega, c1, cal_some, if_neg (by decide), grd_pos ⟨by omega, by omega⟩]
            refine ih (j + 1) M7 (by omega) (by omega) (by omega) c2 (frG9_trans f6 c3) (fun hj2 => ?_) (fun hj2 => ?_)
            · rw [c4, t2 (by omega), Int.add_mul, Int.one_mul]
              omega
            · rw [c4]
              show off + j * pw (l + 1) + ctA A (l + 1) (enA A x j) = off + ((flA A x - 1) * pw (l + 1) + ctA A (l + 1) (enA A x (flA A x - 1)))
              rw [show flA A x - 1 = j by omega]
              omega
      exact loop fu 0 (up M4 57 x.toNat 1) (Int.le_refl 0) (by omega) (by omega) hS5 fw (fun _ => by rw [hm5, Int.zero_mul, Int.add_zero]) (fun h => by omega)
end Tree
