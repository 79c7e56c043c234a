/-! the model makes nodes -/
section MMut
variable {fu : Nat}
/-- the model's rows alone -/
def MR (M : Mem) (A : AS) : Prop := repM (M 53) A ∧ (0 ≤ aN A ∧ aN A ≤ 138) ∧ (0 ≤ aV A ∧ aV A ≤ 40) ∧ (∀ v, 0 ≤ v → v < aV A → 0 ≤ szA A v ∧ szA A v ≤ 64) ∧ (∀ k, 0 ≤ k → k < aN A → 1 ≤ flA A k ∧ flA A k ≤ 4)
theorem MR_of {M : Mem} {A : AS} (h : MM M A) : MR M A := ⟨h.1, MM_nr h, by have := MM_vr h; omega, fun v h0 h1 => (G_V h.2 h0 h1).1, fun k h0 h1 => G_fl h.2 h0 h1⟩
theorem MR_ext {M M' : Mem} {A : AS} (h : MR M A) (hk : M' 53 = M 53) : MR M' A := ⟨by rw [hk]; exact h.1, h.2⟩
theorem countOf_R {M : Mem} {A : AS} (h : MR M A) {k : Int} (h0 : 0 ≤ k) (h1 : k < aN A) : f_X12_countOf fu M k = some (M, flA A k) := by
  have h2 := h.2.1.2
  unfold f_X12_countOf
  rw [n_M h0 (by omega), cal_some, grd_pos (by omega), grd_pos (by omega), (h.1.2.2.2 k h0 h1).2.1]
theorem entry_R {M : Mem} {A : AS} (h : MR M A) {k j : Int} (h0 : 0 ≤ k) (h1 : k < aN A) (hj : 0 ≤ j) (hj2 : j < flA A k) : f_X12_entry fu M k j = some (M, enA A k j) := by
  have h2 := h.2.1.2
  have hf := h.2.2.2.2 k h0 h1
  unfold f_X12_entry
  rw [n_M h0 (by omega), cal_some, grd_pos (by omega), grd_pos (by omega), (h.1.2.2.2 k h0 h1).2.2.1 j hj hj2]
/-- all cells but the model's rows and its row of entries are as they were -/
def frM (M M' : Mem) : Prop := ∀ q, q ≠ 53 → q ≠ 57 → M' q = M q
theorem frM_refl (M : Mem) : frM M M := fun _ _ _ => rfl
theorem frM_trans {M M' M2 : Mem} (h : frM M M') (h2 : frM M' M2) : frM M M2 := fun q h3 h4 => by rw [h2 q h3 h4, h q h3 h4]
theorem makeNode_M {M : Mem} {A : AS} (h : MR M A) (hcap : aN A < 138) {b c l : Int} {e : Int → Int} (hl : (b = 0 ∧ l ≠ 1) ∨ (b = 1 ∧ l = 1)) (hc : 1 ≤ c ∧ c ≤ 4) (he : ∀ j, 0 ≤ j → j < c → M 57 j.toNat = e j) (hfu : 1000 ≤ fu) :
    ∃ M', f_X12_makeNode fu M b c = some (M', aN A) ∧ MR M' (addN A l c e) ∧ only 53 M M' := by
  obtain ⟨⟨r1, r2, r3, r4⟩, ⟨h0, h138⟩, hv40, hsz, hfl⟩ := h
  have hn : M 53 (1 : Int).toNat = aN A := r2
  generalize hN : 2810 + 7 * aN A = N
  have hNr : 2810 ≤ N ∧ N ≤ 2810 + 7 * 137 := by omega
  have hb : (b = 0 ∨ b = 1) := by omega
  unfold f_X12_makeNode
  rw [grd_pos (by decide), hn, n_M h0 (by omega), cal_some, one_M, cal_some, hN, grd_pos (by omega), grd_pos (by omega), n_M h0 (by omega), cal_some, hN, grd_pos (by omega), grd_pos (by omega)]
  have hbv : (if b = 0 then (0 : Int) else 1) = b := by
    rcases hb with hb | hb
    · rw [if_pos hb, hb]
    · rw [if_neg (by omega), hb]
  rw [hbv]
  have g0 : ∀ i : Int, 0 ≤ i → up (up M 53 (N + 0).toNat b) 53 (N + 1).toNat c 53 i.toNat = if i = N + 1 then c else if i = N + 0 then b else M 53 i.toNat := fun i i0 => by
    rw [up_toNat (by omega) i0, up_toNat (by omega) i0]
  have o0 : only 53 M (up (up M 53 (N + 0).toNat b) 53 (N + 1).toNat c) := fun q hq => by rw [up_cell _ _ hq, up_cell _ _ hq]
  generalize up (up M 53 (N + 0).toNat b) 53 (N + 1).toNat c = M0 at g0 o0
  have := lp_mem (F := fun n i M' => f_X12_makeNode_L37 fu n c (aN A) i M')
    (fun i M' => only 53 M M' ∧ M' 53 (N + 0).toNat = b ∧ M' 53 (N + 1).toNat = c ∧ (∀ j, 0 ≤ j → j < i → j < c → M' 53 (N + 2 + j).toNat = e j) ∧ ∀ k : Int, 0 ≤ k → (k < N ∨ N + 7 ≤ k) → M' 53 k.toNat = M 53 k.toNat) 4
    (Q := fun o => ∃ M', o = (M', aN A) ∧ only 53 M M' ∧ M' 53 (N + 0).toNat = b ∧ M' 53 (N + 1).toNat = c ∧ (∀ j, 0 ≤ j → j < c → M' 53 (N + 2 + j).toNat = e j) ∧ M' 53 (N + 6).toNat = 1 ∧ M' 53 1 = aN A + 1 ∧ ∀ k : Int, 0 ≤ k → k ≠ 1 → (k < N ∨ N + 7 ≤ k) → M' 53 k.toNat = M 53 k.toNat)
    (fun n i M1 i0 i1 hP => by
      obtain ⟨p1, p2, p3, p4, p5⟩ := hP
      have hst : ∀ z, (i < c → z = e i) → (fun i M' => only 53 M M' ∧ M' 53 (N + 0).toNat = b ∧ M' 53 (N + 1).toNat = c ∧ (∀ j, 0 ≤ j → j < i → j < c → M' 53 (N + 2 + j).toNat = e j) ∧ ∀ k : Int, 0 ≤ k → (k < N ∨ N + 7 ≤ k) → M' 53 k.toNat = M 53 k.toNat) (i + 1) (up M1 53 (N + 2 + i).toNat z) := fun z hz => by
        refine ⟨only_trans p1 (only_up _ _ _ _), ?_, ?_, fun j j0 j1 j2 => ?_, fun k k0 k1 => ?_⟩
        · rw [up_toNat (by omega) (by omega), if_neg (by omega)]; exact p2
        · rw [up_toNat (by omega) (by omega), if_neg (by omega)]; exact p3
        · rw [up_toNat (by omega) (by omega)]
          by_cases hji : j = i
          · rw [if_pos (by omega), hji]; exact hz (by omega)
          · rw [if_neg (by omega)]; exact p4 j j0 (by omega) j2
        · rw [up_toNat (by omega) k0, if_neg (by omega)]; exact p5 k k0 k1
      by_cases hci : c ≤ i
      · refine ⟨up M1 53 (N + 2 + i).toNat 0, ?_, hst 0 (fun q => by omega)⟩
        show f_X12_makeNode_L37 fu (n + 1) c (aN A) i M1 = _
        rw [f_X12_makeNode_L37, if_neg (by omega), n_M h0 (by omega), cal_some, if_pos hci, hN, grd_pos (by omega), grd_pos (by omega), grd_pos (by omega)]
      · refine ⟨up M1 53 (N + 2 + i).toNat (M1 57 i.toNat), ?_, hst _ (fun q => by rw [p1 57 (by decide)]; exact he i i0 q)⟩
        show f_X12_makeNode_L37 fu (n + 1) c (aN A) i M1 = _
        rw [f_X12_makeNode_L37, if_neg (by omega), n_M h0 (by omega), cal_some, if_neg hci, hN, grd_pos (by omega), grd_pos (by omega), grd_pos (by omega), grd_pos (by omega)])
    (fun n M1 hP => by
      obtain ⟨p1, p2, p3, p4, p5⟩ := hP
      have e1 : up M1 53 (N + 6).toNat 1 53 (1 : Int).toNat = aN A := by
        rw [up_toNat (by omega) (by decide), if_neg (by omega), p5 1 (by decide) (by omega)]; exact hn
      refine ⟨(up (up M1 53 (N + 6).toNat 1) 53 (1 : Int).toNat (aN A + 1), aN A), ?_, _, rfl, ?_, ?_, ?_, ?_, ?_, ?_, ?_⟩
      · show f_X12_makeNode_L37 fu (n + 1) c (aN A) 4 M1 = _
        rw [f_X12_makeNode_L37, if_pos (by decide), n_M h0 (by omega), cal_some, hN, grd_pos (by omega), grd_pos (by omega), grd_pos (by decide), grd_pos (by decide), e1, grd_pos (by omega)]
      · exact fun q hq => by rw [up_cell _ _ hq, up_cell _ _ hq, p1 q hq]
      · rw [up_toNat (by decide) (by omega), if_neg (by omega), up_toNat (by omega) (by omega), if_neg (by omega)]; exact p2
      · rw [up_toNat (by decide) (by omega), if_neg (by omega), up_toNat (by omega) (by omega), if_neg (by omega)]; exact p3
      · intro j j0 j1
        rw [up_toNat (by decide) (by omega), if_neg (by omega), up_toNat (by omega) (by omega), if_neg (by omega)]
        exact p4 j j0 (by omega) j1
      · rw [up_toNat (by decide) (by omega), if_neg (by omega), up_same]
      · exact up_same _ _ _ _
      · intro k k0 k1 k2
        rw [up_toNat (by decide) k0, if_neg k1, up_toNat (by omega) k0, if_neg (by omega)]
        exact p5 k k0 k2) fu 0 M0 (by omega) (by omega) (by omega)
    ⟨o0, by rw [g0 _ (by omega), if_neg (by omega), if_pos rfl], by rw [g0 _ (by omega), if_pos rfl], fun j j0 j1 => by omega, fun k k0 k1 => by rw [g0 k k0, if_neg (by omega), if_neg (by omega)]⟩
  obtain ⟨o, eq, M', rfl, q1, q2, q3, q4, q5, q6, q7⟩ := this
  have hlv : lvA (addN A l c e) (aN A) = l := addN_lv A l c e
  have hfn : flA (addN A l c e) (aN A) = c := addN_fl A l c e
  refine ⟨M', eq, ⟨⟨?_, q6, fun v v0 v1 => ?_, fun k k0 k1 => ?_⟩, ⟨by rw [addN_N]; omega, by rw [addN_N]; omega⟩, hv40, hsz, fun k k0 k1 => ?_⟩, q1⟩
  · have := q7 0 (by decide) (by decide) (by omega)
    exact this.trans r1
  · have v1' : v < aV A := v1
    obtain ⟨w0, w1, w2, w3, w4, w5, w6⟩ := r3 v v0 v1'
    rw [q7 _ (by omega) (by omega) (by omega), q7 _ (by omega) (by omega) (by omega), q7 _ (by omega) (by omega) (by omega), q7 _ (by omega) (by omega) (by omega), q7 _ (by omega) (by omega) (by omega), q7 (10 + 6 * v + 5) (by omega) (by omega) (by omega)]
    refine ⟨w0, w1, w2, w3, w4, w5, fun i i0 i1 => ?_⟩
    have hz := hsz v v0 v1'
    have i1' : i < szA A v := i1
    rw [q7 _ (by omega) (by omega) (by omega)]
    exact w6 i i0 i1
  · rw [addN_N] at k1
    by_cases hk : k = aN A
    · subst hk
      rw [hN, addN_co, hlv, hfn]
      refine ⟨?_, q3, fun j j0 j1 => ?_, q5⟩
      · rw [q2]
        rcases hl with ⟨b0, b1⟩ | ⟨b0, b1⟩
        · rw [b0, ind_f b1]
        · rw [b0, ind_t b1]
      · rw [addN_en _ _ _ _ j0]
        exact q4 j j0 j1
    · obtain ⟨w0, w1, w2, w3⟩ := r4 k k0 (by omega)
      rw [show lvA (addN A l c e) k = lvA A k from addN_old hk 0, show flA (addN A l c e) k = flA A k from addN_old hk 1, show coA (addN A l c e) k = coA A k from addN_old hk 2]
      have hf := hfl k k0 (by omega)
      rw [q7 _ (by omega) (by omega) (by omega), q7 _ (by omega) (by omega) (by omega), q7 (2810 + 7 * k + 6) (by omega) (by omega) (by omega)]
      refine ⟨w0, w1, fun j j0 j1 => ?_, w3⟩
      rw [show enA (addN A l c e) k j = enA A k j from addN_old hk _, q7 _ (by omega) (by omega) (by omega)]
      exact w2 j j0 j1
  · rw [addN_N] at k1
    by_cases hk : k = aN A
    · subst hk
      rw [hfn]
      exact hc
    · rw [show flA (addN A l c e) k = flA A k from addN_old hk 1]
      exact hfl k k0 (by omega)
theorem takeEntries_M {M : Mem} {A : AS} (h : MR M A) {k c : Int} (hk : (0 ≤ k ∧ k < aN A ∧ 0 ≤ c ∧ c ≤ flA A k) ∨ c = 0) (hfu : 1000 ≤ fu) :
    ∃ M', f_X12_takeEntries fu M k c = some (M', 0) ∧ only 57 M M' ∧ ∀ j, 0 ≤ j → j < c → M' 57 j.toNat = enA A k j := by
  have hc4 : 0 ≤ c ∧ c ≤ 4 := by
    rcases hk with ⟨h0, h1, h2, h3⟩ | h0
    · have := h.2.2.2.2 k h0 h1; omega
    · omega
  unfold f_X12_takeEntries
  have := lp_mem (F := fun n i M' => f_X12_takeEntries_L2 fu n k c i M') (fun i M' => only 57 M M' ∧ ∀ j, 0 ≤ j → j < i → M' 57 j.toNat = enA A k j) c
    (Q := fun o => ∃ M', o = (M', 0) ∧ only 57 M M' ∧ ∀ j, 0 ≤ j → j < c → M' 57 j.toNat = enA A k j)
    (fun n i M1 i0 i1 hP => by
      rcases hk with ⟨h0, h1, h2, h3⟩ | h0
      · have g1 : MR M1 A := MR_ext h (hP.1 53 (by decide))
        refine ⟨up M1 57 i.toNat (enA A k i), ?_, only_trans hP.1 (only_up _ _ _ _), fun j j0 j1 => ?_⟩
        · show f_X12_takeEntries_L2 fu (n + 1) k c i M1 = _
          rw [f_X12_takeEntries_L2, if_neg (by omega), entry_R g1 h0 h1 i0 (by omega), cal_some, grd_pos (by omega), grd_pos (by omega)]
        · rw [up_toNat i0 j0]
          by_cases hji : j = i
          · rw [if_pos hji, hji]
          · rw [if_neg hji]; exact hP.2 j j0 (by omega)
      · omega)
    (fun n M1 hP => by
      refine ⟨(M1, 0), ?_, M1, rfl, hP⟩
      show f_X12_takeEntries_L2 fu (n + 1) k c c M1 = _
      rw [f_X12_takeEntries_L2, if_pos (Int.le_refl _)]) fu 0 M (by omega) (by omega) (by omega) ⟨only_refl _ _, fun j j0 j1 => by omega⟩
  obtain ⟨o, e, M', rfl, r⟩ := this
  exact ⟨M', e, r⟩
/-- a copy of a node (or of none) with an entry at a place -/
theorem remake_M {M : Mem} {A : AS} (h : MR M A) (hcap : aN A < 138) {n p x z b l f : Int} (hn : (n = -1 ∧ f = 0) ∨ (0 ≤ n ∧ n < aN A ∧ f = flA A n)) (hl : (b = 0 ∧ l ≠ 1) ∨ (b = 1 ∧ l = 1)) (hp : 0 ≤ p) (hpf : p ≤ f) (hp3 : p ≤ 3) (hz : z ≠ 0 ∨ p < f) (hfu : 1000 ≤ fu) :
    ∃ M', f_X12_remake fu M n p x z b = some (M', aN A) ∧ MR M' (addN A l (if z = 0 then f else p + 1) (fun j => if j = p then x else enA A n j)) ∧ frM M M' := by
  have hf4 : 0 ≤ f ∧ f ≤ 4 := by
    rcases hn with ⟨h0, h1⟩ | ⟨h0, h1, h2⟩
    · omega
    · have := h.2.2.2.2 n h0 h1; omega
  have key : ∀ k, ((0 ≤ k ∧ k < aN A ∧ 0 ≤ f ∧ f ≤ flA A k) ∨ f = 0) → (∀ j, 0 ≤ j → j < f → enA A k j = enA A n j) → ∃ M', f_X12_remake_J27 fu p x z b f k M = some (M', aN A) ∧ MR M' (addN A l (if z = 0 then f else p + 1) (fun j => if j = p then x else enA A n j)) ∧ frM M M' := by
    intro k hk hen
    obtain ⟨M1, e1, o1, t1⟩ := takeEntries_M (fu := fu) h hk hfu
    have g1 : MR (up M1 57 p.toNat x) A := MR_ext h (by rw [up_cell _ _ (by decide)]; exact o1 53 (by decide))
    unfold f_X12_remake_J27
    rw [e1, cal_some, grd_pos (by omega)]
    have hent : ∀ j, 0 ≤ j → j < (if z = 0 then f else p + 1) → up M1 57 p.toNat x 57 j.toNat = if j = p then x else enA A n j := fun j j0 j1 => by
      rw [up_toNat hp j0]
      by_cases hjp : j = p
      · rw [if_pos hjp, if_pos hjp]
      · rw [if_neg hjp, if_neg hjp]
        have hjf : j < f := by
          by_cases h9 : z = 0
          · rw [if_pos h9] at j1; exact j1
          · rw [if_neg h9] at j1; omega
        rw [t1 j j0 hjf, hen j j0 hjf]
    have hcr : 1 ≤ (if z = 0 then f else p + 1) ∧ (if z = 0 then f else p + 1) ≤ 4 := by
      split <;> omega
    obtain ⟨M2, e2, r2, o2⟩ := makeNode_M (fu := fu) g1 hcap (e := fun j => if j = p then x else enA A n j) hl hcr hent hfu
    refine ⟨M2, ?_, r2, fun q q1 q2 => by rw [o2 q q1, up_cell _ _ q2, o1 q q2]⟩
    by_cases hz0 : z = 0
    · rw [if_pos hz0] at e2 ⊢
      rw [e2, cal_some]
    · rw [if_neg hz0] at e2 ⊢
      rw [grd_pos (by omega), e2, cal_some]
  unfold f_X12_remake
  rcases hn with ⟨h0, h1⟩ | ⟨h0, h1, h2⟩
  · subst h1
    rw [if_pos h0]
    unfold f_X12_remake_J14
    rw [if_pos h0]
    exact key 0 (Or.inr rfl) (fun j j0 j1 => by omega)
  · rw [if_neg (by omega), countOf_R h h0 h1, cal_some, ← h2]
    unfold f_X12_remake_J14
    rw [if_neg (by omega)]
    exact key n (Or.inl ⟨h0, h1, hf4.1, by omega⟩) (fun _ _ _ => rfl)
theorem repM_as {G : Nat → Int} {A B : AS} (h : repM G A) (h1 : aN B = aN A) (h2 : aV B = aV A) (h3 : vf B = vf A) (h4 : ∀ v, 0 ≤ v → v < aV A → ∀ i, 0 ≤ i → i < szA A v → ev B v i = ev A v i) (h5 : ∀ k, 0 ≤ k → k < aN A → lvA B k = lvA A k ∧ flA B k = flA A k ∧ coA B k = coA A k ∧ ∀ j, 0 ≤ j → j < flA A k → enA B k j = enA A k j) : repM G B := by
  obtain ⟨r1, r2, r3, r4⟩ := h
  refine ⟨by rw [h2]; exact r1, by rw [h1]; exact r2, fun v v0 v1 => ?_, fun k k0 k1 => ?_⟩
  · rw [h2] at v1
    have e0 : szA B v = szA A v := by unfold szA; rw [h3]
    have e1 : rtA B v = rtA A v := by unfold rtA; rw [h3]
    have e2 : paA B v = paA A v := by unfold paA; rw [h3]
    have e3 : rlA B v = rlA A v := by unfold rlA; rw [h3]
    have e4 : crA B v = crA A v := by unfold crA; rw [h3]
    rw [e0, e1, e2, e3, e4]
    obtain ⟨w0, w1, w2, w3, w4, w5, w6⟩ := r3 v v0 v1
    exact ⟨w0, w1, w2, w3, w4, w5, fun i i0 i1 => by rw [h4 v v0 v1 i i0 i1]; exact w6 i i0 i1⟩
  · rw [h1] at k1
    obtain ⟨q1, q2, q3, q4⟩ := h5 k k0 k1
    obtain ⟨w0, w1, w2, w3⟩ := r4 k k0 k1
    rw [q1, q2, q3]
    exact ⟨w0, w1, fun j j0 j1 => by rw [q4 j j0 j1]; exact w2 j j0 j1, w3⟩
theorem MR_addN {M : Mem} {A : AS} {l f : Int} {e e' : Int → Int} (h : MR M (addN A l f e)) (he : ∀ j, 0 ≤ j → j < f → e j = e' j) : MR M (addN A l f e') := by
  refine ⟨repM_as h.1 rfl rfl rfl (fun _ _ _ _ _ _ => rfl) (fun k k0 k1 => ?_), h.2.1, h.2.2.1, h.2.2.2.1, fun k k0 k1 => ?_⟩
  · by_cases hk : k = aN A
    · subst hk
      rw [addN_lv, addN_lv, addN_fl, addN_fl, addN_co, addN_co]
      exact ⟨rfl, rfl, rfl, fun j j0 j1 => by rw [addN_en _ _ _ _ j0, addN_en _ _ _ _ j0, he j j0 j1]⟩
    · exact ⟨(addN_old hk 0).trans (addN_old hk 0).symm, (addN_old hk 1).trans (addN_old hk 1).symm, (addN_old hk 2).trans (addN_old hk 2).symm, fun j _ _ => (addN_old hk _).trans (addN_old hk _).symm⟩
  · have := h.2.2.2.2 k k0 k1
    by_cases hk : k = aN A
    · subst hk
      rw [addN_fl] at this ⊢
      exact this
    · rw [show flA (addN A l f e') k = flA A k from addN_old hk 1]
      rw [show flA (addN A l f e) k = flA A k from addN_old hk 1] at this
      exact this
theorem hgtc {l : Nat} (hl : l < 3) : ((l : Int) + 1 = 1 ↔ l = 0) := by omega
/-- setting -/
theorem replaced_M {A : AS} (hfu : 1000 ≤ fu) : ∀ (l d : Nat) {M : Mem} {n i x : Int}, MM M A → -999 ≤ x ∧ x ≤ 999 → l < 3 → aN A + (l + 1) ≤ 138 → okB A (aN A) (l + 1) n → 0 ≤ i → i < ctA A (l + 1) n → l < d →
    ∃ M', f_X12_replaced fu d M n ((l : Int) + 1) i x = some (M', (wrA (l + 1) A n i x).2) ∧ MR M' (wrA (l + 1) A n i x).1 ∧ frM M M'
  | _, 0, _, _, _, _, _, _, _, _, _, _, _, h => by omega
  | l, d + 1, M, n, i, x, h, hx, hl, hcap, hn, hi0, hi1, hd => by
    have hN := h.2.2.2.1
    have hnr := MM_nr h
    have hnx := hn.1
    have hnb := hn.2.1
    obtain ⟨k1, k2, k3, k4⟩ := okB_nod hN (Int.le_refl _) hn
    obtain ⟨q1, q2, q3, q4, q5⟩ := ct_at hN (Int.le_refl _) hn hi0 hi1
    have hcr := ctA_rng hN (l + 1) (Int.le_refl _) hn
    have hpw : pw (l + 1) ≤ 64 ∧ 0 < pw l ∧ pw l ≤ 16 := by rcases l_cases hl with rfl | rfl | rfl <;> decide
    have hf : (if n = -1 then (0 : Int) else flA A n) = flA A n := if_neg (by omega)
    have hwr : wrA (l + 1) A n i x = (addN (wrA l A (enA A n (i / pw l)) (i % pw l) x).1 ((l : Int) + 1) (flA A n) (fun j => if j = i / pw l then (wrA l A (enA A n (i / pw l)) (i % pw l) x).2 else enA A n j), aN (wrA l A (enA A n (i / pw l)) (i % pw l) x).1) := by
      rw [wrA, hf, if_pos q2, if_pos q2]
    rw [hwr]
    rw [f_X12_replaced]
    cases l with
    | zero =>
      rw [if_pos (by decide)]
      have ep : i / pw 0 = i := Int.ediv_one i
      obtain ⟨M', e', r', f'⟩ := remake_M (fu := fu) (MR_of h) (by omega) (n := n) (p := i) (x := x) (z := 0) (b := 1) (l := 1) (f := flA A n) (Or.inr ⟨hnx, hnb, rfl⟩) (Or.inr ⟨rfl, rfl⟩) hi0 (by omega) (by omega) (Or.inr (by omega)) hfu
      rw [e', cal_some]
      rw [if_pos rfl] at r'
      refine ⟨M', rfl, ?_, f'⟩
      rw [ep]
      exact r'
    | succ l =>
      rw [if_neg (by omega), grd_pos (by omega)]
      have es : ((l + 1 : Nat) : Int) + 1 - 1 = ((l + 1 : Nat) : Int) := by omega
      have e9 : ((l + 1 : Nat) : Int) = (l : Int) + 1 := by omega
      have hii : i / pw (l + 1) ≤ 64 ∧ i ≤ 64 := by omega
      have hmm : 0 ≤ i % pw (l + 1) ∧ i % pw (l + 1) < pw (l + 1) := ⟨Int.emod_nonneg _ (by omega), Int.emod_lt_of_pos _ (by omega)⟩
      rw [es, span_M (by omega) hfu, cal_some, grd_pos (by omega), grd_pos (by omega), entry_M h hnx hnb q1 q2, cal_some, grd_pos (by omega), grd_pos (by omega), grd_pos (by omega), e9]
      obtain ⟨M1, e1, r1, f1⟩ := replaced_M hfu l d (n := enA A n (i / pw (l + 1))) (i := i % pw (l + 1)) (x := x) h hx (by omega) (by omega) (okB_mono (by omega) q5) q3 q4 (by omega)
      obtain ⟨w1, w2, -, -⟩ := wrA_spec (l + 1) (by omega) hN hnr.1 (n := enA A n (i / pw (l + 1))) (i := i % pw (l + 1)) (x := x) (c := ctA A (l + 1) (enA A n (i / pw (l + 1)))) hx q3 (by omega) (Int.emod_lt_of_pos _ (pw_pos _)) (Or.inr (Or.inr ⟨by omega, okB_mono (by omega) q5, rfl⟩))
      rw [e1, cal_some]
      generalize wrA (l + 1) A (enA A n (i / pw (l + 1))) (i % pw (l + 1)) x = r at r1 w1 w2 ⊢
      have hfe := ext_fl w1.1 hnx hnb
      obtain ⟨M', e', r', f'⟩ := remake_M (fu := fu) r1 (by omega) (n := n) (p := i / pw (l + 1)) (x := r.2) (z := 0) (b := 0) (l := ((l + 1 : Nat) : Int) + 1) (f := flA A n) (Or.inr ⟨hnx, by have := w1.1.1; omega, hfe.symm⟩) (Or.inl ⟨rfl, by omega⟩) q1 (by omega) (by omega) (Or.inr q2) hfu
      rw [e', cal_some]
      rw [if_pos rfl] at r'
      refine ⟨M', rfl, MR_addN r' (fun j j0 j1 => ?_), frM_trans f1 f'⟩
      show (if j = i / pw (l + 1) then r.2 else enA r.1 n j) = if j = i / pw (l + 1) then r.2 else enA A n j
      rw [ext_en w1.1 hnx hnb j0]
/-- appending -/
theorem extended_M {A : AS} (hfu : 1000 ≤ fu) : ∀ (l d : Nat) {M : Mem} {n i x : Int}, MM M A → -999 ≤ x ∧ x ≤ 999 → l < 3 → aN A + (l + 1) ≤ 138 → (n = -1 ∧ i = 0 ∨ okB A (aN A) (l + 1) n ∧ i = ctA A (l + 1) n) → 0 ≤ i → i < pw (l + 1) → l < d →
    ∃ M', f_X12_extended fu d M n ((l : Int) + 1) i x = some (M', (wrA (l + 1) A n i x).2) ∧ MR M' (wrA (l + 1) A n i x).1 ∧ frM M M'
  | _, 0, _, _, _, _, _, _, _, _, _, _, _, h => by omega
  | l, d + 1, M, n, i, x, h, hx, hl, hcap, hn, hi0, hi1, hd => by
    have hN := h.2.2.2.1
    have hnr := MM_nr h
    have hpw : pw (l + 1) ≤ 64 ∧ 0 < pw l ∧ pw l ≤ 16 := by rcases l_cases hl with rfl | rfl | rfl <;> decide
    obtain ⟨d1, d2, d3, d4⟩ := div_ar hl hi0
    -- the filling, the place, the child
    generalize hf : (if n = -1 then (0 : Int) else flA A n) = f
    have hp : i / pw l ≤ f ∧ i / pw l ≤ 3 ∧ f ≤ i / pw l + 1 ∧ ((n = -1 ∧ f = 0) ∨ (0 ≤ n ∧ n < aN A ∧ f = flA A n)) := by
      rcases hn with ⟨hn, hi⟩ | ⟨hn, hi⟩
      · rw [if_pos hn] at hf
        rw [hi, Int.zero_ediv]
        exact ⟨by omega, by decide, by omega, Or.inl ⟨hn, hf.symm⟩⟩
      · have hnx := hn.1
        rw [if_neg (by omega)] at hf
        obtain ⟨k1, k2, k3, k4⟩ := okB_nod hN (Int.le_refl _) hn
        have hlast := k4 (flA A n - 1) (by omega) (by omega)
        have hcl := ctA_rng hN l (b := n) (by have := hn.2.1; omega) hlast.1
        obtain ⟨w1, w2, w3, w4, w5, w6, w7, w8⟩ := wr_ar hl k2 k3 hcl.1 hcl.2 (c := ctA A (l + 1) n) rfl hi0 (by omega) hi1
        refine ⟨by omega, w3, ?_, Or.inr ⟨hnx, hn.2.1, hf.symm⟩⟩
        by_cases h9 : i / pw l < flA A n - 1
        · have := w6 h9; omega
        · omega
    obtain ⟨p1, p2, p3, p4⟩ := hp
    generalize hcn : (if i / pw l < f then enA A n (i / pw l) else -1) = cn
    have hwr : wrA (l + 1) A n i x = (addN (wrA l A cn (i % pw l) x).1 ((l : Int) + 1) (i / pw l + 1) (fun j => if j = i / pw l then (wrA l A cn (i % pw l) x).2 else enA A n j), aN (wrA l A cn (i % pw l) x).1) := by
      have hff : (if i / pw l < f then f else i / pw l + 1) = i / pw l + 1 := by split <;> omega
      rw [wrA, hf, hcn, hff]
    rw [hwr]
    -- what is made at the end
    have hrem : ∀ (M1 : Mem) (r : AS × Int) (b : Int), MR M1 r.1 → ext A r.1 → aN r.1 < 138 → frM M M1 → ((b = 0 ∧ (l : Int) + 1 ≠ 1) ∨ (b = 1 ∧ (l : Int) + 1 = 1)) →
        ∃ M', f_X12_remake fu M1 n (i / pw l) r.2 1 b = some (M', aN r.1) ∧ MR M' (addN r.1 ((l : Int) + 1) (i / pw l + 1) (fun j => if j = i / pw l then r.2 else enA A n j)) ∧ frM M M' := by
      intro M1 r b r1 hext hc1 f1 hb
      obtain ⟨M', e', r', f'⟩ := remake_M (fu := fu) r1 hc1 (n := n) (p := i / pw l) (x := r.2) (z := 1) (b := b) (l := (l : Int) + 1) (f := f) (by
        rcases p4 with p4 | ⟨a1, a2, a3⟩
        · exact Or.inl p4
        · exact Or.inr ⟨a1, by have := hext.1; omega, by rw [ext_fl hext a1 a2]; exact a3⟩) hb d1 p1 p2 (Or.inl (by decide)) hfu
      rw [if_neg (by decide)] at r'
      refine ⟨M', e', MR_addN r' (fun j j0 j1 => ?_), frM_trans f1 f'⟩
      show (if j = i / pw l then r.2 else enA r.1 n j) = if j = i / pw l then r.2 else enA A n j
      by_cases hj : j = i / pw l
      · rw [if_pos hj, if_pos hj]
      · rw [if_neg hj, if_neg hj]
        rcases p4 with ⟨a1, a2⟩ | ⟨a1, a2, a3⟩
        · omega
        · rw [ext_en hext a1 a2 j0]
    rw [f_X12_extended]
    cases l with
    | zero =>
      rw [if_pos (by decide)]
      have ep : i / pw 0 = i := Int.ediv_one i
      obtain ⟨M', e', r', f'⟩ := hrem M (A, x) 1 (MR_of h) (ext_refl A) (show aN A < 138 by omega) (frM_refl M) (Or.inr ⟨rfl, rfl⟩)
      rw [ep] at e'
      rw [e', cal_some]
      exact ⟨M', rfl, r', f'⟩
    | succ l =>
      rw [if_neg (by omega), grd_pos (by omega)]
      have es : ((l + 1 : Nat) : Int) + 1 - 1 = ((l + 1 : Nat) : Int) := by omega
      have e9 : ((l + 1 : Nat) : Int) = (l : Int) + 1 := by omega
      have hii : i / pw (l + 1) ≤ 64 ∧ i ≤ 64 := by omega
      have hmm : 0 ≤ i % pw (l + 1) ∧ i % pw (l + 1) < pw (l + 1) := ⟨Int.emod_nonneg _ (by omega), Int.emod_lt_of_pos _ (by omega)⟩
      rw [es, span_M (by omega) hfu, cal_some, grd_pos (by omega)]
      have hchild : cn = -1 ∧ i % pw (l + 1) = 0 ∨ okB A (aN A) (l + 1) cn ∧ i % pw (l + 1) = ctA A (l + 1) cn := by
        rcases hn with ⟨hn, hi⟩ | ⟨hn, hi⟩
        · rw [if_pos hn] at hf
          rw [if_neg (by omega)] at hcn
          exact Or.inl ⟨hcn.symm, by rw [hi]; exact Int.zero_emod _⟩
        · have hnx := hn.1
          have hnb := hn.2.1
          rw [if_neg (by omega)] at hf
          subst hf
          obtain ⟨k1, k2, k3, k4⟩ := okB_nod hN (Int.le_refl _) hn
          have hlast := k4 (flA A n - 1) (by omega) (by omega)
          have hcl := ctA_rng hN (l + 1) (b := n) (by omega) hlast.1
          obtain ⟨w1, w2, w3, w4, w5, w6, w7, w8⟩ := wr_ar hl k2 k3 hcl.1 hcl.2 (c := ctA A (l + 1 + 1) n) rfl hi0 (by omega) hi1
          by_cases hpf : i / pw (l + 1) < flA A n
          · rw [if_pos hpf] at hcn
            have h9 : i / pw (l + 1) = flA A n - 1 := by
              by_cases h10 : i / pw (l + 1) < flA A n - 1
              · have := w6 h10; omega
              · omega
            have h11 := w7 h9
            rw [h9] at hcn
            rw [← hcn]
            exact Or.inr ⟨okB_mono (by omega) hlast.1, by omega⟩
          · rw [if_neg hpf] at hcn
            exact Or.inl ⟨hcn.symm, (w8 (by omega)).1⟩
      obtain ⟨M1, e1, r1, f1⟩ := extended_M hfu l d (n := cn) (i := i % pw (l + 1)) (x := x) h hx (by omega) (by omega) hchild d2 (Int.emod_lt_of_pos _ (pw_pos _)) (by omega)
      obtain ⟨w1, w2, -, -⟩ := wrA_spec (l + 1) (by omega) hN hnr.1 (n := cn) (i := i % pw (l + 1)) (x := x) (c := i % pw (l + 1)) hx d2 (Int.le_refl _) (Int.emod_lt_of_pos _ (pw_pos _)) (by
        rcases hchild with ⟨a1, a2⟩ | ⟨a1, a2⟩
        · exact Or.inr (Or.inl ⟨by omega, a1, a2⟩)
        · exact Or.inr (Or.inr ⟨by omega, a1, a2⟩))
      generalize wrA (l + 1) A cn (i % pw (l + 1)) x = r at e1 r1 w1 w2 ⊢
      obtain ⟨M', e', r', f'⟩ := hrem M1 r 0 r1 w1.1 (by omega) f1 (Or.inl ⟨rfl, by omega⟩)
      have h69 : f_X12_extended_J69 fu (f_X12_extended fu d) n (((l + 1 : Nat) : Int) + 1) i x (pw (l + 1)) (i / pw (l + 1)) cn M = some (M', aN r.1) := by
        unfold f_X12_extended_J69
        rw [grd_pos (by omega), grd_pos (by omega), grd_pos (by omega), es, e9, e1, cal_some, e', cal_some]
      refine ⟨M', ?_, r', f'⟩
      have hnone : ¬ i / pw (l + 1) < f → f_X12_extended_J49 fu (f_X12_extended fu d) n (((l + 1 : Nat) : Int) + 1) i x (pw (l + 1)) (i / pw (l + 1)) M = some (M', aN r.1) := fun hpf => by
        rw [if_neg hpf] at hcn
        unfold f_X12_extended_J49 f_X12_extended_J50
        rw [if_pos rfl, hcn]
        exact h69
      rcases p4 with ⟨a1, a2⟩ | ⟨a1, a2, a3⟩
      · rw [if_pos a1, grd_pos (by omega)]
        exact hnone (by omega)
      · rw [if_neg (by omega), countOf_M h a1 a2, cal_some, grd_pos (by omega)]
        by_cases hpf : i / pw (l + 1) < f
        · rw [if_pos hpf] at hcn
          rw [if_neg (by omega)]
          unfold f_X12_extended_J50
          rw [if_neg (by decide), entry_M h a1 a2 d1 (by omega), cal_some, hcn]
          exact h69
        · rw [if_pos (by omega)]
          exact hnone hpf
/-- the first elements alone -/
theorem elementsUnder_M {A : AS} (hfu : 1000 ≤ fu) {M : Mem} (h : MM M A) : ∀ (l d : Nat) {b x : Int}, b ≤ aN A → okB A b (l + 1) x → l < d → f_X12_elementsUnder fu d M x = some (M, ctA A (l + 1) x)
  | _, 0, _, _, _, _, h => by omega
  | l, d + 1, b, x, hb, hx, hd => by
    have hN := h.2.2.2.1
    obtain ⟨k1, k2, k3, k4⟩ := okB_nod hN hb hx
    have hx0 := hx.1
    have hxb := hx.2.1
    have hxl := hx.2.2
    rw [f_X12_elementsUnder, isLeafNode_M h hx0 (by omega), cal_some]
    cases l with
    | zero =>
      rw [ind_t (by exact hxl), if_neg (by decide), countOf_M h hx0 (by omega), cal_some]
      show some (M, flA A x) = some (M, (flA A x - 1) * 1 + 1)
      rw [Int.mul_one]
      congr 2
      omega
    | succ l =>
      rw [ind_f (by omega), if_pos rfl]
      have hr : ∀ j, 0 ≤ j → j < flA A x → 0 ≤ ctA A (l + 1) (enA A x j) ∧ ctA A (l + 1) (enA A x j) ≤ 64 := fun j h1 h2 => by
        have h3 := ctA_rng hN (l + 1) (b := x) (by omega) (k4 j h1 h2).1
        have : l = 0 ∨ l = 1 := by omega
        rcases this with rfl | rfl <;> simp only [pw] at h3 <;> omega
      have := lp_sum (F := fun n y i => f_X12_elementsUnder_L18 fu (f_X12_elementsUnder fu d) n x y i M) (M := M) (fun j => ctA A (l + 1) (enA A x j)) (flA A x) 64 (fun j h1 h2 => by have := hr j h1 h2; omega)
        (fun n y i i0 i1 h2 h3 => by
          have hrr := hr i i0 i1
          show f_X12_elementsUnder_L18 fu (f_X12_elementsUnder fu d) (n + 1) x y i M = f_X12_elementsUnder_L18 fu (f_X12_elementsUnder fu d) n x (y + ctA A (l + 1) (enA A x i)) (i + 1) M
          rw [f_X12_elementsUnder_L18, countOf_M h hx0 (by omega), cal_some, if_neg (by omega), entry_M h hx0 (by omega) i0 i1, cal_some, elementsUnder_M hfu h l d (b := x) (by omega) (k4 i i0 i1).1 (by omega), cal_some, grd_pos (by omega), grd_pos (by omega)])
        (fun n y i i0 i1 h2 h3 => by
          show f_X12_elementsUnder_L18 fu (f_X12_elementsUnder fu d) (n + 1) x y i M = some (M, y)
          rw [f_X12_elementsUnder_L18, countOf_M h hx0 (by omega), cal_some, if_pos (by omega)]) fu 0 0 (by omega) (by omega) (by omega) (by omega) (by omega)
      rw [this]
      simp only [Int.sub_zero, Int.zero_add]
      rw [ct_sum hN hb hx]
theorem cut_M {A : AS} (hfu : 1000 ≤ fu) : ∀ (l d : Nat) {M : Mem} {n s : Int}, MM M A → l < 3 → aN A + (l + 1) ≤ 138 → okB A (aN A) (l + 1) n → 1 ≤ s → s ≤ ctA A (l + 1) n → l < d →
    ∃ M', f_X12_cut fu d M n ((l : Int) + 1) s = some (M', (cuA (l + 1) A n s).2) ∧ MR M' (cuA (l + 1) A n s).1 ∧ frM M M'
  | _, 0, _, _, _, _, _, _, _, _, _, h => by omega
  | l, d + 1, M, n, s, h, hl, hcap, hn, hs1, hs2, hd => by
    have hN := h.2.2.2.1
    have hnr := MM_nr h
    have hnx := hn.1
    have hnb := hn.2.1
    obtain ⟨k1, k2, k3, k4⟩ := okB_nod hN (Int.le_refl _) hn
    have hct := ctA_rng hN (l + 1) (Int.le_refl _) hn
    have hpw : pw (l + 1) ≤ 64 ∧ 0 < pw l ∧ pw l ≤ 16 := by rcases l_cases hl with rfl | rfl | rfl <;> decide
    rw [f_X12_cut, elementsUnder_M hfu h l 8 (Int.le_refl _) hn (by omega), cal_some]
    by_cases hs : ctA A (l + 1) n = s
    · rw [if_pos hs]
      have hc : cuA (l + 1) A n s = (A, n) := by rw [cuA, if_pos hs]
      rw [hc]
      exact ⟨M, rfl, MR_of h, frM_refl M⟩
    · rw [if_neg hs]
      have hlast := k4 (flA A n - 1) (by omega) (by omega)
      have hcl := ctA_rng hN l (b := n) (by omega) hlast.1
      have hlt : s < (flA A n - 1) * pw l + ctA A l (enA A n (flA A n - 1)) := by
        have : ctA A (l + 1) n = (flA A n - 1) * pw l + ctA A l (enA A n (flA A n - 1)) := rfl
        omega
      obtain ⟨a1, a2, a3, a4, a5⟩ := cu_ar hl k2 k3 hcl.1 hcl.2 hs1 hlt
      have hcu : cuA (l + 1) A n s = (addN (cuA l A (enA A n ((s - 1) / pw l)) (s - (s - 1) / pw l * pw l)).1 ((l : Int) + 1) ((s - 1) / pw l + 1) (fun j => if j = (s - 1) / pw l then (cuA l A (enA A n ((s - 1) / pw l)) (s - (s - 1) / pw l * pw l)).2 else enA A n j), aN (cuA l A (enA A n ((s - 1) / pw l)) (s - (s - 1) / pw l * pw l)).1) := by
        rw [cuA, if_neg hs]
      have hmod : (s - 1) % pw l + 1 = s - (s - 1) / pw l * pw l := by
        rcases l_cases hl with rfl | rfl | rfl <;> simp only [pw] <;> omega
      rw [hcu]
      have hrem : ∀ (M1 : Mem) (r : AS × Int) (b : Int), MR M1 r.1 → ext A r.1 → aN r.1 < 138 → frM M M1 → ((b = 0 ∧ (l : Int) + 1 ≠ 1) ∨ (b = 1 ∧ (l : Int) + 1 = 1)) →
          ∃ M', f_X12_remake fu M1 n ((s - 1) / pw l) r.2 1 b = some (M', aN r.1) ∧ MR M' (addN r.1 ((l : Int) + 1) ((s - 1) / pw l + 1) (fun j => if j = (s - 1) / pw l then r.2 else enA A n j)) ∧ frM M M' := by
        intro M1 r b r1 hext hc1 f1 hb
        obtain ⟨M', e', r', f'⟩ := remake_M (fu := fu) r1 hc1 (n := n) (p := (s - 1) / pw l) (x := r.2) (z := 1) (b := b) (l := (l : Int) + 1) (f := flA A n) (Or.inr ⟨hnx, by have := hext.1; omega, (ext_fl hext hnx hnb).symm⟩) hb a1 (by omega) (by omega) (Or.inl (by decide)) hfu
        rw [if_neg (by decide)] at r'
        refine ⟨M', e', MR_addN r' (fun j j0 j1 => ?_), frM_trans f1 f'⟩
        show (if j = (s - 1) / pw l then r.2 else enA r.1 n j) = if j = (s - 1) / pw l then r.2 else enA A n j
        rw [ext_en hext hnx hnb j0]
      cases l with
      | zero =>
        have ep : (s - 1) / pw 0 = s - 1 := Int.ediv_one _
        rw [if_pos (by decide), grd_pos (by omega), entry_M h hnx hnb (by omega) (by rw [ep] at a2; exact a2), cal_some]
        obtain ⟨M', e', r', f'⟩ := hrem M (A, enA A n ((s - 1) / pw 0)) 1 (MR_of h) (ext_refl A) (show aN A < 138 by omega) (frM_refl M) (Or.inr ⟨rfl, rfl⟩)
        rw [ep] at e'
        rw [e', cal_some]
        exact ⟨M', rfl, r', f'⟩
      | succ l =>
        have es : ((l + 1 : Nat) : Int) + 1 - 1 = ((l + 1 : Nat) : Int) := by omega
        have e9 : ((l + 1 : Nat) : Int) = (l : Int) + 1 := by omega
        have hch := k4 _ a1 a2
        have hsc : s - (s - 1) / pw (l + 1) * pw (l + 1) ≤ ctA A (l + 1) (enA A n ((s - 1) / pw (l + 1))) := by
          by_cases h9 : (s - 1) / pw (l + 1) = flA A n - 1
          · have := a5 h9
            rw [h9] at this ⊢
            omega
          · rw [hch.2 (by omega)]; exact a4
        have hmr : 0 ≤ (s - 1) % pw (l + 1) ∧ (s - 1) % pw (l + 1) < pw (l + 1) := ⟨Int.emod_nonneg _ (by omega), Int.emod_lt_of_pos _ (by omega)⟩
        rw [if_neg (by omega), grd_pos (by omega), es, span_M (by omega) hfu, cal_some, grd_pos (by omega), grd_pos (by omega), entry_M h hnx hnb a1 a2, cal_some, grd_pos (by omega), grd_pos (by omega), grd_pos (by omega), hmod, e9]
        obtain ⟨M1, e1, r1, f1⟩ := cut_M hfu l d (n := enA A n ((s - 1) / pw (l + 1))) (s := s - (s - 1) / pw (l + 1) * pw (l + 1)) h (by omega) (by omega) (okB_mono (by omega) hch.1) a3 hsc (by omega)
        obtain ⟨w1, -, -⟩ := cuA_spec (l + 1) (by omega) hN hnr.1 (okB_mono (by omega) hch.1) a3 hsc
        rw [e1, cal_some]
        obtain ⟨M', e', r', f'⟩ := hrem M1 _ 0 r1 w1.1 (by have := w1.2.2.2.1; omega) f1 (Or.inl ⟨rfl, by omega⟩)
        rw [e', cal_some]
        exact ⟨M', rfl, r', f'⟩
end MMut
