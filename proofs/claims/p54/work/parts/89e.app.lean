/-! what is put behind a builder's text -/
theorem Grw_vs {Γ Γ' : GG} {sk sk' : List SD} {sz : Nat} (h : Grw Γ Γ' sk sk' sz) (q : Nat) : vs Γ q = vs Γ' q := by
  unfold vs
  rw [h.2.1]
theorem slen_nat (q : Nat) : ∃ g : Nat, slen q = (g : Int) := ⟨_, rfl⟩
theorem schar_b {q : Nat} (hq : q < lensL.length) {i g : Nat} (hg : slen q = (g : Int)) (hi : i < g) : 0 ≤ schar q i ∧ schar q i ≤ 127 := by
  have := schar_ok hq (j := (i : Int)) ⟨by omega, by omega⟩
  rwa [Int.toNat_natCast] at this
/-- what every append answers -/
def apP (sk : List SD) (M : Mem) (k n : Nat) (T : Nat → Int) : GG → List SD → Mem → Nat → Prop := fun _ sk' M' k' => k' = k ∧ sk.length ≤ sk'.length ∧ KB sk sk' M M' ∧ HB sk' M' k n T
theorem cpM_o {M : Mem} {k1 q : Nat} {f : Nat → Int} {a b n : Nat} (h : q ≠ k1) : cpM M k1 f a b n q = M q := by
  funext i
  unfold cpM
  rw [if_neg (by omega)]
theorem KB_o {sk sk' : List SD} {M M1 M2 : Mem} (h : KB sk sk' M M1) (h2 : ∀ q, q < 298 → M2 q = M1 q) : KB sk sk' M M2 := fun q hq => ⟨(h q hq).1, (h2 q hq).trans (h q hq).2⟩
/-- the row filled behind, the count raised -/
theorem HB_put {sk : List SD} {M M2 : Mem} {k j w n g : Nat} {T S : Nat → Int} (h : BW sk M k j w n) (hg : n + g ≤ w) (hk1 : M2 k 1 = M k 1) (hk3 : M2 k 3 = ((n + g : Nat) : Int)) (hT : ∀ i, i < n → M j i = T i) (hS : ∀ i, i < g → -128 ≤ S i ∧ S i ≤ 127) (hj : ∀ i, M2 j i = if n ≤ i ∧ i < n + g then S (i - n) else M j i) : HB sk M2 k (n + g) (catT T n S) := by
  refine ⟨j, w, ⟨h.1, h.2.1, h.2.2.1, ⟨hg, h.2.2.2.1.2⟩, ⟨hk1.trans h.2.2.2.2.1.1, hk3⟩, fun i hi => ?_⟩, fun i hi => ?_⟩
  · rw [hj]
    split
    · exact hS _ (by omega)
    · exact h.2.2.2.2.2 i hi
  · rw [hj]
    unfold catT
    split
    · rw [if_neg (by omega)]
    · rw [if_pos (by omega)]
      exact hT i (by omega)
set_option maxRecDepth 100000 in
set_option maxHeartbeats 4000000 in
theorem c_apS (l : Launch) (Γ : GG) (sk : List SD) (hcl : ClS sk) (h300 : 298 ≤ sk.length) {M : Mem} {k n q : Nat} {T : Nat → Int} (h : HB sk M k n T) (hq : q < lensL.length) (hn : (n : Int) + slen q ≤ 1200) : MetGR l yJ5_append_cf1ce cJ5_append_cf1ce 3 (.object "java/lang/AbstractStringBuilder") (rm1 17 600) Γ sk [vr Γ k, vs Γ q] M (apP sk M k (n + (slen q).toNat) (catT T n (schar q))) := by
  refine MetGR_of RJ5 rfl (by decide) rfl (Nat.le_of_ble_eq_true rfl) rfl ?_
  intro p e s m args below meth c C hr hlk hM
  have inj := C.2.2.2.2.2.2.1
  obtain ⟨j, w, h, hT⟩ := h
  have hkl := sk_lt h.2.1
  have hk3 : 298 ≤ k := h.1.1
  obtain ⟨g, hg⟩ := slen_nat q
  refine V_aload_n (pc := 0) C 1 rfl dJ5_append_cf1ce_0 ?_
  refine V_ifnn (pc := 1) C 9 dJ5_append_cf1ce_1 (by decide) ?_
  refine V_aload_n (pc := 9) C 1 rfl dJ5_append_cf1ce_9 ?_
  refine V_slen (pc := 10) C hq lm_J5_32 ⟨(Nat.le_of_ble_eq_true rfl), (Nat.le_of_ble_eq_true rfl)⟩ ⟨Nat.zero_le _, Nat.zero_le _⟩ (Nat.le_of_ble_eq_true rfl) dJ5_append_cf1ce_10 ?_
  refine V_istore_n (pc := 13) C rfl (by decide) dJ5_append_cf1ce_13 ?_
  refine V_aload_n (pc := 14) C 0 rfl dJ5_append_cf1ce_14 ?_
  refine V_aload_n (pc := 15) C 0 rfl dJ5_append_cf1ce_15 ?_
  refine V_getI (pc := 16) C h.2.1 rfl inJ4 3 (by decide) rfl lf_J5_79 rfl dJ5_append_cf1ce_16 ?_
  rw [h.2.2.2.2.1.2]
  refine V_iload_n (pc := 19) C 2 rfl dJ5_append_cf1ce_19 ?_
  refine V_iadd (pc := 20) C dJ5_append_cf1ce_20 ?_
  intro H locs ls hP hS hl hMr
  refine V_backGV C h300 (V_goU C (pc := 21) (As := [vi ((n : Int) + slen q)]) (c_ens l Γ sk hcl h300 h (q := n + g) (by rw [hg]; rfl) (by omega) H.size) cu_ens lm_J5_100 (slW C pv_ens) ⟨⟨Nat.le_of_ble_eq_true rfl, Nat.le_of_ble_eq_true rfl⟩, Nat.le_of_ble_eq_true rfl, Nat.le_of_ble_eq_true rfl⟩ h.2.1 rfl rfl (Nat.le_of_ble_eq_true rfl) dJ5_append_cf1ce_21 hP hS hl hMr) hS hl (fun Γ1 sk1 M1 hG hcl1 hp C1 => ?_)
  obtain ⟨hle, hKB, j1, w1, h1, hw1, hT1⟩ := hp
  rw [hG.vr hkl, Grw_vs hG q]
  refine V_aload_n (pc := 24) C1 0 rfl dJ5_append_cf1ce_24 ?_
  refine V_aload_n (pc := 25) C1 0 rfl dJ5_append_cf1ce_25 ?_
  refine V_getI (pc := 26) C1 h1.2.1 rfl inJ4 3 (by decide) rfl lf_J5_79 rfl dJ5_append_cf1ce_26 ?_
  rw [h1.2.2.2.2.1.2]
  refine V_aload_n (pc := 29) C1 1 rfl dJ5_append_cf1ce_29 ?_
  refine V_callUV (pc := 30) C1 (As := [vi (n : Int), vs Γ1 q]) (c_putS l Γ1 sk1 h1 hq ⟨by omega, by omega⟩) cu_putS lm_J5_208 (slW C1 pv_putS) ⟨⟨Nat.le_of_ble_eq_true rfl, Nat.le_of_ble_eq_true rfl⟩, Nat.le_of_ble_eq_true rfl, Nat.le_of_ble_eq_true rfl⟩ h1.2.1 rfl rfl (Nat.le_of_ble_eq_true rfl) rfl dJ5_append_cf1ce_30 ?_
  rw [hg, Int.toNat_natCast, Int.toNat_natCast]
  have hkj := h1.1.2.2
  refine V_aload_n (pc := 33) C1 0 rfl dJ5_append_cf1ce_33 ?_
  refine V_dup (pc := 34) C1 rfl dJ5_append_cf1ce_34 ?_
  refine V_getI (pc := 35) C1 h1.2.1 rfl inJ4 3 (by decide) rfl lf_J5_79 rfl dJ5_append_cf1ce_35 ?_
  rw [cpM_o hkj, h1.2.2.2.2.1.2]
  refine V_iload_n (pc := 38) C1 2 rfl dJ5_append_cf1ce_38 ?_
  refine V_iadd (pc := 39) C1 dJ5_append_cf1ce_39 ?_
  refine V_putI (pc := 40) C1 (by omega) h1.2.1 rfl inJ4 tyJ4 tyJ4_ok nmJ4 3 (by decide) rfl rfl lf_J5_79 rfl ⟨by omega, by omega⟩ rfl dJ5_append_cf1ce_40 ?_
  refine V_aload_n (pc := 43) C1 0 rfl dJ5_append_cf1ce_43 ?_
  refine V_room (k := 1) (n := 4000) (Nat.le_of_ble_eq_true rfl) (Nat.le_of_ble_eq_true rfl) ?_
  refine V_grret (pc := 44) C1 hr (Or.inl ⟨_, rfl⟩) hlk hG hcl1 ⟨rfl, hle, KB_o hKB (fun q hq => ?_), ?_⟩ dJ5_append_cf1ce_44
  · rw [up_cell _ _ (by omega), cpM_o (by have := h1.1.2.1; omega)]
  · refine HB_put (w := w1) h1 hw1 ?_ ?_ (fun i hi => (hT1 i hi).trans (hT i hi)) (fun i hi => by have := schar_b hq hg hi; omega) (fun i => ?_)
    · rw [up_at (Or.inr (by decide)), cpM_o hkj]
    · rw [up_same]
      omega
    · rw [up_cell _ _ (Ne.symm hkj)]
      unfold cpM
      by_cases hi : n ≤ i ∧ i < n + g
      · rw [if_pos hi, if_pos ⟨rfl, hi⟩, Nat.zero_add]
      · rw [if_neg hi, if_neg (fun z => hi z.2)]
set_option maxRecDepth 100000 in
set_option maxHeartbeats 4000000 in
theorem c_bpS (l : Launch) (Γ : GG) (sk : List SD) (hcl : ClS sk) (h300 : 298 ≤ sk.length) {M : Mem} {k n q : Nat} {T : Nat → Int} (h : HB sk M k n T) (hq : q < lensL.length) (hn : (n : Int) + slen q ≤ 1200) : MetGR l yJ4_append_15ec4 cJ4_append_15ec4 2 (.object "java/lang/StringBuilder") (rm1 18 640) Γ sk [vr Γ k, vs Γ q] M (apP sk M k (n + (slen q).toNat) (catT T n (schar q))) := by
  refine MetGR_of RJ4 rfl (by decide) rfl (Nat.le_of_ble_eq_true rfl) rfl ?_
  intro p e s m args below meth c C hr hlk hM
  have inj := C.2.2.2.2.2.2.1
  have hkl : k < sk.length := by
    obtain ⟨j, w, h, _⟩ := h
    exact sk_lt h.2.1
  obtain ⟨j0, w0, hb0, hT0⟩ := id h
  refine V_aload_n (pc := 0) C 0 rfl dJ4_append_15ec4_0 ?_
  refine V_aload_n (pc := 1) C 1 rfl dJ4_append_15ec4_1 ?_
  intro H locs ls hP hS hl hMr
  refine V_backGR C h300 (V_goSu C (pc := 2) (As := [vs Γ q]) (c_apS l Γ sk hcl h300 h hq hn H.size) su_apS lm_J4_29 ⟨⟨Nat.le_of_ble_eq_true rfl, Nat.le_of_ble_eq_true rfl⟩, Nat.le_of_ble_eq_true rfl, Nat.le_of_ble_eq_true rfl⟩ hb0.2.1 rfl rfl (Nat.le_of_ble_eq_true rfl) dJ4_append_15ec4_2 hP hS hl hMr) hS hl (fun Γ1 sk1 M1 k1 hG hcl1 hp C1 => ?_)
  obtain ⟨rfl, hle, hKB, hH⟩ := hp
  rw [hG.vr hkl]
  refine V_pop (pc := 5) C1 rfl dJ4_append_15ec4_5 ?_
  refine V_aload_n (pc := 6) C1 0 rfl dJ4_append_15ec4_6 ?_
  refine V_room (k := 1) (n := 4000) (Nat.le_of_ble_eq_true rfl) (Nat.le_of_ble_eq_true rfl) ?_
  exact V_grret (pc := 7) C1 hr (Or.inl ⟨_, rfl⟩) hlk hG hcl1 ⟨rfl, hle, hKB, hH⟩ dJ4_append_15ec4_7
theorem lm_J4_23 : Cond.methodLink RJ4 23 yJ4_append_15ec4 ∈ wsA := tb_5 (List.mem_of_getElem? (i := 166) (by decide +kernel)) (by decide +kernel)
set_option maxRecDepth 100000 in
set_option maxHeartbeats 4000000 in
theorem c_br (l : Launch) (Γ : GG) (sk : List SD) (hcl : ClS sk) (h300 : 298 ≤ sk.length) {M : Mem} {k n q : Nat} {T : Nat → Int} (h : HB sk M k n T) (hq : q < lensL.length) (hn : (n : Int) + slen q ≤ 1200) : MetGR l yJ4_append_cf1ce cJ4_append_cf1ce 2 (.object "java/lang/AbstractStringBuilder") (rm1 19 680) Γ sk [vr Γ k, vs Γ q] M (apP sk M k (n + (slen q).toNat) (catT T n (schar q))) := by
  refine MetGR_of RJ4 rfl (by decide) rfl (Nat.le_of_ble_eq_true rfl) rfl ?_
  intro p e s m args below meth c C hr hlk hM
  have inj := C.2.2.2.2.2.2.1
  obtain ⟨j0, w0, hb0, hT0⟩ := id h
  have hkl := sk_lt hb0.2.1
  refine V_aload_n (pc := 0) C 0 rfl dJ4_append_cf1ce_0 ?_
  refine V_aload_n (pc := 1) C 1 rfl dJ4_append_cf1ce_1 ?_
  intro H locs ls hP hS hl hMr
  refine V_backGR C h300 (V_goV C (pc := 2) (As := [vs Γ q]) (c_bpS l Γ sk hcl h300 h hq hn H.size) cv_bpS lm_J4_23 ⟨⟨Nat.le_of_ble_eq_true rfl, Nat.le_of_ble_eq_true rfl⟩, Nat.le_of_ble_eq_true rfl, Nat.le_of_ble_eq_true rfl⟩ hb0.2.1 rfl rfl rfl (Nat.le_of_ble_eq_true rfl) dJ4_append_cf1ce_2 hP hS hl hMr) hS hl (fun Γ1 sk1 M1 k1 hG hcl1 hp C1 => ?_)
  refine V_room (k := 1) (n := 4000) (Nat.le_of_ble_eq_true rfl) (Nat.le_of_ble_eq_true rfl) ?_
  exact V_grret (pc := 5) C1 hr (Or.inl ⟨_, rfl⟩) hlk hG hcl1 hp dJ4_append_cf1ce_5
