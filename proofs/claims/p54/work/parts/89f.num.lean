/-! numbers and signs put behind; a new builder -/
def dgN (x : Nat) : Nat := if x < 10 then 1 else 2
def dgS (x : Nat) : Nat → Int := fun i => if x < 10 then 48 + x else if i = 0 then ((48 + x / 10 : Nat) : Int) else ((48 + x % 10 : Nat) : Int)
section Dg9
variable {p : Program} {l : Launch} {e : Env} {R : Room} {s : State} {m : MethodId} {args : Array Value} {below : List Frame} {meth : Method} {c : Code} {Q : State → Prop}
variable {nL : Nat} {Γ : GG} {sk : List SD} {M : Mem} {cells slots pc : Nat} {L : List (Nat × Value)} {st : List Value} {cc : ByteArray} {own : String}
theorem V_dgald (C : CX p s m args c cc nL own Γ sk) {a : Nat} {f : Nat → Int} {i : Int} (hT : va_T .byte a 100 (fun j => vi (f j)) (Fr Γ sk s.heap.size) s s.heap) (hi : 0 ≤ i ∧ i < (100 : Nat)) (hr : rng i) (hd : decode cc pc = .ok (.baload, 1)) (kk : VV p l e R s m args below meth c Q nL Γ sk M cells slots (pc + 1) L (vi (f i.toNat) :: st)) : VV p l e R s m args below meth c Q nL Γ sk M cells slots pc L (vi i :: .ref a :: st) :=
  fun H locs ls hP hS hl hM => va_tb C.1 C.2.1 hT hS (v := vi (f i.toNat)) (i32_in hi.1 hi.2 hr) (by rw [i32_clamp hr]) hd (kk H locs ls hP hS hl hM)
end Dg9
theorem dgS_b {x : Nat} (hx : x < 100) (i : Nat) : 48 ≤ dgS x i ∧ dgS x i ≤ 57 := by
  unfold dgS
  split
  · omega
  · split <;> omega
set_option maxRecDepth 100000 in
set_option maxHeartbeats 4000000 in
theorem c_ss (l : Launch) (Γ : GG) (sk : List SD) {M : Mem} {x : Nat} (hx : x < 100) : MetI l yJ6_stringSize_0f7a4 cJ6_stringSize_0f7a4 4 .int (rmz 0 0) Γ sk [vi (x : Int)] M M ((dgN x : Nat) : Int) := by
  refine MetI_of RJ6 rfl (by decide) rfl (Nat.le_of_ble_eq_true rfl) rfl ?_
  intro p e s m args below meth c C hr hlk hM
  refine V_iconst (pc := 0) C dJ6_stringSize_0f7a4_0 ?_
  refine V_istore_n (pc := 1) C rfl (by decide) dJ6_stringSize_0f7a4_1 ?_
  refine V_iload_n (pc := 2) C 0 rfl dJ6_stringSize_0f7a4_2 ?_
  refine V_if_lt (pc := 3) C 11 ⟨by omega, by omega⟩ dJ6_stringSize_0f7a4_3 (by decide) (fun z => absurd z (by omega)) (fun _ => ?_)
  refine V_iconst (pc := 6) C dJ6_stringSize_0f7a4_6 ?_
  refine V_istore_n (pc := 7) C rfl (by decide) dJ6_stringSize_0f7a4_7 ?_
  refine V_iload_n (pc := 8) C 0 rfl dJ6_stringSize_0f7a4_8 ?_
  refine V_ineg (pc := 9) C dJ6_stringSize_0f7a4_9 ?_
  refine V_istore_n (pc := 10) C rfl (by decide) dJ6_stringSize_0f7a4_10 ?_
  refine V_bipush (pc := 11) C dJ6_stringSize_0f7a4_11 rfl ?_
  refine V_istore_n (pc := 13) C rfl (by decide) dJ6_stringSize_0f7a4_13 ?_
  refine V_iconst (pc := 14) C dJ6_stringSize_0f7a4_14 ?_
  refine V_istore_n (pc := 15) C rfl (by decide) dJ6_stringSize_0f7a4_15 ?_
  refine V_iload_n (pc := 16) C 3 rfl dJ6_stringSize_0f7a4_16 ?_
  refine V_bipush (pc := 17) C dJ6_stringSize_0f7a4_17 rfl ?_
  refine V_icmp_ge (pc := 19) C 42 (by decide) (by decide) dJ6_stringSize_0f7a4_19 (by decide) (fun z => absurd z (by decide)) (fun _ => ?_)
  refine V_iload_n (pc := 22) C 0 rfl dJ6_stringSize_0f7a4_22 ?_
  refine V_iload_n (pc := 23) C 2 rfl dJ6_stringSize_0f7a4_23 ?_
  refine V_icmp_le (pc := 24) C 31 ⟨by omega, by omega⟩ (by decide) dJ6_stringSize_0f7a4_24 (by decide) (fun z => ?_) (fun z => ?_)
  · have e9 : dgN x = 2 := by
      unfold dgN
      rw [if_neg (by omega)]
    rw [e9]
    refine V_bipush (pc := 31) C dJ6_stringSize_0f7a4_31 rfl ?_
    refine V_iload_n (pc := 33) C 2 rfl dJ6_stringSize_0f7a4_33 ?_
    refine V_imul (pc := 34) C dJ6_stringSize_0f7a4_34 ?_
    refine V_istore_n (pc := 35) C rfl (by decide) dJ6_stringSize_0f7a4_35 ?_
    refine V_iinc (pc := 36) C 3 rfl rfl (by decide) dJ6_stringSize_0f7a4_36 ?_
    refine V_goto (pc := 39) C 16 dJ6_stringSize_0f7a4_39 (by decide) ?_
    refine V_iload_n (pc := 16) C 3 rfl dJ6_stringSize_0f7a4_16 ?_
    refine V_bipush (pc := 17) C dJ6_stringSize_0f7a4_17 rfl ?_
    refine V_icmp_ge (pc := 19) C 42 (by decide) (by decide) dJ6_stringSize_0f7a4_19 (by decide) (fun z => absurd z (by decide)) (fun _ => ?_)
    refine V_iload_n (pc := 22) C 0 rfl dJ6_stringSize_0f7a4_22 ?_
    refine V_iload_n (pc := 23) C 2 rfl dJ6_stringSize_0f7a4_23 ?_
    refine V_icmp_le (pc := 24) C 31 ⟨by omega, by omega⟩ (by decide) dJ6_stringSize_0f7a4_24 (by decide) (fun z => absurd z (by omega)) (fun z => ?_)
    refine V_iload_n (pc := 27) C 3 rfl dJ6_stringSize_0f7a4_27 ?_
    refine V_iload_n (pc := 28) C 1 rfl dJ6_stringSize_0f7a4_28 ?_
    refine V_iadd (pc := 29) C dJ6_stringSize_0f7a4_29 ?_
    exact V_ret (pc := 30) C hr hlk rfl (by decide) dJ6_stringSize_0f7a4_30
  · have e9 : dgN x = 1 := by
      unfold dgN
      rw [if_pos (by omega)]
    rw [e9]
    refine V_iload_n (pc := 27) C 3 rfl dJ6_stringSize_0f7a4_27 ?_
    refine V_iload_n (pc := 28) C 1 rfl dJ6_stringSize_0f7a4_28 ?_
    refine V_iadd (pc := 29) C dJ6_stringSize_0f7a4_29 ?_
    exact V_ret (pc := 30) C hr hlk rfl (by decide) dJ6_stringSize_0f7a4_30
set_option maxRecDepth 100000 in
set_option maxHeartbeats 4000000 in
theorem c_gc1 (l : Launch) (Γ : GG) (sk : List SD) {M : Mem} {x n j w : Nat} (hx : x < 10) (h3 : 298 ≤ j) (hj : sk[j]? = some (.inl (2, w))) (hw : n + 1 ≤ w ∧ w ≤ 4000) : MetI l yJ6_getChars_ba4f3 cJ6_getChars_ba4f3 7 .int (rmz 0 0) Γ sk [vi (x : Int), vi ((n + 1 : Nat) : Int), vr Γ j] M (up M j n (48 + (x % 10 : Nat))) (n : Int) := by
  refine MetI_of RJ6 rfl (by decide) rfl (Nat.le_of_ble_eq_true rfl) rfl ?_
  intro p e s m args below meth c C hr hlk hM
  refine V_iload_n (pc := 0) C 1 rfl dJ6_getChars_ba4f3_0 ?_
  refine V_istore (pc := 1) C rfl (by decide) dJ6_getChars_ba4f3_1 ?_
  refine V_iload_n (pc := 3) C 0 rfl dJ6_getChars_ba4f3_3 ?_
  refine V_if_ge (pc := 4) C 11 ⟨by omega, by omega⟩ dJ6_getChars_ba4f3_4 (by decide) (fun _ => ?_) (fun z => absurd z (by omega))
  refine V_iconst (pc := 11) C dJ6_getChars_ba4f3_11 ?_
  refine V_istore (pc := 12) C rfl (by decide) dJ6_getChars_ba4f3_12 ?_
  refine V_iload (pc := 14) C 4 rfl dJ6_getChars_ba4f3_14 ?_
  refine V_if_ne (pc := 16) C 22 (by decide) dJ6_getChars_ba4f3_16 (by decide) (fun z => absurd rfl z) (fun _ => ?_)
  refine V_iload_n (pc := 19) C 0 rfl dJ6_getChars_ba4f3_19 ?_
  refine V_ineg (pc := 20) C dJ6_getChars_ba4f3_20 ?_
  refine V_istore_n (pc := 21) C rfl (by decide) dJ6_getChars_ba4f3_21 ?_
  refine V_iload_n (pc := 22) C 0 rfl dJ6_getChars_ba4f3_22 ?_
  refine V_bipush (pc := 23) C dJ6_getChars_ba4f3_23 rfl ?_
  refine V_icmp_gt (pc := 25) C 72 ⟨by omega, by omega⟩ (by decide) dJ6_getChars_ba4f3_25 (by decide) (fun _ => ?_) (fun z => absurd z (by omega))
  refine V_aload_n (pc := 72) C 2 rfl dJ6_getChars_ba4f3_72 ?_
  refine V_iinc (pc := 73) C 3 rfl rfl (by decide) dJ6_getChars_ba4f3_73 ?_
  refine V_iload (pc := 76) C 3 rfl dJ6_getChars_ba4f3_76 ?_
  obtain ⟨a8, z8, t8⟩ := C.2.2.2.2.2.2.2.2.2.1.1
  refine V_getsV (pc := 78) C z8 lf_J6_83 dJ6_getChars_ba4f3_78 ?_
  refine V_iload_n (pc := 81) C 0 rfl dJ6_getChars_ba4f3_81 ?_
  refine V_ineg (pc := 82) C dJ6_getChars_ba4f3_82 ?_
  refine V_dgald (pc := 83) C t8 ⟨by omega, by omega⟩ ⟨by omega, by omega⟩ dJ6_getChars_ba4f3_83 ?_
  rw [show (- -(x : Int)).toNat = x from by omega, show dgO x = ((48 + x % 10 : Nat) : Int) from rfl]
  refine V_bast (pc := 84) C (by omega) hj ⟨by omega, by omega⟩ ⟨by omega, by omega⟩ ⟨by omega, by omega⟩ dJ6_getChars_ba4f3_84 ?_
  rw [show (((n + 1 : Nat) : Int) + -1).toNat = n from by omega]
  refine V_iload_n (pc := 85) C 0 rfl dJ6_getChars_ba4f3_85 ?_
  refine V_bipush (pc := 86) C dJ6_getChars_ba4f3_86 rfl ?_
  refine V_icmp_ge (pc := 88) C 104 ⟨by omega, by omega⟩ (by decide) dJ6_getChars_ba4f3_88 (by decide) (fun z => ?_) (fun z => ?_)
  · skip
    refine V_iload (pc := 104) C 4 rfl dJ6_getChars_ba4f3_104 ?_
    refine V_if_eq (pc := 106) C 118 (by decide) dJ6_getChars_ba4f3_106 (by decide) (fun _ => ?_) (fun z => absurd rfl z)
    refine V_iload (pc := 118) C 3 rfl dJ6_getChars_ba4f3_118 ?_
    rw [show ((n + 1 : Nat) : Int) + -1 = (n : Int) from by omega]
    exact V_ret (pc := 120) C hr hlk rfl ⟨by omega, by omega⟩ dJ6_getChars_ba4f3_120
  · exact absurd z (by omega)
set_option maxRecDepth 100000 in
set_option maxHeartbeats 4000000 in
theorem c_gc2 (l : Launch) (Γ : GG) (sk : List SD) {M : Mem} {x n j w : Nat} (hx : 10 ≤ x ∧ x < 100) (h3 : 298 ≤ j) (hj : sk[j]? = some (.inl (2, w))) (hw : n + 2 ≤ w ∧ w ≤ 4000) : MetI l yJ6_getChars_ba4f3 cJ6_getChars_ba4f3 7 .int (rmz 0 0) Γ sk [vi (x : Int), vi ((n + 2 : Nat) : Int), vr Γ j] M (up (up M j (n + 1) (48 + (x % 10 : Nat))) j n (48 + (x / 10 : Nat))) (n : Int) := by
  refine MetI_of RJ6 rfl (by decide) rfl (Nat.le_of_ble_eq_true rfl) rfl ?_
  intro p e s m args below meth c C hr hlk hM
  refine V_iload_n (pc := 0) C 1 rfl dJ6_getChars_ba4f3_0 ?_
  refine V_istore (pc := 1) C rfl (by decide) dJ6_getChars_ba4f3_1 ?_
  refine V_iload_n (pc := 3) C 0 rfl dJ6_getChars_ba4f3_3 ?_
  refine V_if_ge (pc := 4) C 11 ⟨by omega, by omega⟩ dJ6_getChars_ba4f3_4 (by decide) (fun _ => ?_) (fun z => absurd z (by omega))
  refine V_iconst (pc := 11) C dJ6_getChars_ba4f3_11 ?_
  refine V_istore (pc := 12) C rfl (by decide) dJ6_getChars_ba4f3_12 ?_
  refine V_iload (pc := 14) C 4 rfl dJ6_getChars_ba4f3_14 ?_
  refine V_if_ne (pc := 16) C 22 (by decide) dJ6_getChars_ba4f3_16 (by decide) (fun z => absurd rfl z) (fun _ => ?_)
  refine V_iload_n (pc := 19) C 0 rfl dJ6_getChars_ba4f3_19 ?_
  refine V_ineg (pc := 20) C dJ6_getChars_ba4f3_20 ?_
  refine V_istore_n (pc := 21) C rfl (by decide) dJ6_getChars_ba4f3_21 ?_
  refine V_iload_n (pc := 22) C 0 rfl dJ6_getChars_ba4f3_22 ?_
  refine V_bipush (pc := 23) C dJ6_getChars_ba4f3_23 rfl ?_
  refine V_icmp_gt (pc := 25) C 72 ⟨by omega, by omega⟩ (by decide) dJ6_getChars_ba4f3_25 (by decide) (fun _ => ?_) (fun z => absurd z (by omega))
  refine V_aload_n (pc := 72) C 2 rfl dJ6_getChars_ba4f3_72 ?_
  refine V_iinc (pc := 73) C 3 rfl rfl (by decide) dJ6_getChars_ba4f3_73 ?_
  refine V_iload (pc := 76) C 3 rfl dJ6_getChars_ba4f3_76 ?_
  obtain ⟨a8, z8, t8⟩ := C.2.2.2.2.2.2.2.2.2.1.1
  refine V_getsV (pc := 78) C z8 lf_J6_83 dJ6_getChars_ba4f3_78 ?_
  refine V_iload_n (pc := 81) C 0 rfl dJ6_getChars_ba4f3_81 ?_
  refine V_ineg (pc := 82) C dJ6_getChars_ba4f3_82 ?_
  refine V_dgald (pc := 83) C t8 ⟨by omega, by omega⟩ ⟨by omega, by omega⟩ dJ6_getChars_ba4f3_83 ?_
  rw [show (- -(x : Int)).toNat = x from by omega, show dgO x = ((48 + x % 10 : Nat) : Int) from rfl]
  refine V_bast (pc := 84) C (by omega) hj ⟨by omega, by omega⟩ ⟨by omega, by omega⟩ ⟨by omega, by omega⟩ dJ6_getChars_ba4f3_84 ?_
  rw [show (((n + 2 : Nat) : Int) + -1).toNat = n + 1 from by omega]
  refine V_iload_n (pc := 85) C 0 rfl dJ6_getChars_ba4f3_85 ?_
  refine V_bipush (pc := 86) C dJ6_getChars_ba4f3_86 rfl ?_
  refine V_icmp_ge (pc := 88) C 104 ⟨by omega, by omega⟩ (by decide) dJ6_getChars_ba4f3_88 (by decide) (fun z => ?_) (fun z => ?_)
  · exact absurd z (by omega)
  · skip
    refine V_aload_n (pc := 91) C 2 rfl dJ6_getChars_ba4f3_91 ?_
    refine V_iinc (pc := 92) C 3 rfl rfl (by decide) dJ6_getChars_ba4f3_92 ?_
    refine V_iload (pc := 95) C 3 rfl dJ6_getChars_ba4f3_95 ?_
    obtain ⟨a9, z9, t9⟩ := C.2.2.2.2.2.2.2.2.2.1.2
    refine V_getsV (pc := 97) C z9 lf_J6_87 dJ6_getChars_ba4f3_97 ?_
    refine V_iload_n (pc := 100) C 0 rfl dJ6_getChars_ba4f3_100 ?_
    refine V_ineg (pc := 101) C dJ6_getChars_ba4f3_101 ?_
    refine V_dgald (pc := 102) C t9 ⟨by omega, by omega⟩ ⟨by omega, by omega⟩ dJ6_getChars_ba4f3_102 ?_
    rw [show (- -(x : Int)).toNat = x from by omega, show dgT x = ((48 + x / 10 : Nat) : Int) from rfl]
    refine V_bast (pc := 103) C (by omega) hj ⟨by omega, by omega⟩ ⟨by omega, by omega⟩ ⟨by omega, by omega⟩ dJ6_getChars_ba4f3_103 ?_
    rw [show (((n + 2 : Nat) : Int) + -1 + -1).toNat = n from by omega]
    refine V_iload (pc := 104) C 4 rfl dJ6_getChars_ba4f3_104 ?_
    refine V_if_eq (pc := 106) C 118 (by decide) dJ6_getChars_ba4f3_106 (by decide) (fun _ => ?_) (fun z => absurd rfl z)
    refine V_iload (pc := 118) C 3 rfl dJ6_getChars_ba4f3_118 ?_
    rw [show ((n + 2 : Nat) : Int) + -1 + -1 = (n : Int) from by omega]
    exact V_ret (pc := 120) C hr hlk rfl ⟨by omega, by omega⟩ dJ6_getChars_ba4f3_120
theorem c_gc (l : Launch) (Γ : GG) (sk : List SD) {M : Mem} {x n j w : Nat} (hx : x < 100) (h3 : 298 ≤ j) (hj : sk[j]? = some (.inl (2, w))) (hw : n + dgN x ≤ w ∧ w ≤ 4000) : ∃ M', MetI l yJ6_getChars_ba4f3 cJ6_getChars_ba4f3 7 .int (rmz 0 0) Γ sk [vi (x : Int), vi ((n + dgN x : Nat) : Int), vr Γ j] M M' (n : Int) ∧ (∀ q, q ≠ j → M' q = M q) ∧ ∀ i, M' j i = if n ≤ i ∧ i < n + dgN x then dgS x (i - n) else M j i := by
  by_cases h9 : x < 10
  · have e : dgN x = 1 := if_pos h9
    rw [e] at hw ⊢
    refine ⟨_, c_gc1 l Γ sk h9 h3 hj hw, fun q hq => up_cell _ _ hq, fun i => ?_⟩
    by_cases hi : n ≤ i ∧ i < n + 1
    · rw [if_pos hi, show i = n from by omega, up_same]
      unfold dgS
      rw [if_pos h9]
      omega
    · rw [if_neg hi, up_at (Or.inr (by omega))]
  · have e : dgN x = 2 := if_neg h9
    rw [e] at hw ⊢
    refine ⟨_, c_gc2 l Γ sk ⟨by omega, hx⟩ h3 hj hw, fun q hq => by rw [up_cell _ _ hq, up_cell _ _ hq], fun i => ?_⟩
    by_cases hi : n ≤ i ∧ i < n + 2
    · rw [if_pos hi]
      unfold dgS
      rw [if_neg h9]
      by_cases h0 : i = n
      · rw [h0, up_same, if_pos (by omega)]
        omega
      · rw [show i = n + 1 from by omega, up_at (Or.inr (by omega)), up_same, if_neg (by omega)]
        omega
    · rw [if_neg hi, up_at (Or.inr (by omega)), up_at (Or.inr (by omega))]
set_option maxRecDepth 100000 in
set_option maxHeartbeats 4000000 in
theorem c_can (l : Launch) (Γ : GG) (sk : List SD) {M : Mem} {x : Int} (hx : 0 ≤ x ∧ x ≤ 127) : MetI l yJ1_canEncode_fc78d cJ1_canEncode_fc78d 1 .boolean (rmz 0 0) Γ sk [vi x] M M 1 := by
  refine MetI_of RJ1 rfl (by decide) rfl (Nat.le_of_ble_eq_true rfl) rfl ?_
  intro p e s m args below meth c C hr hlk hM
  refine V_iload_n (pc := 0) C 0 rfl dJ1_canEncode_fc78d_0 ?_
  refine V_sipush (pc := 1) C dJ1_canEncode_fc78d_1 rfl ?_
  refine V_icmp_gt (pc := 4) C 11 ⟨by omega, by omega⟩ (by decide) dJ1_canEncode_fc78d_4 (by decide) (fun z => absurd z (by omega)) (fun _ => ?_)
  refine V_iconst (pc := 7) C dJ1_canEncode_fc78d_7 ?_
  refine V_goto (pc := 8) C 12 dJ1_canEncode_fc78d_8 (by decide) ?_
  exact V_ret (pc := 12) C hr hlk rfl (by decide) dJ1_canEncode_fc78d_12
set_option maxRecDepth 100000 in
set_option maxHeartbeats 4000000 in
theorem c_apI (l : Launch) (Γ : GG) (sk : List SD) (hcl : ClS sk) (h300 : 298 ≤ sk.length) {M : Mem} {k n x : Nat} {T : Nat → Int} (h : HB sk M k n T) (hx : x < 100) (hn : n + 2 ≤ 1200) : MetGR l yJ5_append_c97b9 cJ5_append_c97b9 4 (.object "java/lang/AbstractStringBuilder") (rm1 8 500) Γ sk [vr Γ k, vi (x : Int)] M (apP sk M k (n + dgN x) (catT T n (dgS x))) := by
  refine MetGR_of RJ5 rfl (by decide) rfl (Nat.le_of_ble_eq_true rfl) rfl ?_
  intro p e s m args below meth c C hr hlk hM
  have inj := C.2.2.2.2.2.2.1
  obtain ⟨j, w, h, hT⟩ := h
  have hkl := sk_lt h.2.1
  have hk3 : 298 ≤ k := h.1.1
  have hdg : 1 ≤ dgN x ∧ dgN x ≤ 2 := by
    unfold dgN
    split <;> omega
  refine V_aload_n (pc := 0) C 0 rfl dJ5_append_c97b9_0 ?_
  refine V_getI (pc := 1) C h.2.1 rfl inJ4 3 (by decide) rfl lf_J5_79 rfl dJ5_append_c97b9_1 ?_
  rw [h.2.2.2.2.1.2]
  refine V_istore_n (pc := 4) C rfl (by decide) dJ5_append_c97b9_4 ?_
  refine V_iload_n (pc := 5) C 2 rfl dJ5_append_c97b9_5 ?_
  refine V_iload_n (pc := 6) C 1 rfl dJ5_append_c97b9_6 ?_
  refine V_callSI (pc := 7) C (As := [vi (x : Int)]) (c_ss l Γ sk hx) cs_ss lm_J5_245 ⟨rfl, rfl⟩ ⟨(Nat.le_of_ble_eq_true rfl), (Nat.le_of_ble_eq_true rfl)⟩ rfl (Nat.le_of_ble_eq_true rfl) ⟨Nat.zero_le _, Nat.zero_le _⟩ rfl dJ5_append_c97b9_7 (fun hrr => ?_)
  refine V_iadd (pc := 10) C dJ5_append_c97b9_10 ?_
  refine V_istore_n (pc := 11) C rfl (by decide) dJ5_append_c97b9_11 ?_
  refine V_aload_n (pc := 12) C 0 rfl dJ5_append_c97b9_12 ?_
  refine V_iload_n (pc := 13) C 3 rfl dJ5_append_c97b9_13 ?_
  intro H locs ls hP hS hl hMr
  refine V_backGV C h300 (V_goU C (pc := 14) (As := [vi ((n : Int) + ((dgN x : Nat) : Int))]) (c_ens l Γ sk hcl h300 h (q := n + dgN x) (by omega) (by omega) H.size) cu_ens lm_J5_100 (slW C pv_ens) ⟨⟨Nat.le_of_ble_eq_true rfl, Nat.le_of_ble_eq_true rfl⟩, Nat.le_of_ble_eq_true rfl, Nat.le_of_ble_eq_true rfl⟩ h.2.1 rfl rfl (Nat.le_of_ble_eq_true rfl) dJ5_append_c97b9_14 hP hS hl hMr) hS hl (fun Γ1 sk1 M1 hG hcl1 hp C1 => ?_)
  obtain ⟨hle, hKB, j1, w1, h1, hw1, hT1⟩ := hp
  rw [hG.vr hkl]
  refine V_aload_n (pc := 17) C1 0 rfl dJ5_append_c97b9_17 ?_
  refine V_callUI (pc := 18) C1 (As := []) (c_lat l Γ1 sk1 h1) cu_lat lm_J5_83 (slW C1 sl_lat) ⟨⟨Nat.le_of_ble_eq_true rfl, Nat.le_of_ble_eq_true rfl⟩, Nat.le_of_ble_eq_true rfl, Nat.le_of_ble_eq_true rfl⟩ h1.2.1 rfl rfl (Nat.le_of_ble_eq_true rfl) rfl dJ5_append_c97b9_18 (fun _ => ?_)
  refine V_if_eq (pc := 21) C1 37 (by decide) dJ5_append_c97b9_21 (by decide) (fun z => absurd z (by decide)) (fun _ => ?_)
  refine V_iload_n (pc := 24) C1 1 rfl dJ5_append_c97b9_24 ?_
  refine V_iload_n (pc := 25) C1 3 rfl dJ5_append_c97b9_25 ?_
  refine V_aload_n (pc := 26) C1 0 rfl dJ5_append_c97b9_26 ?_
  refine V_getR (pc := 27) C1 h1.2.1 rfl inJ4 0 (by decide) rfl lf_J5_15 rfl dJ5_append_c97b9_27 ?_
  obtain ⟨M2, hg2, hg3, hg4⟩ := c_gc l Γ1 sk1 hx h1.1.2.1 h1.2.2.1 (n := n) ⟨hw1, h1.2.2.2.1.2⟩
  have hkj := h1.1.2.2
  refine V_callSI (pc := 30) C1 (As := [vi (x : Int), vi ((n + dgN x : Nat) : Int), vr Γ1 j1]) hg2 cs_gc lm_J5_248 ⟨rfl, rfl⟩ ⟨(Nat.le_of_ble_eq_true rfl), (Nat.le_of_ble_eq_true rfl)⟩ rfl (Nat.le_of_ble_eq_true rfl) ⟨(Nat.le_of_ble_eq_true rfl), (Nat.le_of_ble_eq_true rfl)⟩ rfl dJ5_append_c97b9_30 (fun hrr => ?_)
  refine V_pop (pc := 33) C1 rfl dJ5_append_c97b9_33 ?_
  refine V_goto (pc := 34) C1 48 dJ5_append_c97b9_34 (by decide) ?_
  refine V_aload_n (pc := 48) C1 0 rfl dJ5_append_c97b9_48 ?_
  refine V_iload_n (pc := 49) C1 3 rfl dJ5_append_c97b9_49 ?_
  refine V_putI (pc := 50) C1 (by omega) h1.2.1 rfl inJ4 tyJ4 tyJ4_ok nmJ4 3 (by decide) rfl rfl lf_J5_79 rfl ⟨by omega, by omega⟩ rfl dJ5_append_c97b9_50 ?_
  refine V_aload_n (pc := 53) C1 0 rfl dJ5_append_c97b9_53 ?_
  refine V_room (k := 1) (n := 4000) (Nat.le_of_ble_eq_true rfl) (Nat.le_of_ble_eq_true rfl) ?_
  refine V_grret (pc := 54) C1 hr (Or.inl ⟨_, rfl⟩) hlk hG hcl1 ⟨rfl, hle, KB_o hKB (fun q hq => ?_), ?_⟩ dJ5_append_c97b9_54
  · rw [up_cell _ _ (by omega), hg3 _ (by have := h1.1.2.1; omega)]
  · refine HB_put (w := w1) h1 hw1 ?_ ?_ (fun i hi => (hT1 i hi).trans (hT i hi)) (fun i hi => by have := dgS_b hx i; omega) (fun i => ?_)
    · rw [up_at (Or.inr (by decide)), hg3 _ hkj]
    · rw [up_same]
      omega
    · rw [up_cell _ _ (Ne.symm hkj)]
      exact hg4 i
set_option maxRecDepth 100000 in
set_option maxHeartbeats 4000000 in
theorem c_apC (l : Launch) (Γ : GG) (sk : List SD) (hcl : ClS sk) (h300 : 298 ≤ sk.length) {M : Mem} {k n : Nat} {x : Int} {T : Nat → Int} (h : HB sk M k n T) (hx : 0 ≤ x ∧ x ≤ 127) (hn : n + 1 ≤ 1200) : MetGR l yJ5_append_3fe6f cJ5_append_3fe6f 2 (.object "java/lang/AbstractStringBuilder") (rm1 8 500) Γ sk [vr Γ k, vi x] M (apP sk M k (n + 1) (catT T n (fun _ => x))) := by
  refine MetGR_of RJ5 rfl (by decide) rfl (Nat.le_of_ble_eq_true rfl) rfl ?_
  intro p e s m args below meth c C hr hlk hM
  have inj := C.2.2.2.2.2.2.1
  obtain ⟨j, w, h, hT⟩ := h
  have hkl := sk_lt h.2.1
  have hk3 : 298 ≤ k := h.1.1
  refine V_aload_n (pc := 0) C 0 rfl dJ5_append_3fe6f_0 ?_
  refine V_aload_n (pc := 1) C 0 rfl dJ5_append_3fe6f_1 ?_
  refine V_getI (pc := 2) C h.2.1 rfl inJ4 3 (by decide) rfl lf_J5_79 rfl dJ5_append_3fe6f_2 ?_
  rw [h.2.2.2.2.1.2]
  refine V_iconst (pc := 5) C dJ5_append_3fe6f_5 ?_
  refine V_iadd (pc := 6) C dJ5_append_3fe6f_6 ?_
  intro H locs ls hP hS hl hMr
  refine V_backGV C h300 (V_goU C (pc := 7) (As := [vi ((n : Int) + 1)]) (c_ens l Γ sk hcl h300 h (q := n + 1) (by omega) (by omega) H.size) cu_ens lm_J5_100 (slW C pv_ens) ⟨⟨Nat.le_of_ble_eq_true rfl, Nat.le_of_ble_eq_true rfl⟩, Nat.le_of_ble_eq_true rfl, Nat.le_of_ble_eq_true rfl⟩ h.2.1 rfl rfl (Nat.le_of_ble_eq_true rfl) dJ5_append_3fe6f_7 hP hS hl hMr) hS hl (fun Γ1 sk1 M1 hG hcl1 hp C1 => ?_)
  obtain ⟨hle, hKB, j1, w1, h1, hw1, hT1⟩ := hp
  rw [hG.vr hkl]
  refine V_aload_n (pc := 10) C1 0 rfl dJ5_append_3fe6f_10 ?_
  refine V_callUI (pc := 11) C1 (As := []) (c_lat l Γ1 sk1 h1) cu_lat lm_J5_83 (slW C1 sl_lat) ⟨⟨Nat.le_of_ble_eq_true rfl, Nat.le_of_ble_eq_true rfl⟩, Nat.le_of_ble_eq_true rfl, Nat.le_of_ble_eq_true rfl⟩ h1.2.1 rfl rfl (Nat.le_of_ble_eq_true rfl) rfl dJ5_append_3fe6f_11 (fun _ => ?_)
  refine V_if_eq (pc := 14) C1 45 (by decide) dJ5_append_3fe6f_14 (by decide) (fun z => absurd z (by decide)) (fun _ => ?_)
  refine V_iload_n (pc := 17) C1 1 rfl dJ5_append_3fe6f_17 ?_
  refine V_callSI (pc := 18) C1 (As := [vi x]) (c_can l Γ1 sk1 hx) cs_can lm_J5_191 ⟨rfl, rfl⟩ ⟨(Nat.le_of_ble_eq_true rfl), (Nat.le_of_ble_eq_true rfl)⟩ rfl (Nat.le_of_ble_eq_true rfl) ⟨(Nat.le_of_ble_eq_true rfl), (Nat.le_of_ble_eq_true rfl)⟩ rfl dJ5_append_3fe6f_18 (fun hrr => ?_)
  refine V_if_eq (pc := 21) C1 45 (by decide) dJ5_append_3fe6f_21 (by decide) (fun z => absurd z (by decide)) (fun _ => ?_)
  have hkj := h1.1.2.2
  refine V_aload_n (pc := 24) C1 0 rfl dJ5_append_3fe6f_24 ?_
  refine V_getR (pc := 25) C1 h1.2.1 rfl inJ4 0 (by decide) rfl lf_J5_15 rfl dJ5_append_3fe6f_25 ?_
  refine V_aload_n (pc := 28) C1 0 rfl dJ5_append_3fe6f_28 ?_
  refine V_dup (pc := 29) C1 rfl dJ5_append_3fe6f_29 ?_
  refine V_getI (pc := 30) C1 h1.2.1 rfl inJ4 3 (by decide) rfl lf_J5_79 rfl dJ5_append_3fe6f_30 ?_
  rw [h1.2.2.2.2.1.2]
  refine V_dupx1 (pc := 33) C1 rfl rfl dJ5_append_3fe6f_33 ?_
  refine V_iconst (pc := 34) C1 dJ5_append_3fe6f_34 ?_
  refine V_iadd (pc := 35) C1 dJ5_append_3fe6f_35 ?_
  refine V_putI (pc := 36) C1 (by omega) h1.2.1 rfl inJ4 tyJ4 tyJ4_ok nmJ4 3 (by decide) rfl rfl lf_J5_79 rfl ⟨by omega, by omega⟩ rfl dJ5_append_3fe6f_36 ?_
  refine V_iload_n (pc := 39) C1 1 rfl dJ5_append_3fe6f_39 ?_
  refine V_i2b (pc := 40) C1 ⟨by omega, by omega⟩ dJ5_append_3fe6f_40 ?_
  rw [show bmodB x = x from by unfold bmodB; rw [Int.bmod_def]; omega]
  refine V_bast (pc := 41) C1 (by have := h1.1.2.1; omega) h1.2.2.1 ⟨by omega, by omega⟩ ⟨by omega, by omega⟩ ⟨by omega, by omega⟩ dJ5_append_3fe6f_41 ?_
  rw [Int.toNat_natCast]
  refine V_goto (pc := 42) C1 75 dJ5_append_3fe6f_42 (by decide) ?_
  refine V_aload_n (pc := 75) C1 0 rfl dJ5_append_3fe6f_75 ?_
  refine V_room (k := 1) (n := 4000) (Nat.le_of_ble_eq_true rfl) (Nat.le_of_ble_eq_true rfl) ?_
  refine V_grret (pc := 76) C1 hr (Or.inl ⟨_, rfl⟩) hlk hG hcl1 ⟨rfl, hle, KB_o hKB (fun q hq => ?_), ?_⟩ dJ5_append_3fe6f_76
  · rw [up_cell _ _ (by have := h1.1.2.1; omega), up_cell _ _ (by omega)]
  · refine HB_put (w := w1) h1 hw1 ?_ ?_ (fun i hi => (hT1 i hi).trans (hT i hi)) (fun i hi => by omega) (fun i => ?_)
    · rw [up_cell _ _ hkj, up_at (Or.inr (by decide))]
    · rw [up_cell _ _ hkj, up_same]
      omega
    · by_cases hi : n ≤ i ∧ i < n + 1
      · rw [if_pos hi, show i = n from by omega, up_same]
      · rw [if_neg hi, up_at (Or.inr (by omega)), up_cell _ _ (Ne.symm hkj)]
set_option maxRecDepth 100000 in
set_option maxHeartbeats 4000000 in
theorem c_bpI (l : Launch) (Γ : GG) (sk : List SD) (hcl : ClS sk) (h300 : 298 ≤ sk.length) {M : Mem} {k n x : Nat} {T : Nat → Int} (h : HB sk M k n T) (hx : x < 100) (hn : n + 2 ≤ 1200) : MetGR l yJ4_append_bf812 cJ4_append_bf812 2 (.object "java/lang/StringBuilder") (rm1 9 540) Γ sk [vr Γ k, vi (x : Int)] M (apP sk M k (n + dgN x) (catT T n (dgS x))) := by
  refine MetGR_of RJ4 rfl (by decide) rfl (Nat.le_of_ble_eq_true rfl) rfl ?_
  intro p e s m args below meth c C hr hlk hM
  have inj := C.2.2.2.2.2.2.1
  have hkl : k < sk.length := by
    obtain ⟨j, w, h, _⟩ := h
    exact sk_lt h.2.1
  obtain ⟨j0, w0, hb0, hT0⟩ := id h
  refine V_aload_n (pc := 0) C 0 rfl dJ4_append_bf812_0 ?_
  refine V_iload_n (pc := 1) C 1 rfl dJ4_append_bf812_1 ?_
  intro H locs ls hP hS hl hMr
  refine V_backGR C h300 (V_goSu C (pc := 2) (As := [vi (x : Int)]) (c_apI l Γ sk hcl h300 h hx hn H.size) su_apI lm_J4_53 ⟨⟨Nat.le_of_ble_eq_true rfl, Nat.le_of_ble_eq_true rfl⟩, Nat.le_of_ble_eq_true rfl, Nat.le_of_ble_eq_true rfl⟩ hb0.2.1 rfl rfl (Nat.le_of_ble_eq_true rfl) dJ4_append_bf812_2 hP hS hl hMr) hS hl (fun Γ1 sk1 M1 k1 hG hcl1 hp C1 => ?_)
  obtain ⟨rfl, hle, hKB, hH⟩ := hp
  rw [hG.vr hkl]
  refine V_pop (pc := 5) C1 rfl dJ4_append_bf812_5 ?_
  refine V_aload_n (pc := 6) C1 0 rfl dJ4_append_bf812_6 ?_
  refine V_room (k := 1) (n := 4000) (Nat.le_of_ble_eq_true rfl) (Nat.le_of_ble_eq_true rfl) ?_
  exact V_grret (pc := 7) C1 hr (Or.inl ⟨_, rfl⟩) hlk hG hcl1 ⟨rfl, hle, hKB, hH⟩ dJ4_append_bf812_7
set_option maxRecDepth 100000 in
set_option maxHeartbeats 4000000 in
theorem c_bpC (l : Launch) (Γ : GG) (sk : List SD) (hcl : ClS sk) (h300 : 298 ≤ sk.length) {M : Mem} {k n : Nat} {x : Int} {T : Nat → Int} (h : HB sk M k n T) (hx : 0 ≤ x ∧ x ≤ 127) (hn : n + 1 ≤ 1200) : MetGR l yJ4_append_cf468 cJ4_append_cf468 2 (.object "java/lang/StringBuilder") (rm1 9 540) Γ sk [vr Γ k, vi x] M (apP sk M k (n + 1) (catT T n (fun _ => x))) := by
  refine MetGR_of RJ4 rfl (by decide) rfl (Nat.le_of_ble_eq_true rfl) rfl ?_
  intro p e s m args below meth c C hr hlk hM
  have inj := C.2.2.2.2.2.2.1
  have hkl : k < sk.length := by
    obtain ⟨j, w, h, _⟩ := h
    exact sk_lt h.2.1
  obtain ⟨j0, w0, hb0, hT0⟩ := id h
  refine V_aload_n (pc := 0) C 0 rfl dJ4_append_cf468_0 ?_
  refine V_iload_n (pc := 1) C 1 rfl dJ4_append_cf468_1 ?_
  intro H locs ls hP hS hl hMr
  refine V_backGR C h300 (V_goSu C (pc := 2) (As := [vi x]) (c_apC l Γ sk hcl h300 h hx hn H.size) su_apC lm_J4_50 ⟨⟨Nat.le_of_ble_eq_true rfl, Nat.le_of_ble_eq_true rfl⟩, Nat.le_of_ble_eq_true rfl, Nat.le_of_ble_eq_true rfl⟩ hb0.2.1 rfl rfl (Nat.le_of_ble_eq_true rfl) dJ4_append_cf468_2 hP hS hl hMr) hS hl (fun Γ1 sk1 M1 k1 hG hcl1 hp C1 => ?_)
  obtain ⟨rfl, hle, hKB, hH⟩ := hp
  rw [hG.vr hkl]
  refine V_pop (pc := 5) C1 rfl dJ4_append_cf468_5 ?_
  refine V_aload_n (pc := 6) C1 0 rfl dJ4_append_cf468_6 ?_
  refine V_room (k := 1) (n := 4000) (Nat.le_of_ble_eq_true rfl) (Nat.le_of_ble_eq_true rfl) ?_
  exact V_grret (pc := 7) C1 hr (Or.inl ⟨_, rfl⟩) hlk hG hcl1 ⟨rfl, hle, hKB, hH⟩ dJ4_append_cf468_7
set_option maxRecDepth 100000 in
set_option maxHeartbeats 4000000 in
theorem c_ini5 (l : Launch) (Γ : GG) (sk : List SD) (hcl : ClS sk) (h300 : 298 ≤ sk.length) {M : Mem} {k q : Nat} (hk : sk[k]? = some (.inr (1, []))) (hk3 : 298 ≤ k) (hz : M k 1 = 0 ∧ M k 2 = 0 ∧ M k 3 = 0) (hq : q < lensL.length) (hn : slen q ≤ 1000) : MetGV l yJ5_init_a7421 cJ5_init_a7421 5 ({ frames := 21, cells := 2, slots := 8000, locals := 720 } : Room) Γ sk [vr Γ k, vs Γ q] M (fun Γ' sk' M' => sk.length ≤ sk'.length ∧ KB sk sk' M M' ∧ HB sk' M' k (slen q).toNat (schar q)) := by
  refine MetGV_of RJ5 rfl (by decide) rfl (Nat.le_of_ble_eq_true rfl) rfl ?_
  intro p e s m args below meth c C hr hlk hnm hM
  have inj := C.2.2.2.2.2.2.1
  have hkl := sk_lt hk
  obtain ⟨g, hg⟩ := slen_nat q
  refine V_aload_n (pc := 0) C 0 rfl dJ5_init_a7421_0 ?_
  refine V_objI (pc := 1) C lm_J5_3 dJ5_init_a7421_1 ⟨(Nat.le_of_ble_eq_true rfl), (Nat.le_of_ble_eq_true rfl)⟩ ?_
  refine V_aload_n (pc := 4) C 1 rfl dJ5_init_a7421_4 ?_
  refine V_slen (pc := 5) C hq lm_J5_32 ⟨(Nat.le_of_ble_eq_true rfl), (Nat.le_of_ble_eq_true rfl)⟩ ⟨Nat.zero_le _, Nat.zero_le _⟩ (Nat.le_of_ble_eq_true rfl) dJ5_init_a7421_5 ?_
  rw [hg]
  refine V_istore_n (pc := 8) C rfl (by decide) dJ5_init_a7421_8 ?_
  refine V_iload_n (pc := 9) C 2 rfl dJ5_init_a7421_9 ?_
  refine V_ldc (pc := 10) C lc_J5_38 (n := 2147483631) rfl dJ5_init_a7421_10 ?_
  refine V_icmp_ge (pc := 12) C 22 ⟨by omega, by omega⟩ (by decide) dJ5_init_a7421_12 (by decide) (fun z => absurd z (by omega)) (fun _ => ?_)
  refine V_iload_n (pc := 15) C 2 rfl dJ5_init_a7421_15 ?_
  refine V_bipush (pc := 16) C dJ5_init_a7421_16 rfl ?_
  refine V_iadd (pc := 18) C dJ5_init_a7421_18 ?_
  refine V_goto (pc := 19) C 24 dJ5_init_a7421_19 (by decide) ?_
  refine V_istore_n (pc := 24) C rfl (by decide) dJ5_init_a7421_24 ?_
  refine V_aload_n (pc := 25) C 1 rfl dJ5_init_a7421_25 ?_
  refine V_codS (pc := 26) C hq lm_J5_40 ⟨(Nat.le_of_ble_eq_true rfl), (Nat.le_of_ble_eq_true rfl)⟩ ⟨Nat.zero_le _, Nat.zero_le _⟩ (Nat.le_of_ble_eq_true rfl) dJ5_init_a7421_26 ?_
  refine V_istore (pc := 29) C rfl (by decide) dJ5_init_a7421_29 ?_
  refine V_aload_n (pc := 31) C 0 rfl dJ5_init_a7421_31 ?_
  refine V_iload (pc := 32) C 4 rfl dJ5_init_a7421_32 ?_
  refine V_putC (pc := 34) C (by omega) hk rfl inJ4 tyJ4 tyJ4_ok nmJ4 rfl lf_J5_22 (fun z => by cases z) rfl dJ5_init_a7421_34 ?_
  refine V_aload_n (pc := 37) C 0 rfl dJ5_init_a7421_37 ?_
  refine V_iload (pc := 38) C 4 rfl dJ5_init_a7421_38 ?_
  refine V_if_ne (pc := 40) C 49 (by decide) dJ5_init_a7421_40 (by decide) (fun z => absurd rfl z) (fun _ => ?_)
  refine V_iload_n (pc := 43) C 3 rfl dJ5_init_a7421_43 ?_
  refine V_newA (pc := 44) C hcl h300 (atype := .byte) 2 (by decide) rfl rfl ac_byte (n := g + 16) (by omega) (by omega) ⟨(Nat.le_of_ble_eq_true rfl), by show 0 + (g + 16) ≤ 8000; omega⟩ dJ5_init_a7421_44 (fun Γ1 hG1 C1 hcl1 => ?_)
  rw [hG1.vr hkl, Grw_vs hG1 q, show Value.ref (gA Γ k) = vr Γ1 k from hG1.vr hkl]
  refine V_goto (pc := 46) C1 53 dJ5_init_a7421_46 (by decide) ?_
  refine V_putB (pc := 53) (j := sk.length) C1 hcl1 (by simp; omega) (by omega) (sk_app hk) rfl inJ4 tyJ4 tyJ4_ok nmJ4 rfl lf_J5_15 (fun z => by cases z) rfl (Or.inl ⟨rfl, by rw [up0_o (by omega)]; exact hz⟩) (by simp) dJ5_init_a7421_53 (fun C2 hcl2 => ?_)
  have hG2 : Grw Γ Γ1 sk ((sk ++ [(.inl (2, g + 16) : SD)]).set k (.inr (1, [some sk.length, none, none, none]))) s.heap.size := hG1.trans (Grw.rf C1.2.2.2.2.2.2.1 (List.length_set ..)) (Nat.le_refl _)
  have hH : HB ((sk ++ [(.inl (2, g + 16) : SD)]).set k (.inr (1, [some sk.length, none, none, none]))) (up0 M sk.length) k 0 (fun _ => 0) := ⟨sk.length, g + 16, ⟨⟨hk3, h300, by omega⟩, sk_setk (by simp; omega), by rw [sk_keep (by omega)]; exact sk_new sk _, ⟨by omega, by omega⟩, by rw [up0_o (by omega)]; exact ⟨hz.1, hz.2.2⟩, fun i _ => by rw [up0_n]; decide⟩, fun i hi => absurd hi (by omega)⟩
  have hl3 : 298 ≤ ((sk ++ [(.inl (2, g + 16) : SD)]).set k (.inr (1, [some sk.length, none, none, none]))).length := by rw [List.length_set]; simp; omega
  refine V_aload_n (pc := 56) C2 0 rfl dJ5_init_a7421_56 ?_
  refine V_aload_n (pc := 57) C2 1 rfl dJ5_init_a7421_57 ?_
  intro H locs ls hP hS hl hMr
  refine V_backGR C2 hl3 (V_goU C2 (pc := 58) (As := [vs Γ1 q]) (c_br l Γ1 _ hcl2 hl3 hH hq (by omega) H.size) cu_br lm_J5_43 (C2.2.2.2.2.1 _ sl_br) ⟨⟨(Nat.le_of_ble_eq_true rfl), (Nat.le_of_ble_eq_true rfl)⟩, (Nat.le_of_ble_eq_true rfl), (by show 0 + (g + 16) + 4000 ≤ 8000; omega)⟩ (sk_setk (by simp; omega)) rfl rfl (Nat.le_of_ble_eq_true rfl) dJ5_init_a7421_58 hP hS hl hMr) hS hl (fun Γ3 sk3 M3 k3 hG3 hcl3 hp C3 => ?_)
  obtain ⟨rfl, hle, hKB, hH3⟩ := hp
  refine V_pop (pc := 61) C3 rfl dJ5_init_a7421_61 ?_
  refine V_room (k := 2) (n := 8000) (Nat.le_of_ble_eq_true rfl) (by show 0 + (g + 16) + 4000 ≤ 8000; omega) ?_
  refine V_gvret (pc := 62) C3 hr hlk (hG2.trans hG3 (Nat.le_refl _)) hcl3 ⟨?_, fun y hy => ?_, ?_⟩ dJ5_init_a7421_62
  · rw [List.length_set, List.length_append] at hle
    simp at hle
    omega
  · rw [(hKB y hy).1, (hKB y hy).2, sk_keep (by omega), List.getElem?_append_left (by omega), up0_o (by omega)]
    exact ⟨rfl, rfl⟩
  · obtain ⟨j9, w9, hb9, hT9⟩ := hH3
    rw [Nat.zero_add, hg] at hb9 hT9
    exact ⟨j9, w9, hb9, fun i hi => (hT9 i hi).trans (by unfold catT; rw [if_neg (by omega), Nat.sub_zero])⟩
set_option maxRecDepth 100000 in
set_option maxHeartbeats 4000000 in
theorem c_ini4 (l : Launch) (Γ : GG) (sk : List SD) (hcl : ClS sk) (h300 : 298 ≤ sk.length) {M : Mem} {k q : Nat} (hk : sk[k]? = some (.inr (1, []))) (hk3 : 298 ≤ k) (hz : M k 1 = 0 ∧ M k 2 = 0 ∧ M k 3 = 0) (hq : q < lensL.length) (hn : slen q ≤ 1000) : MetGV l yJ4_init_a7421 cJ4_init_a7421 2 ({ frames := 22, cells := 2, slots := 8000, locals := 760 } : Room) Γ sk [vr Γ k, vs Γ q] M (fun Γ' sk' M' => sk.length ≤ sk'.length ∧ KB sk sk' M M' ∧ HB sk' M' k (slen q).toNat (schar q)) := by
  refine MetGV_of RJ4 rfl (by decide) rfl (Nat.le_of_ble_eq_true rfl) rfl ?_
  intro p e s m args below meth c C hr hlk hnm hM
  have inj := C.2.2.2.2.2.2.1
  refine V_aload_n (pc := 0) C 0 rfl dJ4_init_a7421_0 ?_
  refine V_aload_n (pc := 1) C 1 rfl dJ4_init_a7421_1 ?_
  intro H locs ls hP hS hl hMr
  refine V_backGV C h300 (V_goI C (pc := 2) (As := [vs Γ q]) (c_ini5 l Γ sk hcl h300 hk hk3 hz hq hn H.size) cj_ini5 lm_J4_7 ⟨⟨Nat.le_of_ble_eq_true rfl, Nat.le_of_ble_eq_true rfl⟩, Nat.le_of_ble_eq_true rfl, Nat.le_of_ble_eq_true rfl⟩ rfl (Nat.le_of_ble_eq_true rfl) dJ4_init_a7421_2 hP hS hl hMr) hS hl (fun Γ1 sk1 M1 hG1 hcl1 hp C1 => ?_)
  refine V_room (k := 2) (n := 8000) (Nat.le_of_ble_eq_true rfl) (Nat.le_of_ble_eq_true rfl) ?_
  exact V_gvret (pc := 5) C1 hr hlk hG1 hcl1 hp dJ4_init_a7421_5
