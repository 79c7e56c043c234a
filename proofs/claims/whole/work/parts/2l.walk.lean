set_option maxRecDepth 100000 in
set_option maxHeartbeats 4000000 in
theorem c_X12_cutRoot (l : Launch) (Γ : GG) (sk : List SD) (hsk : ExtM sk) (fu : Nat) {M M' : Mem} {a1 : Int} {a2 : Int} {r : Int} (ha1 : rng a1) (ha2 : rng a2) (h : f_X12_cutRoot fu M a1 a2 = some (M', r)) : MetI l yX12_cutRoot cX12_cutRoot 5 .int ({ frames := 262, cells := 0, slots := 0, locals := 9036 } : Room) Γ sk [vr Γ 52, vi a1, vi a2] M M' r := by
  unfold f_X12_cutRoot at h
  refine MetI_of RX12 rfl (by decide) rfl (Nat.le_of_ble_eq_true rfl) rfl ?_
  intro p e s m args below meth c C hr hlk hM
  have e52 := hsk 52 _ (by decide) rfl
  have LP19 : ∀ (n : Nat) {x2 : Int} {x3 : Int} {x4 : Int} {M : Mem}, rng x2 → rng x3 → rng x4 → f_X12_cutRoot_L19 fu n x2 x3 x4 M = some (M', r) → VV p l e ({ frames := 262, cells := 0, slots := 0, locals := 9036 } : Room) s m args below meth c (MQ below (PostI Γ sk M' r s.heap.size) args s 0 0 (Fr Γ sk s.heap.size)) 5 Γ sk M 0 0 19 [(0, vr Γ 52), (2, vi x2), (3, vi x3), (4, vi x4)] [] := by
    intro n
    induction n with
    | zero =>
      intro x2 x3 x4 M hx2 hx3 hx4 h
      cases h
    | succ n ih =>
      intro x2 x3 x4 M hx2 hx3 hx4 h
      rw [f_X12_cutRoot_L19] at h
      refine V_iload (pc := 19) C 3 rfl dX12_cutRoot_19 ?_
      refine V_iload_n (pc := 21) C 1 rfl dX12_cutRoot_21 ?_
      obtain ⟨M8, r9, hc10, h⟩ := cal_of h
      refine V_callSI (pc := 22) C (c_X12_heightFor l Γ sk hsk fu hx2 hc10) cf_X12_heightFor lk_X12_118 ⟨rfl, rfl⟩ ⟨Nat.le_of_ble_eq_true rfl, Nat.le_of_ble_eq_true rfl⟩ rfl (Nat.le_of_ble_eq_true rfl) ⟨Nat.zero_le _, Nat.zero_le _⟩ rfl dX12_cutRoot_22 (fun hr9 => ?_)
      refine V_icmp_le (pc := 25) C 41 hx4 hr9 dX12_cutRoot_25 (by decide) (fun c25_11 => ?_) (fun c25_11 => ?_)
      · have h := ite_t h c25_11
        refine V_aload_n (pc := 41) C 0 rfl dX12_cutRoot_41 ?_
        refine V_iload_n (pc := 42) C 2 rfl dX12_cutRoot_42 ?_
        refine V_iload_n (pc := 43) C 1 rfl dX12_cutRoot_43 ?_
        obtain ⟨M12, r13, hc14, h⟩ := cal_of h
        refine V_callSI (pc := 44) C (c_X12_heightFor l Γ sk hsk fu hx2 hc14) cf_X12_heightFor lk_X12_118 ⟨rfl, rfl⟩ ⟨Nat.le_of_ble_eq_true rfl, Nat.le_of_ble_eq_true rfl⟩ rfl (Nat.le_of_ble_eq_true rfl) ⟨Nat.zero_le _, Nat.zero_le _⟩ rfl dX12_cutRoot_44 (fun hr13 => ?_)
        refine V_iload_n (pc := 47) C 1 rfl dX12_cutRoot_47 ?_
        obtain ⟨M15, r16, hc17, h⟩ := cal_of h
        refine V_callVI (pc := 48) C (c_X12_cut l Γ sk hsk fu 8 hx3 hr13 hx2 hc17) cf_X12_cut lk_X12_108 ⟨rfl, rfl⟩ ⟨Nat.le_of_ble_eq_true rfl, Nat.le_of_ble_eq_true rfl⟩ e52 rfl rfl rfl (Nat.le_of_ble_eq_true rfl) ⟨Nat.zero_le _, Nat.zero_le _⟩ rfl dX12_cutRoot_48 (fun hr16 => ?_)
        exact V_iret (pc := 51) C hr hlk hr16 h dX12_cutRoot_51
      · have h := ite_f h c25_11
        refine V_aload_n (pc := 28) C 0 rfl dX12_cutRoot_28 ?_
        refine V_iload_n (pc := 29) C 2 rfl dX12_cutRoot_29 ?_
        refine V_iconst (pc := 30) C dX12_cutRoot_30 ?_
        obtain ⟨M18, r19, hc20, h⟩ := cal_of h
        refine V_callVI (pc := 31) C (c_X12_entry l Γ sk hsk fu hx3 (by decide) hc20) cf_X12_entry lk_X12_71 ⟨rfl, rfl⟩ ⟨Nat.le_of_ble_eq_true rfl, Nat.le_of_ble_eq_true rfl⟩ e52 rfl rfl rfl (Nat.le_of_ble_eq_true rfl) ⟨Nat.zero_le _, Nat.zero_le _⟩ rfl dX12_cutRoot_31 (fun hr19 => ?_)
        refine V_istore_n (pc := 34) C (L' := [(0, vr Γ 52), (2, vi x2), (3, vi r19), (4, vi x4)]) rfl (by decide) dX12_cutRoot_34 ?_
        refine V_iinc (pc := 35) C (L' := [(0, vr Γ 52), (2, vi x2), (3, vi r19), (4, vi (x4 + (-1 : Int)))]) 3 rfl rfl (by decide) dX12_cutRoot_35 ?_
        refine V_goto (pc := 38) C 19 dX12_cutRoot_38 (by decide) ?_
        obtain ⟨g21, h⟩ := grd_of h
        refine V_sub (L' := [(0, vr Γ 52), (2, vi x2), (3, vi r19), (4, vi (x4 + (-1 : Int)))]) [0, 1, 2, 3] rfl (by decide) ?_
        exact ih hx2 hr19 g21 h
  skip
  refine V_iload_n (pc := 0) C 2 rfl dX12_cutRoot_0 ?_
  refine V_if_ne (pc := 1) C 6 ha2 dX12_cutRoot_1 (by decide) (fun c1_1 => ?_) (fun c1_1 => ?_)
  · have h := ite_f h c1_1
    refine V_aload_n (pc := 6) C 0 rfl dX12_cutRoot_6 ?_
    refine V_iload_n (pc := 7) C 1 rfl dX12_cutRoot_7 ?_
    obtain ⟨M2, r3, hc4, h⟩ := cal_of h
    refine V_callVI (pc := 8) C (c_X12_root l Γ sk hsk fu ha1 hc4) cf_X12_root lk_X12_145 ⟨rfl, rfl⟩ ⟨Nat.le_of_ble_eq_true rfl, Nat.le_of_ble_eq_true rfl⟩ e52 rfl rfl rfl (Nat.le_of_ble_eq_true rfl) ⟨Nat.zero_le _, Nat.zero_le _⟩ rfl dX12_cutRoot_8 (fun hr3 => ?_)
    refine V_istore_n (pc := 11) C (L' := [(0, vr Γ 52), (1, vi a1), (2, vi a2), (3, vi r3)]) rfl (by decide) dX12_cutRoot_11 ?_
    refine V_aload_n (pc := 12) C 0 rfl dX12_cutRoot_12 ?_
    refine V_iload_n (pc := 13) C 1 rfl dX12_cutRoot_13 ?_
    obtain ⟨M5, r6, hc7, h⟩ := cal_of h
    refine V_callVI (pc := 14) C (c_X12_heightOf l Γ sk hsk fu ha1 hc7) cf_X12_heightOf lk_X12_148 ⟨rfl, rfl⟩ ⟨Nat.le_of_ble_eq_true rfl, Nat.le_of_ble_eq_true rfl⟩ e52 rfl rfl rfl (Nat.le_of_ble_eq_true rfl) ⟨Nat.zero_le _, Nat.zero_le _⟩ rfl dX12_cutRoot_14 (fun hr6 => ?_)
    refine V_istore (pc := 17) C (L' := [(0, vr Γ 52), (1, vi a1), (2, vi a2), (3, vi r3), (4, vi r6)]) rfl (by decide) dX12_cutRoot_17 ?_
    refine V_sub (L' := [(0, vr Γ 52), (2, vi a2), (3, vi r3), (4, vi r6)]) [0, 2, 3, 4] rfl (by decide) ?_
    exact LP19 fu  ha2 hr3 hr6 h
  · have h := ite_t h c1_1
    refine V_iconst (pc := 4) C dX12_cutRoot_4 ?_
    exact V_iret (pc := 5) C hr hlk (by decide) h dX12_cutRoot_5
set_option maxRecDepth 100000 in
set_option maxHeartbeats 4000000 in
theorem c_X12_makeTruncate (l : Launch) (Γ : GG) (sk : List SD) (hsk : ExtM sk) (fu : Nat) {M M' : Mem} {a1 : Int} {a2 : Int} {r : Int} (ha1 : rng a1) (ha2 : rng a2) (h : f_X12_makeTruncate fu M a1 a2 = some (M', r)) : MetI l yX12_makeTruncate cX12_makeTruncate 4 .int ({ frames := 263, cells := 0, slots := 0, locals := 9060 } : Room) Γ sk [vr Γ 52, vi a1, vi a2] M M' r := by
  unfold f_X12_makeTruncate at h
  refine MetI_of RX12 rfl (by decide) rfl (Nat.le_of_ble_eq_true rfl) rfl ?_
  intro p e s m args below meth c C hr hlk hM
  have e52 := hsk 52 _ (by decide) rfl
  have e53 := hsk 53 _ (by decide) rfl
  refine V_aload_n (pc := 0) C 0 rfl dX12_makeTruncate_0 ?_
  refine V_getR (pc := 1) C e52 rfl inX12 0 (by decide) rfl lf_X12_9 rfl dX12_makeTruncate_1 ?_
  refine V_iconst (pc := 4) C dX12_makeTruncate_4 ?_
  obtain ⟨g1, h⟩ := grd_of h
  refine V_iald (pc := 5) C e53 g1 (by decide) dX12_makeTruncate_5 ?_
  refine V_istore_n (pc := 6) C (L' := [(0, vr Γ 52), (1, vi a1), (2, vi a2), (3, vi (M 53 ((1 : Int) : Int).toNat))]) rfl (by decide) dX12_makeTruncate_6 ?_
  refine V_aload_n (pc := 7) C 0 rfl dX12_makeTruncate_7 ?_
  refine V_iload_n (pc := 8) C 1 rfl dX12_makeTruncate_8 ?_
  refine V_iload_n (pc := 9) C 2 rfl dX12_makeTruncate_9 ?_
  refine V_aload_n (pc := 10) C 0 rfl dX12_makeTruncate_10 ?_
  refine V_iload_n (pc := 11) C 1 rfl dX12_makeTruncate_11 ?_
  refine V_iload_n (pc := 12) C 2 rfl dX12_makeTruncate_12 ?_
  obtain ⟨M2, r3, hc4, h⟩ := cal_of h
  refine V_callVI (pc := 13) C (c_X12_cutRoot l Γ sk hsk fu ha1 ha2 hc4) cf_X12_cutRoot lk_X12_154 ⟨rfl, rfl⟩ ⟨Nat.le_of_ble_eq_true rfl, Nat.le_of_ble_eq_true rfl⟩ e52 rfl rfl rfl (Nat.le_of_ble_eq_true rfl) ⟨Nat.zero_le _, Nat.zero_le _⟩ rfl dX12_makeTruncate_13 (fun hr3 => ?_)
  refine V_iload_n (pc := 16) C 3 rfl dX12_makeTruncate_16 ?_
  obtain ⟨M5, r6, hc7, h⟩ := cal_of h
  refine V_callVI (pc := 17) C (c_X12_addVersion l Γ sk hsk fu ha1 ha2 hr3 (hM _ _) hc7) cf_X12_addVersion lk_X12_142 ⟨rfl, rfl⟩ ⟨Nat.le_of_ble_eq_true rfl, Nat.le_of_ble_eq_true rfl⟩ e52 rfl rfl rfl (Nat.le_of_ble_eq_true rfl) ⟨Nat.zero_le _, Nat.zero_le _⟩ rfl dX12_makeTruncate_17 (fun hr6 => ?_)
  exact V_iret (pc := 20) C hr hlk hr6 h dX12_makeTruncate_20
set_option maxRecDepth 100000 in
set_option maxHeartbeats 4000000 in
theorem c_X12_clearReached (l : Launch) (Γ : GG) (sk : List SD) (hsk : ExtM sk) (fu : Nat) {M M' : Mem}  {r : Int}  (h : f_X12_clearReached fu M  = some (M', r)) : MetV l yX12_clearReached cX12_clearReached 2 ({ frames := 0, cells := 0, slots := 0, locals := 0 } : Room) Γ sk [vr Γ 52] M M' := by
  unfold f_X12_clearReached at h
  refine MetV_of RX12 rfl (by decide) rfl (Nat.le_of_ble_eq_true rfl) rfl ?_
  intro p e s m args below meth c C hr hlk hM
  have e52 := hsk 52 _ (by decide) rfl
  have e60 := hsk 60 _ (by decide) rfl
  have LP2 : ∀ (n : Nat) {x1 : Int} {M : Mem}, rng x1 → f_X12_clearReached_L2 fu n x1 M = some (M', r) → VV p l e ({ frames := 0, cells := 0, slots := 0, locals := 0 } : Room) s m args below meth c (MQ below (PostV Γ sk M' s.heap.size) args s 0 0 (Fr Γ sk s.heap.size)) 2 Γ sk M 0 0 2 [(0, vr Γ 52), (1, vi x1)] [] := by
    intro n
    induction n with
    | zero =>
      intro x1 M hx1 h
      cases h
    | succ n ih =>
      intro x1 M hx1 h
      rw [f_X12_clearReached_L2] at h
      refine V_iload_n (pc := 2) C 1 rfl dX12_clearReached_2 ?_
      refine V_sipush (pc := 3) C dX12_clearReached_3 rfl ?_
      refine V_icmp_ge (pc := 6) C 22 hx1 (by decide) dX12_clearReached_6 (by decide) (fun c6_1 => ?_) (fun c6_1 => ?_)
      · have h := ite_t h c6_1
        exact V_vret (pc := 22) C hr hlk h dX12_clearReached_22
      · have h := ite_f h c6_1
        refine V_aload_n (pc := 9) C 0 rfl dX12_clearReached_9 ?_
        refine V_getR (pc := 10) C e52 rfl inX12 11 (by decide) rfl lf_X12_32 rfl dX12_clearReached_10 ?_
        refine V_iload_n (pc := 13) C 1 rfl dX12_clearReached_13 ?_
        refine V_iconst (pc := 14) C dX12_clearReached_14 ?_
        obtain ⟨g2, h⟩ := grd_of h
        refine V_iast (pc := 15) C (by decide) e60 g2 hx1 (by decide) dX12_clearReached_15 ?_
        refine V_iinc (pc := 16) C (L' := [(0, vr Γ 52), (1, vi (x1 + (1 : Int)))]) 1 rfl rfl (by decide) dX12_clearReached_16 ?_
        refine V_goto (pc := 19) C 2 dX12_clearReached_19 (by decide) ?_
        obtain ⟨g3, h⟩ := grd_of h
        refine V_sub (L' := [(0, vr Γ 52), (1, vi (x1 + (1 : Int)))]) [0, 1] rfl (by decide) ?_
        exact ih g3 h
  skip
  refine V_iconst (pc := 0) C dX12_clearReached_0 ?_
  refine V_istore_n (pc := 1) C (L' := [(0, vr Γ 52), (1, vi (0 : Int))]) rfl (by decide) dX12_clearReached_1 ?_
  refine V_sub (L' := [(0, vr Γ 52), (1, vi (0 : Int))]) [0, 1] rfl (by decide) ?_
  exact LP2 fu  (by decide) h
set_option maxRecDepth 100000 in
set_option maxHeartbeats 4000000 in
theorem c_X12_reach (l : Launch) (Γ : GG) (sk : List SD) (hsk : ExtM sk) (fu : Nat) : ∀ (d : Nat) {M M' : Mem} {a1 : Int} {r : Int} (ha1 : rng a1) (h : f_X12_reach fu d M a1 = some (M', r)), MetV l yX12_reach cX12_reach 3 ({ frames := 3 * (d + 1), cells := 0, slots := 0, locals := 102 * (d + 1) } : Room) Γ sk [vr Γ 52, vi a1] M M' := by
  intro d
  induction d with
  | zero =>
    intro M M' a1 r ha1 h
    cases h
  | succ d hsf =>
    intro M M' a1 r ha1 h
    rw [f_X12_reach] at h
    refine MetV_of RX12 rfl (by decide) rfl (Nat.le_of_ble_eq_true rfl) rfl ?_
    intro p e s m args below meth c C hr hlk hM
    have e52 := hsk 52 _ (by decide) rfl
    have e60 := hsk 60 _ (by decide) rfl
    generalize hsfe : f_X12_reach fu d = sf at h hsf
    have LP27 : ∀ (n : Nat) {x1 : Int} {x2 : Int} {M : Mem}, rng x1 → rng x2 → f_X12_reach_L27 fu sf n x1 x2 M = some (M', r) → VV p l e ({ frames := 3 * (d + 1 + 1), cells := 0, slots := 0, locals := 102 * (d + 1 + 1) } : Room) s m args below meth c (MQ below (PostV Γ sk M' s.heap.size) args s 0 0 (Fr Γ sk s.heap.size)) 3 Γ sk M 0 0 27 [(0, vr Γ 52), (1, vi x1), (2, vi x2)] [] := by
      intro n
      induction n with
      | zero =>
        intro x1 x2 M hx1 hx2 h
        cases h
      | succ n ih =>
        intro x1 x2 M hx1 hx2 h
        rw [f_X12_reach_L27] at h
        refine V_iload_n (pc := 27) C 2 rfl dX12_reach_27 ?_
        refine V_aload_n (pc := 28) C 0 rfl dX12_reach_28 ?_
        refine V_iload_n (pc := 29) C 1 rfl dX12_reach_29 ?_
        obtain ⟨M9, r10, hc11, h⟩ := cal_of h
        refine V_callVI (pc := 30) C (c_X12_countOf l Γ sk hsk fu hx1 hc11) cf_X12_countOf lk_X12_79 ⟨rfl, rfl⟩ ⟨by dsimp only; omega, by dsimp only; omega⟩ e52 rfl rfl rfl (Nat.le_of_ble_eq_true rfl) ⟨Nat.zero_le _, Nat.zero_le _⟩ rfl dX12_reach_30 (fun hr10 => ?_)
        refine V_icmp_ge (pc := 33) C 52 hx2 hr10 dX12_reach_33 (by decide) (fun c33_12 => ?_) (fun c33_12 => ?_)
        · have h := ite_t h c33_12
          exact V_vret (pc := 52) C hr hlk h dX12_reach_52
        · have h := ite_f h c33_12
          refine V_aload_n (pc := 36) C 0 rfl dX12_reach_36 ?_
          refine V_aload_n (pc := 37) C 0 rfl dX12_reach_37 ?_
          refine V_iload_n (pc := 38) C 1 rfl dX12_reach_38 ?_
          refine V_iload_n (pc := 39) C 2 rfl dX12_reach_39 ?_
          obtain ⟨M13, r14, hc15, h⟩ := cal_of h
          refine V_callVI (pc := 40) C (c_X12_entry l Γ sk hsk fu hx1 hx2 hc15) cf_X12_entry lk_X12_71 ⟨rfl, rfl⟩ ⟨by dsimp only; omega, by dsimp only; omega⟩ e52 rfl rfl rfl (Nat.le_of_ble_eq_true rfl) ⟨Nat.zero_le _, Nat.zero_le _⟩ rfl dX12_reach_40 (fun hr14 => ?_)
          obtain ⟨M16, r17, hc18, h⟩ := cal_of h
          refine V_callVV (pc := 43) C (hsf hr14 hc18) cf_X12_reach lk_X12_157 ⟨rfl, rfl⟩ ⟨by dsimp only; omega, by dsimp only; omega⟩ e52 rfl rfl rfl (Nat.le_of_ble_eq_true rfl) ⟨Nat.zero_le _, Nat.zero_le _⟩ rfl dX12_reach_43 ?_
          refine V_iinc (pc := 46) C (L' := [(0, vr Γ 52), (1, vi x1), (2, vi (x2 + (1 : Int)))]) 2 rfl rfl (by decide) dX12_reach_46 ?_
          refine V_goto (pc := 49) C 27 dX12_reach_49 (by decide) ?_
          obtain ⟨g19, h⟩ := grd_of h
          refine V_sub (L' := [(0, vr Γ 52), (1, vi x1), (2, vi (x2 + (1 : Int)))]) [0, 1, 2] rfl (by decide) ?_
          exact ih hx1 g19 h
    skip
    refine V_iload_n (pc := 0) C 1 rfl dX12_reach_0 ?_
    refine V_iconst (pc := 1) C dX12_reach_1 ?_
    refine V_icmp_ne (pc := 2) C 6 ha1 (by decide) dX12_reach_2 (by decide) (fun c2_1 => ?_) (fun c2_1 => ?_)
    · have h := ite_f h c2_1
      refine V_aload_n (pc := 6) C 0 rfl dX12_reach_6 ?_
      refine V_getR (pc := 7) C e52 rfl inX12 11 (by decide) rfl lf_X12_32 rfl dX12_reach_7 ?_
      refine V_iload_n (pc := 10) C 1 rfl dX12_reach_10 ?_
      refine V_dup2 (pc := 11) C rfl rfl dX12_reach_11 ?_
      obtain ⟨g2, h⟩ := grd_of h
      refine V_iald (pc := 12) C e60 g2 ha1 dX12_reach_12 ?_
      refine V_iconst (pc := 13) C dX12_reach_13 ?_
      refine V_iadd (pc := 14) C dX12_reach_14 ?_
      obtain ⟨g3, h⟩ := grd_of h
      obtain ⟨g4, h⟩ := grd_of h
      refine V_iast (pc := 15) C (by decide) e60 g3 ha1 g4 dX12_reach_15 ?_
      refine V_aload_n (pc := 16) C 0 rfl dX12_reach_16 ?_
      refine V_iload_n (pc := 17) C 1 rfl dX12_reach_17 ?_
      obtain ⟨M5, r6, hc7, h⟩ := cal_of h
      refine V_callVI (pc := 18) C (c_X12_isLeafNode l Γ sk hsk fu ha1 hc7) cf_X12_isLeafNode lk_X12_90 ⟨rfl, rfl⟩ ⟨by dsimp only; omega, by dsimp only; omega⟩ e52 rfl rfl rfl (Nat.le_of_ble_eq_true rfl) ⟨Nat.zero_le _, Nat.zero_le _⟩ rfl dX12_reach_18 (fun hr6 => ?_)
      refine V_if_eq (pc := 21) C 25 hr6 dX12_reach_21 (by decide) (fun c21_8 => ?_) (fun c21_8 => ?_)
      · have h := ite_t h c21_8
        refine V_iconst (pc := 25) C dX12_reach_25 ?_
        refine V_istore_n (pc := 26) C (L' := [(0, vr Γ 52), (1, vi a1), (2, vi (0 : Int))]) rfl (by decide) dX12_reach_26 ?_
        refine V_sub (L' := [(0, vr Γ 52), (1, vi a1), (2, vi (0 : Int))]) [0, 1, 2] rfl (by decide) ?_
        exact LP27 fu  ha1 (by decide) h
      · have h := ite_f h c21_8
        exact V_vret (pc := 24) C hr hlk h dX12_reach_24
    · have h := ite_t h c2_1
      exact V_vret (pc := 5) C hr hlk h dX12_reach_5
set_option maxRecDepth 100000 in
set_option maxHeartbeats 4000000 in
theorem c_X12_reachAll (l : Launch) (Γ : GG) (sk : List SD) (hsk : ExtM sk) (fu : Nat) {M M' : Mem}  {r : Int}  (h : f_X12_reachAll fu M  = some (M', r)) : MetV l yX12_reachAll cX12_reachAll 2 ({ frames := 28, cells := 0, slots := 0, locals := 940 } : Room) Γ sk [vr Γ 52] M M' := by
  unfold f_X12_reachAll at h
  refine MetV_of RX12 rfl (by decide) rfl (Nat.le_of_ble_eq_true rfl) rfl ?_
  intro p e s m args below meth c C hr hlk hM
  have e52 := hsk 52 _ (by decide) rfl
  have e53 := hsk 53 _ (by decide) rfl
  have LP6 : ∀ (n : Nat) {x1 : Int} {M : Mem}, rng x1 → f_X12_reachAll_L6 fu n x1 M = some (M', r) → VV p l e ({ frames := 28, cells := 0, slots := 0, locals := 940 } : Room) s m args below meth c (MQ below (PostV Γ sk M' s.heap.size) args s 0 0 (Fr Γ sk s.heap.size)) 2 Γ sk M 0 0 6 [(0, vr Γ 52), (1, vi x1)] [] := by
    intro n
    induction n with
    | zero =>
      intro x1 M hx1 h
      cases h
    | succ n ih =>
      intro x1 M hx1 h
      rw [f_X12_reachAll_L6] at h
      refine V_iload_n (pc := 6) C 1 rfl dX12_reachAll_6 ?_
      refine V_aload_n (pc := 7) C 0 rfl dX12_reachAll_7 ?_
      refine V_getR (pc := 8) C e52 rfl inX12 0 (by decide) rfl lf_X12_9 rfl dX12_reachAll_8 ?_
      refine V_iconst (pc := 11) C dX12_reachAll_11 ?_
      refine V_rng fun hM4 => ?_
      obtain ⟨g5, h⟩ := grd_of h
      refine V_iald (pc := 12) C e53 g5 (by decide) dX12_reachAll_12 ?_
      refine V_icmp_ge (pc := 13) C 39 hx1 (hM4 _ _) dX12_reachAll_13 (by decide) (fun c13_6 => ?_) (fun c13_6 => ?_)
      · have h := ite_t h c13_6
        exact V_vret (pc := 39) C hr hlk h dX12_reachAll_39
      · have h := ite_f h c13_6
        refine V_aload_n (pc := 16) C 0 rfl dX12_reachAll_16 ?_
        refine V_iload_n (pc := 17) C 1 rfl dX12_reachAll_17 ?_
        obtain ⟨M7, r8, hc9, h⟩ := cal_of h
        refine V_callVI (pc := 18) C (c_X12_isGone l Γ sk hsk fu hx1 hc9) cf_X12_isGone lk_X12_164 ⟨rfl, rfl⟩ ⟨Nat.le_of_ble_eq_true rfl, Nat.le_of_ble_eq_true rfl⟩ e52 rfl rfl rfl (Nat.le_of_ble_eq_true rfl) ⟨Nat.zero_le _, Nat.zero_le _⟩ rfl dX12_reachAll_18 (fun hr8 => ?_)
        refine V_if_ne (pc := 21) C 33 hr8 dX12_reachAll_21 (by decide) (fun c21_10 => ?_) (fun c21_10 => ?_)
        · have h := ite_f h c21_10
          refine V_iinc (pc := 33) C (L' := [(0, vr Γ 52), (1, vi (x1 + (1 : Int)))]) 1 rfl rfl (by decide) dX12_reachAll_33 ?_
          refine V_goto (pc := 36) C 6 dX12_reachAll_36 (by decide) ?_
          obtain ⟨g11, h⟩ := grd_of h
          refine V_sub (L' := [(0, vr Γ 52), (1, vi (x1 + (1 : Int)))]) [0, 1] rfl (by decide) ?_
          exact ih g11 h
        · have h := ite_t h c21_10
          refine V_aload_n (pc := 24) C 0 rfl dX12_reachAll_24 ?_
          refine V_aload_n (pc := 25) C 0 rfl dX12_reachAll_25 ?_
          refine V_iload_n (pc := 26) C 1 rfl dX12_reachAll_26 ?_
          obtain ⟨M12, r13, hc14, h⟩ := cal_of h
          refine V_callVI (pc := 27) C (c_X12_root l Γ sk hsk fu hx1 hc14) cf_X12_root lk_X12_145 ⟨rfl, rfl⟩ ⟨Nat.le_of_ble_eq_true rfl, Nat.le_of_ble_eq_true rfl⟩ e52 rfl rfl rfl (Nat.le_of_ble_eq_true rfl) ⟨Nat.zero_le _, Nat.zero_le _⟩ rfl dX12_reachAll_27 (fun hr13 => ?_)
          obtain ⟨M15, r16, hc17, h⟩ := cal_of h
          refine V_callVV (pc := 30) C (c_X12_reach l Γ sk hsk fu 8 hr13 hc17) cf_X12_reach lk_X12_157 ⟨rfl, rfl⟩ ⟨Nat.le_of_ble_eq_true rfl, Nat.le_of_ble_eq_true rfl⟩ e52 rfl rfl rfl (Nat.le_of_ble_eq_true rfl) ⟨Nat.zero_le _, Nat.zero_le _⟩ rfl dX12_reachAll_30 ?_
          refine V_iinc (pc := 33) C (L' := [(0, vr Γ 52), (1, vi (x1 + (1 : Int)))]) 1 rfl rfl (by decide) dX12_reachAll_33 ?_
          refine V_goto (pc := 36) C 6 dX12_reachAll_36 (by decide) ?_
          obtain ⟨g18, h⟩ := grd_of h
          refine V_sub (L' := [(0, vr Γ 52), (1, vi (x1 + (1 : Int)))]) [0, 1] rfl (by decide) ?_
          exact ih g18 h
  skip
  refine V_aload_n (pc := 0) C 0 rfl dX12_reachAll_0 ?_
  obtain ⟨M1, r2, hc3, h⟩ := cal_of h
  refine V_callVV (pc := 1) C (c_X12_clearReached l Γ sk hsk fu hc3) cf_X12_clearReached lk_X12_161 ⟨rfl, rfl⟩ ⟨Nat.le_of_ble_eq_true rfl, Nat.le_of_ble_eq_true rfl⟩ e52 rfl rfl rfl (Nat.le_of_ble_eq_true rfl) ⟨Nat.zero_le _, Nat.zero_le _⟩ rfl dX12_reachAll_1 ?_
  refine V_iconst (pc := 4) C dX12_reachAll_4 ?_
  refine V_istore_n (pc := 5) C (L' := [(0, vr Γ 52), (1, vi (0 : Int))]) rfl (by decide) dX12_reachAll_5 ?_
  refine V_sub (L' := [(0, vr Γ 52), (1, vi (0 : Int))]) [0, 1] rfl (by decide) ?_
  exact LP6 fu  (by decide) h
set_option maxRecDepth 100000 in
set_option maxHeartbeats 4000000 in
theorem c_X12_isStored (l : Launch) (Γ : GG) (sk : List SD) (hsk : ExtM sk) (fu : Nat) {M M' : Mem} {a1 : Int} {r : Int} (ha1 : rng a1) (h : f_X12_isStored fu M a1 = some (M', r)) : MetI l yX12_isStored cX12_isStored 2 .boolean ({ frames := 1, cells := 0, slots := 0, locals := 25 } : Room) Γ sk [vr Γ 52, vi a1] M M' r := by
  unfold f_X12_isStored at h
  refine MetI_of RX12 rfl (by decide) rfl (Nat.le_of_ble_eq_true rfl) rfl ?_
  intro p e s m args below meth c C hr hlk hM
  have e52 := hsk 52 _ (by decide) rfl
  have e53 := hsk 53 _ (by decide) rfl
  refine V_iload_n (pc := 0) C 1 rfl dX12_isStored_0 ?_
  refine V_i2l (pc := 1) C ha1 dX12_isStored_1 ?_
  refine V_lconst (pc := 2) C (x := (0 : Int)) dX12_isStored_2 rfl ?_
  refine V_aload_n (pc := 3) C 0 rfl dX12_isStored_3 ?_
  refine V_getR (pc := 4) C e52 rfl inX12 0 (by decide) rfl lf_X12_9 rfl dX12_isStored_4 ?_
  refine V_iconst (pc := 7) C dX12_isStored_7 ?_
  obtain ⟨g1, h⟩ := grd_of h
  refine V_iald (pc := 8) C e53 g1 (by decide) dX12_isStored_8 ?_
  refine V_iconst (pc := 9) C dX12_isStored_9 ?_
  refine V_isub (pc := 10) C dX12_isStored_10 ?_
  obtain ⟨g2, h⟩ := grd_of h
  refine V_i2l (pc := 11) C g2 dX12_isStored_11 ?_
  obtain ⟨M3, r4, hc5, h⟩ := cal_of h
  refine V_callSI (pc := 12) C (c_X12_isWithin l Γ sk hsk fu ha1 (by decide) g2 hc5) cf_X12_isWithin lk_X12_167 ⟨rfl, rfl⟩ ⟨Nat.le_of_ble_eq_true rfl, Nat.le_of_ble_eq_true rfl⟩ rfl (Nat.le_of_ble_eq_true rfl) ⟨Nat.zero_le _, Nat.zero_le _⟩ rfl dX12_isStored_12 (fun hr4 => ?_)
  refine V_if_eq (pc := 15) C 38 hr4 dX12_isStored_15 (by decide) (fun c15_6 => ?_) (fun c15_6 => ?_)
  · have h := ite_t h c15_6
    refine V_iconst (pc := 38) C dX12_isStored_38 ?_
    exact V_zret (pc := 39) C hr hlk (by decide) h dX12_isStored_39
  · have h := ite_f h c15_6
    refine V_aload_n (pc := 18) C 0 rfl dX12_isStored_18 ?_
    refine V_getR (pc := 19) C e52 rfl inX12 0 (by decide) rfl lf_X12_9 rfl dX12_isStored_19 ?_
    refine V_iload_n (pc := 22) C 1 rfl dX12_isStored_22 ?_
    obtain ⟨M7, r8, hc9, h⟩ := cal_of h
    refine V_callSI (pc := 23) C (c_X12_n l Γ sk hsk fu ha1 hc9) cf_X12_n lk_X12_68 ⟨rfl, rfl⟩ ⟨Nat.le_of_ble_eq_true rfl, Nat.le_of_ble_eq_true rfl⟩ rfl (Nat.le_of_ble_eq_true rfl) ⟨Nat.zero_le _, Nat.zero_le _⟩ rfl dX12_isStored_23 (fun hr8 => ?_)
    refine V_bipush (pc := 26) C dX12_isStored_26 rfl ?_
    refine V_iadd (pc := 28) C dX12_isStored_28 ?_
    refine V_rng fun hM10 => ?_
    obtain ⟨g11, h⟩ := grd_of h
    obtain ⟨g12, h⟩ := grd_of h
    refine V_iald (pc := 29) C e53 g12 g11 dX12_isStored_29 ?_
    refine V_iconst (pc := 30) C dX12_isStored_30 ?_
    refine V_icmp_ne (pc := 31) C 38 (hM10 _ _) (by decide) dX12_isStored_31 (by decide) (fun c31_13 => ?_) (fun c31_13 => ?_)
    · have h := ite_f h c31_13
      refine V_iconst (pc := 38) C dX12_isStored_38 ?_
      exact V_zret (pc := 39) C hr hlk (by decide) h dX12_isStored_39
    · have h := ite_t h c31_13
      refine V_iconst (pc := 34) C dX12_isStored_34 ?_
      refine V_goto (pc := 35) C 39 dX12_isStored_35 (by decide) ?_
      exact V_zret (pc := 39) C hr hlk (by decide) h dX12_isStored_39
set_option maxRecDepth 100000 in
set_option maxHeartbeats 4000000 in
theorem c_X12_countStored (l : Launch) (Γ : GG) (sk : List SD) (hsk : ExtM sk) (fu : Nat) {M M' : Mem}  {r : Int}  (h : f_X12_countStored fu M  = some (M', r)) : MetI l yX12_countStored cX12_countStored 3 .int ({ frames := 2, cells := 0, slots := 0, locals := 46 } : Room) Γ sk [vr Γ 52] M M' r := by
  unfold f_X12_countStored at h
  refine MetI_of RX12 rfl (by decide) rfl (Nat.le_of_ble_eq_true rfl) rfl ?_
  intro p e s m args below meth c C hr hlk hM
  have e52 := hsk 52 _ (by decide) rfl
  have e53 := hsk 53 _ (by decide) rfl
  have LP4 : ∀ (n : Nat) {x1 : Int} {x2 : Int} {M : Mem}, rng x1 → rng x2 → f_X12_countStored_L4 fu n x1 x2 M = some (M', r) → VV p l e ({ frames := 2, cells := 0, slots := 0, locals := 46 } : Room) s m args below meth c (MQ below (PostI Γ sk M' r s.heap.size) args s 0 0 (Fr Γ sk s.heap.size)) 3 Γ sk M 0 0 4 [(0, vr Γ 52), (1, vi x1), (2, vi x2)] [] := by
    intro n
    induction n with
    | zero =>
      intro x1 x2 M hx1 hx2 h
      cases h
    | succ n ih =>
      intro x1 x2 M hx1 hx2 h
      rw [f_X12_countStored_L4] at h
      refine V_iload_n (pc := 4) C 2 rfl dX12_countStored_4 ?_
      refine V_aload_n (pc := 5) C 0 rfl dX12_countStored_5 ?_
      refine V_getR (pc := 6) C e52 rfl inX12 0 (by decide) rfl lf_X12_9 rfl dX12_countStored_6 ?_
      refine V_iconst (pc := 9) C dX12_countStored_9 ?_
      refine V_rng fun hM1 => ?_
      obtain ⟨g2, h⟩ := grd_of h
      refine V_iald (pc := 10) C e53 g2 (by decide) dX12_countStored_10 ?_
      refine V_icmp_ge (pc := 11) C 31 hx2 (hM1 _ _) dX12_countStored_11 (by decide) (fun c11_3 => ?_) (fun c11_3 => ?_)
      · have h := ite_t h c11_3
        refine V_iload_n (pc := 31) C 1 rfl dX12_countStored_31 ?_
        exact V_iret (pc := 32) C hr hlk hx1 h dX12_countStored_32
      · have h := ite_f h c11_3
        refine V_iload_n (pc := 14) C 1 rfl dX12_countStored_14 ?_
        refine V_aload_n (pc := 15) C 0 rfl dX12_countStored_15 ?_
        refine V_iload_n (pc := 16) C 2 rfl dX12_countStored_16 ?_
        obtain ⟨M4, r5, hc6, h⟩ := cal_of h
        refine V_callVI (pc := 17) C (c_X12_isStored l Γ sk hsk fu hx2 hc6) cf_X12_isStored lk_X12_171 ⟨rfl, rfl⟩ ⟨Nat.le_of_ble_eq_true rfl, Nat.le_of_ble_eq_true rfl⟩ e52 rfl rfl rfl (Nat.le_of_ble_eq_true rfl) ⟨Nat.zero_le _, Nat.zero_le _⟩ rfl dX12_countStored_17 (fun hr5 => ?_)
        obtain ⟨M7, r8, hc9, h⟩ := cal_of h
        refine V_callSI (pc := 20) C (c_X12_one l Γ sk hsk fu hr5 hc9) cf_X12_one lk_X12_75 ⟨rfl, rfl⟩ ⟨Nat.le_of_ble_eq_true rfl, Nat.le_of_ble_eq_true rfl⟩ rfl (Nat.le_of_ble_eq_true rfl) ⟨Nat.zero_le _, Nat.zero_le _⟩ rfl dX12_countStored_20 (fun hr8 => ?_)
        refine V_iadd (pc := 23) C dX12_countStored_23 ?_
        refine V_istore_n (pc := 24) C (L' := [(0, vr Γ 52), (1, vi (x1 + r8)), (2, vi x2)]) rfl (by decide) dX12_countStored_24 ?_
        refine V_iinc (pc := 25) C (L' := [(0, vr Γ 52), (1, vi (x1 + r8)), (2, vi (x2 + (1 : Int)))]) 2 rfl rfl (by decide) dX12_countStored_25 ?_
        refine V_goto (pc := 28) C 4 dX12_countStored_28 (by decide) ?_
        obtain ⟨g10, h⟩ := grd_of h
        obtain ⟨g11, h⟩ := grd_of h
        refine V_sub (L' := [(0, vr Γ 52), (1, vi (x1 + r8)), (2, vi (x2 + (1 : Int)))]) [0, 1, 2] rfl (by decide) ?_
        exact ih g10 g11 h
  skip
  refine V_iconst (pc := 0) C dX12_countStored_0 ?_
  refine V_istore_n (pc := 1) C (L' := [(0, vr Γ 52), (1, vi (0 : Int))]) rfl (by decide) dX12_countStored_1 ?_
  refine V_iconst (pc := 2) C dX12_countStored_2 ?_
  refine V_istore_n (pc := 3) C (L' := [(0, vr Γ 52), (1, vi (0 : Int)), (2, vi (0 : Int))]) rfl (by decide) dX12_countStored_3 ?_
  refine V_sub (L' := [(0, vr Γ 52), (1, vi (0 : Int)), (2, vi (0 : Int))]) [0, 1, 2] rfl (by decide) ?_
  exact LP4 fu  (by decide) (by decide) h
set_option maxRecDepth 100000 in
set_option maxHeartbeats 4000000 in
theorem c_X12_countGarbage (l : Launch) (Γ : GG) (sk : List SD) (hsk : ExtM sk) (fu : Nat) {M M' : Mem}  {r : Int}  (h : f_X12_countGarbage fu M  = some (M', r)) : MetI l yX12_countGarbage cX12_countGarbage 3 .int ({ frames := 29, cells := 0, slots := 0, locals := 961 } : Room) Γ sk [vr Γ 52] M M' r := by
  unfold f_X12_countGarbage at h
  refine MetI_of RX12 rfl (by decide) rfl (Nat.le_of_ble_eq_true rfl) rfl ?_
  intro p e s m args below meth c C hr hlk hM
  have e52 := hsk 52 _ (by decide) rfl
  have e53 := hsk 53 _ (by decide) rfl
  have e60 := hsk 60 _ (by decide) rfl
  have LP8 : ∀ (n : Nat) {x1 : Int} {x2 : Int} {M : Mem}, rng x1 → rng x2 → f_X12_countGarbage_L8 fu n x1 x2 M = some (M', r) → VV p l e ({ frames := 29, cells := 0, slots := 0, locals := 961 } : Room) s m args below meth c (MQ below (PostI Γ sk M' r s.heap.size) args s 0 0 (Fr Γ sk s.heap.size)) 3 Γ sk M 0 0 8 [(0, vr Γ 52), (1, vi x1), (2, vi x2)] [] := by
    intro n
    induction n with
    | zero =>
      intro x1 x2 M hx1 hx2 h
      cases h
    | succ n ih =>
      intro x1 x2 M hx1 hx2 h
      rw [f_X12_countGarbage_L8] at h
      refine V_iload_n (pc := 8) C 2 rfl dX12_countGarbage_8 ?_
      refine V_aload_n (pc := 9) C 0 rfl dX12_countGarbage_9 ?_
      refine V_getR (pc := 10) C e52 rfl inX12 0 (by decide) rfl lf_X12_9 rfl dX12_countGarbage_10 ?_
      refine V_iconst (pc := 13) C dX12_countGarbage_13 ?_
      refine V_rng fun hM4 => ?_
      obtain ⟨g5, h⟩ := grd_of h
      refine V_iald (pc := 14) C e53 g5 (by decide) dX12_countGarbage_14 ?_
      refine V_icmp_ge (pc := 15) C 52 hx2 (hM4 _ _) dX12_countGarbage_15 (by decide) (fun c15_6 => ?_) (fun c15_6 => ?_)
      · have h := ite_t h c15_6
        refine V_iload_n (pc := 52) C 1 rfl dX12_countGarbage_52 ?_
        exact V_iret (pc := 53) C hr hlk hx1 h dX12_countGarbage_53
      · have h := ite_f h c15_6
        refine V_iload_n (pc := 18) C 1 rfl dX12_countGarbage_18 ?_
        refine V_aload_n (pc := 19) C 0 rfl dX12_countGarbage_19 ?_
        refine V_iload_n (pc := 20) C 2 rfl dX12_countGarbage_20 ?_
        obtain ⟨M7, r8, hc9, h⟩ := cal_of h
        refine V_callVI (pc := 21) C (c_X12_isStored l Γ sk hsk fu hx2 hc9) cf_X12_isStored lk_X12_171 ⟨rfl, rfl⟩ ⟨Nat.le_of_ble_eq_true rfl, Nat.le_of_ble_eq_true rfl⟩ e52 rfl rfl rfl (Nat.le_of_ble_eq_true rfl) ⟨Nat.zero_le _, Nat.zero_le _⟩ rfl dX12_countGarbage_21 (fun hr8 => ?_)
        refine V_if_eq (pc := 24) C 40 hr8 dX12_countGarbage_24 (by decide) (fun c24_10 => ?_) (fun c24_10 => ?_)
        · have h := ite_t h c24_10
          refine V_iconst (pc := 40) C dX12_countGarbage_40 ?_
          obtain ⟨M11, r12, hc13, h⟩ := cal_of h
          refine V_callSI (pc := 41) C (c_X12_one l Γ sk hsk fu (by decide) hc13) cf_X12_one lk_X12_75 ⟨rfl, rfl⟩ ⟨Nat.le_of_ble_eq_true rfl, Nat.le_of_ble_eq_true rfl⟩ rfl (Nat.le_of_ble_eq_true rfl) ⟨Nat.zero_le _, Nat.zero_le _⟩ rfl dX12_countGarbage_41 (fun hr12 => ?_)
          refine V_iadd (pc := 44) C dX12_countGarbage_44 ?_
          refine V_istore_n (pc := 45) C (L' := [(0, vr Γ 52), (1, vi (x1 + r12)), (2, vi x2)]) rfl (by decide) dX12_countGarbage_45 ?_
          refine V_iinc (pc := 46) C (L' := [(0, vr Γ 52), (1, vi (x1 + r12)), (2, vi (x2 + (1 : Int)))]) 2 rfl rfl (by decide) dX12_countGarbage_46 ?_
          refine V_goto (pc := 49) C 8 dX12_countGarbage_49 (by decide) ?_
          obtain ⟨g14, h⟩ := grd_of h
          obtain ⟨g15, h⟩ := grd_of h
          refine V_sub (L' := [(0, vr Γ 52), (1, vi (x1 + r12)), (2, vi (x2 + (1 : Int)))]) [0, 1, 2] rfl (by decide) ?_
          exact ih g14 g15 h
        · have h := ite_f h c24_10
          refine V_aload_n (pc := 27) C 0 rfl dX12_countGarbage_27 ?_
          refine V_getR (pc := 28) C e52 rfl inX12 11 (by decide) rfl lf_X12_32 rfl dX12_countGarbage_28 ?_
          refine V_iload_n (pc := 31) C 2 rfl dX12_countGarbage_31 ?_
          refine V_rng fun hM16 => ?_
          obtain ⟨g17, h⟩ := grd_of h
          refine V_iald (pc := 32) C e60 g17 hx2 dX12_countGarbage_32 ?_
          refine V_if_ne (pc := 33) C 40 (hM16 _ _) dX12_countGarbage_33 (by decide) (fun c33_18 => ?_) (fun c33_18 => ?_)
          · have h := ite_f h c33_18
            refine V_iconst (pc := 40) C dX12_countGarbage_40 ?_
            obtain ⟨M19, r20, hc21, h⟩ := cal_of h
            refine V_callSI (pc := 41) C (c_X12_one l Γ sk hsk fu (by decide) hc21) cf_X12_one lk_X12_75 ⟨rfl, rfl⟩ ⟨Nat.le_of_ble_eq_true rfl, Nat.le_of_ble_eq_true rfl⟩ rfl (Nat.le_of_ble_eq_true rfl) ⟨Nat.zero_le _, Nat.zero_le _⟩ rfl dX12_countGarbage_41 (fun hr20 => ?_)
            refine V_iadd (pc := 44) C dX12_countGarbage_44 ?_
            refine V_istore_n (pc := 45) C (L' := [(0, vr Γ 52), (1, vi (x1 + r20)), (2, vi x2)]) rfl (by decide) dX12_countGarbage_45 ?_
            refine V_iinc (pc := 46) C (L' := [(0, vr Γ 52), (1, vi (x1 + r20)), (2, vi (x2 + (1 : Int)))]) 2 rfl rfl (by decide) dX12_countGarbage_46 ?_
            refine V_goto (pc := 49) C 8 dX12_countGarbage_49 (by decide) ?_
            obtain ⟨g22, h⟩ := grd_of h
            obtain ⟨g23, h⟩ := grd_of h
            refine V_sub (L' := [(0, vr Γ 52), (1, vi (x1 + r20)), (2, vi (x2 + (1 : Int)))]) [0, 1, 2] rfl (by decide) ?_
            exact ih g22 g23 h
          · have h := ite_t h c33_18
            refine V_iconst (pc := 36) C dX12_countGarbage_36 ?_
            refine V_goto (pc := 37) C 41 dX12_countGarbage_37 (by decide) ?_
            obtain ⟨M24, r25, hc26, h⟩ := cal_of h
            refine V_callSI (pc := 41) C (c_X12_one l Γ sk hsk fu (by decide) hc26) cf_X12_one lk_X12_75 ⟨rfl, rfl⟩ ⟨Nat.le_of_ble_eq_true rfl, Nat.le_of_ble_eq_true rfl⟩ rfl (Nat.le_of_ble_eq_true rfl) ⟨Nat.zero_le _, Nat.zero_le _⟩ rfl dX12_countGarbage_41 (fun hr25 => ?_)
            refine V_iadd (pc := 44) C dX12_countGarbage_44 ?_
            refine V_istore_n (pc := 45) C (L' := [(0, vr Γ 52), (1, vi (x1 + r25)), (2, vi x2)]) rfl (by decide) dX12_countGarbage_45 ?_
            refine V_iinc (pc := 46) C (L' := [(0, vr Γ 52), (1, vi (x1 + r25)), (2, vi (x2 + (1 : Int)))]) 2 rfl rfl (by decide) dX12_countGarbage_46 ?_
            refine V_goto (pc := 49) C 8 dX12_countGarbage_49 (by decide) ?_
            obtain ⟨g27, h⟩ := grd_of h
            obtain ⟨g28, h⟩ := grd_of h
            refine V_sub (L' := [(0, vr Γ 52), (1, vi (x1 + r25)), (2, vi (x2 + (1 : Int)))]) [0, 1, 2] rfl (by decide) ?_
            exact ih g27 g28 h
  skip
  refine V_aload_n (pc := 0) C 0 rfl dX12_countGarbage_0 ?_
  obtain ⟨M1, r2, hc3, h⟩ := cal_of h
  refine V_callVV (pc := 1) C (c_X12_reachAll l Γ sk hsk fu hc3) cf_X12_reachAll lk_X12_174 ⟨rfl, rfl⟩ ⟨Nat.le_of_ble_eq_true rfl, Nat.le_of_ble_eq_true rfl⟩ e52 rfl rfl rfl (Nat.le_of_ble_eq_true rfl) ⟨Nat.zero_le _, Nat.zero_le _⟩ rfl dX12_countGarbage_1 ?_
  refine V_iconst (pc := 4) C dX12_countGarbage_4 ?_
  refine V_istore_n (pc := 5) C (L' := [(0, vr Γ 52), (1, vi (0 : Int))]) rfl (by decide) dX12_countGarbage_5 ?_
  refine V_iconst (pc := 6) C dX12_countGarbage_6 ?_
  refine V_istore_n (pc := 7) C (L' := [(0, vr Γ 52), (1, vi (0 : Int)), (2, vi (0 : Int))]) rfl (by decide) dX12_countGarbage_7 ?_
  refine V_sub (L' := [(0, vr Γ 52), (1, vi (0 : Int)), (2, vi (0 : Int))]) [0, 1, 2] rfl (by decide) ?_
  exact LP8 fu  (by decide) (by decide) h
set_option maxRecDepth 100000 in
set_option maxHeartbeats 4000000 in
theorem c_X12_releaseVersion (l : Launch) (Γ : GG) (sk : List SD) (hsk : ExtM sk) (fu : Nat) {M M' : Mem} {a1 : Int} {r : Int} (ha1 : rng a1) (h : f_X12_releaseVersion fu M a1 = some (M', r)) : MetI l yX12_releaseVersion cX12_releaseVersion 2 .int ({ frames := 30, cells := 0, slots := 0, locals := 983 } : Room) Γ sk [vr Γ 52, vi a1] M M' r := by
  unfold f_X12_releaseVersion at h
  refine MetI_of RX12 rfl (by decide) rfl (Nat.le_of_ble_eq_true rfl) rfl ?_
  intro p e s m args below meth c C hr hlk hM
  have e52 := hsk 52 _ (by decide) rfl
  have e53 := hsk 53 _ (by decide) rfl
  refine V_aload_n (pc := 0) C 0 rfl dX12_releaseVersion_0 ?_
  refine V_getR (pc := 1) C e52 rfl inX12 0 (by decide) rfl lf_X12_9 rfl dX12_releaseVersion_1 ?_
  refine V_iload_n (pc := 4) C 1 rfl dX12_releaseVersion_4 ?_
  obtain ⟨M1, r2, hc3, h⟩ := cal_of h
  refine V_callSI (pc := 5) C (c_X12_v l Γ sk hsk fu ha1 hc3) cf_X12_v lk_X12_112 ⟨rfl, rfl⟩ ⟨Nat.le_of_ble_eq_true rfl, Nat.le_of_ble_eq_true rfl⟩ rfl (Nat.le_of_ble_eq_true rfl) ⟨Nat.zero_le _, Nat.zero_le _⟩ rfl dX12_releaseVersion_5 (fun hr2 => ?_)
  refine V_iconst (pc := 8) C dX12_releaseVersion_8 ?_
  refine V_iadd (pc := 9) C dX12_releaseVersion_9 ?_
  refine V_iconst (pc := 10) C dX12_releaseVersion_10 ?_
  obtain ⟨g4, h⟩ := grd_of h
  obtain ⟨g5, h⟩ := grd_of h
  refine V_iast (pc := 11) C (by decide) e53 g5 g4 (by decide) dX12_releaseVersion_11 ?_
  refine V_aload_n (pc := 12) C 0 rfl dX12_releaseVersion_12 ?_
  obtain ⟨M6, r7, hc8, h⟩ := cal_of h
  refine V_callVI (pc := 13) C (c_X12_countGarbage l Γ sk hsk fu hc8) cf_X12_countGarbage lk_X12_177 ⟨rfl, rfl⟩ ⟨Nat.le_of_ble_eq_true rfl, Nat.le_of_ble_eq_true rfl⟩ e52 rfl rfl rfl (Nat.le_of_ble_eq_true rfl) ⟨Nat.zero_le _, Nat.zero_le _⟩ rfl dX12_releaseVersion_13 (fun hr7 => ?_)
  exact V_iret (pc := 16) C hr hlk hr7 h dX12_releaseVersion_16
set_option maxRecDepth 100000 in
set_option maxHeartbeats 4000000 in
theorem c_X12_collectAll (l : Launch) (Γ : GG) (sk : List SD) (hsk : ExtM sk) (fu : Nat) {M M' : Mem}  {r : Int}  (h : f_X12_collectAll fu M  = some (M', r)) : MetI l yX12_collectAll cX12_collectAll 3 .int ({ frames := 30, cells := 0, slots := 0, locals := 983 } : Room) Γ sk [vr Γ 52] M M' r := by
  unfold f_X12_collectAll at h
  refine MetI_of RX12 rfl (by decide) rfl (Nat.le_of_ble_eq_true rfl) rfl ?_
  intro p e s m args below meth c C hr hlk hM
  have e52 := hsk 52 _ (by decide) rfl
  have e53 := hsk 53 _ (by decide) rfl
  have e60 := hsk 60 _ (by decide) rfl
  have LP7 : ∀ (n : Nat) {x1 : Int} {x2 : Int} {M : Mem}, rng x1 → rng x2 → f_X12_collectAll_L7 fu n x1 x2 M = some (M', r) → VV p l e ({ frames := 30, cells := 0, slots := 0, locals := 983 } : Room) s m args below meth c (MQ below (PostI Γ sk M' r s.heap.size) args s 0 0 (Fr Γ sk s.heap.size)) 3 Γ sk M 0 0 7 [(0, vr Γ 52), (1, vi x1), (2, vi x2)] [] := by
    intro n
    induction n with
    | zero =>
      intro x1 x2 M hx1 hx2 h
      cases h
    | succ n ih =>
      intro x1 x2 M hx1 hx2 h
      rw [f_X12_collectAll_L7] at h
      refine V_iload_n (pc := 7) C 2 rfl dX12_collectAll_7 ?_
      refine V_aload_n (pc := 8) C 0 rfl dX12_collectAll_8 ?_
      refine V_getR (pc := 9) C e52 rfl inX12 0 (by decide) rfl lf_X12_9 rfl dX12_collectAll_9 ?_
      refine V_iconst (pc := 12) C dX12_collectAll_12 ?_
      refine V_rng fun hM4 => ?_
      obtain ⟨g5, h⟩ := grd_of h
      refine V_iald (pc := 13) C e53 g5 (by decide) dX12_collectAll_13 ?_
      refine V_icmp_ge (pc := 14) C 45 hx2 (hM4 _ _) dX12_collectAll_14 (by decide) (fun c14_6 => ?_) (fun c14_6 => ?_)
      · have h := ite_t h c14_6
        refine V_iload_n (pc := 45) C 1 rfl dX12_collectAll_45 ?_
        exact V_iret (pc := 46) C hr hlk hx1 h dX12_collectAll_46
      · have h := ite_f h c14_6
        refine V_aload_n (pc := 17) C 0 rfl dX12_collectAll_17 ?_
        refine V_getR (pc := 18) C e52 rfl inX12 11 (by decide) rfl lf_X12_32 rfl dX12_collectAll_18 ?_
        refine V_iload_n (pc := 21) C 2 rfl dX12_collectAll_21 ?_
        obtain ⟨g7, h⟩ := grd_of h
        refine V_iald (pc := 22) C e60 g7 hx2 dX12_collectAll_22 ?_
        refine V_if_ne (pc := 23) C 39 (hM4 _ _) dX12_collectAll_23 (by decide) (fun c23_8 => ?_) (fun c23_8 => ?_)
        · have h := ite_f h c23_8
          refine V_iinc (pc := 39) C (L' := [(0, vr Γ 52), (1, vi x1), (2, vi (x2 + (1 : Int)))]) 2 rfl rfl (by decide) dX12_collectAll_39 ?_
          refine V_goto (pc := 42) C 7 dX12_collectAll_42 (by decide) ?_
          obtain ⟨g9, h⟩ := grd_of h
          refine V_sub (L' := [(0, vr Γ 52), (1, vi x1), (2, vi (x2 + (1 : Int)))]) [0, 1, 2] rfl (by decide) ?_
          exact ih hx1 g9 h
        · have h := ite_t h c23_8
          refine V_aload_n (pc := 26) C 0 rfl dX12_collectAll_26 ?_
          refine V_getR (pc := 27) C e52 rfl inX12 0 (by decide) rfl lf_X12_9 rfl dX12_collectAll_27 ?_
          refine V_iload_n (pc := 30) C 2 rfl dX12_collectAll_30 ?_
          obtain ⟨M10, r11, hc12, h⟩ := cal_of h
          refine V_callSI (pc := 31) C (c_X12_n l Γ sk hsk fu hx2 hc12) cf_X12_n lk_X12_68 ⟨rfl, rfl⟩ ⟨Nat.le_of_ble_eq_true rfl, Nat.le_of_ble_eq_true rfl⟩ rfl (Nat.le_of_ble_eq_true rfl) ⟨Nat.zero_le _, Nat.zero_le _⟩ rfl dX12_collectAll_31 (fun hr11 => ?_)
          refine V_bipush (pc := 34) C dX12_collectAll_34 rfl ?_
          refine V_iadd (pc := 36) C dX12_collectAll_36 ?_
          refine V_iconst (pc := 37) C dX12_collectAll_37 ?_
          obtain ⟨g13, h⟩ := grd_of h
          obtain ⟨g14, h⟩ := grd_of h
          refine V_iast (pc := 38) C (by decide) e53 g14 g13 (by decide) dX12_collectAll_38 ?_
          refine V_iinc (pc := 39) C (L' := [(0, vr Γ 52), (1, vi x1), (2, vi (x2 + (1 : Int)))]) 2 rfl rfl (by decide) dX12_collectAll_39 ?_
          refine V_goto (pc := 42) C 7 dX12_collectAll_42 (by decide) ?_
          obtain ⟨g15, h⟩ := grd_of h
          refine V_sub (L' := [(0, vr Γ 52), (1, vi x1), (2, vi (x2 + (1 : Int)))]) [0, 1, 2] rfl (by decide) ?_
          exact ih hx1 g15 h
  skip
  refine V_aload_n (pc := 0) C 0 rfl dX12_collectAll_0 ?_
  obtain ⟨M1, r2, hc3, h⟩ := cal_of h
  refine V_callVI (pc := 1) C (c_X12_countGarbage l Γ sk hsk fu hc3) cf_X12_countGarbage lk_X12_177 ⟨rfl, rfl⟩ ⟨Nat.le_of_ble_eq_true rfl, Nat.le_of_ble_eq_true rfl⟩ e52 rfl rfl rfl (Nat.le_of_ble_eq_true rfl) ⟨Nat.zero_le _, Nat.zero_le _⟩ rfl dX12_collectAll_1 (fun hr2 => ?_)
  refine V_istore_n (pc := 4) C (L' := [(0, vr Γ 52), (1, vi r2)]) rfl (by decide) dX12_collectAll_4 ?_
  refine V_iconst (pc := 5) C dX12_collectAll_5 ?_
  refine V_istore_n (pc := 6) C (L' := [(0, vr Γ 52), (1, vi r2), (2, vi (0 : Int))]) rfl (by decide) dX12_collectAll_6 ?_
  refine V_sub (L' := [(0, vr Γ 52), (1, vi r2), (2, vi (0 : Int))]) [0, 1, 2] rfl (by decide) ?_
  exact LP7 fu  hr2 (by decide) h
set_option maxRecDepth 100000 in
set_option maxHeartbeats 4000000 in
theorem c_X12_appendWord (l : Launch) (Γ : GG) (sk : List SD) (hsk : ExtM sk) (fu : Nat) {M M' : Mem} {a1 : Int} {r : Int} (ha1 : rng a1) (h : f_X12_appendWord fu M a1 = some (M', r)) : MetV l yX12_appendWord cX12_appendWord 3 ({ frames := 0, cells := 0, slots := 0, locals := 0 } : Room) Γ sk [vr Γ 52, vi a1] M M' := by
  unfold f_X12_appendWord at h
  refine MetV_of RX12 rfl (by decide) rfl (Nat.le_of_ble_eq_true rfl) rfl ?_
  intro p e s m args below meth c C hr hlk hM
  have e52 := hsk 52 _ (by decide) rfl
  have e61 := hsk 61 _ (by decide) rfl
  have LP2 : ∀ (n : Nat) {x1 : Int} {x2 : Int} {M : Mem}, rng x1 → rng x2 → f_X12_appendWord_L2 fu n x1 x2 M = some (M', r) → VV p l e ({ frames := 0, cells := 0, slots := 0, locals := 0 } : Room) s m args below meth c (MQ below (PostV Γ sk M' s.heap.size) args s 0 0 (Fr Γ sk s.heap.size)) 3 Γ sk M 0 0 2 [(0, vr Γ 52), (1, vi x1), (2, vi x2)] [] := by
    intro n
    induction n with
    | zero =>
      intro x1 x2 M hx1 hx2 h
      cases h
    | succ n ih =>
      intro x1 x2 M hx1 hx2 h
      rw [f_X12_appendWord_L2] at h
      refine V_iload_n (pc := 2) C 2 rfl dX12_appendWord_2 ?_
      refine V_if_lt (pc := 3) C 38 hx2 dX12_appendWord_3 (by decide) (fun c3_1 => ?_) (fun c3_1 => ?_)
      · have h := ite_t h c3_1
        exact V_vret (pc := 38) C hr hlk h dX12_appendWord_38
      · have h := ite_f h c3_1
        refine V_aload_n (pc := 6) C 0 rfl dX12_appendWord_6 ?_
        refine V_getR (pc := 7) C e52 rfl inX12 12 (by decide) rfl lf_X12_35 rfl dX12_appendWord_7 ?_
        refine V_aload_n (pc := 10) C 0 rfl dX12_appendWord_10 ?_
        refine V_rng fun hM2 => ?_
        refine V_getI (pc := 11) C e52 rfl inX12 13 (by decide) rfl lf_X12_180 rfl dX12_appendWord_11 ?_
        refine V_iload_n (pc := 14) C 1 rfl dX12_appendWord_14 ?_
        refine V_bipush (pc := 15) C dX12_appendWord_15 rfl ?_
        refine V_iload_n (pc := 17) C 2 rfl dX12_appendWord_17 ?_
        refine V_imul (pc := 18) C dX12_appendWord_18 ?_
        obtain ⟨g3, h⟩ := grd_of h
        refine V_ishr (pc := 19) C (y := (8 : Int) * x2) hx1 g3 dX12_appendWord_19 ?_
        obtain ⟨g4, h⟩ := grd_of h
        refine V_i2b (pc := 20) C g4 dX12_appendWord_20 ?_
        obtain ⟨g5, h⟩ := grd_of h
        obtain ⟨g6, h⟩ := grd_of h
        refine V_bast (pc := 21) C (by decide) e61 g5 (hM2 _ _) g6 dX12_appendWord_21 ?_
        refine V_aload_n (pc := 22) C 0 rfl dX12_appendWord_22 ?_
        refine V_dup (pc := 23) C rfl dX12_appendWord_23 ?_
        refine V_rng fun hM7 => ?_
        refine V_getI (pc := 24) C e52 rfl inX12 13 (by decide) rfl lf_X12_180 rfl dX12_appendWord_24 ?_
        refine V_iconst (pc := 27) C dX12_appendWord_27 ?_
        refine V_iadd (pc := 28) C dX12_appendWord_28 ?_
        obtain ⟨g8, h⟩ := grd_of h
        refine V_putI (pc := 29) C (by decide) e52 rfl inX12 tyX12 tyX12_ok nmX12 13 (by decide) rfl rfl lf_X12_180 rfl g8 rfl dX12_appendWord_29 ?_
        refine V_iinc (pc := 32) C (L' := [(0, vr Γ 52), (1, vi x1), (2, vi (x2 + (-1 : Int)))]) 2 rfl rfl (by decide) dX12_appendWord_32 ?_
        refine V_goto (pc := 35) C 2 dX12_appendWord_35 (by decide) ?_
        obtain ⟨g9, h⟩ := grd_of h
        refine V_sub (L' := [(0, vr Γ 52), (1, vi x1), (2, vi (x2 + (-1 : Int)))]) [0, 1, 2] rfl (by decide) ?_
        exact ih hx1 g9 h
  skip
  refine V_iconst (pc := 0) C dX12_appendWord_0 ?_
  refine V_istore_n (pc := 1) C (L' := [(0, vr Γ 52), (1, vi a1), (2, vi (3 : Int))]) rfl (by decide) dX12_appendWord_1 ?_
  refine V_sub (L' := [(0, vr Γ 52), (1, vi a1), (2, vi (3 : Int))]) [0, 1, 2] rfl (by decide) ?_
  exact LP2 fu  ha1 (by decide) h
set_option maxRecDepth 100000 in
set_option maxHeartbeats 4000000 in
theorem c_X12_appendInput (l : Launch) (Γ : GG) (sk : List SD) (hsk : ExtM sk) (fu : Nat) {M M' : Mem} {a1 : Int} {a2 : Int} {a3 : Int} {a4 : Int} {a5 : Int} {r : Int} (ha1 : rng a1) (ha2 : rng a2) (ha3 : rng a3) (ha4 : rng a4) (ha5 : rng a5) (h : f_X12_appendInput fu M a1 a2 a3 a4 a5 = some (M', r)) : MetI l yX12_appendInput cX12_appendInput 6 .int ({ frames := 1, cells := 0, slots := 0, locals := 22 } : Room) Γ sk [vr Γ 52, vi a1, vi a2, vi a3, vi a4, vi a5] M M' r := by
  unfold f_X12_appendInput at h
  refine MetI_of RX12 rfl (by decide) rfl (Nat.le_of_ble_eq_true rfl) rfl ?_
  intro p e s m args below meth c C hr hlk hM
  have e52 := hsk 52 _ (by decide) rfl
  refine V_aload_n (pc := 0) C 0 rfl dX12_appendInput_0 ?_
  refine V_iconst (pc := 1) C dX12_appendInput_1 ?_
  refine V_putI (pc := 2) C (by decide) e52 rfl inX12 tyX12 tyX12_ok nmX12 6 (by decide) rfl rfl lf_X12_58 rfl (by decide) rfl dX12_appendInput_2 ?_
  refine V_aload_n (pc := 5) C 0 rfl dX12_appendInput_5 ?_
  refine V_rng fun hM1 => ?_
  refine V_getI (pc := 6) C e52 rfl inX12 13 (by decide) rfl lf_X12_180 rfl dX12_appendInput_6 ?_
  refine V_sipush (pc := 9) C dX12_appendInput_9 rfl ?_
  refine V_icmp_le (pc := 12) C 17 (hM1 _ _) (by decide) dX12_appendInput_12 (by decide) (fun c12_2 => ?_) (fun c12_2 => ?_)
  · have h := ite_t h c12_2
    refine V_aload_n (pc := 17) C 0 rfl dX12_appendInput_17 ?_
    refine V_iload_n (pc := 18) C 1 rfl dX12_appendInput_18 ?_
    obtain ⟨M3, r4, hc5, h⟩ := cal_of h
    refine V_callVV (pc := 19) C (c_X12_appendWord l Γ sk hsk fu ha1 hc5) cf_X12_appendWord lk_X12_183 ⟨rfl, rfl⟩ ⟨Nat.le_of_ble_eq_true rfl, Nat.le_of_ble_eq_true rfl⟩ e52 rfl rfl rfl (Nat.le_of_ble_eq_true rfl) ⟨Nat.zero_le _, Nat.zero_le _⟩ rfl dX12_appendInput_19 ?_
    refine V_aload_n (pc := 22) C 0 rfl dX12_appendInput_22 ?_
    refine V_iload_n (pc := 23) C 2 rfl dX12_appendInput_23 ?_
    obtain ⟨M6, r7, hc8, h⟩ := cal_of h
    refine V_callVV (pc := 24) C (c_X12_appendWord l Γ sk hsk fu ha2 hc8) cf_X12_appendWord lk_X12_183 ⟨rfl, rfl⟩ ⟨Nat.le_of_ble_eq_true rfl, Nat.le_of_ble_eq_true rfl⟩ e52 rfl rfl rfl (Nat.le_of_ble_eq_true rfl) ⟨Nat.zero_le _, Nat.zero_le _⟩ rfl dX12_appendInput_24 ?_
    refine V_aload_n (pc := 27) C 0 rfl dX12_appendInput_27 ?_
    refine V_iload_n (pc := 28) C 3 rfl dX12_appendInput_28 ?_
    obtain ⟨M9, r10, hc11, h⟩ := cal_of h
    refine V_callVV (pc := 29) C (c_X12_appendWord l Γ sk hsk fu ha3 hc11) cf_X12_appendWord lk_X12_183 ⟨rfl, rfl⟩ ⟨Nat.le_of_ble_eq_true rfl, Nat.le_of_ble_eq_true rfl⟩ e52 rfl rfl rfl (Nat.le_of_ble_eq_true rfl) ⟨Nat.zero_le _, Nat.zero_le _⟩ rfl dX12_appendInput_29 ?_
    refine V_aload_n (pc := 32) C 0 rfl dX12_appendInput_32 ?_
    refine V_iload (pc := 33) C 4 rfl dX12_appendInput_33 ?_
    obtain ⟨M12, r13, hc14, h⟩ := cal_of h
    refine V_callVV (pc := 35) C (c_X12_appendWord l Γ sk hsk fu ha4 hc14) cf_X12_appendWord lk_X12_183 ⟨rfl, rfl⟩ ⟨Nat.le_of_ble_eq_true rfl, Nat.le_of_ble_eq_true rfl⟩ e52 rfl rfl rfl (Nat.le_of_ble_eq_true rfl) ⟨Nat.zero_le _, Nat.zero_le _⟩ rfl dX12_appendInput_35 ?_
    refine V_aload_n (pc := 38) C 0 rfl dX12_appendInput_38 ?_
    refine V_iload (pc := 39) C 5 rfl dX12_appendInput_39 ?_
    obtain ⟨M15, r16, hc17, h⟩ := cal_of h
    refine V_callVV (pc := 41) C (c_X12_appendWord l Γ sk hsk fu ha5 hc17) cf_X12_appendWord lk_X12_183 ⟨rfl, rfl⟩ ⟨Nat.le_of_ble_eq_true rfl, Nat.le_of_ble_eq_true rfl⟩ e52 rfl rfl rfl (Nat.le_of_ble_eq_true rfl) ⟨Nat.zero_le _, Nat.zero_le _⟩ rfl dX12_appendInput_41 ?_
    refine V_aload_n (pc := 44) C 0 rfl dX12_appendInput_44 ?_
    refine V_rng fun hM18 => ?_
    refine V_getI (pc := 45) C e52 rfl inX12 13 (by decide) rfl lf_X12_180 rfl dX12_appendInput_45 ?_
    exact V_iret (pc := 48) C hr hlk (hM18 _ _) h dX12_appendInput_48
  · have h := ite_f h c12_2
    refine V_iconst (pc := 15) C dX12_appendInput_15 ?_
    exact V_iret (pc := 16) C hr hlk (by decide) h dX12_appendInput_16
set_option maxRecDepth 100000 in
set_option maxHeartbeats 4000000 in
theorem c_X12_truncateInput (l : Launch) (Γ : GG) (sk : List SD) (hsk : ExtM sk) (fu : Nat) {M M' : Mem} {a1 : Int} {r : Int} (ha1 : rng a1) (h : f_X12_truncateInput fu M a1 = some (M', r)) : MetI l yX12_truncateInput cX12_truncateInput 2 .boolean ({ frames := 1, cells := 0, slots := 0, locals := 25 } : Room) Γ sk [vr Γ 52, vi a1] M M' r := by
  unfold f_X12_truncateInput at h
  refine MetI_of RX12 rfl (by decide) rfl (Nat.le_of_ble_eq_true rfl) rfl ?_
  intro p e s m args below meth c C hr hlk hM
  have e52 := hsk 52 _ (by decide) rfl
  refine V_aload_n (pc := 0) C 0 rfl dX12_truncateInput_0 ?_
  refine V_iconst (pc := 1) C dX12_truncateInput_1 ?_
  refine V_putI (pc := 2) C (by decide) e52 rfl inX12 tyX12 tyX12_ok nmX12 6 (by decide) rfl rfl lf_X12_58 rfl (by decide) rfl dX12_truncateInput_2 ?_
  refine V_iload_n (pc := 5) C 1 rfl dX12_truncateInput_5 ?_
  refine V_i2l (pc := 6) C ha1 dX12_truncateInput_6 ?_
  refine V_lconst (pc := 7) C (x := (0 : Int)) dX12_truncateInput_7 rfl ?_
  refine V_aload_n (pc := 8) C 0 rfl dX12_truncateInput_8 ?_
  refine V_rng fun hM1 => ?_
  refine V_getI (pc := 9) C e52 rfl inX12 13 (by decide) rfl lf_X12_180 rfl dX12_truncateInput_9 ?_
  refine V_i2l (pc := 12) C (hM1 _ _) dX12_truncateInput_12 ?_
  obtain ⟨M2, r3, hc4, h⟩ := cal_of h
  refine V_callSI (pc := 13) C (c_X12_isWithin l Γ sk hsk fu ha1 (by decide) (hM1 _ _) hc4) cf_X12_isWithin lk_X12_167 ⟨rfl, rfl⟩ ⟨Nat.le_of_ble_eq_true rfl, Nat.le_of_ble_eq_true rfl⟩ rfl (Nat.le_of_ble_eq_true rfl) ⟨Nat.zero_le _, Nat.zero_le _⟩ rfl dX12_truncateInput_13 (fun hr3 => ?_)
  refine V_if_ne (pc := 16) C 21 hr3 dX12_truncateInput_16 (by decide) (fun c16_5 => ?_) (fun c16_5 => ?_)
  · have h := ite_f h c16_5
    refine V_aload_n (pc := 21) C 0 rfl dX12_truncateInput_21 ?_
    refine V_iload_n (pc := 22) C 1 rfl dX12_truncateInput_22 ?_
    refine V_putI (pc := 23) C (by decide) e52 rfl inX12 tyX12 tyX12_ok nmX12 13 (by decide) rfl rfl lf_X12_180 rfl ha1 rfl dX12_truncateInput_23 ?_
    refine V_iconst (pc := 26) C dX12_truncateInput_26 ?_
    exact V_zret (pc := 27) C hr hlk (by decide) h dX12_truncateInput_27
  · have h := ite_t h c16_5
    refine V_iconst (pc := 19) C dX12_truncateInput_19 ?_
    exact V_zret (pc := 20) C hr hlk (by decide) h dX12_truncateInput_20
set_option maxRecDepth 100000 in
set_option maxHeartbeats 4000000 in
theorem c_X12_errorCode (l : Launch) (Γ : GG) (sk : List SD) (hsk : ExtM sk) (fu : Nat) {M M' : Mem}  {r : Int}  (h : f_X12_errorCode fu M  = some (M', r)) : MetI l yX12_errorCode cX12_errorCode 1 .int ({ frames := 0, cells := 0, slots := 0, locals := 0 } : Room) Γ sk [vr Γ 52] M M' r := by
  unfold f_X12_errorCode at h
  refine MetI_of RX12 rfl (by decide) rfl (Nat.le_of_ble_eq_true rfl) rfl ?_
  intro p e s m args below meth c C hr hlk hM
  have e52 := hsk 52 _ (by decide) rfl
  refine V_aload_n (pc := 0) C 0 rfl dX12_errorCode_0 ?_
  refine V_iconst (pc := 1) C dX12_errorCode_1 ?_
  refine V_putI (pc := 2) C (by decide) e52 rfl inX12 tyX12 tyX12_ok nmX12 6 (by decide) rfl rfl lf_X12_58 rfl (by decide) rfl dX12_errorCode_2 ?_
  refine V_aload_n (pc := 5) C 0 rfl dX12_errorCode_5 ?_
  refine V_rng fun hM1 => ?_
  refine V_getI (pc := 6) C e52 rfl inX12 14 (by decide) rfl lf_X12_186 rfl dX12_errorCode_6 ?_
  exact V_iret (pc := 9) C hr hlk (hM1 _ _) h dX12_errorCode_9
set_option maxRecDepth 100000 in
set_option maxHeartbeats 4000000 in
theorem c_X12_errorOffset (l : Launch) (Γ : GG) (sk : List SD) (hsk : ExtM sk) (fu : Nat) {M M' : Mem}  {r : Int}  (h : f_X12_errorOffset fu M  = some (M', r)) : MetI l yX12_errorOffset cX12_errorOffset 1 .int ({ frames := 0, cells := 0, slots := 0, locals := 0 } : Room) Γ sk [vr Γ 52] M M' r := by
  unfold f_X12_errorOffset at h
  refine MetI_of RX12 rfl (by decide) rfl (Nat.le_of_ble_eq_true rfl) rfl ?_
  intro p e s m args below meth c C hr hlk hM
  have e52 := hsk 52 _ (by decide) rfl
  refine V_aload_n (pc := 0) C 0 rfl dX12_errorOffset_0 ?_
  refine V_iconst (pc := 1) C dX12_errorOffset_1 ?_
  refine V_putI (pc := 2) C (by decide) e52 rfl inX12 tyX12 tyX12_ok nmX12 6 (by decide) rfl rfl lf_X12_58 rfl (by decide) rfl dX12_errorOffset_2 ?_
  refine V_aload_n (pc := 5) C 0 rfl dX12_errorOffset_5 ?_
  refine V_rng fun hM1 => ?_
  refine V_getI (pc := 6) C e52 rfl inX12 15 (by decide) rfl lf_X12_39 rfl dX12_errorOffset_6 ?_
  exact V_iret (pc := 9) C hr hlk (hM1 _ _) h dX12_errorOffset_9
set_option maxRecDepth 100000 in
set_option maxHeartbeats 4000000 in
theorem c_X12_isLetter (l : Launch) (Γ : GG) (sk : List SD) (hsk : ExtM sk) (fu : Nat) {M M' : Mem} {a1 : Int} {r : Int} (ha1 : rng a1) (h : f_X12_isLetter fu M a1 = some (M', r)) : MetI l yX12_isLetter cX12_isLetter 2 .boolean ({ frames := 1, cells := 0, slots := 0, locals := 25 } : Room) Γ sk [vr Γ 52, vi a1] M M' r := by
  unfold f_X12_isLetter at h
  refine MetI_of RX12 rfl (by decide) rfl (Nat.le_of_ble_eq_true rfl) rfl ?_
  intro p e s m args below meth c C hr hlk hM
  have e52 := hsk 52 _ (by decide) rfl
  have e61 := hsk 61 _ (by decide) rfl
  refine V_iload_n (pc := 0) C 1 rfl dX12_isLetter_0 ?_
  refine V_aload_n (pc := 1) C 0 rfl dX12_isLetter_1 ?_
  refine V_getI (pc := 2) C e52 rfl inX12 13 (by decide) rfl lf_X12_180 rfl dX12_isLetter_2 ?_
  refine V_icmp_ge (pc := 5) C 31 ha1 (hM _ _) dX12_isLetter_5 (by decide) (fun c5_1 => ?_) (fun c5_1 => ?_)
  · have h := ite_t h c5_1
    refine V_iconst (pc := 31) C dX12_isLetter_31 ?_
    exact V_zret (pc := 32) C hr hlk (by decide) h dX12_isLetter_32
  · have h := ite_f h c5_1
    refine V_aload_n (pc := 8) C 0 rfl dX12_isLetter_8 ?_
    refine V_getR (pc := 9) C e52 rfl inX12 12 (by decide) rfl lf_X12_35 rfl dX12_isLetter_9 ?_
    refine V_iload_n (pc := 12) C 1 rfl dX12_isLetter_12 ?_
    obtain ⟨g2, h⟩ := grd_of h
    refine V_bald (pc := 13) C e61 g2 ha1 dX12_isLetter_13 ?_
    refine V_i2l (pc := 14) C (hM _ _) dX12_isLetter_14 ?_
    refine V_ldc2 (pc := 15) C (x := (97 : Int)) lc_X12_189 rfl dX12_isLetter_15 ?_
    refine V_ldc2 (pc := 18) C (x := (122 : Int)) lc_X12_191 rfl dX12_isLetter_18 ?_
    obtain ⟨M3, r4, hc5, h⟩ := cal_of h
    refine V_callSI (pc := 21) C (c_X12_isWithin l Γ sk hsk fu (hM _ _) (by decide) (by decide) hc5) cf_X12_isWithin lk_X12_167 ⟨rfl, rfl⟩ ⟨Nat.le_of_ble_eq_true rfl, Nat.le_of_ble_eq_true rfl⟩ rfl (Nat.le_of_ble_eq_true rfl) ⟨Nat.zero_le _, Nat.zero_le _⟩ rfl dX12_isLetter_21 (fun hr4 => ?_)
    refine V_if_eq (pc := 24) C 31 hr4 dX12_isLetter_24 (by decide) (fun c24_6 => ?_) (fun c24_6 => ?_)
    · have h := ite_t h c24_6
      refine V_iconst (pc := 31) C dX12_isLetter_31 ?_
      exact V_zret (pc := 32) C hr hlk (by decide) h dX12_isLetter_32
    · have h := ite_f h c24_6
      refine V_iconst (pc := 27) C dX12_isLetter_27 ?_
      refine V_goto (pc := 28) C 32 dX12_isLetter_28 (by decide) ?_
      exact V_zret (pc := 32) C hr hlk (by decide) h dX12_isLetter_32
