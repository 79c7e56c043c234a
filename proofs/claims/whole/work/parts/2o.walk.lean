set_option maxRecDepth 100000 in
set_option maxHeartbeats 4000000 in
theorem c_X12_checkVersion (l : Launch) (Γ : GG) (sk : List SD) (hsk : ExtM sk) (fu : Nat) {M M' : Mem} {a1 : Int} {r : Int} (ha1 : rng a1) (h : f_X12_checkVersion fu M a1 = some (M', r)) : MetI l yX12_checkVersion cX12_checkVersion 2 .boolean ({ frames := 2, cells := 0, slots := 0, locals := 46 } : Room) Γ sk [vr Γ 52, vi a1] M M' r := by
  unfold f_X12_checkVersion at h
  refine MetI_of RX12 rfl (by decide) rfl (Nat.le_of_ble_eq_true rfl) rfl ?_
  intro p e s m args below meth c C hr hlk hM
  have e52 := hsk 52 _ (by decide) rfl
  refine V_aload_n (pc := 0) C 0 rfl dX12_checkVersion_0 ?_
  refine V_aload_n (pc := 1) C 0 rfl dX12_checkVersion_1 ?_
  refine V_iload_n (pc := 2) C 1 rfl dX12_checkVersion_2 ?_
  obtain ⟨M1, r2, hc3, h⟩ := cal_of h
  refine V_callVI (pc := 3) C (c_X12_isVersion l Γ sk hsk fu ha1 hc3) cf_X12_isVersion lk_X12_285 ⟨rfl, rfl⟩ ⟨Nat.le_of_ble_eq_true rfl, Nat.le_of_ble_eq_true rfl⟩ e52 rfl rfl rfl (Nat.le_of_ble_eq_true rfl) ⟨Nat.zero_le _, Nat.zero_le _⟩ rfl dX12_checkVersion_3 (fun hr2 => ?_)
  refine V_iconst (pc := 6) C dX12_checkVersion_6 ?_
  refine V_iconst (pc := 7) C dX12_checkVersion_7 ?_
  obtain ⟨M4, r5, hc6, h⟩ := cal_of h
  refine V_callVI (pc := 8) C (c_X12_check l Γ sk hsk fu hr2 (by decide) (by decide) hc6) cf_X12_check lk_X12_330 ⟨rfl, rfl⟩ ⟨Nat.le_of_ble_eq_true rfl, Nat.le_of_ble_eq_true rfl⟩ e52 rfl rfl rfl (Nat.le_of_ble_eq_true rfl) ⟨Nat.zero_le _, Nat.zero_le _⟩ rfl dX12_checkVersion_8 (fun hr5 => ?_)
  obtain ⟨g7, h⟩ := grd_of h
  exact V_zret (pc := 11) C hr hlk g7 h dX12_checkVersion_11
set_option maxRecDepth 100000 in
set_option maxHeartbeats 4000000 in
theorem c_X12_versionCount (l : Launch) (Γ : GG) (sk : List SD) (hsk : ExtM sk) (fu : Nat) {M M' : Mem}  {r : Int}  (h : f_X12_versionCount fu M  = some (M', r)) : MetI l yX12_versionCount cX12_versionCount 1 .int ({ frames := 0, cells := 0, slots := 0, locals := 0 } : Room) Γ sk [vr Γ 52] M M' r := by
  unfold f_X12_versionCount at h
  refine MetI_of RX12 rfl (by decide) rfl (Nat.le_of_ble_eq_true rfl) rfl ?_
  intro p e s m args below meth c C hr hlk hM
  have e52 := hsk 52 _ (by decide) rfl
  have e53 := hsk 53 _ (by decide) rfl
  refine V_aload_n (pc := 0) C 0 rfl dX12_versionCount_0 ?_
  refine V_iconst (pc := 1) C dX12_versionCount_1 ?_
  refine V_putI (pc := 2) C (by decide) e52 rfl inX12 tyX12 tyX12_ok nmX12 6 (by decide) rfl rfl lf_X12_58 rfl (by decide) rfl dX12_versionCount_2 ?_
  refine V_aload_n (pc := 5) C 0 rfl dX12_versionCount_5 ?_
  refine V_getR (pc := 6) C e52 rfl inX12 0 (by decide) rfl lf_X12_9 rfl dX12_versionCount_6 ?_
  refine V_iconst (pc := 9) C dX12_versionCount_9 ?_
  refine V_rng fun hM1 => ?_
  obtain ⟨g2, h⟩ := grd_of h
  refine V_iald (pc := 10) C e53 g2 (by decide) dX12_versionCount_10 ?_
  exact V_iret (pc := 11) C hr hlk (hM1 _ _) h dX12_versionCount_11
set_option maxRecDepth 100000 in
set_option maxHeartbeats 4000000 in
theorem c_X12_liveCount (l : Launch) (Γ : GG) (sk : List SD) (hsk : ExtM sk) (fu : Nat) {M M' : Mem}  {r : Int}  (h : f_X12_liveCount fu M  = some (M', r)) : MetI l yX12_liveCount cX12_liveCount 3 .int ({ frames := 2, cells := 0, slots := 0, locals := 41 } : Room) Γ sk [vr Γ 52] M M' r := by
  unfold f_X12_liveCount at h
  refine MetI_of RX12 rfl (by decide) rfl (Nat.le_of_ble_eq_true rfl) rfl ?_
  intro p e s m args below meth c C hr hlk hM
  have e52 := hsk 52 _ (by decide) rfl
  have e53 := hsk 53 _ (by decide) rfl
  have LP9 : ∀ (n : Nat) {x1 : Int} {x2 : Int} {M : Mem}, rng x1 → rng x2 → f_X12_liveCount_L9 fu n x1 x2 M = some (M', r) → VV p l e ({ frames := 2, cells := 0, slots := 0, locals := 41 } : Room) s m args below meth c (MQ below (PostI Γ sk M' r s.heap.size) args s 0 0 (Fr Γ sk s.heap.size)) 3 Γ sk M 0 0 9 [(0, vr Γ 52), (1, vi x1), (2, vi x2)] [] := by
    intro n
    induction n with
    | zero =>
      intro x1 x2 M hx1 hx2 h
      cases h
    | succ n ih =>
      intro x1 x2 M hx1 hx2 h
      rw [f_X12_liveCount_L9] at h
      refine V_iload_n (pc := 9) C 2 rfl dX12_liveCount_9 ?_
      refine V_aload_n (pc := 10) C 0 rfl dX12_liveCount_10 ?_
      refine V_getR (pc := 11) C e52 rfl inX12 0 (by decide) rfl lf_X12_9 rfl dX12_liveCount_11 ?_
      refine V_iconst (pc := 14) C dX12_liveCount_14 ?_
      refine V_rng fun hM1 => ?_
      obtain ⟨g2, h⟩ := grd_of h
      refine V_iald (pc := 15) C e53 g2 (by decide) dX12_liveCount_15 ?_
      refine V_icmp_ge (pc := 16) C 44 hx2 (hM1 _ _) dX12_liveCount_16 (by decide) (fun c16_3 => ?_) (fun c16_3 => ?_)
      · have h := ite_t h c16_3
        refine V_iload_n (pc := 44) C 1 rfl dX12_liveCount_44 ?_
        exact V_iret (pc := 45) C hr hlk hx1 h dX12_liveCount_45
      · have h := ite_f h c16_3
        refine V_iload_n (pc := 19) C 1 rfl dX12_liveCount_19 ?_
        refine V_aload_n (pc := 20) C 0 rfl dX12_liveCount_20 ?_
        refine V_iload_n (pc := 21) C 2 rfl dX12_liveCount_21 ?_
        obtain ⟨M4, r5, hc6, h⟩ := cal_of h
        refine V_callVI (pc := 22) C (c_X12_isGone l Γ sk hsk fu hx2 hc6) cf_X12_isGone lk_X12_164 ⟨rfl, rfl⟩ ⟨Nat.le_of_ble_eq_true rfl, Nat.le_of_ble_eq_true rfl⟩ e52 rfl rfl rfl (Nat.le_of_ble_eq_true rfl) ⟨Nat.zero_le _, Nat.zero_le _⟩ rfl dX12_liveCount_22 (fun hr5 => ?_)
        refine V_if_ne (pc := 25) C 32 hr5 dX12_liveCount_25 (by decide) (fun c25_7 => ?_) (fun c25_7 => ?_)
        · have h := ite_f h c25_7
          refine V_iconst (pc := 32) C dX12_liveCount_32 ?_
          obtain ⟨M8, r9, hc10, h⟩ := cal_of h
          refine V_callSI (pc := 33) C (c_X12_one l Γ sk hsk fu (by decide) hc10) cf_X12_one lk_X12_75 ⟨rfl, rfl⟩ ⟨Nat.le_of_ble_eq_true rfl, Nat.le_of_ble_eq_true rfl⟩ rfl (Nat.le_of_ble_eq_true rfl) ⟨Nat.zero_le _, Nat.zero_le _⟩ rfl dX12_liveCount_33 (fun hr9 => ?_)
          refine V_iadd (pc := 36) C dX12_liveCount_36 ?_
          refine V_istore_n (pc := 37) C (L' := [(0, vr Γ 52), (1, vi (x1 + r9)), (2, vi x2)]) rfl (by decide) dX12_liveCount_37 ?_
          refine V_iinc (pc := 38) C (L' := [(0, vr Γ 52), (1, vi (x1 + r9)), (2, vi (x2 + (1 : Int)))]) 2 rfl rfl (by decide) dX12_liveCount_38 ?_
          refine V_goto (pc := 41) C 9 dX12_liveCount_41 (by decide) ?_
          obtain ⟨g11, h⟩ := grd_of h
          obtain ⟨g12, h⟩ := grd_of h
          refine V_sub (L' := [(0, vr Γ 52), (1, vi (x1 + r9)), (2, vi (x2 + (1 : Int)))]) [0, 1, 2] rfl (by decide) ?_
          exact ih g11 g12 h
        · have h := ite_t h c25_7
          refine V_iconst (pc := 28) C dX12_liveCount_28 ?_
          refine V_goto (pc := 29) C 33 dX12_liveCount_29 (by decide) ?_
          obtain ⟨M13, r14, hc15, h⟩ := cal_of h
          refine V_callSI (pc := 33) C (c_X12_one l Γ sk hsk fu (by decide) hc15) cf_X12_one lk_X12_75 ⟨rfl, rfl⟩ ⟨Nat.le_of_ble_eq_true rfl, Nat.le_of_ble_eq_true rfl⟩ rfl (Nat.le_of_ble_eq_true rfl) ⟨Nat.zero_le _, Nat.zero_le _⟩ rfl dX12_liveCount_33 (fun hr14 => ?_)
          refine V_iadd (pc := 36) C dX12_liveCount_36 ?_
          refine V_istore_n (pc := 37) C (L' := [(0, vr Γ 52), (1, vi (x1 + r14)), (2, vi x2)]) rfl (by decide) dX12_liveCount_37 ?_
          refine V_iinc (pc := 38) C (L' := [(0, vr Γ 52), (1, vi (x1 + r14)), (2, vi (x2 + (1 : Int)))]) 2 rfl rfl (by decide) dX12_liveCount_38 ?_
          refine V_goto (pc := 41) C 9 dX12_liveCount_41 (by decide) ?_
          obtain ⟨g16, h⟩ := grd_of h
          obtain ⟨g17, h⟩ := grd_of h
          refine V_sub (L' := [(0, vr Γ 52), (1, vi (x1 + r14)), (2, vi (x2 + (1 : Int)))]) [0, 1, 2] rfl (by decide) ?_
          exact ih g16 g17 h
  skip
  refine V_aload_n (pc := 0) C 0 rfl dX12_liveCount_0 ?_
  refine V_iconst (pc := 1) C dX12_liveCount_1 ?_
  refine V_putI (pc := 2) C (by decide) e52 rfl inX12 tyX12 tyX12_ok nmX12 6 (by decide) rfl rfl lf_X12_58 rfl (by decide) rfl dX12_liveCount_2 ?_
  refine V_iconst (pc := 5) C dX12_liveCount_5 ?_
  refine V_istore_n (pc := 6) C (L' := [(0, vr Γ 52), (1, vi (0 : Int))]) rfl (by decide) dX12_liveCount_6 ?_
  refine V_iconst (pc := 7) C dX12_liveCount_7 ?_
  refine V_istore_n (pc := 8) C (L' := [(0, vr Γ 52), (1, vi (0 : Int)), (2, vi (0 : Int))]) rfl (by decide) dX12_liveCount_8 ?_
  refine V_sub (L' := [(0, vr Γ 52), (1, vi (0 : Int)), (2, vi (0 : Int))]) [0, 1, 2] rfl (by decide) ?_
  exact LP9 fu  (by decide) (by decide) h
set_option maxRecDepth 100000 in
set_option maxHeartbeats 4000000 in
theorem c_X12_isReleased (l : Launch) (Γ : GG) (sk : List SD) (hsk : ExtM sk) (fu : Nat) {M M' : Mem} {a1 : Int} {r : Int} (ha1 : rng a1) (h : f_X12_isReleased fu M a1 = some (M', r)) : MetI l yX12_isReleased cX12_isReleased 2 .boolean ({ frames := 3, cells := 0, slots := 0, locals := 67 } : Room) Γ sk [vr Γ 52, vi a1] M M' r := by
  unfold f_X12_isReleased at h
  refine MetI_of RX12 rfl (by decide) rfl (Nat.le_of_ble_eq_true rfl) rfl ?_
  intro p e s m args below meth c C hr hlk hM
  have e52 := hsk 52 _ (by decide) rfl
  refine V_aload_n (pc := 0) C 0 rfl dX12_isReleased_0 ?_
  refine V_iload_n (pc := 1) C 1 rfl dX12_isReleased_1 ?_
  obtain ⟨M1, r2, hc3, h⟩ := cal_of h
  refine V_callVI (pc := 2) C (c_X12_checkVersion l Γ sk hsk fu ha1 hc3) cf_X12_checkVersion lk_X12_334 ⟨rfl, rfl⟩ ⟨Nat.le_of_ble_eq_true rfl, Nat.le_of_ble_eq_true rfl⟩ e52 rfl rfl rfl (Nat.le_of_ble_eq_true rfl) ⟨Nat.zero_le _, Nat.zero_le _⟩ rfl dX12_isReleased_2 (fun hr2 => ?_)
  refine V_if_eq (pc := 5) C 20 hr2 dX12_isReleased_5 (by decide) (fun c5_4 => ?_) (fun c5_4 => ?_)
  · have h := ite_t h c5_4
    refine V_iconst (pc := 20) C dX12_isReleased_20 ?_
    exact V_zret (pc := 21) C hr hlk (by decide) h dX12_isReleased_21
  · have h := ite_f h c5_4
    refine V_aload_n (pc := 8) C 0 rfl dX12_isReleased_8 ?_
    refine V_iload_n (pc := 9) C 1 rfl dX12_isReleased_9 ?_
    obtain ⟨M5, r6, hc7, h⟩ := cal_of h
    refine V_callVI (pc := 10) C (c_X12_isGone l Γ sk hsk fu ha1 hc7) cf_X12_isGone lk_X12_164 ⟨rfl, rfl⟩ ⟨Nat.le_of_ble_eq_true rfl, Nat.le_of_ble_eq_true rfl⟩ e52 rfl rfl rfl (Nat.le_of_ble_eq_true rfl) ⟨Nat.zero_le _, Nat.zero_le _⟩ rfl dX12_isReleased_10 (fun hr6 => ?_)
    refine V_if_eq (pc := 13) C 20 hr6 dX12_isReleased_13 (by decide) (fun c13_8 => ?_) (fun c13_8 => ?_)
    · have h := ite_t h c13_8
      refine V_iconst (pc := 20) C dX12_isReleased_20 ?_
      exact V_zret (pc := 21) C hr hlk (by decide) h dX12_isReleased_21
    · have h := ite_f h c13_8
      refine V_iconst (pc := 16) C dX12_isReleased_16 ?_
      refine V_goto (pc := 17) C 21 dX12_isReleased_17 (by decide) ?_
      exact V_zret (pc := 21) C hr hlk (by decide) h dX12_isReleased_21
set_option maxRecDepth 100000 in
set_option maxHeartbeats 4000000 in
theorem c_X12_parentOf (l : Launch) (Γ : GG) (sk : List SD) (hsk : ExtM sk) (fu : Nat) {M M' : Mem} {a1 : Int} {r : Int} (ha1 : rng a1) (h : f_X12_parentOf fu M a1 = some (M', r)) : MetI l yX12_parentOf cX12_parentOf 2 .int ({ frames := 3, cells := 0, slots := 0, locals := 67 } : Room) Γ sk [vr Γ 52, vi a1] M M' r := by
  unfold f_X12_parentOf at h
  refine MetI_of RX12 rfl (by decide) rfl (Nat.le_of_ble_eq_true rfl) rfl ?_
  intro p e s m args below meth c C hr hlk hM
  have e52 := hsk 52 _ (by decide) rfl
  have e53 := hsk 53 _ (by decide) rfl
  refine V_aload_n (pc := 0) C 0 rfl dX12_parentOf_0 ?_
  refine V_iload_n (pc := 1) C 1 rfl dX12_parentOf_1 ?_
  obtain ⟨M1, r2, hc3, h⟩ := cal_of h
  refine V_callVI (pc := 2) C (c_X12_checkVersion l Γ sk hsk fu ha1 hc3) cf_X12_checkVersion lk_X12_334 ⟨rfl, rfl⟩ ⟨Nat.le_of_ble_eq_true rfl, Nat.le_of_ble_eq_true rfl⟩ e52 rfl rfl rfl (Nat.le_of_ble_eq_true rfl) ⟨Nat.zero_le _, Nat.zero_le _⟩ rfl dX12_parentOf_2 (fun hr2 => ?_)
  refine V_if_eq (pc := 5) C 22 hr2 dX12_parentOf_5 (by decide) (fun c5_4 => ?_) (fun c5_4 => ?_)
  · have h := ite_t h c5_4
    refine V_iconst (pc := 22) C dX12_parentOf_22 ?_
    exact V_iret (pc := 23) C hr hlk (by decide) h dX12_parentOf_23
  · have h := ite_f h c5_4
    refine V_aload_n (pc := 8) C 0 rfl dX12_parentOf_8 ?_
    refine V_getR (pc := 9) C e52 rfl inX12 0 (by decide) rfl lf_X12_9 rfl dX12_parentOf_9 ?_
    refine V_iload_n (pc := 12) C 1 rfl dX12_parentOf_12 ?_
    obtain ⟨M5, r6, hc7, h⟩ := cal_of h
    refine V_callSI (pc := 13) C (c_X12_v l Γ sk hsk fu ha1 hc7) cf_X12_v lk_X12_112 ⟨rfl, rfl⟩ ⟨Nat.le_of_ble_eq_true rfl, Nat.le_of_ble_eq_true rfl⟩ rfl (Nat.le_of_ble_eq_true rfl) ⟨Nat.zero_le _, Nat.zero_le _⟩ rfl dX12_parentOf_13 (fun hr6 => ?_)
    refine V_iconst (pc := 16) C dX12_parentOf_16 ?_
    refine V_iadd (pc := 17) C dX12_parentOf_17 ?_
    refine V_rng fun hM8 => ?_
    obtain ⟨g9, h⟩ := grd_of h
    obtain ⟨g10, h⟩ := grd_of h
    refine V_iald (pc := 18) C e53 g10 g9 dX12_parentOf_18 ?_
    refine V_goto (pc := 19) C 23 dX12_parentOf_19 (by decide) ?_
    exact V_iret (pc := 23) C hr hlk (hM8 _ _) h dX12_parentOf_23
set_option maxRecDepth 100000 in
set_option maxHeartbeats 4000000 in
theorem c_X12_depth (l : Launch) (Γ : GG) (sk : List SD) (hsk : ExtM sk) (fu : Nat) {M M' : Mem} {a1 : Int} {r : Int} (ha1 : rng a1) (h : f_X12_depth fu M a1 = some (M', r)) : MetI l yX12_depth cX12_depth 4 .int ({ frames := 1, cells := 0, slots := 0, locals := 20 } : Room) Γ sk [vr Γ 52, vi a1] M M' r := by
  unfold f_X12_depth at h
  refine MetI_of RX12 rfl (by decide) rfl (Nat.le_of_ble_eq_true rfl) rfl ?_
  intro p e s m args below meth c C hr hlk hM
  have e52 := hsk 52 _ (by decide) rfl
  have e53 := hsk 53 _ (by decide) rfl
  have LP14 : ∀ (n : Nat) {x2 : Int} {x3 : Int} {M : Mem}, rng x2 → rng x3 → f_X12_depth_L14 fu n x2 x3 M = some (M', r) → VV p l e ({ frames := 1, cells := 0, slots := 0, locals := 20 } : Room) s m args below meth c (MQ below (PostI Γ sk M' r s.heap.size) args s 0 0 (Fr Γ sk s.heap.size)) 4 Γ sk M 0 0 14 [(0, vr Γ 52), (2, vi x2), (3, vi x3)] [] := by
    intro n
    induction n with
    | zero =>
      intro x2 x3 M hx2 hx3 h
      cases h
    | succ n ih =>
      intro x2 x3 M hx2 hx3 h
      rw [f_X12_depth_L14] at h
      refine V_iload_n (pc := 14) C 2 rfl dX12_depth_14 ?_
      refine V_iconst (pc := 15) C dX12_depth_15 ?_
      refine V_icmp_eq (pc := 16) C 37 hx3 (by decide) dX12_depth_16 (by decide) (fun c16_7 => ?_) (fun c16_7 => ?_)
      · have h := ite_t h c16_7
        refine V_iload_n (pc := 37) C 1 rfl dX12_depth_37 ?_
        exact V_iret (pc := 38) C hr hlk hx2 h dX12_depth_38
      · have h := ite_f h c16_7
        refine V_iinc (pc := 19) C (L' := [(0, vr Γ 52), (2, vi (x2 + (1 : Int))), (3, vi x3)]) 1 rfl rfl (by decide) dX12_depth_19 ?_
        refine V_aload_n (pc := 22) C 0 rfl dX12_depth_22 ?_
        refine V_getR (pc := 23) C e52 rfl inX12 0 (by decide) rfl lf_X12_9 rfl dX12_depth_23 ?_
        refine V_iload_n (pc := 26) C 2 rfl dX12_depth_26 ?_
        obtain ⟨M8, r9, hc10, h⟩ := cal_of h
        refine V_callSI (pc := 27) C (c_X12_v l Γ sk hsk fu hx3 hc10) cf_X12_v lk_X12_112 ⟨rfl, rfl⟩ ⟨Nat.le_of_ble_eq_true rfl, Nat.le_of_ble_eq_true rfl⟩ rfl (Nat.le_of_ble_eq_true rfl) ⟨Nat.zero_le _, Nat.zero_le _⟩ rfl dX12_depth_27 (fun hr9 => ?_)
        refine V_iconst (pc := 30) C dX12_depth_30 ?_
        refine V_iadd (pc := 31) C dX12_depth_31 ?_
        refine V_rng fun hM11 => ?_
        obtain ⟨g12, h⟩ := grd_of h
        obtain ⟨g13, h⟩ := grd_of h
        refine V_iald (pc := 32) C e53 g13 g12 dX12_depth_32 ?_
        refine V_istore_n (pc := 33) C (L' := [(0, vr Γ 52), (2, vi (x2 + (1 : Int))), (3, vi (M8 53 (r9 + (3 : Int) : Int).toNat))]) rfl (by decide) dX12_depth_33 ?_
        refine V_goto (pc := 34) C 14 dX12_depth_34 (by decide) ?_
        obtain ⟨g14, h⟩ := grd_of h
        refine V_sub (L' := [(0, vr Γ 52), (2, vi (x2 + (1 : Int))), (3, vi (M8 53 (r9 + (3 : Int) : Int).toNat))]) [0, 1, 2] rfl (by decide) ?_
        exact ih g14 (hM11 _ _) h
  skip
  refine V_iconst (pc := 0) C dX12_depth_0 ?_
  refine V_istore_n (pc := 1) C (L' := [(0, vr Γ 52), (1, vi a1), (2, vi (0 : Int))]) rfl (by decide) dX12_depth_1 ?_
  refine V_aload_n (pc := 2) C 0 rfl dX12_depth_2 ?_
  refine V_getR (pc := 3) C e52 rfl inX12 0 (by decide) rfl lf_X12_9 rfl dX12_depth_3 ?_
  refine V_iload_n (pc := 6) C 1 rfl dX12_depth_6 ?_
  obtain ⟨M1, r2, hc3, h⟩ := cal_of h
  refine V_callSI (pc := 7) C (c_X12_v l Γ sk hsk fu ha1 hc3) cf_X12_v lk_X12_112 ⟨rfl, rfl⟩ ⟨Nat.le_of_ble_eq_true rfl, Nat.le_of_ble_eq_true rfl⟩ rfl (Nat.le_of_ble_eq_true rfl) ⟨Nat.zero_le _, Nat.zero_le _⟩ rfl dX12_depth_7 (fun hr2 => ?_)
  refine V_iconst (pc := 10) C dX12_depth_10 ?_
  refine V_iadd (pc := 11) C dX12_depth_11 ?_
  refine V_rng fun hM4 => ?_
  obtain ⟨g5, h⟩ := grd_of h
  obtain ⟨g6, h⟩ := grd_of h
  refine V_iald (pc := 12) C e53 g6 g5 dX12_depth_12 ?_
  refine V_istore_n (pc := 13) C (L' := [(0, vr Γ 52), (1, vi a1), (2, vi (0 : Int)), (3, vi (M1 53 (r2 + (3 : Int) : Int).toNat))]) rfl (by decide) dX12_depth_13 ?_
  refine V_sub (L' := [(0, vr Γ 52), (2, vi (0 : Int)), (3, vi (M1 53 (r2 + (3 : Int) : Int).toNat))]) [0, 2, 3] rfl (by decide) ?_
  exact LP14 fu  (by decide) (hM4 _ _) h
set_option maxRecDepth 100000 in
set_option maxHeartbeats 4000000 in
theorem c_X12_depthOf (l : Launch) (Γ : GG) (sk : List SD) (hsk : ExtM sk) (fu : Nat) {M M' : Mem} {a1 : Int} {r : Int} (ha1 : rng a1) (h : f_X12_depthOf fu M a1 = some (M', r)) : MetI l yX12_depthOf cX12_depthOf 2 .int ({ frames := 3, cells := 0, slots := 0, locals := 67 } : Room) Γ sk [vr Γ 52, vi a1] M M' r := by
  unfold f_X12_depthOf at h
  refine MetI_of RX12 rfl (by decide) rfl (Nat.le_of_ble_eq_true rfl) rfl ?_
  intro p e s m args below meth c C hr hlk hM
  have e52 := hsk 52 _ (by decide) rfl
  refine V_aload_n (pc := 0) C 0 rfl dX12_depthOf_0 ?_
  refine V_iload_n (pc := 1) C 1 rfl dX12_depthOf_1 ?_
  obtain ⟨M1, r2, hc3, h⟩ := cal_of h
  refine V_callVI (pc := 2) C (c_X12_checkVersion l Γ sk hsk fu ha1 hc3) cf_X12_checkVersion lk_X12_334 ⟨rfl, rfl⟩ ⟨Nat.le_of_ble_eq_true rfl, Nat.le_of_ble_eq_true rfl⟩ e52 rfl rfl rfl (Nat.le_of_ble_eq_true rfl) ⟨Nat.zero_le _, Nat.zero_le _⟩ rfl dX12_depthOf_2 (fun hr2 => ?_)
  refine V_if_eq (pc := 5) C 16 hr2 dX12_depthOf_5 (by decide) (fun c5_4 => ?_) (fun c5_4 => ?_)
  · have h := ite_t h c5_4
    refine V_iconst (pc := 16) C dX12_depthOf_16 ?_
    exact V_iret (pc := 17) C hr hlk (by decide) h dX12_depthOf_17
  · have h := ite_f h c5_4
    refine V_aload_n (pc := 8) C 0 rfl dX12_depthOf_8 ?_
    refine V_iload_n (pc := 9) C 1 rfl dX12_depthOf_9 ?_
    obtain ⟨M5, r6, hc7, h⟩ := cal_of h
    refine V_callVI (pc := 10) C (c_X12_depth l Γ sk hsk fu ha1 hc7) cf_X12_depth lk_X12_337 ⟨rfl, rfl⟩ ⟨Nat.le_of_ble_eq_true rfl, Nat.le_of_ble_eq_true rfl⟩ e52 rfl rfl rfl (Nat.le_of_ble_eq_true rfl) ⟨Nat.zero_le _, Nat.zero_le _⟩ rfl dX12_depthOf_10 (fun hr6 => ?_)
    refine V_goto (pc := 13) C 17 dX12_depthOf_13 (by decide) ?_
    exact V_iret (pc := 17) C hr hlk hr6 h dX12_depthOf_17
set_option maxRecDepth 100000 in
set_option maxHeartbeats 4000000 in
theorem c_X12_childCount (l : Launch) (Γ : GG) (sk : List SD) (hsk : ExtM sk) (fu : Nat) {M M' : Mem} {a1 : Int} {r : Int} (ha1 : rng a1) (h : f_X12_childCount fu M a1 = some (M', r)) : MetI l yX12_childCount cX12_childCount 4 .int ({ frames := 3, cells := 0, slots := 0, locals := 67 } : Room) Γ sk [vr Γ 52, vi a1] M M' r := by
  unfold f_X12_childCount at h
  refine MetI_of RX12 rfl (by decide) rfl (Nat.le_of_ble_eq_true rfl) rfl ?_
  intro p e s m args below meth c C hr hlk hM
  have e52 := hsk 52 _ (by decide) rfl
  have e53 := hsk 53 _ (by decide) rfl
  have LP14 : ∀ (n : Nat) {x1 : Int} {x2 : Int} {x3 : Int} {M : Mem}, rng x1 → rng x2 → rng x3 → f_X12_childCount_L14 fu n x1 x2 x3 M = some (M', r) → VV p l e ({ frames := 3, cells := 0, slots := 0, locals := 67 } : Room) s m args below meth c (MQ below (PostI Γ sk M' r s.heap.size) args s 0 0 (Fr Γ sk s.heap.size)) 4 Γ sk M 0 0 14 [(0, vr Γ 52), (1, vi x1), (2, vi x2), (3, vi x3)] [] := by
    intro n
    induction n with
    | zero =>
      intro x1 x2 x3 M hx1 hx2 hx3 h
      cases h
    | succ n ih =>
      intro x1 x2 x3 M hx1 hx2 hx3 h
      rw [f_X12_childCount_L14] at h
      refine V_iload_n (pc := 14) C 3 rfl dX12_childCount_14 ?_
      refine V_aload_n (pc := 15) C 0 rfl dX12_childCount_15 ?_
      refine V_getR (pc := 16) C e52 rfl inX12 0 (by decide) rfl lf_X12_9 rfl dX12_childCount_16 ?_
      refine V_iconst (pc := 19) C dX12_childCount_19 ?_
      refine V_rng fun hM5 => ?_
      obtain ⟨g6, h⟩ := grd_of h
      refine V_iald (pc := 20) C e53 g6 (by decide) dX12_childCount_20 ?_
      refine V_icmp_ge (pc := 21) C 56 hx3 (hM5 _ _) dX12_childCount_21 (by decide) (fun c21_7 => ?_) (fun c21_7 => ?_)
      · have h := ite_t h c21_7
        refine V_iload_n (pc := 56) C 2 rfl dX12_childCount_56 ?_
        exact V_iret (pc := 57) C hr hlk hx2 h dX12_childCount_57
      · have h := ite_f h c21_7
        refine V_iload_n (pc := 24) C 2 rfl dX12_childCount_24 ?_
        refine V_aload_n (pc := 25) C 0 rfl dX12_childCount_25 ?_
        refine V_getR (pc := 26) C e52 rfl inX12 0 (by decide) rfl lf_X12_9 rfl dX12_childCount_26 ?_
        refine V_iload_n (pc := 29) C 3 rfl dX12_childCount_29 ?_
        obtain ⟨M8, r9, hc10, h⟩ := cal_of h
        refine V_callSI (pc := 30) C (c_X12_v l Γ sk hsk fu hx3 hc10) cf_X12_v lk_X12_112 ⟨rfl, rfl⟩ ⟨Nat.le_of_ble_eq_true rfl, Nat.le_of_ble_eq_true rfl⟩ rfl (Nat.le_of_ble_eq_true rfl) ⟨Nat.zero_le _, Nat.zero_le _⟩ rfl dX12_childCount_30 (fun hr9 => ?_)
        refine V_iconst (pc := 33) C dX12_childCount_33 ?_
        refine V_iadd (pc := 34) C dX12_childCount_34 ?_
        refine V_rng fun hM11 => ?_
        obtain ⟨g12, h⟩ := grd_of h
        obtain ⟨g13, h⟩ := grd_of h
        refine V_iald (pc := 35) C e53 g13 g12 dX12_childCount_35 ?_
        refine V_iload_n (pc := 36) C 1 rfl dX12_childCount_36 ?_
        refine V_icmp_ne (pc := 37) C 44 (hM11 _ _) hx1 dX12_childCount_37 (by decide) (fun c37_14 => ?_) (fun c37_14 => ?_)
        · have h := ite_f h c37_14
          refine V_iconst (pc := 44) C dX12_childCount_44 ?_
          obtain ⟨M15, r16, hc17, h⟩ := cal_of h
          refine V_callSI (pc := 45) C (c_X12_one l Γ sk hsk fu (by decide) hc17) cf_X12_one lk_X12_75 ⟨rfl, rfl⟩ ⟨Nat.le_of_ble_eq_true rfl, Nat.le_of_ble_eq_true rfl⟩ rfl (Nat.le_of_ble_eq_true rfl) ⟨Nat.zero_le _, Nat.zero_le _⟩ rfl dX12_childCount_45 (fun hr16 => ?_)
          refine V_iadd (pc := 48) C dX12_childCount_48 ?_
          refine V_istore_n (pc := 49) C (L' := [(0, vr Γ 52), (1, vi x1), (2, vi (x2 + r16)), (3, vi x3)]) rfl (by decide) dX12_childCount_49 ?_
          refine V_iinc (pc := 50) C (L' := [(0, vr Γ 52), (1, vi x1), (2, vi (x2 + r16)), (3, vi (x3 + (1 : Int)))]) 3 rfl rfl (by decide) dX12_childCount_50 ?_
          refine V_goto (pc := 53) C 14 dX12_childCount_53 (by decide) ?_
          obtain ⟨g18, h⟩ := grd_of h
          obtain ⟨g19, h⟩ := grd_of h
          refine V_sub (L' := [(0, vr Γ 52), (1, vi x1), (2, vi (x2 + r16)), (3, vi (x3 + (1 : Int)))]) [0, 1, 2, 3] rfl (by decide) ?_
          exact ih hx1 g18 g19 h
        · have h := ite_t h c37_14
          refine V_iconst (pc := 40) C dX12_childCount_40 ?_
          refine V_goto (pc := 41) C 45 dX12_childCount_41 (by decide) ?_
          obtain ⟨M20, r21, hc22, h⟩ := cal_of h
          refine V_callSI (pc := 45) C (c_X12_one l Γ sk hsk fu (by decide) hc22) cf_X12_one lk_X12_75 ⟨rfl, rfl⟩ ⟨Nat.le_of_ble_eq_true rfl, Nat.le_of_ble_eq_true rfl⟩ rfl (Nat.le_of_ble_eq_true rfl) ⟨Nat.zero_le _, Nat.zero_le _⟩ rfl dX12_childCount_45 (fun hr21 => ?_)
          refine V_iadd (pc := 48) C dX12_childCount_48 ?_
          refine V_istore_n (pc := 49) C (L' := [(0, vr Γ 52), (1, vi x1), (2, vi (x2 + r21)), (3, vi x3)]) rfl (by decide) dX12_childCount_49 ?_
          refine V_iinc (pc := 50) C (L' := [(0, vr Γ 52), (1, vi x1), (2, vi (x2 + r21)), (3, vi (x3 + (1 : Int)))]) 3 rfl rfl (by decide) dX12_childCount_50 ?_
          refine V_goto (pc := 53) C 14 dX12_childCount_53 (by decide) ?_
          obtain ⟨g23, h⟩ := grd_of h
          obtain ⟨g24, h⟩ := grd_of h
          refine V_sub (L' := [(0, vr Γ 52), (1, vi x1), (2, vi (x2 + r21)), (3, vi (x3 + (1 : Int)))]) [0, 1, 2, 3] rfl (by decide) ?_
          exact ih hx1 g23 g24 h
  skip
  refine V_aload_n (pc := 0) C 0 rfl dX12_childCount_0 ?_
  refine V_iload_n (pc := 1) C 1 rfl dX12_childCount_1 ?_
  obtain ⟨M1, r2, hc3, h⟩ := cal_of h
  refine V_callVI (pc := 2) C (c_X12_checkVersion l Γ sk hsk fu ha1 hc3) cf_X12_checkVersion lk_X12_334 ⟨rfl, rfl⟩ ⟨Nat.le_of_ble_eq_true rfl, Nat.le_of_ble_eq_true rfl⟩ e52 rfl rfl rfl (Nat.le_of_ble_eq_true rfl) ⟨Nat.zero_le _, Nat.zero_le _⟩ rfl dX12_childCount_2 (fun hr2 => ?_)
  refine V_if_ne (pc := 5) C 10 hr2 dX12_childCount_5 (by decide) (fun c5_4 => ?_) (fun c5_4 => ?_)
  · have h := ite_f h c5_4
    refine V_iconst (pc := 10) C dX12_childCount_10 ?_
    refine V_istore_n (pc := 11) C (L' := [(0, vr Γ 52), (1, vi a1), (2, vi (0 : Int))]) rfl (by decide) dX12_childCount_11 ?_
    refine V_iconst (pc := 12) C dX12_childCount_12 ?_
    refine V_istore_n (pc := 13) C (L' := [(0, vr Γ 52), (1, vi a1), (2, vi (0 : Int)), (3, vi (0 : Int))]) rfl (by decide) dX12_childCount_13 ?_
    refine V_sub (L' := [(0, vr Γ 52), (1, vi a1), (2, vi (0 : Int)), (3, vi (0 : Int))]) [0, 1, 2, 3] rfl (by decide) ?_
    exact LP14 fu  ha1 (by decide) (by decide) h
  · have h := ite_t h c5_4
    refine V_iconst (pc := 8) C dX12_childCount_8 ?_
    exact V_iret (pc := 9) C hr hlk (by decide) h dX12_childCount_9
set_option maxRecDepth 100000 in
set_option maxHeartbeats 4000000 in
theorem c_X12_commonAncestor (l : Launch) (Γ : GG) (sk : List SD) (hsk : ExtM sk) (fu : Nat) {M M' : Mem} {a1 : Int} {a2 : Int} {r : Int} (ha1 : rng a1) (ha2 : rng a2) (h : f_X12_commonAncestor fu M a1 a2 = some (M', r)) : MetI l yX12_commonAncestor cX12_commonAncestor 5 .int ({ frames := 2, cells := 0, slots := 0, locals := 46 } : Room) Γ sk [vr Γ 52, vi a1, vi a2] M M' r := by
  unfold f_X12_commonAncestor at h
  refine MetI_of RX12 rfl (by decide) rfl (Nat.le_of_ble_eq_true rfl) rfl ?_
  intro p e s m args below meth c C hr hlk hM
  have e52 := hsk 52 _ (by decide) rfl
  have e53 := hsk 53 _ (by decide) rfl
  have LP37 : ∀ (n : Nat) {x3 : Int} {x4 : Int} {M : Mem}, rng x3 → rng x4 → f_X12_commonAncestor_L37 fu n x3 x4 M = some (M', r) → VV p l e ({ frames := 2, cells := 0, slots := 0, locals := 46 } : Room) s m args below meth c (MQ below (PostI Γ sk M' r s.heap.size) args s 0 0 (Fr Γ sk s.heap.size)) 5 Γ sk M 0 0 37 [(0, vr Γ 52), (3, vi x3), (4, vi x4)] [] := by
    intro n
    induction n with
    | zero =>
      intro x3 x4 M hx3 hx4 h
      cases h
    | succ n ih =>
      intro x3 x4 M hx3 hx4 h
      rw [f_X12_commonAncestor_L37] at h
      refine V_iload_n (pc := 37) C 1 rfl dX12_commonAncestor_37 ?_
      refine V_iload (pc := 38) C 2 rfl dX12_commonAncestor_38 ?_
      refine V_icmp_eq (pc := 40) C 89 hx3 hx4 dX12_commonAncestor_40 (by decide) (fun c40_9 => ?_) (fun c40_9 => ?_)
      · have h := ite_t h c40_9
        refine V_iload_n (pc := 89) C 1 rfl dX12_commonAncestor_89 ?_
        exact V_iret (pc := 90) C hr hlk hx3 h dX12_commonAncestor_90
      · have h := ite_f h c40_9
        refine V_aload_n (pc := 43) C 0 rfl dX12_commonAncestor_43 ?_
        refine V_iload_n (pc := 44) C 1 rfl dX12_commonAncestor_44 ?_
        obtain ⟨M10, r11, hc12, h⟩ := cal_of h
        refine V_callVI (pc := 45) C (c_X12_depth l Γ sk hsk fu hx3 hc12) cf_X12_depth lk_X12_337 ⟨rfl, rfl⟩ ⟨Nat.le_of_ble_eq_true rfl, Nat.le_of_ble_eq_true rfl⟩ e52 rfl rfl rfl (Nat.le_of_ble_eq_true rfl) ⟨Nat.zero_le _, Nat.zero_le _⟩ rfl dX12_commonAncestor_45 (fun hr11 => ?_)
        refine V_aload_n (pc := 48) C 0 rfl dX12_commonAncestor_48 ?_
        refine V_iload (pc := 49) C 2 rfl dX12_commonAncestor_49 ?_
        obtain ⟨M13, r14, hc15, h⟩ := cal_of h
        refine V_callVI (pc := 51) C (c_X12_depth l Γ sk hsk fu hx4 hc15) cf_X12_depth lk_X12_337 ⟨rfl, rfl⟩ ⟨Nat.le_of_ble_eq_true rfl, Nat.le_of_ble_eq_true rfl⟩ e52 rfl rfl rfl (Nat.le_of_ble_eq_true rfl) ⟨Nat.zero_le _, Nat.zero_le _⟩ rfl dX12_commonAncestor_51 (fun hr14 => ?_)
        refine V_icmp_lt (pc := 54) C 72 hr11 hr14 dX12_commonAncestor_54 (by decide) (fun c54_16 => ?_) (fun c54_16 => ?_)
        · have h := ite_t h c54_16
          refine V_aload_n (pc := 72) C 0 rfl dX12_commonAncestor_72 ?_
          refine V_getR (pc := 73) C e52 rfl inX12 0 (by decide) rfl lf_X12_9 rfl dX12_commonAncestor_73 ?_
          refine V_iload (pc := 76) C 2 rfl dX12_commonAncestor_76 ?_
          obtain ⟨M17, r18, hc19, h⟩ := cal_of h
          refine V_callSI (pc := 78) C (c_X12_v l Γ sk hsk fu hx4 hc19) cf_X12_v lk_X12_112 ⟨rfl, rfl⟩ ⟨Nat.le_of_ble_eq_true rfl, Nat.le_of_ble_eq_true rfl⟩ rfl (Nat.le_of_ble_eq_true rfl) ⟨Nat.zero_le _, Nat.zero_le _⟩ rfl dX12_commonAncestor_78 (fun hr18 => ?_)
          refine V_iconst (pc := 81) C dX12_commonAncestor_81 ?_
          refine V_iadd (pc := 82) C dX12_commonAncestor_82 ?_
          refine V_rng fun hM20 => ?_
          obtain ⟨g21, h⟩ := grd_of h
          obtain ⟨g22, h⟩ := grd_of h
          refine V_iald (pc := 83) C e53 g22 g21 dX12_commonAncestor_83 ?_
          refine V_istore (pc := 84) C (L' := [(0, vr Γ 52), (3, vi x3), (4, vi (M17 53 (r18 + (3 : Int) : Int).toNat))]) rfl (by decide) dX12_commonAncestor_84 ?_
          refine V_goto (pc := 86) C 37 dX12_commonAncestor_86 (by decide) ?_
          refine V_sub (L' := [(0, vr Γ 52), (3, vi x3), (4, vi (M17 53 (r18 + (3 : Int) : Int).toNat))]) [0, 1, 2] rfl (by decide) ?_
          exact ih hx3 (hM20 _ _) h
        · have h := ite_f h c54_16
          refine V_aload_n (pc := 57) C 0 rfl dX12_commonAncestor_57 ?_
          refine V_getR (pc := 58) C e52 rfl inX12 0 (by decide) rfl lf_X12_9 rfl dX12_commonAncestor_58 ?_
          refine V_iload_n (pc := 61) C 1 rfl dX12_commonAncestor_61 ?_
          obtain ⟨M23, r24, hc25, h⟩ := cal_of h
          refine V_callSI (pc := 62) C (c_X12_v l Γ sk hsk fu hx3 hc25) cf_X12_v lk_X12_112 ⟨rfl, rfl⟩ ⟨Nat.le_of_ble_eq_true rfl, Nat.le_of_ble_eq_true rfl⟩ rfl (Nat.le_of_ble_eq_true rfl) ⟨Nat.zero_le _, Nat.zero_le _⟩ rfl dX12_commonAncestor_62 (fun hr24 => ?_)
          refine V_iconst (pc := 65) C dX12_commonAncestor_65 ?_
          refine V_iadd (pc := 66) C dX12_commonAncestor_66 ?_
          refine V_rng fun hM26 => ?_
          obtain ⟨g27, h⟩ := grd_of h
          obtain ⟨g28, h⟩ := grd_of h
          refine V_iald (pc := 67) C e53 g28 g27 dX12_commonAncestor_67 ?_
          refine V_istore_n (pc := 68) C (L' := [(0, vr Γ 52), (3, vi (M23 53 (r24 + (3 : Int) : Int).toNat)), (4, vi x4)]) rfl (by decide) dX12_commonAncestor_68 ?_
          refine V_goto (pc := 69) C 37 dX12_commonAncestor_69 (by decide) ?_
          refine V_sub (L' := [(0, vr Γ 52), (3, vi (M23 53 (r24 + (3 : Int) : Int).toNat)), (4, vi x4)]) [0, 1, 2] rfl (by decide) ?_
          exact ih (hM26 _ _) hx4 h
  have JP22 : ∀ {x1 : Int} {x2 : Int} {y1 : Int} {M : Mem}, rng x1 → rng x2 → rng y1 → f_X12_commonAncestor_J22 fu x1 x2 y1 M = some (M', r) → VV p l e ({ frames := 2, cells := 0, slots := 0, locals := 46 } : Room) s m args below meth c (MQ below (PostI Γ sk M' r s.heap.size) args s 0 0 (Fr Γ sk s.heap.size)) 5 Γ sk M 0 0 22 [(0, vr Γ 52), (1, vi x1), (2, vi x2)] [vi y1, vr Γ 52] := by
    intro x1 x2 y1 M hx1 hx2 hy1 h
    unfold f_X12_commonAncestor_J22 at h
    refine V_iconst (pc := 22) C dX12_commonAncestor_22 ?_
    refine V_iconst (pc := 23) C dX12_commonAncestor_23 ?_
    obtain ⟨M5, r6, hc7, h⟩ := cal_of h
    refine V_callVI (pc := 24) C (c_X12_check l Γ sk hsk fu hy1 (by decide) (by decide) hc7) cf_X12_check lk_X12_330 ⟨rfl, rfl⟩ ⟨Nat.le_of_ble_eq_true rfl, Nat.le_of_ble_eq_true rfl⟩ e52 rfl rfl rfl (Nat.le_of_ble_eq_true rfl) ⟨Nat.zero_le _, Nat.zero_le _⟩ rfl dX12_commonAncestor_24 (fun hr6 => ?_)
    refine V_if_ne (pc := 27) C 32 hr6 dX12_commonAncestor_27 (by decide) (fun c27_8 => ?_) (fun c27_8 => ?_)
    · have h := ite_f h c27_8
      refine V_iload_n (pc := 32) C 1 rfl dX12_commonAncestor_32 ?_
      refine V_istore_n (pc := 33) C (L' := [(0, vr Γ 52), (1, vi x1), (2, vi x2), (3, vi x1)]) rfl (by decide) dX12_commonAncestor_33 ?_
      refine V_iload_n (pc := 34) C 2 rfl dX12_commonAncestor_34 ?_
      refine V_istore (pc := 35) C (L' := [(0, vr Γ 52), (1, vi x1), (2, vi x2), (3, vi x1), (4, vi x2)]) rfl (by decide) dX12_commonAncestor_35 ?_
      refine V_sub (L' := [(0, vr Γ 52), (3, vi x1), (4, vi x2)]) [0, 3, 4] rfl (by decide) ?_
      exact LP37 fu  hx1 hx2 h
    · have h := ite_t h c27_8
      refine V_iconst (pc := 30) C dX12_commonAncestor_30 ?_
      exact V_iret (pc := 31) C hr hlk (by decide) h dX12_commonAncestor_31
  have JP21 : ∀ {x1 : Int} {x2 : Int} {M : Mem}, rng x1 → rng x2 → f_X12_commonAncestor_J21 fu x1 x2 M = some (M', r) → VV p l e ({ frames := 2, cells := 0, slots := 0, locals := 46 } : Room) s m args below meth c (MQ below (PostI Γ sk M' r s.heap.size) args s 0 0 (Fr Γ sk s.heap.size)) 5 Γ sk M 0 0 21 [(0, vr Γ 52), (1, vi x1), (2, vi x2)] [vr Γ 52] := by
    intro x1 x2 M hx1 hx2 h
    unfold f_X12_commonAncestor_J21 at h
    refine V_iconst (pc := 21) C dX12_commonAncestor_21 ?_
    refine V_sub (L' := [(0, vr Γ 52), (1, vi x1), (2, vi x2)]) [0, 1, 2] rfl (by decide) ?_
    exact JP22 hx1 hx2 (by decide) h
  skip
  refine V_aload_n (pc := 0) C 0 rfl dX12_commonAncestor_0 ?_
  refine V_aload_n (pc := 1) C 0 rfl dX12_commonAncestor_1 ?_
  refine V_iload_n (pc := 2) C 1 rfl dX12_commonAncestor_2 ?_
  obtain ⟨M1, r2, hc3, h⟩ := cal_of h
  refine V_callVI (pc := 3) C (c_X12_isVersion l Γ sk hsk fu ha1 hc3) cf_X12_isVersion lk_X12_285 ⟨rfl, rfl⟩ ⟨Nat.le_of_ble_eq_true rfl, Nat.le_of_ble_eq_true rfl⟩ e52 rfl rfl rfl (Nat.le_of_ble_eq_true rfl) ⟨Nat.zero_le _, Nat.zero_le _⟩ rfl dX12_commonAncestor_3 (fun hr2 => ?_)
  refine V_if_eq (pc := 6) C 21 hr2 dX12_commonAncestor_6 (by decide) (fun c6_4 => ?_) (fun c6_4 => ?_)
  · have h := ite_t h c6_4
    refine V_sub (L' := [(0, vr Γ 52), (1, vi a1), (2, vi a2)]) [0, 1, 2] rfl (by decide) ?_
    exact JP21 ha1 ha2 h
  · have h := ite_f h c6_4
    refine V_aload_n (pc := 9) C 0 rfl dX12_commonAncestor_9 ?_
    refine V_iload_n (pc := 10) C 2 rfl dX12_commonAncestor_10 ?_
    obtain ⟨M29, r30, hc31, h⟩ := cal_of h
    refine V_callVI (pc := 11) C (c_X12_isVersion l Γ sk hsk fu ha2 hc31) cf_X12_isVersion lk_X12_285 ⟨rfl, rfl⟩ ⟨Nat.le_of_ble_eq_true rfl, Nat.le_of_ble_eq_true rfl⟩ e52 rfl rfl rfl (Nat.le_of_ble_eq_true rfl) ⟨Nat.zero_le _, Nat.zero_le _⟩ rfl dX12_commonAncestor_11 (fun hr30 => ?_)
    refine V_if_eq (pc := 14) C 21 hr30 dX12_commonAncestor_14 (by decide) (fun c14_32 => ?_) (fun c14_32 => ?_)
    · have h := ite_t h c14_32
      refine V_sub (L' := [(0, vr Γ 52), (1, vi a1), (2, vi a2)]) [0, 1, 2] rfl (by decide) ?_
      exact JP21 ha1 ha2 h
    · have h := ite_f h c14_32
      refine V_iconst (pc := 17) C dX12_commonAncestor_17 ?_
      refine V_goto (pc := 18) C 22 dX12_commonAncestor_18 (by decide) ?_
      refine V_sub (L' := [(0, vr Γ 52), (1, vi a1), (2, vi a2)]) [0, 1, 2] rfl (by decide) ?_
      exact JP22 ha1 ha2 (by decide) h
set_option maxRecDepth 100000 in
set_option maxHeartbeats 4000000 in
theorem c_X12_checkLive (l : Launch) (Γ : GG) (sk : List SD) (hsk : ExtM sk) (fu : Nat) {M M' : Mem} {a1 : Int} {r : Int} (ha1 : rng a1) (h : f_X12_checkLive fu M a1 = some (M', r)) : MetI l yX12_checkLive cX12_checkLive 3 .boolean ({ frames := 2, cells := 0, slots := 0, locals := 46 } : Room) Γ sk [vr Γ 52, vi a1] M M' r := by
  unfold f_X12_checkLive at h
  refine MetI_of RX12 rfl (by decide) rfl (Nat.le_of_ble_eq_true rfl) rfl ?_
  intro p e s m args below meth c C hr hlk hM
  have e52 := hsk 52 _ (by decide) rfl
  refine V_aload_n (pc := 0) C 0 rfl dX12_checkLive_0 ?_
  refine V_iload_n (pc := 1) C 1 rfl dX12_checkLive_1 ?_
  obtain ⟨M1, r2, hc3, h⟩ := cal_of h
  refine V_callVI (pc := 2) C (c_X12_isVersion l Γ sk hsk fu ha1 hc3) cf_X12_isVersion lk_X12_285 ⟨rfl, rfl⟩ ⟨Nat.le_of_ble_eq_true rfl, Nat.le_of_ble_eq_true rfl⟩ e52 rfl rfl rfl (Nat.le_of_ble_eq_true rfl) ⟨Nat.zero_le _, Nat.zero_le _⟩ rfl dX12_checkLive_2 (fun hr2 => ?_)
  refine V_istore_n (pc := 5) C (L' := [(0, vr Γ 52), (1, vi a1), (2, vi r2)]) rfl (by decide) dX12_checkLive_5 ?_
  refine V_aload_n (pc := 6) C 0 rfl dX12_checkLive_6 ?_
  refine V_iload_n (pc := 7) C 2 rfl dX12_checkLive_7 ?_
  refine V_iload_n (pc := 8) C 2 rfl dX12_checkLive_8 ?_
  refine V_if_eq (pc := 9) C 24 hr2 dX12_checkLive_9 (by decide) (fun c9_4 => ?_) (fun c9_4 => ?_)
  · have h := ite_t h c9_4
    refine V_iconst (pc := 24) C dX12_checkLive_24 ?_
    refine V_iconst (pc := 25) C dX12_checkLive_25 ?_
    obtain ⟨M5, r6, hc7, h⟩ := cal_of h
    refine V_callVI (pc := 26) C (c_X12_check l Γ sk hsk fu hr2 (by decide) (by decide) hc7) cf_X12_check lk_X12_330 ⟨rfl, rfl⟩ ⟨Nat.le_of_ble_eq_true rfl, Nat.le_of_ble_eq_true rfl⟩ e52 rfl rfl rfl (Nat.le_of_ble_eq_true rfl) ⟨Nat.zero_le _, Nat.zero_le _⟩ rfl dX12_checkLive_26 (fun hr6 => ?_)
    obtain ⟨g8, h⟩ := grd_of h
    exact V_zret (pc := 29) C hr hlk g8 h dX12_checkLive_29
  · have h := ite_f h c9_4
    refine V_aload_n (pc := 12) C 0 rfl dX12_checkLive_12 ?_
    refine V_iload_n (pc := 13) C 1 rfl dX12_checkLive_13 ?_
    obtain ⟨M9, r10, hc11, h⟩ := cal_of h
    refine V_callVI (pc := 14) C (c_X12_isGone l Γ sk hsk fu ha1 hc11) cf_X12_isGone lk_X12_164 ⟨rfl, rfl⟩ ⟨Nat.le_of_ble_eq_true rfl, Nat.le_of_ble_eq_true rfl⟩ e52 rfl rfl rfl (Nat.le_of_ble_eq_true rfl) ⟨Nat.zero_le _, Nat.zero_le _⟩ rfl dX12_checkLive_14 (fun hr10 => ?_)
    refine V_if_ne (pc := 17) C 24 hr10 dX12_checkLive_17 (by decide) (fun c17_12 => ?_) (fun c17_12 => ?_)
    · have h := ite_f h c17_12
      refine V_iconst (pc := 24) C dX12_checkLive_24 ?_
      refine V_iconst (pc := 25) C dX12_checkLive_25 ?_
      obtain ⟨M13, r14, hc15, h⟩ := cal_of h
      refine V_callVI (pc := 26) C (c_X12_check l Γ sk hsk fu hr2 (by decide) (by decide) hc15) cf_X12_check lk_X12_330 ⟨rfl, rfl⟩ ⟨Nat.le_of_ble_eq_true rfl, Nat.le_of_ble_eq_true rfl⟩ e52 rfl rfl rfl (Nat.le_of_ble_eq_true rfl) ⟨Nat.zero_le _, Nat.zero_le _⟩ rfl dX12_checkLive_26 (fun hr14 => ?_)
      obtain ⟨g16, h⟩ := grd_of h
      exact V_zret (pc := 29) C hr hlk g16 h dX12_checkLive_29
    · have h := ite_t h c17_12
      refine V_iconst (pc := 20) C dX12_checkLive_20 ?_
      refine V_goto (pc := 21) C 25 dX12_checkLive_21 (by decide) ?_
      refine V_iconst (pc := 25) C dX12_checkLive_25 ?_
      obtain ⟨M17, r18, hc19, h⟩ := cal_of h
      refine V_callVI (pc := 26) C (c_X12_check l Γ sk hsk fu hr2 (by decide) (by decide) hc19) cf_X12_check lk_X12_330 ⟨rfl, rfl⟩ ⟨Nat.le_of_ble_eq_true rfl, Nat.le_of_ble_eq_true rfl⟩ e52 rfl rfl rfl (Nat.le_of_ble_eq_true rfl) ⟨Nat.zero_le _, Nat.zero_le _⟩ rfl dX12_checkLive_26 (fun hr18 => ?_)
      obtain ⟨g20, h⟩ := grd_of h
      exact V_zret (pc := 29) C hr hlk g20 h dX12_checkLive_29
set_option maxRecDepth 100000 in
set_option maxHeartbeats 4000000 in
theorem c_X12_hasElement (l : Launch) (Γ : GG) (sk : List SD) (hsk : ExtM sk) (fu : Nat) {M M' : Mem} {a1 : Int} {a2 : Int} {r : Int} (ha1 : rng a1) (ha2 : rng a2) (h : f_X12_hasElement fu M a1 a2 = some (M', r)) : MetI l yX12_hasElement cX12_hasElement 3 .boolean ({ frames := 2, cells := 0, slots := 0, locals := 46 } : Room) Γ sk [vr Γ 52, vi a1, vi a2] M M' r := by
  unfold f_X12_hasElement at h
  refine MetI_of RX12 rfl (by decide) rfl (Nat.le_of_ble_eq_true rfl) rfl ?_
  intro p e s m args below meth c C hr hlk hM
  have e52 := hsk 52 _ (by decide) rfl
  refine V_aload_n (pc := 0) C 0 rfl dX12_hasElement_0 ?_
  refine V_iload_n (pc := 1) C 1 rfl dX12_hasElement_1 ?_
  obtain ⟨M1, r2, hc3, h⟩ := cal_of h
  refine V_callVI (pc := 2) C (c_X12_isVersion l Γ sk hsk fu ha1 hc3) cf_X12_isVersion lk_X12_285 ⟨rfl, rfl⟩ ⟨Nat.le_of_ble_eq_true rfl, Nat.le_of_ble_eq_true rfl⟩ e52 rfl rfl rfl (Nat.le_of_ble_eq_true rfl) ⟨Nat.zero_le _, Nat.zero_le _⟩ rfl dX12_hasElement_2 (fun hr2 => ?_)
  refine V_if_eq (pc := 5) C 37 hr2 dX12_hasElement_5 (by decide) (fun c5_4 => ?_) (fun c5_4 => ?_)
  · have h := ite_t h c5_4
    refine V_iconst (pc := 37) C dX12_hasElement_37 ?_
    exact V_zret (pc := 38) C hr hlk (by decide) h dX12_hasElement_38
  · have h := ite_f h c5_4
    refine V_aload_n (pc := 8) C 0 rfl dX12_hasElement_8 ?_
    refine V_iload_n (pc := 9) C 1 rfl dX12_hasElement_9 ?_
    obtain ⟨M5, r6, hc7, h⟩ := cal_of h
    refine V_callVI (pc := 10) C (c_X12_isGone l Γ sk hsk fu ha1 hc7) cf_X12_isGone lk_X12_164 ⟨rfl, rfl⟩ ⟨Nat.le_of_ble_eq_true rfl, Nat.le_of_ble_eq_true rfl⟩ e52 rfl rfl rfl (Nat.le_of_ble_eq_true rfl) ⟨Nat.zero_le _, Nat.zero_le _⟩ rfl dX12_hasElement_10 (fun hr6 => ?_)
    refine V_if_ne (pc := 13) C 33 hr6 dX12_hasElement_13 (by decide) (fun c13_8 => ?_) (fun c13_8 => ?_)
    · have h := ite_f h c13_8
      refine V_iconst (pc := 33) C dX12_hasElement_33 ?_
      refine V_goto (pc := 34) C 38 dX12_hasElement_34 (by decide) ?_
      exact V_zret (pc := 38) C hr hlk (by decide) h dX12_hasElement_38
    · have h := ite_t h c13_8
      refine V_iload_n (pc := 16) C 2 rfl dX12_hasElement_16 ?_
      refine V_i2l (pc := 17) C ha2 dX12_hasElement_17 ?_
      refine V_lconst (pc := 18) C (x := (0 : Int)) dX12_hasElement_18 rfl ?_
      refine V_aload_n (pc := 19) C 0 rfl dX12_hasElement_19 ?_
      refine V_iload_n (pc := 20) C 1 rfl dX12_hasElement_20 ?_
      obtain ⟨M9, r10, hc11, h⟩ := cal_of h
      refine V_callVI (pc := 21) C (c_X12_lengthOf l Γ sk hsk fu ha1 hc11) cf_X12_lengthOf lk_X12_121 ⟨rfl, rfl⟩ ⟨Nat.le_of_ble_eq_true rfl, Nat.le_of_ble_eq_true rfl⟩ e52 rfl rfl rfl (Nat.le_of_ble_eq_true rfl) ⟨Nat.zero_le _, Nat.zero_le _⟩ rfl dX12_hasElement_21 (fun hr10 => ?_)
      refine V_iconst (pc := 24) C dX12_hasElement_24 ?_
      refine V_isub (pc := 25) C dX12_hasElement_25 ?_
      obtain ⟨g12, h⟩ := grd_of h
      refine V_i2l (pc := 26) C g12 dX12_hasElement_26 ?_
      obtain ⟨M13, r14, hc15, h⟩ := cal_of h
      refine V_callSI (pc := 27) C (c_X12_isWithin l Γ sk hsk fu ha2 (by decide) g12 hc15) cf_X12_isWithin lk_X12_167 ⟨rfl, rfl⟩ ⟨Nat.le_of_ble_eq_true rfl, Nat.le_of_ble_eq_true rfl⟩ rfl (Nat.le_of_ble_eq_true rfl) ⟨Nat.zero_le _, Nat.zero_le _⟩ rfl dX12_hasElement_27 (fun hr14 => ?_)
      refine V_if_eq (pc := 30) C 37 hr14 dX12_hasElement_30 (by decide) (fun c30_16 => ?_) (fun c30_16 => ?_)
      · have h := ite_t h c30_16
        refine V_iconst (pc := 37) C dX12_hasElement_37 ?_
        exact V_zret (pc := 38) C hr hlk (by decide) h dX12_hasElement_38
      · have h := ite_f h c30_16
        refine V_iconst (pc := 33) C dX12_hasElement_33 ?_
        refine V_goto (pc := 34) C 38 dX12_hasElement_34 (by decide) ?_
        exact V_zret (pc := 38) C hr hlk (by decide) h dX12_hasElement_38
set_option maxRecDepth 100000 in
set_option maxHeartbeats 4000000 in
theorem c_X12_checkElement (l : Launch) (Γ : GG) (sk : List SD) (hsk : ExtM sk) (fu : Nat) {M M' : Mem} {a1 : Int} {a2 : Int} {r : Int} (ha1 : rng a1) (ha2 : rng a2) (h : f_X12_checkElement fu M a1 a2 = some (M', r)) : MetI l yX12_checkElement cX12_checkElement 4 .boolean ({ frames := 3, cells := 0, slots := 0, locals := 68 } : Room) Γ sk [vr Γ 52, vi a1, vi a2] M M' r := by
  unfold f_X12_checkElement at h
  refine MetI_of RX12 rfl (by decide) rfl (Nat.le_of_ble_eq_true rfl) rfl ?_
  intro p e s m args below meth c C hr hlk hM
  have e52 := hsk 52 _ (by decide) rfl
  refine V_aload_n (pc := 0) C 0 rfl dX12_checkElement_0 ?_
  refine V_iload_n (pc := 1) C 1 rfl dX12_checkElement_1 ?_
  refine V_iload_n (pc := 2) C 2 rfl dX12_checkElement_2 ?_
  obtain ⟨M1, r2, hc3, h⟩ := cal_of h
  refine V_callVI (pc := 3) C (c_X12_hasElement l Γ sk hsk fu ha1 ha2 hc3) cf_X12_hasElement lk_X12_340 ⟨rfl, rfl⟩ ⟨Nat.le_of_ble_eq_true rfl, Nat.le_of_ble_eq_true rfl⟩ e52 rfl rfl rfl (Nat.le_of_ble_eq_true rfl) ⟨Nat.zero_le _, Nat.zero_le _⟩ rfl dX12_checkElement_3 (fun hr2 => ?_)
  refine V_istore_n (pc := 6) C (L' := [(0, vr Γ 52), (1, vi a1), (2, vi a2), (3, vi r2)]) rfl (by decide) dX12_checkElement_6 ?_
  refine V_aload_n (pc := 7) C 0 rfl dX12_checkElement_7 ?_
  refine V_iload_n (pc := 8) C 3 rfl dX12_checkElement_8 ?_
  refine V_iload_n (pc := 9) C 3 rfl dX12_checkElement_9 ?_
  refine V_if_eq (pc := 10) C 25 hr2 dX12_checkElement_10 (by decide) (fun c10_4 => ?_) (fun c10_4 => ?_)
  · have h := ite_t h c10_4
    refine V_iconst (pc := 25) C dX12_checkElement_25 ?_
    refine V_iconst (pc := 26) C dX12_checkElement_26 ?_
    obtain ⟨M5, r6, hc7, h⟩ := cal_of h
    refine V_callVI (pc := 27) C (c_X12_check l Γ sk hsk fu hr2 (by decide) (by decide) hc7) cf_X12_check lk_X12_330 ⟨rfl, rfl⟩ ⟨Nat.le_of_ble_eq_true rfl, Nat.le_of_ble_eq_true rfl⟩ e52 rfl rfl rfl (Nat.le_of_ble_eq_true rfl) ⟨Nat.zero_le _, Nat.zero_le _⟩ rfl dX12_checkElement_27 (fun hr6 => ?_)
    obtain ⟨g8, h⟩ := grd_of h
    exact V_zret (pc := 30) C hr hlk g8 h dX12_checkElement_30
  · have h := ite_f h c10_4
    refine V_aload_n (pc := 13) C 0 rfl dX12_checkElement_13 ?_
    refine V_iload_n (pc := 14) C 1 rfl dX12_checkElement_14 ?_
    obtain ⟨M9, r10, hc11, h⟩ := cal_of h
    refine V_callVI (pc := 15) C (c_X12_isGone l Γ sk hsk fu ha1 hc11) cf_X12_isGone lk_X12_164 ⟨rfl, rfl⟩ ⟨Nat.le_of_ble_eq_true rfl, Nat.le_of_ble_eq_true rfl⟩ e52 rfl rfl rfl (Nat.le_of_ble_eq_true rfl) ⟨Nat.zero_le _, Nat.zero_le _⟩ rfl dX12_checkElement_15 (fun hr10 => ?_)
    refine V_if_ne (pc := 18) C 25 hr10 dX12_checkElement_18 (by decide) (fun c18_12 => ?_) (fun c18_12 => ?_)
    · have h := ite_f h c18_12
      refine V_iconst (pc := 25) C dX12_checkElement_25 ?_
      refine V_iconst (pc := 26) C dX12_checkElement_26 ?_
      obtain ⟨M13, r14, hc15, h⟩ := cal_of h
      refine V_callVI (pc := 27) C (c_X12_check l Γ sk hsk fu hr2 (by decide) (by decide) hc15) cf_X12_check lk_X12_330 ⟨rfl, rfl⟩ ⟨Nat.le_of_ble_eq_true rfl, Nat.le_of_ble_eq_true rfl⟩ e52 rfl rfl rfl (Nat.le_of_ble_eq_true rfl) ⟨Nat.zero_le _, Nat.zero_le _⟩ rfl dX12_checkElement_27 (fun hr14 => ?_)
      obtain ⟨g16, h⟩ := grd_of h
      exact V_zret (pc := 30) C hr hlk g16 h dX12_checkElement_30
    · have h := ite_t h c18_12
      refine V_iconst (pc := 21) C dX12_checkElement_21 ?_
      refine V_goto (pc := 22) C 26 dX12_checkElement_22 (by decide) ?_
      refine V_iconst (pc := 26) C dX12_checkElement_26 ?_
      obtain ⟨M17, r18, hc19, h⟩ := cal_of h
      refine V_callVI (pc := 27) C (c_X12_check l Γ sk hsk fu hr2 (by decide) (by decide) hc19) cf_X12_check lk_X12_330 ⟨rfl, rfl⟩ ⟨Nat.le_of_ble_eq_true rfl, Nat.le_of_ble_eq_true rfl⟩ e52 rfl rfl rfl (Nat.le_of_ble_eq_true rfl) ⟨Nat.zero_le _, Nat.zero_le _⟩ rfl dX12_checkElement_27 (fun hr18 => ?_)
      obtain ⟨g20, h⟩ := grd_of h
      exact V_zret (pc := 30) C hr hlk g20 h dX12_checkElement_30
set_option maxRecDepth 100000 in
set_option maxHeartbeats 4000000 in
theorem c_X12_size (l : Launch) (Γ : GG) (sk : List SD) (hsk : ExtM sk) (fu : Nat) {M M' : Mem} {a1 : Int} {r : Int} (ha1 : rng a1) (h : f_X12_size fu M a1 = some (M', r)) : MetI l yX12_size cX12_size 2 .int ({ frames := 3, cells := 0, slots := 0, locals := 68 } : Room) Γ sk [vr Γ 52, vi a1] M M' r := by
  unfold f_X12_size at h
  refine MetI_of RX12 rfl (by decide) rfl (Nat.le_of_ble_eq_true rfl) rfl ?_
  intro p e s m args below meth c C hr hlk hM
  have e52 := hsk 52 _ (by decide) rfl
  refine V_aload_n (pc := 0) C 0 rfl dX12_size_0 ?_
  refine V_iload_n (pc := 1) C 1 rfl dX12_size_1 ?_
  obtain ⟨M1, r2, hc3, h⟩ := cal_of h
  refine V_callVI (pc := 2) C (c_X12_checkLive l Γ sk hsk fu ha1 hc3) cf_X12_checkLive lk_X12_343 ⟨rfl, rfl⟩ ⟨Nat.le_of_ble_eq_true rfl, Nat.le_of_ble_eq_true rfl⟩ e52 rfl rfl rfl (Nat.le_of_ble_eq_true rfl) ⟨Nat.zero_le _, Nat.zero_le _⟩ rfl dX12_size_2 (fun hr2 => ?_)
  refine V_if_eq (pc := 5) C 16 hr2 dX12_size_5 (by decide) (fun c5_4 => ?_) (fun c5_4 => ?_)
  · have h := ite_t h c5_4
    refine V_iconst (pc := 16) C dX12_size_16 ?_
    exact V_iret (pc := 17) C hr hlk (by decide) h dX12_size_17
  · have h := ite_f h c5_4
    refine V_aload_n (pc := 8) C 0 rfl dX12_size_8 ?_
    refine V_iload_n (pc := 9) C 1 rfl dX12_size_9 ?_
    obtain ⟨M5, r6, hc7, h⟩ := cal_of h
    refine V_callVI (pc := 10) C (c_X12_lengthOf l Γ sk hsk fu ha1 hc7) cf_X12_lengthOf lk_X12_121 ⟨rfl, rfl⟩ ⟨Nat.le_of_ble_eq_true rfl, Nat.le_of_ble_eq_true rfl⟩ e52 rfl rfl rfl (Nat.le_of_ble_eq_true rfl) ⟨Nat.zero_le _, Nat.zero_le _⟩ rfl dX12_size_10 (fun hr6 => ?_)
    refine V_goto (pc := 13) C 17 dX12_size_13 (by decide) ?_
    exact V_iret (pc := 17) C hr hlk hr6 h dX12_size_17
set_option maxRecDepth 100000 in
set_option maxHeartbeats 4000000 in
theorem c_X12_height (l : Launch) (Γ : GG) (sk : List SD) (hsk : ExtM sk) (fu : Nat) {M M' : Mem} {a1 : Int} {r : Int} (ha1 : rng a1) (h : f_X12_height fu M a1 = some (M', r)) : MetI l yX12_height cX12_height 2 .int ({ frames := 3, cells := 0, slots := 0, locals := 68 } : Room) Γ sk [vr Γ 52, vi a1] M M' r := by
  unfold f_X12_height at h
  refine MetI_of RX12 rfl (by decide) rfl (Nat.le_of_ble_eq_true rfl) rfl ?_
  intro p e s m args below meth c C hr hlk hM
  have e52 := hsk 52 _ (by decide) rfl
  refine V_aload_n (pc := 0) C 0 rfl dX12_height_0 ?_
  refine V_iload_n (pc := 1) C 1 rfl dX12_height_1 ?_
  obtain ⟨M1, r2, hc3, h⟩ := cal_of h
  refine V_callVI (pc := 2) C (c_X12_checkLive l Γ sk hsk fu ha1 hc3) cf_X12_checkLive lk_X12_343 ⟨rfl, rfl⟩ ⟨Nat.le_of_ble_eq_true rfl, Nat.le_of_ble_eq_true rfl⟩ e52 rfl rfl rfl (Nat.le_of_ble_eq_true rfl) ⟨Nat.zero_le _, Nat.zero_le _⟩ rfl dX12_height_2 (fun hr2 => ?_)
  refine V_if_eq (pc := 5) C 16 hr2 dX12_height_5 (by decide) (fun c5_4 => ?_) (fun c5_4 => ?_)
  · have h := ite_t h c5_4
    refine V_iconst (pc := 16) C dX12_height_16 ?_
    exact V_iret (pc := 17) C hr hlk (by decide) h dX12_height_17
  · have h := ite_f h c5_4
    refine V_aload_n (pc := 8) C 0 rfl dX12_height_8 ?_
    refine V_iload_n (pc := 9) C 1 rfl dX12_height_9 ?_
    obtain ⟨M5, r6, hc7, h⟩ := cal_of h
    refine V_callVI (pc := 10) C (c_X12_heightOf l Γ sk hsk fu ha1 hc7) cf_X12_heightOf lk_X12_148 ⟨rfl, rfl⟩ ⟨Nat.le_of_ble_eq_true rfl, Nat.le_of_ble_eq_true rfl⟩ e52 rfl rfl rfl (Nat.le_of_ble_eq_true rfl) ⟨Nat.zero_le _, Nat.zero_le _⟩ rfl dX12_height_10 (fun hr6 => ?_)
    refine V_goto (pc := 13) C 17 dX12_height_13 (by decide) ?_
    exact V_iret (pc := 17) C hr hlk hr6 h dX12_height_17
set_option maxRecDepth 100000 in
set_option maxHeartbeats 4000000 in
theorem c_X12_rootOf (l : Launch) (Γ : GG) (sk : List SD) (hsk : ExtM sk) (fu : Nat) {M M' : Mem} {a1 : Int} {r : Int} (ha1 : rng a1) (h : f_X12_rootOf fu M a1 = some (M', r)) : MetI l yX12_rootOf cX12_rootOf 2 .int ({ frames := 3, cells := 0, slots := 0, locals := 68 } : Room) Γ sk [vr Γ 52, vi a1] M M' r := by
  unfold f_X12_rootOf at h
  refine MetI_of RX12 rfl (by decide) rfl (Nat.le_of_ble_eq_true rfl) rfl ?_
  intro p e s m args below meth c C hr hlk hM
  have e52 := hsk 52 _ (by decide) rfl
  refine V_aload_n (pc := 0) C 0 rfl dX12_rootOf_0 ?_
  refine V_iload_n (pc := 1) C 1 rfl dX12_rootOf_1 ?_
  obtain ⟨M1, r2, hc3, h⟩ := cal_of h
  refine V_callVI (pc := 2) C (c_X12_checkLive l Γ sk hsk fu ha1 hc3) cf_X12_checkLive lk_X12_343 ⟨rfl, rfl⟩ ⟨Nat.le_of_ble_eq_true rfl, Nat.le_of_ble_eq_true rfl⟩ e52 rfl rfl rfl (Nat.le_of_ble_eq_true rfl) ⟨Nat.zero_le _, Nat.zero_le _⟩ rfl dX12_rootOf_2 (fun hr2 => ?_)
  refine V_if_eq (pc := 5) C 16 hr2 dX12_rootOf_5 (by decide) (fun c5_4 => ?_) (fun c5_4 => ?_)
  · have h := ite_t h c5_4
    refine V_iconst (pc := 16) C dX12_rootOf_16 ?_
    exact V_iret (pc := 17) C hr hlk (by decide) h dX12_rootOf_17
  · have h := ite_f h c5_4
    refine V_aload_n (pc := 8) C 0 rfl dX12_rootOf_8 ?_
    refine V_iload_n (pc := 9) C 1 rfl dX12_rootOf_9 ?_
    obtain ⟨M5, r6, hc7, h⟩ := cal_of h
    refine V_callVI (pc := 10) C (c_X12_root l Γ sk hsk fu ha1 hc7) cf_X12_root lk_X12_145 ⟨rfl, rfl⟩ ⟨Nat.le_of_ble_eq_true rfl, Nat.le_of_ble_eq_true rfl⟩ e52 rfl rfl rfl (Nat.le_of_ble_eq_true rfl) ⟨Nat.zero_le _, Nat.zero_le _⟩ rfl dX12_rootOf_10 (fun hr6 => ?_)
    refine V_goto (pc := 13) C 17 dX12_rootOf_13 (by decide) ?_
    exact V_iret (pc := 17) C hr hlk hr6 h dX12_rootOf_17
set_option maxRecDepth 100000 in
set_option maxHeartbeats 4000000 in
theorem c_X12_get (l : Launch) (Γ : GG) (sk : List SD) (hsk : ExtM sk) (fu : Nat) {M M' : Mem} {a1 : Int} {a2 : Int} {r : Int} (ha1 : rng a1) (ha2 : rng a2) (h : f_X12_get fu M a1 a2 = some (M', r)) : MetI l yX12_get cX12_get 3 .int ({ frames := 4, cells := 0, slots := 0, locals := 91 } : Room) Γ sk [vr Γ 52, vi a1, vi a2] M M' r := by
  unfold f_X12_get at h
  refine MetI_of RX12 rfl (by decide) rfl (Nat.le_of_ble_eq_true rfl) rfl ?_
  intro p e s m args below meth c C hr hlk hM
  have e52 := hsk 52 _ (by decide) rfl
  refine V_aload_n (pc := 0) C 0 rfl dX12_get_0 ?_
  refine V_iload_n (pc := 1) C 1 rfl dX12_get_1 ?_
  refine V_iload_n (pc := 2) C 2 rfl dX12_get_2 ?_
  obtain ⟨M1, r2, hc3, h⟩ := cal_of h
  refine V_callVI (pc := 3) C (c_X12_checkElement l Γ sk hsk fu ha1 ha2 hc3) cf_X12_checkElement lk_X12_346 ⟨rfl, rfl⟩ ⟨Nat.le_of_ble_eq_true rfl, Nat.le_of_ble_eq_true rfl⟩ e52 rfl rfl rfl (Nat.le_of_ble_eq_true rfl) ⟨Nat.zero_le _, Nat.zero_le _⟩ rfl dX12_get_3 (fun hr2 => ?_)
  refine V_if_eq (pc := 6) C 18 hr2 dX12_get_6 (by decide) (fun c6_4 => ?_) (fun c6_4 => ?_)
  · have h := ite_t h c6_4
    refine V_iconst (pc := 18) C dX12_get_18 ?_
    exact V_iret (pc := 19) C hr hlk (by decide) h dX12_get_19
  · have h := ite_f h c6_4
    refine V_aload_n (pc := 9) C 0 rfl dX12_get_9 ?_
    refine V_iload_n (pc := 10) C 1 rfl dX12_get_10 ?_
    refine V_iload_n (pc := 11) C 2 rfl dX12_get_11 ?_
    obtain ⟨M5, r6, hc7, h⟩ := cal_of h
    refine V_callVI (pc := 12) C (c_X12_element l Γ sk hsk fu ha1 ha2 hc7) cf_X12_element lk_X12_129 ⟨rfl, rfl⟩ ⟨Nat.le_of_ble_eq_true rfl, Nat.le_of_ble_eq_true rfl⟩ e52 rfl rfl rfl (Nat.le_of_ble_eq_true rfl) ⟨Nat.zero_le _, Nat.zero_le _⟩ rfl dX12_get_12 (fun hr6 => ?_)
    refine V_goto (pc := 15) C 19 dX12_get_15 (by decide) ?_
    exact V_iret (pc := 19) C hr hlk hr6 h dX12_get_19
set_option maxRecDepth 100000 in
set_option maxHeartbeats 4000000 in
theorem c_X12_leafOf (l : Launch) (Γ : GG) (sk : List SD) (hsk : ExtM sk) (fu : Nat) {M M' : Mem} {a1 : Int} {a2 : Int} {r : Int} (ha1 : rng a1) (ha2 : rng a2) (h : f_X12_leafOf fu M a1 a2 = some (M', r)) : MetI l yX12_leafOf cX12_leafOf 5 .int ({ frames := 4, cells := 0, slots := 0, locals := 91 } : Room) Γ sk [vr Γ 52, vi a1, vi a2] M M' r := by
  unfold f_X12_leafOf at h
  refine MetI_of RX12 rfl (by decide) rfl (Nat.le_of_ble_eq_true rfl) rfl ?_
  intro p e s m args below meth c C hr hlk hM
  have e52 := hsk 52 _ (by decide) rfl
  have LP24 : ∀ (n : Nat) {x2 : Int} {x3 : Int} {x4 : Int} {M : Mem}, rng x2 → rng x3 → rng x4 → f_X12_leafOf_L24 fu n x2 x3 x4 M = some (M', r) → VV p l e ({ frames := 4, cells := 0, slots := 0, locals := 91 } : Room) s m args below meth c (MQ below (PostI Γ sk M' r s.heap.size) args s 0 0 (Fr Γ sk s.heap.size)) 5 Γ sk M 0 0 24 [(0, vr Γ 52), (2, vi x2), (3, vi x3), (4, vi x4)] [] := by
    intro n
    induction n with
    | zero =>
      intro x2 x3 x4 M hx2 hx3 hx4 h
      cases h
    | succ n ih =>
      intro x2 x3 x4 M hx2 hx3 hx4 h
      rw [f_X12_leafOf_L24] at h
      refine V_iload (pc := 24) C 3 rfl dX12_leafOf_24 ?_
      refine V_iconst (pc := 26) C dX12_leafOf_26 ?_
      refine V_icmp_le (pc := 27) C 53 hx4 (by decide) dX12_leafOf_27 (by decide) (fun c27_11 => ?_) (fun c27_11 => ?_)
      · have h := ite_t h c27_11
        refine V_iload_n (pc := 53) C 2 rfl dX12_leafOf_53 ?_
        exact V_iret (pc := 54) C hr hlk hx3 h dX12_leafOf_54
      · have h := ite_f h c27_11
        refine V_aload_n (pc := 30) C 0 rfl dX12_leafOf_30 ?_
        refine V_iload_n (pc := 31) C 2 rfl dX12_leafOf_31 ?_
        refine V_iload_n (pc := 32) C 1 rfl dX12_leafOf_32 ?_
        refine V_iload (pc := 33) C 3 rfl dX12_leafOf_33 ?_
        refine V_iconst (pc := 35) C dX12_leafOf_35 ?_
        refine V_isub (pc := 36) C dX12_leafOf_36 ?_
        obtain ⟨g12, h⟩ := grd_of h
        obtain ⟨M13, r14, hc15, h⟩ := cal_of h
        refine V_callSI (pc := 37) C (c_X12_span l Γ sk hsk fu g12 hc15) cf_X12_span lk_X12_64 ⟨rfl, rfl⟩ ⟨Nat.le_of_ble_eq_true rfl, Nat.le_of_ble_eq_true rfl⟩ rfl (Nat.le_of_ble_eq_true rfl) ⟨Nat.zero_le _, Nat.zero_le _⟩ rfl dX12_leafOf_37 (fun hr14 => ?_)
        obtain ⟨g16, h⟩ := grd_of h
        refine V_idiv (pc := 40) C g16 dX12_leafOf_40 ?_
        refine V_iconst (pc := 41) C dX12_leafOf_41 ?_
        obtain ⟨g17, h⟩ := grd_of h
        refine V_irem (pc := 42) C g17 dX12_leafOf_42 ?_
        obtain ⟨g18, h⟩ := grd_of h
        obtain ⟨M19, r20, hc21, h⟩ := cal_of h
        refine V_callVI (pc := 43) C (c_X12_entry l Γ sk hsk fu hx3 g18 hc21) cf_X12_entry lk_X12_71 ⟨rfl, rfl⟩ ⟨Nat.le_of_ble_eq_true rfl, Nat.le_of_ble_eq_true rfl⟩ e52 rfl rfl rfl (Nat.le_of_ble_eq_true rfl) ⟨Nat.zero_le _, Nat.zero_le _⟩ rfl dX12_leafOf_43 (fun hr20 => ?_)
        refine V_istore_n (pc := 46) C (L' := [(0, vr Γ 52), (2, vi x2), (3, vi r20), (4, vi x4)]) rfl (by decide) dX12_leafOf_46 ?_
        refine V_iinc (pc := 47) C (L' := [(0, vr Γ 52), (2, vi x2), (3, vi r20), (4, vi (x4 + (-1 : Int)))]) 3 rfl rfl (by decide) dX12_leafOf_47 ?_
        refine V_goto (pc := 50) C 24 dX12_leafOf_50 (by decide) ?_
        obtain ⟨g22, h⟩ := grd_of h
        refine V_sub (L' := [(0, vr Γ 52), (2, vi x2), (3, vi r20), (4, vi (x4 + (-1 : Int)))]) [0, 1, 2, 3] rfl (by decide) ?_
        exact ih hx2 hr20 g22 h
  skip
  refine V_aload_n (pc := 0) C 0 rfl dX12_leafOf_0 ?_
  refine V_iload_n (pc := 1) C 1 rfl dX12_leafOf_1 ?_
  refine V_iload_n (pc := 2) C 2 rfl dX12_leafOf_2 ?_
  obtain ⟨M1, r2, hc3, h⟩ := cal_of h
  refine V_callVI (pc := 3) C (c_X12_checkElement l Γ sk hsk fu ha1 ha2 hc3) cf_X12_checkElement lk_X12_346 ⟨rfl, rfl⟩ ⟨Nat.le_of_ble_eq_true rfl, Nat.le_of_ble_eq_true rfl⟩ e52 rfl rfl rfl (Nat.le_of_ble_eq_true rfl) ⟨Nat.zero_le _, Nat.zero_le _⟩ rfl dX12_leafOf_3 (fun hr2 => ?_)
  refine V_if_ne (pc := 6) C 11 hr2 dX12_leafOf_6 (by decide) (fun c6_4 => ?_) (fun c6_4 => ?_)
  · have h := ite_f h c6_4
    refine V_aload_n (pc := 11) C 0 rfl dX12_leafOf_11 ?_
    refine V_iload_n (pc := 12) C 1 rfl dX12_leafOf_12 ?_
    obtain ⟨M5, r6, hc7, h⟩ := cal_of h
    refine V_callVI (pc := 13) C (c_X12_root l Γ sk hsk fu ha1 hc7) cf_X12_root lk_X12_145 ⟨rfl, rfl⟩ ⟨Nat.le_of_ble_eq_true rfl, Nat.le_of_ble_eq_true rfl⟩ e52 rfl rfl rfl (Nat.le_of_ble_eq_true rfl) ⟨Nat.zero_le _, Nat.zero_le _⟩ rfl dX12_leafOf_13 (fun hr6 => ?_)
    refine V_istore_n (pc := 16) C (L' := [(0, vr Γ 52), (1, vi a1), (2, vi a2), (3, vi r6)]) rfl (by decide) dX12_leafOf_16 ?_
    refine V_aload_n (pc := 17) C 0 rfl dX12_leafOf_17 ?_
    refine V_iload_n (pc := 18) C 1 rfl dX12_leafOf_18 ?_
    obtain ⟨M8, r9, hc10, h⟩ := cal_of h
    refine V_callVI (pc := 19) C (c_X12_heightOf l Γ sk hsk fu ha1 hc10) cf_X12_heightOf lk_X12_148 ⟨rfl, rfl⟩ ⟨Nat.le_of_ble_eq_true rfl, Nat.le_of_ble_eq_true rfl⟩ e52 rfl rfl rfl (Nat.le_of_ble_eq_true rfl) ⟨Nat.zero_le _, Nat.zero_le _⟩ rfl dX12_leafOf_19 (fun hr9 => ?_)
    refine V_istore (pc := 22) C (L' := [(0, vr Γ 52), (1, vi a1), (2, vi a2), (3, vi r6), (4, vi r9)]) rfl (by decide) dX12_leafOf_22 ?_
    refine V_sub (L' := [(0, vr Γ 52), (2, vi a2), (3, vi r6), (4, vi r9)]) [0, 2, 3, 4] rfl (by decide) ?_
    exact LP24 fu  ha2 hr6 hr9 h
  · have h := ite_t h c6_4
    refine V_iconst (pc := 9) C dX12_leafOf_9 ?_
    exact V_iret (pc := 10) C hr hlk (by decide) h dX12_leafOf_10
