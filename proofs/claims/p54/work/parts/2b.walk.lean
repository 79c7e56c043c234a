set_option maxRecDepth 100000 in
set_option maxHeartbeats 4000000 in
theorem c_X10_isLive (l : Launch) (Γ : GG) (sk : List SD) (hsk : Ext sk) (fu : Nat) {M M' : Mem} {a1 : Int} {r : Int} (ha1 : rng a1) (h : f_X10_isLive fu M a1 = some (M', r)) : MetI l yX10_isLive cX10_isLive 2 .boolean ({ frames := 1, cells := 0, slots := 0, locals := 21 } : Room) Γ sk [vr Γ 10, vi a1] M M' r := by
  unfold f_X10_isLive at h
  refine MetI_of RX10 rfl (by decide) rfl (Nat.le_of_ble_eq_true rfl) rfl ?_
  intro p e s m args below meth c C hr hlk hM
  have e10 := hsk 10 _ (by decide) rfl
  have e18 := hsk 18 _ (by decide) rfl
  refine V_aload_n (pc := 0) C 0 rfl dX10_isLive_0 ?_
  refine V_iload_n (pc := 1) C 1 rfl dX10_isLive_1 ?_
  obtain ⟨M1, r2, hc3, h⟩ := cal_of h
  refine V_callVI (pc := 2) C (c_X10_has l Γ sk hsk fu ha1 hc3) cf_X10_has lk_X10_61 ⟨rfl, rfl⟩ ⟨Nat.le_of_ble_eq_true rfl, Nat.le_of_ble_eq_true rfl⟩ e10 rfl rfl rfl (Nat.le_of_ble_eq_true rfl) ⟨Nat.zero_le _, Nat.zero_le _⟩ rfl dX10_isLive_2 (fun hr2 => ?_)
  refine V_if_eq (pc := 5) C 23 hr2 dX10_isLive_5 (by decide) (fun c5_4 => ?_) (fun c5_4 => ?_)
  · have h := ite_t h c5_4
    refine V_iconst (pc := 23) C dX10_isLive_23 ?_
    exact V_zret (pc := 24) C hr hlk (by decide) h dX10_isLive_24
  · have h := ite_f h c5_4
    refine V_aload_n (pc := 8) C 0 rfl dX10_isLive_8 ?_
    refine V_getR (pc := 9) C e10 rfl inX10 8 (by decide) rfl lf_X10_33 rfl dX10_isLive_9 ?_
    refine V_iload_n (pc := 12) C 1 rfl dX10_isLive_12 ?_
    obtain ⟨M5, r6, hc7, h⟩ := cal_of h
    refine V_callNI (pc := 13) C (c_X11_flagAt l Γ sk hsk fu e18 (by decide) ha1 hc7) cf_X11_flagAt ln_X10_65 ⟨rfl, rfl⟩ ⟨Nat.le_of_ble_eq_true rfl, Nat.le_of_ble_eq_true rfl⟩ rfl (Nat.le_of_ble_eq_true rfl) ⟨Nat.zero_le _, Nat.zero_le _⟩ rfl dX10_isLive_13 (fun hr6 => ?_)
    refine V_if_ne (pc := 16) C 23 hr6 dX10_isLive_16 (by decide) (fun c16_8 => ?_) (fun c16_8 => ?_)
    · have h := ite_f h c16_8
      refine V_iconst (pc := 23) C dX10_isLive_23 ?_
      exact V_zret (pc := 24) C hr hlk (by decide) h dX10_isLive_24
    · have h := ite_t h c16_8
      refine V_iconst (pc := 19) C dX10_isLive_19 ?_
      refine V_goto (pc := 20) C 24 dX10_isLive_20 (by decide) ?_
      exact V_zret (pc := 24) C hr hlk (by decide) h dX10_isLive_24
set_option maxRecDepth 100000 in
set_option maxHeartbeats 4000000 in
theorem c_X10_parentAt (l : Launch) (Γ : GG) (sk : List SD) (hsk : Ext sk) (fu : Nat) {M M' : Mem} {a1 : Int} {r : Int} (ha1 : rng a1) (h : f_X10_parentAt fu M a1 = some (M', r)) : MetI l yX10_parentAt cX10_parentAt 2 .int ({ frames := 1, cells := 0, slots := 0, locals := 21 } : Room) Γ sk [vr Γ 10, vi a1] M M' r := by
  unfold f_X10_parentAt at h
  refine MetI_of RX10 rfl (by decide) rfl (Nat.le_of_ble_eq_true rfl) rfl ?_
  intro p e s m args below meth c C hr hlk hM
  have e10 := hsk 10 _ (by decide) rfl
  have e11 := hsk 11 _ (by decide) rfl
  refine V_aload_n (pc := 0) C 0 rfl dX10_parentAt_0 ?_
  refine V_getR (pc := 1) C e10 rfl inX10 1 (by decide) rfl lf_X10_9 rfl dX10_parentAt_1 ?_
  refine V_iload_n (pc := 4) C 1 rfl dX10_parentAt_4 ?_
  obtain ⟨M1, r2, hc3, h⟩ := cal_of h
  refine V_callNI (pc := 5) C (c_X11_at l Γ sk hsk fu e11 (by decide) ha1 hc3) cf_X11_at ln_X10_69 ⟨rfl, rfl⟩ ⟨Nat.le_of_ble_eq_true rfl, Nat.le_of_ble_eq_true rfl⟩ rfl (Nat.le_of_ble_eq_true rfl) ⟨Nat.zero_le _, Nat.zero_le _⟩ rfl dX10_parentAt_5 (fun hr2 => ?_)
  exact V_iret (pc := 8) C hr hlk hr2 h dX10_parentAt_8
set_option maxRecDepth 100000 in
set_option maxHeartbeats 4000000 in
theorem c_X10_rootAt (l : Launch) (Γ : GG) (sk : List SD) (hsk : Ext sk) (fu : Nat) {M M' : Mem} {a1 : Int} {r : Int} (ha1 : rng a1) (h : f_X10_rootAt fu M a1 = some (M', r)) : MetI l yX10_rootAt cX10_rootAt 2 .int ({ frames := 1, cells := 0, slots := 0, locals := 21 } : Room) Γ sk [vr Γ 10, vi a1] M M' r := by
  unfold f_X10_rootAt at h
  refine MetI_of RX10 rfl (by decide) rfl (Nat.le_of_ble_eq_true rfl) rfl ?_
  intro p e s m args below meth c C hr hlk hM
  have e10 := hsk 10 _ (by decide) rfl
  have e12 := hsk 12 _ (by decide) rfl
  refine V_aload_n (pc := 0) C 0 rfl dX10_rootAt_0 ?_
  refine V_getR (pc := 1) C e10 rfl inX10 2 (by decide) rfl lf_X10_15 rfl dX10_rootAt_1 ?_
  refine V_iload_n (pc := 4) C 1 rfl dX10_rootAt_4 ?_
  obtain ⟨M1, r2, hc3, h⟩ := cal_of h
  refine V_callNI (pc := 5) C (c_X11_at l Γ sk hsk fu e12 (by decide) ha1 hc3) cf_X11_at ln_X10_69 ⟨rfl, rfl⟩ ⟨Nat.le_of_ble_eq_true rfl, Nat.le_of_ble_eq_true rfl⟩ rfl (Nat.le_of_ble_eq_true rfl) ⟨Nat.zero_le _, Nat.zero_le _⟩ rfl dX10_rootAt_5 (fun hr2 => ?_)
  exact V_iret (pc := 8) C hr hlk hr2 h dX10_rootAt_8
set_option maxRecDepth 100000 in
set_option maxHeartbeats 4000000 in
theorem c_X10_sizeAt (l : Launch) (Γ : GG) (sk : List SD) (hsk : Ext sk) (fu : Nat) {M M' : Mem} {a1 : Int} {r : Int} (ha1 : rng a1) (h : f_X10_sizeAt fu M a1 = some (M', r)) : MetI l yX10_sizeAt cX10_sizeAt 2 .int ({ frames := 1, cells := 0, slots := 0, locals := 21 } : Room) Γ sk [vr Γ 10, vi a1] M M' r := by
  unfold f_X10_sizeAt at h
  refine MetI_of RX10 rfl (by decide) rfl (Nat.le_of_ble_eq_true rfl) rfl ?_
  intro p e s m args below meth c C hr hlk hM
  have e10 := hsk 10 _ (by decide) rfl
  have e13 := hsk 13 _ (by decide) rfl
  refine V_aload_n (pc := 0) C 0 rfl dX10_sizeAt_0 ?_
  refine V_getR (pc := 1) C e10 rfl inX10 3 (by decide) rfl lf_X10_18 rfl dX10_sizeAt_1 ?_
  refine V_iload_n (pc := 4) C 1 rfl dX10_sizeAt_4 ?_
  obtain ⟨M1, r2, hc3, h⟩ := cal_of h
  refine V_callNI (pc := 5) C (c_X11_at l Γ sk hsk fu e13 (by decide) ha1 hc3) cf_X11_at ln_X10_69 ⟨rfl, rfl⟩ ⟨Nat.le_of_ble_eq_true rfl, Nat.le_of_ble_eq_true rfl⟩ rfl (Nat.le_of_ble_eq_true rfl) ⟨Nat.zero_le _, Nat.zero_le _⟩ rfl dX10_sizeAt_5 (fun hr2 => ?_)
  exact V_iret (pc := 8) C hr hlk hr2 h dX10_sizeAt_8
set_option maxRecDepth 100000 in
set_option maxHeartbeats 4000000 in
theorem c_X10_createdForAt (l : Launch) (Γ : GG) (sk : List SD) (hsk : Ext sk) (fu : Nat) {M M' : Mem} {a1 : Int} {r : Int} (ha1 : rng a1) (h : f_X10_createdForAt fu M a1 = some (M', r)) : MetI l yX10_createdForAt cX10_createdForAt 2 .int ({ frames := 1, cells := 0, slots := 0, locals := 21 } : Room) Γ sk [vr Γ 10, vi a1] M M' r := by
  unfold f_X10_createdForAt at h
  refine MetI_of RX10 rfl (by decide) rfl (Nat.le_of_ble_eq_true rfl) rfl ?_
  intro p e s m args below meth c C hr hlk hM
  have e10 := hsk 10 _ (by decide) rfl
  have e14 := hsk 14 _ (by decide) rfl
  refine V_aload_n (pc := 0) C 0 rfl dX10_createdForAt_0 ?_
  refine V_getR (pc := 1) C e10 rfl inX10 4 (by decide) rfl lf_X10_21 rfl dX10_createdForAt_1 ?_
  refine V_iload_n (pc := 4) C 1 rfl dX10_createdForAt_4 ?_
  obtain ⟨M1, r2, hc3, h⟩ := cal_of h
  refine V_callNI (pc := 5) C (c_X11_at l Γ sk hsk fu e14 (by decide) ha1 hc3) cf_X11_at ln_X10_69 ⟨rfl, rfl⟩ ⟨Nat.le_of_ble_eq_true rfl, Nat.le_of_ble_eq_true rfl⟩ rfl (Nat.le_of_ble_eq_true rfl) ⟨Nat.zero_le _, Nat.zero_le _⟩ rfl dX10_createdForAt_5 (fun hr2 => ?_)
  exact V_iret (pc := 8) C hr hlk hr2 h dX10_createdForAt_8
set_option maxRecDepth 100000 in
set_option maxHeartbeats 4000000 in
theorem c_X10_countLiveRoots (l : Launch) (Γ : GG) (sk : List SD) (hsk : Ext sk) (fu : Nat) {M M' : Mem} {a1 : Int} {r : Int} (ha1 : rng a1) (h : f_X10_countLiveRoots fu M a1 = some (M', r)) : MetI l yX10_countLiveRoots cX10_countLiveRoots 4 .int ({ frames := 2, cells := 0, slots := 0, locals := 42 } : Room) Γ sk [vr Γ 10, vi a1] M M' r := by
  unfold f_X10_countLiveRoots at h
  refine MetI_of RX10 rfl (by decide) rfl (Nat.le_of_ble_eq_true rfl) rfl ?_
  intro p e s m args below meth c C hr hlk hM
  have e10 := hsk 10 _ (by decide) rfl
  have LP4 : ∀ (n : Nat) {x1 : Int} {x2 : Int} {x3 : Int} {M : Mem}, rng x1 → rng x2 → rng x3 → f_X10_countLiveRoots_L4 fu n x1 x2 x3 M = some (M', r) → VV p l e ({ frames := 2, cells := 0, slots := 0, locals := 42 } : Room) s m args below meth c (MQ below (PostI Γ sk M' r s.heap.size) args s 0 0 (Fr Γ sk s.heap.size)) 4 Γ sk M 0 0 4 [(0, vr Γ 10), (1, vi x1), (2, vi x2), (3, vi x3)] [] := by
    intro n
    induction n with
    | zero =>
      intro x1 x2 x3 M hx1 hx2 hx3 h
      cases h
    | succ n ih =>
      intro x1 x2 x3 M hx1 hx2 hx3 h
      rw [f_X10_countLiveRoots_L4] at h
      refine V_iload_n (pc := 4) C 3 rfl dX10_countLiveRoots_4 ?_
      refine V_aload_n (pc := 5) C 0 rfl dX10_countLiveRoots_5 ?_
      refine V_rng fun hM1 => ?_
      refine V_getI (pc := 6) C e10 rfl inX10 0 (by decide) rfl lf_X10_37 rfl dX10_countLiveRoots_6 ?_
      refine V_icmp_ge (pc := 9) C 38 hx3 (hM1 _ _) dX10_countLiveRoots_9 (by decide) (fun c9_2 => ?_) (fun c9_2 => ?_)
      · have h := ite_t h c9_2
        refine V_iload_n (pc := 38) C 2 rfl dX10_countLiveRoots_38 ?_
        exact V_iret (pc := 39) C hr hlk hx2 h dX10_countLiveRoots_39
      · have h := ite_f h c9_2
        refine V_aload_n (pc := 12) C 0 rfl dX10_countLiveRoots_12 ?_
        refine V_iload_n (pc := 13) C 3 rfl dX10_countLiveRoots_13 ?_
        obtain ⟨M3, r4, hc5, h⟩ := cal_of h
        refine V_callVI (pc := 14) C (c_X10_isLive l Γ sk hsk fu hx3 hc5) cf_X10_isLive lk_X10_73 ⟨rfl, rfl⟩ ⟨Nat.le_of_ble_eq_true rfl, Nat.le_of_ble_eq_true rfl⟩ e10 rfl rfl rfl (Nat.le_of_ble_eq_true rfl) ⟨Nat.zero_le _, Nat.zero_le _⟩ rfl dX10_countLiveRoots_14 (fun hr4 => ?_)
        refine V_if_eq (pc := 17) C 32 hr4 dX10_countLiveRoots_17 (by decide) (fun c17_6 => ?_) (fun c17_6 => ?_)
        · have h := ite_t h c17_6
          refine V_iinc (pc := 32) C (L' := [(0, vr Γ 10), (1, vi x1), (2, vi x2), (3, vi (x3 + (1 : Int)))]) 3 rfl rfl (by decide) dX10_countLiveRoots_32 ?_
          refine V_goto (pc := 35) C 4 dX10_countLiveRoots_35 (by decide) ?_
          obtain ⟨g7, h⟩ := grd_of h
          refine V_sub (L' := [(0, vr Γ 10), (1, vi x1), (2, vi x2), (3, vi (x3 + (1 : Int)))]) [0, 1, 2, 3] rfl (by decide) ?_
          exact ih hx1 hx2 g7 h
        · have h := ite_f h c17_6
          refine V_aload_n (pc := 20) C 0 rfl dX10_countLiveRoots_20 ?_
          refine V_iload_n (pc := 21) C 3 rfl dX10_countLiveRoots_21 ?_
          obtain ⟨M8, r9, hc10, h⟩ := cal_of h
          refine V_callVI (pc := 22) C (c_X10_rootAt l Γ sk hsk fu hx3 hc10) cf_X10_rootAt lk_X10_80 ⟨rfl, rfl⟩ ⟨Nat.le_of_ble_eq_true rfl, Nat.le_of_ble_eq_true rfl⟩ e10 rfl rfl rfl (Nat.le_of_ble_eq_true rfl) ⟨Nat.zero_le _, Nat.zero_le _⟩ rfl dX10_countLiveRoots_22 (fun hr9 => ?_)
          refine V_iload_n (pc := 25) C 1 rfl dX10_countLiveRoots_25 ?_
          refine V_icmp_ne (pc := 26) C 32 hr9 hx1 dX10_countLiveRoots_26 (by decide) (fun c26_11 => ?_) (fun c26_11 => ?_)
          · have h := ite_f h c26_11
            refine V_iinc (pc := 32) C (L' := [(0, vr Γ 10), (1, vi x1), (2, vi x2), (3, vi (x3 + (1 : Int)))]) 3 rfl rfl (by decide) dX10_countLiveRoots_32 ?_
            refine V_goto (pc := 35) C 4 dX10_countLiveRoots_35 (by decide) ?_
            obtain ⟨g12, h⟩ := grd_of h
            refine V_sub (L' := [(0, vr Γ 10), (1, vi x1), (2, vi x2), (3, vi (x3 + (1 : Int)))]) [0, 1, 2, 3] rfl (by decide) ?_
            exact ih hx1 hx2 g12 h
          · have h := ite_t h c26_11
            refine V_iinc (pc := 29) C (L' := [(0, vr Γ 10), (1, vi x1), (2, vi (x2 + (1 : Int))), (3, vi x3)]) 2 rfl rfl (by decide) dX10_countLiveRoots_29 ?_
            refine V_iinc (pc := 32) C (L' := [(0, vr Γ 10), (1, vi x1), (2, vi (x2 + (1 : Int))), (3, vi (x3 + (1 : Int)))]) 3 rfl rfl (by decide) dX10_countLiveRoots_32 ?_
            refine V_goto (pc := 35) C 4 dX10_countLiveRoots_35 (by decide) ?_
            obtain ⟨g13, h⟩ := grd_of h
            obtain ⟨g14, h⟩ := grd_of h
            refine V_sub (L' := [(0, vr Γ 10), (1, vi x1), (2, vi (x2 + (1 : Int))), (3, vi (x3 + (1 : Int)))]) [0, 1, 2, 3] rfl (by decide) ?_
            exact ih hx1 g13 g14 h
  skip
  refine V_iconst (pc := 0) C dX10_countLiveRoots_0 ?_
  refine V_istore_n (pc := 1) C (L' := [(0, vr Γ 10), (1, vi a1), (2, vi (0 : Int))]) rfl (by decide) dX10_countLiveRoots_1 ?_
  refine V_iconst (pc := 2) C dX10_countLiveRoots_2 ?_
  refine V_istore_n (pc := 3) C (L' := [(0, vr Γ 10), (1, vi a1), (2, vi (0 : Int)), (3, vi (0 : Int))]) rfl (by decide) dX10_countLiveRoots_3 ?_
  refine V_sub (L' := [(0, vr Γ 10), (1, vi a1), (2, vi (0 : Int)), (3, vi (0 : Int))]) [0, 1, 2, 3] rfl (by decide) ?_
  exact LP4 fu  ha1 (by decide) (by decide) h
set_option maxRecDepth 100000 in
set_option maxHeartbeats 4000000 in
theorem c_X10_recordedElement (l : Launch) (Γ : GG) (sk : List SD) (hsk : Ext sk) (fu : Nat) {M M' : Mem} {a1 : Int} {a2 : Int} {r : Int} (ha1 : rng a1) (ha2 : rng a2) (h : f_X10_recordedElement fu M a1 a2 = some (M', r)) : MetI l yX10_recordedElement cX10_recordedElement 5 .int ({ frames := 2, cells := 0, slots := 0, locals := 42 } : Room) Γ sk [vr Γ 10, vi a1, vi a2] M M' r := by
  unfold f_X10_recordedElement at h
  refine MetI_of RX10 rfl (by decide) rfl (Nat.le_of_ble_eq_true rfl) rfl ?_
  intro p e s m args below meth c C hr hlk hM
  have e10 := hsk 10 _ (by decide) rfl
  have e15 := hsk 15 _ (by decide) rfl
  have e16 := hsk 16 _ (by decide) rfl
  have e17 := hsk 17 _ (by decide) rfl
  have LP5 : ∀ (n : Nat) {x2 : Int} {x3 : Int} {x4 : Int} {M : Mem}, rng x2 → rng x3 → rng x4 → f_X10_recordedElement_L5 fu n x2 x3 x4 M = some (M', r) → VV p l e ({ frames := 2, cells := 0, slots := 0, locals := 42 } : Room) s m args below meth c (MQ below (PostI Γ sk M' r s.heap.size) args s 0 0 (Fr Γ sk s.heap.size)) 5 Γ sk M 0 0 5 [(0, vr Γ 10), (2, vi x2), (3, vi x3), (4, vi x4)] [] := by
    intro n
    induction n with
    | zero =>
      intro x2 x3 x4 M hx2 hx3 hx4 h
      cases h
    | succ n ih =>
      intro x2 x3 x4 M hx2 hx3 hx4 h
      rw [f_X10_recordedElement_L5] at h
      refine V_iload_n (pc := 5) C 2 rfl dX10_recordedElement_5 ?_
      refine V_iconst (pc := 6) C dX10_recordedElement_6 ?_
      refine V_icmp_eq (pc := 7) C 50 hx3 (by decide) dX10_recordedElement_7 (by decide) (fun c7_1 => ?_) (fun c7_1 => ?_)
      · have h := ite_t h c7_1
        refine V_aload_n (pc := 50) C 0 rfl dX10_recordedElement_50 ?_
        refine V_getR (pc := 51) C e10 rfl inX10 7 (by decide) rfl lf_X10_30 rfl dX10_recordedElement_51 ?_
        refine V_iload_n (pc := 54) C 1 rfl dX10_recordedElement_54 ?_
        obtain ⟨M2, r3, hc4, h⟩ := cal_of h
        refine V_callNI (pc := 55) C (c_X11_at l Γ sk hsk fu e17 (by decide) hx2 hc4) cf_X11_at ln_X10_69 ⟨rfl, rfl⟩ ⟨Nat.le_of_ble_eq_true rfl, Nat.le_of_ble_eq_true rfl⟩ rfl (Nat.le_of_ble_eq_true rfl) ⟨Nat.zero_le _, Nat.zero_le _⟩ rfl dX10_recordedElement_55 (fun hr3 => ?_)
        exact V_iret (pc := 58) C hr hlk hr3 h dX10_recordedElement_58
      · have h := ite_f h c7_1
        refine V_iload (pc := 10) C 3 rfl dX10_recordedElement_10 ?_
        refine V_bipush (pc := 12) C dX10_recordedElement_12 rfl ?_
        refine V_icmp_ge (pc := 14) C 50 hx4 (by decide) dX10_recordedElement_14 (by decide) (fun c14_5 => ?_) (fun c14_5 => ?_)
        · have h := ite_t h c14_5
          refine V_aload_n (pc := 50) C 0 rfl dX10_recordedElement_50 ?_
          refine V_getR (pc := 51) C e10 rfl inX10 7 (by decide) rfl lf_X10_30 rfl dX10_recordedElement_51 ?_
          refine V_iload_n (pc := 54) C 1 rfl dX10_recordedElement_54 ?_
          obtain ⟨M6, r7, hc8, h⟩ := cal_of h
          refine V_callNI (pc := 55) C (c_X11_at l Γ sk hsk fu e17 (by decide) hx2 hc8) cf_X11_at ln_X10_69 ⟨rfl, rfl⟩ ⟨Nat.le_of_ble_eq_true rfl, Nat.le_of_ble_eq_true rfl⟩ rfl (Nat.le_of_ble_eq_true rfl) ⟨Nat.zero_le _, Nat.zero_le _⟩ rfl dX10_recordedElement_55 (fun hr7 => ?_)
          exact V_iret (pc := 58) C hr hlk hr7 h dX10_recordedElement_58
        · have h := ite_f h c14_5
          refine V_aload_n (pc := 17) C 0 rfl dX10_recordedElement_17 ?_
          refine V_getR (pc := 18) C e10 rfl inX10 5 (by decide) rfl lf_X10_24 rfl dX10_recordedElement_18 ?_
          refine V_iload_n (pc := 21) C 2 rfl dX10_recordedElement_21 ?_
          obtain ⟨M9, r10, hc11, h⟩ := cal_of h
          refine V_callNI (pc := 22) C (c_X11_at l Γ sk hsk fu e15 (by decide) hx3 hc11) cf_X11_at ln_X10_69 ⟨rfl, rfl⟩ ⟨Nat.le_of_ble_eq_true rfl, Nat.le_of_ble_eq_true rfl⟩ rfl (Nat.le_of_ble_eq_true rfl) ⟨Nat.zero_le _, Nat.zero_le _⟩ rfl dX10_recordedElement_22 (fun hr10 => ?_)
          refine V_iload_n (pc := 25) C 1 rfl dX10_recordedElement_25 ?_
          refine V_icmp_ne (pc := 26) C 38 hr10 hx2 dX10_recordedElement_26 (by decide) (fun c26_12 => ?_) (fun c26_12 => ?_)
          · have h := ite_f h c26_12
            refine V_aload_n (pc := 38) C 0 rfl dX10_recordedElement_38 ?_
            refine V_iload_n (pc := 39) C 2 rfl dX10_recordedElement_39 ?_
            obtain ⟨M13, r14, hc15, h⟩ := cal_of h
            refine V_callVI (pc := 40) C (c_X10_parentAt l Γ sk hsk fu hx3 hc15) cf_X10_parentAt lk_X10_76 ⟨rfl, rfl⟩ ⟨Nat.le_of_ble_eq_true rfl, Nat.le_of_ble_eq_true rfl⟩ e10 rfl rfl rfl (Nat.le_of_ble_eq_true rfl) ⟨Nat.zero_le _, Nat.zero_le _⟩ rfl dX10_recordedElement_40 (fun hr14 => ?_)
            refine V_istore_n (pc := 43) C (L' := [(0, vr Γ 10), (2, vi x2), (3, vi r14), (4, vi x4)]) rfl (by decide) dX10_recordedElement_43 ?_
            refine V_iinc (pc := 44) C (L' := [(0, vr Γ 10), (2, vi x2), (3, vi r14), (4, vi (x4 + (1 : Int)))]) 3 rfl rfl (by decide) dX10_recordedElement_44 ?_
            refine V_goto (pc := 47) C 5 dX10_recordedElement_47 (by decide) ?_
            obtain ⟨g16, h⟩ := grd_of h
            refine V_sub (L' := [(0, vr Γ 10), (2, vi x2), (3, vi r14), (4, vi (x4 + (1 : Int)))]) [0, 1, 2, 3] rfl (by decide) ?_
            exact ih hx2 hr14 g16 h
          · have h := ite_t h c26_12
            refine V_aload_n (pc := 29) C 0 rfl dX10_recordedElement_29 ?_
            refine V_getR (pc := 30) C e10 rfl inX10 6 (by decide) rfl lf_X10_27 rfl dX10_recordedElement_30 ?_
            refine V_iload_n (pc := 33) C 2 rfl dX10_recordedElement_33 ?_
            obtain ⟨M17, r18, hc19, h⟩ := cal_of h
            refine V_callNI (pc := 34) C (c_X11_at l Γ sk hsk fu e16 (by decide) hx3 hc19) cf_X11_at ln_X10_69 ⟨rfl, rfl⟩ ⟨Nat.le_of_ble_eq_true rfl, Nat.le_of_ble_eq_true rfl⟩ rfl (Nat.le_of_ble_eq_true rfl) ⟨Nat.zero_le _, Nat.zero_le _⟩ rfl dX10_recordedElement_34 (fun hr18 => ?_)
            exact V_iret (pc := 37) C hr hlk hr18 h dX10_recordedElement_37
  skip
  refine V_iload_n (pc := 0) C 1 rfl dX10_recordedElement_0 ?_
  refine V_istore_n (pc := 1) C (L' := [(0, vr Γ 10), (1, vi a1), (2, vi a2), (3, vi a1)]) rfl (by decide) dX10_recordedElement_1 ?_
  refine V_iconst (pc := 2) C dX10_recordedElement_2 ?_
  refine V_istore (pc := 3) C (L' := [(0, vr Γ 10), (1, vi a1), (2, vi a2), (3, vi a1), (4, vi (0 : Int))]) rfl (by decide) dX10_recordedElement_3 ?_
  refine V_sub (L' := [(0, vr Γ 10), (2, vi a2), (3, vi a1), (4, vi (0 : Int))]) [0, 2, 3, 4] rfl (by decide) ?_
  exact LP5 fu  ha2 ha1 (by decide) h
set_option maxRecDepth 100000 in
set_option maxHeartbeats 4000000 in
theorem c_X10_sumOfCreated (l : Launch) (Γ : GG) (sk : List SD) (hsk : Ext sk) (fu : Nat) {M M' : Mem}  {r : Int}  (h : f_X10_sumOfCreated fu M  = some (M', r)) : MetI l yX10_sumOfCreated cX10_sumOfCreated 3 .int ({ frames := 2, cells := 0, slots := 0, locals := 42 } : Room) Γ sk [vr Γ 10] M M' r := by
  unfold f_X10_sumOfCreated at h
  refine MetI_of RX10 rfl (by decide) rfl (Nat.le_of_ble_eq_true rfl) rfl ?_
  intro p e s m args below meth c C hr hlk hM
  have e10 := hsk 10 _ (by decide) rfl
  have LP4 : ∀ (n : Nat) {x1 : Int} {x2 : Int} {M : Mem}, rng x1 → rng x2 → f_X10_sumOfCreated_L4 fu n x1 x2 M = some (M', r) → VV p l e ({ frames := 2, cells := 0, slots := 0, locals := 42 } : Room) s m args below meth c (MQ below (PostI Γ sk M' r s.heap.size) args s 0 0 (Fr Γ sk s.heap.size)) 3 Γ sk M 0 0 4 [(0, vr Γ 10), (1, vi x1), (2, vi x2)] [] := by
    intro n
    induction n with
    | zero =>
      intro x1 x2 M hx1 hx2 h
      cases h
    | succ n ih =>
      intro x1 x2 M hx1 hx2 h
      rw [f_X10_sumOfCreated_L4] at h
      refine V_iload_n (pc := 4) C 2 rfl dX10_sumOfCreated_4 ?_
      refine V_aload_n (pc := 5) C 0 rfl dX10_sumOfCreated_5 ?_
      refine V_rng fun hM1 => ?_
      refine V_getI (pc := 6) C e10 rfl inX10 0 (by decide) rfl lf_X10_37 rfl dX10_sumOfCreated_6 ?_
      refine V_icmp_ge (pc := 9) C 26 hx2 (hM1 _ _) dX10_sumOfCreated_9 (by decide) (fun c9_2 => ?_) (fun c9_2 => ?_)
      · have h := ite_t h c9_2
        refine V_iload_n (pc := 26) C 1 rfl dX10_sumOfCreated_26 ?_
        exact V_iret (pc := 27) C hr hlk hx1 h dX10_sumOfCreated_27
      · have h := ite_f h c9_2
        refine V_iload_n (pc := 12) C 1 rfl dX10_sumOfCreated_12 ?_
        refine V_aload_n (pc := 13) C 0 rfl dX10_sumOfCreated_13 ?_
        refine V_iload_n (pc := 14) C 2 rfl dX10_sumOfCreated_14 ?_
        obtain ⟨M3, r4, hc5, h⟩ := cal_of h
        refine V_callVI (pc := 15) C (c_X10_createdForAt l Γ sk hsk fu hx2 hc5) cf_X10_createdForAt lk_X10_86 ⟨rfl, rfl⟩ ⟨Nat.le_of_ble_eq_true rfl, Nat.le_of_ble_eq_true rfl⟩ e10 rfl rfl rfl (Nat.le_of_ble_eq_true rfl) ⟨Nat.zero_le _, Nat.zero_le _⟩ rfl dX10_sumOfCreated_15 (fun hr4 => ?_)
        refine V_iadd (pc := 18) C dX10_sumOfCreated_18 ?_
        refine V_istore_n (pc := 19) C (L' := [(0, vr Γ 10), (1, vi (x1 + r4)), (2, vi x2)]) rfl (by decide) dX10_sumOfCreated_19 ?_
        refine V_iinc (pc := 20) C (L' := [(0, vr Γ 10), (1, vi (x1 + r4)), (2, vi (x2 + (1 : Int)))]) 2 rfl rfl (by decide) dX10_sumOfCreated_20 ?_
        refine V_goto (pc := 23) C 4 dX10_sumOfCreated_23 (by decide) ?_
        obtain ⟨g6, h⟩ := grd_of h
        obtain ⟨g7, h⟩ := grd_of h
        refine V_sub (L' := [(0, vr Γ 10), (1, vi (x1 + r4)), (2, vi (x2 + (1 : Int)))]) [0, 1, 2] rfl (by decide) ?_
        exact ih g6 g7 h
  skip
  refine V_iconst (pc := 0) C dX10_sumOfCreated_0 ?_
  refine V_istore_n (pc := 1) C (L' := [(0, vr Γ 10), (1, vi (0 : Int))]) rfl (by decide) dX10_sumOfCreated_1 ?_
  refine V_iconst (pc := 2) C dX10_sumOfCreated_2 ?_
  refine V_istore_n (pc := 3) C (L' := [(0, vr Γ 10), (1, vi (0 : Int)), (2, vi (0 : Int))]) rfl (by decide) dX10_sumOfCreated_3 ?_
  refine V_sub (L' := [(0, vr Γ 10), (1, vi (0 : Int)), (2, vi (0 : Int))]) [0, 1, 2] rfl (by decide) ?_
  exact LP4 fu  (by decide) (by decide) h
set_option maxRecDepth 100000 in
set_option maxHeartbeats 4000000 in
theorem c_X10_isFull (l : Launch) (Γ : GG) (sk : List SD) (hsk : Ext sk) (fu : Nat) {M M' : Mem}  {r : Int}  (h : f_X10_isFull fu M  = some (M', r)) : MetI l yX10_isFull cX10_isFull 1 .boolean ({ frames := 0, cells := 0, slots := 0, locals := 0 } : Room) Γ sk [vr Γ 10] M M' r := by
  unfold f_X10_isFull at h
  refine MetI_of RX10 rfl (by decide) rfl (Nat.le_of_ble_eq_true rfl) rfl ?_
  intro p e s m args below meth c C hr hlk hM
  have e10 := hsk 10 _ (by decide) rfl
  refine V_aload_n (pc := 0) C 0 rfl dX10_isFull_0 ?_
  refine V_getI (pc := 1) C e10 rfl inX10 0 (by decide) rfl lf_X10_37 rfl dX10_isFull_1 ?_
  refine V_bipush (pc := 4) C dX10_isFull_4 rfl ?_
  refine V_icmp_lt (pc := 6) C 13 (hM _ _) (by decide) dX10_isFull_6 (by decide) (fun c6_1 => ?_) (fun c6_1 => ?_)
  · have h := ite_t h c6_1
    refine V_iconst (pc := 13) C dX10_isFull_13 ?_
    exact V_zret (pc := 14) C hr hlk (by decide) h dX10_isFull_14
  · have h := ite_f h c6_1
    refine V_iconst (pc := 9) C dX10_isFull_9 ?_
    refine V_goto (pc := 10) C 14 dX10_isFull_10 (by decide) ?_
    exact V_zret (pc := 14) C hr hlk (by decide) h dX10_isFull_14
set_option maxRecDepth 100000 in
set_option maxHeartbeats 4000000 in
theorem c_X10_faultOfReading (l : Launch) (Γ : GG) (sk : List SD) (hsk : Ext sk) (fu : Nat) {M M' : Mem} {a1 : Int} {r : Int} (ha1 : rng a1) (h : f_X10_faultOfReading fu M a1 = some (M', r)) : MetI l yX10_faultOfReading cX10_faultOfReading 2 .int ({ frames := 2, cells := 0, slots := 0, locals := 42 } : Room) Γ sk [vr Γ 10, vi a1] M M' r := by
  unfold f_X10_faultOfReading at h
  refine MetI_of RX10 rfl (by decide) rfl (Nat.le_of_ble_eq_true rfl) rfl ?_
  intro p e s m args below meth c C hr hlk hM
  have e10 := hsk 10 _ (by decide) rfl
  refine V_aload_n (pc := 0) C 0 rfl dX10_faultOfReading_0 ?_
  refine V_iload_n (pc := 1) C 1 rfl dX10_faultOfReading_1 ?_
  obtain ⟨M1, r2, hc3, h⟩ := cal_of h
  refine V_callVI (pc := 2) C (c_X10_has l Γ sk hsk fu ha1 hc3) cf_X10_has lk_X10_61 ⟨rfl, rfl⟩ ⟨Nat.le_of_ble_eq_true rfl, Nat.le_of_ble_eq_true rfl⟩ e10 rfl rfl rfl (Nat.le_of_ble_eq_true rfl) ⟨Nat.zero_le _, Nat.zero_le _⟩ rfl dX10_faultOfReading_2 (fun hr2 => ?_)
  refine V_if_ne (pc := 5) C 10 hr2 dX10_faultOfReading_5 (by decide) (fun c5_4 => ?_) (fun c5_4 => ?_)
  · have h := ite_f h c5_4
    refine V_aload_n (pc := 10) C 0 rfl dX10_faultOfReading_10 ?_
    refine V_iload_n (pc := 11) C 1 rfl dX10_faultOfReading_11 ?_
    obtain ⟨M5, r6, hc7, h⟩ := cal_of h
    refine V_callVI (pc := 12) C (c_X10_isLive l Γ sk hsk fu ha1 hc7) cf_X10_isLive lk_X10_73 ⟨rfl, rfl⟩ ⟨Nat.le_of_ble_eq_true rfl, Nat.le_of_ble_eq_true rfl⟩ e10 rfl rfl rfl (Nat.le_of_ble_eq_true rfl) ⟨Nat.zero_le _, Nat.zero_le _⟩ rfl dX10_faultOfReading_12 (fun hr6 => ?_)
    refine V_if_eq (pc := 15) C 22 hr6 dX10_faultOfReading_15 (by decide) (fun c15_8 => ?_) (fun c15_8 => ?_)
    · have h := ite_t h c15_8
      refine V_iconst (pc := 22) C dX10_faultOfReading_22 ?_
      exact V_iret (pc := 23) C hr hlk (by decide) h dX10_faultOfReading_23
    · have h := ite_f h c15_8
      refine V_iconst (pc := 18) C dX10_faultOfReading_18 ?_
      refine V_goto (pc := 19) C 23 dX10_faultOfReading_19 (by decide) ?_
      exact V_iret (pc := 23) C hr hlk (by decide) h dX10_faultOfReading_23
  · have h := ite_t h c5_4
    refine V_iconst (pc := 8) C dX10_faultOfReading_8 ?_
    exact V_iret (pc := 9) C hr hlk (by decide) h dX10_faultOfReading_9
set_option maxRecDepth 100000 in
set_option maxHeartbeats 4000000 in
theorem c_X10_faultOfElement (l : Launch) (Γ : GG) (sk : List SD) (hsk : Ext sk) (fu : Nat) {M M' : Mem} {a1 : Int} {a2 : Int} {r : Int} (ha1 : rng a1) (ha2 : rng a2) (h : f_X10_faultOfElement fu M a1 a2 = some (M', r)) : MetI l yX10_faultOfElement cX10_faultOfElement 4 .int ({ frames := 3, cells := 0, slots := 0, locals := 63 } : Room) Γ sk [vr Γ 10, vi a1, vi a2] M M' r := by
  unfold f_X10_faultOfElement at h
  refine MetI_of RX10 rfl (by decide) rfl (Nat.le_of_ble_eq_true rfl) rfl ?_
  intro p e s m args below meth c C hr hlk hM
  have e10 := hsk 10 _ (by decide) rfl
  refine V_aload_n (pc := 0) C 0 rfl dX10_faultOfElement_0 ?_
  refine V_iload_n (pc := 1) C 1 rfl dX10_faultOfElement_1 ?_
  obtain ⟨M1, r2, hc3, h⟩ := cal_of h
  refine V_callVI (pc := 2) C (c_X10_faultOfReading l Γ sk hsk fu ha1 hc3) cf_X10_faultOfReading lk_X10_89 ⟨rfl, rfl⟩ ⟨Nat.le_of_ble_eq_true rfl, Nat.le_of_ble_eq_true rfl⟩ e10 rfl rfl rfl (Nat.le_of_ble_eq_true rfl) ⟨Nat.zero_le _, Nat.zero_le _⟩ rfl dX10_faultOfElement_2 (fun hr2 => ?_)
  refine V_istore_n (pc := 5) C (L' := [(0, vr Γ 10), (1, vi a1), (2, vi a2), (3, vi r2)]) rfl (by decide) dX10_faultOfElement_5 ?_
  refine V_iload_n (pc := 6) C 3 rfl dX10_faultOfElement_6 ?_
  refine V_if_ne (pc := 7) C 25 hr2 dX10_faultOfElement_7 (by decide) (fun c7_4 => ?_) (fun c7_4 => ?_)
  · have h := ite_f h c7_4
    refine V_iload_n (pc := 25) C 3 rfl dX10_faultOfElement_25 ?_
    exact V_iret (pc := 26) C hr hlk hr2 h dX10_faultOfElement_26
  · have h := ite_t h c7_4
    refine V_iload_n (pc := 10) C 2 rfl dX10_faultOfElement_10 ?_
    refine V_if_lt (pc := 11) C 23 ha2 dX10_faultOfElement_11 (by decide) (fun c11_5 => ?_) (fun c11_5 => ?_)
    · have h := ite_t h c11_5
      refine V_iconst (pc := 23) C dX10_faultOfElement_23 ?_
      exact V_iret (pc := 24) C hr hlk (by decide) h dX10_faultOfElement_24
    · have h := ite_f h c11_5
      refine V_iload_n (pc := 14) C 2 rfl dX10_faultOfElement_14 ?_
      refine V_aload_n (pc := 15) C 0 rfl dX10_faultOfElement_15 ?_
      refine V_iload_n (pc := 16) C 1 rfl dX10_faultOfElement_16 ?_
      obtain ⟨M6, r7, hc8, h⟩ := cal_of h
      refine V_callVI (pc := 17) C (c_X10_sizeAt l Γ sk hsk fu ha1 hc8) cf_X10_sizeAt lk_X10_83 ⟨rfl, rfl⟩ ⟨Nat.le_of_ble_eq_true rfl, Nat.le_of_ble_eq_true rfl⟩ e10 rfl rfl rfl (Nat.le_of_ble_eq_true rfl) ⟨Nat.zero_le _, Nat.zero_le _⟩ rfl dX10_faultOfElement_17 (fun hr7 => ?_)
      refine V_icmp_lt (pc := 20) C 25 ha2 hr7 dX10_faultOfElement_20 (by decide) (fun c20_9 => ?_) (fun c20_9 => ?_)
      · have h := ite_t h c20_9
        refine V_iload_n (pc := 25) C 3 rfl dX10_faultOfElement_25 ?_
        exact V_iret (pc := 26) C hr hlk hr2 h dX10_faultOfElement_26
      · have h := ite_f h c20_9
        refine V_iconst (pc := 23) C dX10_faultOfElement_23 ?_
        exact V_iret (pc := 24) C hr hlk (by decide) h dX10_faultOfElement_24
set_option maxRecDepth 100000 in
set_option maxHeartbeats 4000000 in
theorem c_X11_isElementValue (l : Launch) (Γ : GG) (sk : List SD) (hsk : Ext sk) (fu : Nat) {M M' : Mem} {a0 : Int} {r : Int} (ha0 : rng a0) (h : f_X11_isElementValue fu M a0 = some (M', r)) : MetI l yX11_isElementValue cX11_isElementValue 1 .boolean ({ frames := 0, cells := 0, slots := 0, locals := 0 } : Room) Γ sk [vi a0] M M' r := by
  unfold f_X11_isElementValue at h
  refine MetI_of RX11 rfl (by decide) rfl (Nat.le_of_ble_eq_true rfl) rfl ?_
  intro p e s m args below meth c C hr hlk hM
  refine V_iload_n (pc := 0) C 0 rfl dX11_isElementValue_0 ?_
  refine V_sipush (pc := 1) C dX11_isElementValue_1 rfl ?_
  refine V_icmp_lt (pc := 4) C 18 ha0 (by decide) dX11_isElementValue_4 (by decide) (fun c4_1 => ?_) (fun c4_1 => ?_)
  · have h := ite_t h c4_1
    refine V_iconst (pc := 18) C dX11_isElementValue_18 ?_
    exact V_zret (pc := 19) C hr hlk (by decide) h dX11_isElementValue_19
  · have h := ite_f h c4_1
    refine V_iload_n (pc := 7) C 0 rfl dX11_isElementValue_7 ?_
    refine V_sipush (pc := 8) C dX11_isElementValue_8 rfl ?_
    refine V_icmp_gt (pc := 11) C 18 ha0 (by decide) dX11_isElementValue_11 (by decide) (fun c11_2 => ?_) (fun c11_2 => ?_)
    · have h := ite_t h c11_2
      refine V_iconst (pc := 18) C dX11_isElementValue_18 ?_
      exact V_zret (pc := 19) C hr hlk (by decide) h dX11_isElementValue_19
    · have h := ite_f h c11_2
      refine V_iconst (pc := 14) C dX11_isElementValue_14 ?_
      refine V_goto (pc := 15) C 19 dX11_isElementValue_15 (by decide) ?_
      exact V_zret (pc := 19) C hr hlk (by decide) h dX11_isElementValue_19
set_option maxRecDepth 100000 in
set_option maxHeartbeats 4000000 in
theorem c_X10_faultOfReplacement (l : Launch) (Γ : GG) (sk : List SD) (hsk : Ext sk) (fu : Nat) {M M' : Mem} {a1 : Int} {a2 : Int} {a3 : Int} {r : Int} (ha1 : rng a1) (ha2 : rng a2) (ha3 : rng a3) (h : f_X10_faultOfReplacement fu M a1 a2 a3 = some (M', r)) : MetI l yX10_faultOfReplacement cX10_faultOfReplacement 5 .int ({ frames := 4, cells := 0, slots := 0, locals := 86 } : Room) Γ sk [vr Γ 10, vi a1, vi a2, vi a3] M M' r := by
  unfold f_X10_faultOfReplacement at h
  refine MetI_of RX10 rfl (by decide) rfl (Nat.le_of_ble_eq_true rfl) rfl ?_
  intro p e s m args below meth c C hr hlk hM
  have e10 := hsk 10 _ (by decide) rfl
  refine V_aload_n (pc := 0) C 0 rfl dX10_faultOfReplacement_0 ?_
  refine V_iload_n (pc := 1) C 1 rfl dX10_faultOfReplacement_1 ?_
  refine V_iload_n (pc := 2) C 2 rfl dX10_faultOfReplacement_2 ?_
  obtain ⟨M1, r2, hc3, h⟩ := cal_of h
  refine V_callVI (pc := 3) C (c_X10_faultOfElement l Γ sk hsk fu ha1 ha2 hc3) cf_X10_faultOfElement lk_X10_92 ⟨rfl, rfl⟩ ⟨Nat.le_of_ble_eq_true rfl, Nat.le_of_ble_eq_true rfl⟩ e10 rfl rfl rfl (Nat.le_of_ble_eq_true rfl) ⟨Nat.zero_le _, Nat.zero_le _⟩ rfl dX10_faultOfReplacement_3 (fun hr2 => ?_)
  refine V_istore (pc := 6) C (L' := [(0, vr Γ 10), (1, vi a1), (2, vi a2), (3, vi a3), (4, vi r2)]) rfl (by decide) dX10_faultOfReplacement_6 ?_
  refine V_iload (pc := 8) C 4 rfl dX10_faultOfReplacement_8 ?_
  refine V_iconst (pc := 10) C dX10_faultOfReplacement_10 ?_
  refine V_icmp_eq (pc := 11) C 23 hr2 (by decide) dX10_faultOfReplacement_11 (by decide) (fun c11_4 => ?_) (fun c11_4 => ?_)
  · have h := ite_t h c11_4
    refine V_iload (pc := 23) C 4 rfl dX10_faultOfReplacement_23 ?_
    exact V_iret (pc := 25) C hr hlk hr2 h dX10_faultOfReplacement_25
  · have h := ite_f h c11_4
    refine V_iload_n (pc := 14) C 3 rfl dX10_faultOfReplacement_14 ?_
    obtain ⟨M5, r6, hc7, h⟩ := cal_of h
    refine V_callNI (pc := 15) C (c_X11_isElementValue l Γ sk hsk fu ha3 hc7) cf_X11_isElementValue ln_X10_96 ⟨rfl, rfl⟩ ⟨Nat.le_of_ble_eq_true rfl, Nat.le_of_ble_eq_true rfl⟩ rfl (Nat.le_of_ble_eq_true rfl) ⟨Nat.zero_le _, Nat.zero_le _⟩ rfl dX10_faultOfReplacement_15 (fun hr6 => ?_)
    refine V_if_ne (pc := 18) C 23 hr6 dX10_faultOfReplacement_18 (by decide) (fun c18_8 => ?_) (fun c18_8 => ?_)
    · have h := ite_f h c18_8
      refine V_iload (pc := 23) C 4 rfl dX10_faultOfReplacement_23 ?_
      exact V_iret (pc := 25) C hr hlk hr2 h dX10_faultOfReplacement_25
    · have h := ite_t h c18_8
      refine V_iconst (pc := 21) C dX10_faultOfReplacement_21 ?_
      exact V_iret (pc := 22) C hr hlk (by decide) h dX10_faultOfReplacement_22
set_option maxRecDepth 100000 in
set_option maxHeartbeats 4000000 in
theorem c_X10_faultOfSet (l : Launch) (Γ : GG) (sk : List SD) (hsk : Ext sk) (fu : Nat) {M M' : Mem} {a1 : Int} {a2 : Int} {a3 : Int} {r : Int} (ha1 : rng a1) (ha2 : rng a2) (ha3 : rng a3) (h : f_X10_faultOfSet fu M a1 a2 a3 = some (M', r)) : MetI l yX10_faultOfSet cX10_faultOfSet 5 .int ({ frames := 5, cells := 0, slots := 0, locals := 110 } : Room) Γ sk [vr Γ 10, vi a1, vi a2, vi a3] M M' r := by
  unfold f_X10_faultOfSet at h
  refine MetI_of RX10 rfl (by decide) rfl (Nat.le_of_ble_eq_true rfl) rfl ?_
  intro p e s m args below meth c C hr hlk hM
  have e10 := hsk 10 _ (by decide) rfl
  refine V_aload_n (pc := 0) C 0 rfl dX10_faultOfSet_0 ?_
  refine V_iload_n (pc := 1) C 1 rfl dX10_faultOfSet_1 ?_
  refine V_iload_n (pc := 2) C 2 rfl dX10_faultOfSet_2 ?_
  refine V_iload_n (pc := 3) C 3 rfl dX10_faultOfSet_3 ?_
  obtain ⟨M1, r2, hc3, h⟩ := cal_of h
  refine V_callVI (pc := 4) C (c_X10_faultOfReplacement l Γ sk hsk fu ha1 ha2 ha3 hc3) cf_X10_faultOfReplacement lk_X10_99 ⟨rfl, rfl⟩ ⟨Nat.le_of_ble_eq_true rfl, Nat.le_of_ble_eq_true rfl⟩ e10 rfl rfl rfl (Nat.le_of_ble_eq_true rfl) ⟨Nat.zero_le _, Nat.zero_le _⟩ rfl dX10_faultOfSet_4 (fun hr2 => ?_)
  refine V_istore (pc := 7) C (L' := [(0, vr Γ 10), (1, vi a1), (2, vi a2), (3, vi a3), (4, vi r2)]) rfl (by decide) dX10_faultOfSet_7 ?_
  refine V_iload (pc := 9) C 4 rfl dX10_faultOfSet_9 ?_
  refine V_if_ne (pc := 11) C 25 hr2 dX10_faultOfSet_11 (by decide) (fun c11_4 => ?_) (fun c11_4 => ?_)
  · have h := ite_f h c11_4
    refine V_iload (pc := 25) C 4 rfl dX10_faultOfSet_25 ?_
    exact V_iret (pc := 27) C hr hlk hr2 h dX10_faultOfSet_27
  · have h := ite_t h c11_4
    refine V_aload_n (pc := 14) C 0 rfl dX10_faultOfSet_14 ?_
    obtain ⟨M5, r6, hc7, h⟩ := cal_of h
    refine V_callVI (pc := 15) C (c_X10_isFull l Γ sk hsk fu hc7) cf_X10_isFull lk_X10_103 ⟨rfl, rfl⟩ ⟨Nat.le_of_ble_eq_true rfl, Nat.le_of_ble_eq_true rfl⟩ e10 rfl rfl rfl (Nat.le_of_ble_eq_true rfl) ⟨Nat.zero_le _, Nat.zero_le _⟩ rfl dX10_faultOfSet_15 (fun hr6 => ?_)
    refine V_if_eq (pc := 18) C 25 hr6 dX10_faultOfSet_18 (by decide) (fun c18_8 => ?_) (fun c18_8 => ?_)
    · have h := ite_t h c18_8
      refine V_iload (pc := 25) C 4 rfl dX10_faultOfSet_25 ?_
      exact V_iret (pc := 27) C hr hlk hr2 h dX10_faultOfSet_27
    · have h := ite_f h c18_8
      refine V_iconst (pc := 21) C dX10_faultOfSet_21 ?_
      refine V_goto (pc := 22) C 27 dX10_faultOfSet_22 (by decide) ?_
      exact V_iret (pc := 27) C hr hlk (by decide) h dX10_faultOfSet_27
set_option maxRecDepth 100000 in
set_option maxHeartbeats 4000000 in
theorem c_X10_faultOfAppend (l : Launch) (Γ : GG) (sk : List SD) (hsk : Ext sk) (fu : Nat) {M M' : Mem} {a1 : Int} {a2 : Int} {r : Int} (ha1 : rng a1) (ha2 : rng a2) (h : f_X10_faultOfAppend fu M a1 a2 = some (M', r)) : MetI l yX10_faultOfAppend cX10_faultOfAppend 3 .int ({ frames := 2, cells := 0, slots := 0, locals := 42 } : Room) Γ sk [vr Γ 10, vi a1, vi a2] M M' r := by
  unfold f_X10_faultOfAppend at h
  refine MetI_of RX10 rfl (by decide) rfl (Nat.le_of_ble_eq_true rfl) rfl ?_
  intro p e s m args below meth c C hr hlk hM
  have e10 := hsk 10 _ (by decide) rfl
  refine V_aload_n (pc := 0) C 0 rfl dX10_faultOfAppend_0 ?_
  refine V_iload_n (pc := 1) C 1 rfl dX10_faultOfAppend_1 ?_
  obtain ⟨M1, r2, hc3, h⟩ := cal_of h
  refine V_callVI (pc := 2) C (c_X10_has l Γ sk hsk fu ha1 hc3) cf_X10_has lk_X10_61 ⟨rfl, rfl⟩ ⟨Nat.le_of_ble_eq_true rfl, Nat.le_of_ble_eq_true rfl⟩ e10 rfl rfl rfl (Nat.le_of_ble_eq_true rfl) ⟨Nat.zero_le _, Nat.zero_le _⟩ rfl dX10_faultOfAppend_2 (fun hr2 => ?_)
  refine V_if_ne (pc := 5) C 10 hr2 dX10_faultOfAppend_5 (by decide) (fun c5_4 => ?_) (fun c5_4 => ?_)
  · have h := ite_f h c5_4
    refine V_iload_n (pc := 10) C 2 rfl dX10_faultOfAppend_10 ?_
    obtain ⟨M5, r6, hc7, h⟩ := cal_of h
    refine V_callNI (pc := 11) C (c_X11_isElementValue l Γ sk hsk fu ha2 hc7) cf_X11_isElementValue ln_X10_96 ⟨rfl, rfl⟩ ⟨Nat.le_of_ble_eq_true rfl, Nat.le_of_ble_eq_true rfl⟩ rfl (Nat.le_of_ble_eq_true rfl) ⟨Nat.zero_le _, Nat.zero_le _⟩ rfl dX10_faultOfAppend_11 (fun hr6 => ?_)
    refine V_if_ne (pc := 14) C 19 hr6 dX10_faultOfAppend_14 (by decide) (fun c14_8 => ?_) (fun c14_8 => ?_)
    · have h := ite_f h c14_8
      refine V_aload_n (pc := 19) C 0 rfl dX10_faultOfAppend_19 ?_
      refine V_iload_n (pc := 20) C 1 rfl dX10_faultOfAppend_20 ?_
      obtain ⟨M9, r10, hc11, h⟩ := cal_of h
      refine V_callVI (pc := 21) C (c_X10_isLive l Γ sk hsk fu ha1 hc11) cf_X10_isLive lk_X10_73 ⟨rfl, rfl⟩ ⟨Nat.le_of_ble_eq_true rfl, Nat.le_of_ble_eq_true rfl⟩ e10 rfl rfl rfl (Nat.le_of_ble_eq_true rfl) ⟨Nat.zero_le _, Nat.zero_le _⟩ rfl dX10_faultOfAppend_21 (fun hr10 => ?_)
      refine V_if_eq (pc := 24) C 44 hr10 dX10_faultOfAppend_24 (by decide) (fun c24_12 => ?_) (fun c24_12 => ?_)
      · have h := ite_t h c24_12
        refine V_iconst (pc := 44) C dX10_faultOfAppend_44 ?_
        refine V_goto (pc := 45) C 49 dX10_faultOfAppend_45 (by decide) ?_
        exact V_iret (pc := 49) C hr hlk (by decide) h dX10_faultOfAppend_49
      · have h := ite_f h c24_12
        refine V_aload_n (pc := 27) C 0 rfl dX10_faultOfAppend_27 ?_
        refine V_iload_n (pc := 28) C 1 rfl dX10_faultOfAppend_28 ?_
        obtain ⟨M13, r14, hc15, h⟩ := cal_of h
        refine V_callVI (pc := 29) C (c_X10_sizeAt l Γ sk hsk fu ha1 hc15) cf_X10_sizeAt lk_X10_83 ⟨rfl, rfl⟩ ⟨Nat.le_of_ble_eq_true rfl, Nat.le_of_ble_eq_true rfl⟩ e10 rfl rfl rfl (Nat.le_of_ble_eq_true rfl) ⟨Nat.zero_le _, Nat.zero_le _⟩ rfl dX10_faultOfAppend_29 (fun hr14 => ?_)
        refine V_bipush (pc := 32) C dX10_faultOfAppend_32 rfl ?_
        refine V_icmp_ge (pc := 34) C 44 hr14 (by decide) dX10_faultOfAppend_34 (by decide) (fun c34_16 => ?_) (fun c34_16 => ?_)
        · have h := ite_t h c34_16
          refine V_iconst (pc := 44) C dX10_faultOfAppend_44 ?_
          refine V_goto (pc := 45) C 49 dX10_faultOfAppend_45 (by decide) ?_
          exact V_iret (pc := 49) C hr hlk (by decide) h dX10_faultOfAppend_49
        · have h := ite_f h c34_16
          refine V_aload_n (pc := 37) C 0 rfl dX10_faultOfAppend_37 ?_
          obtain ⟨M17, r18, hc19, h⟩ := cal_of h
          refine V_callVI (pc := 38) C (c_X10_isFull l Γ sk hsk fu hc19) cf_X10_isFull lk_X10_103 ⟨rfl, rfl⟩ ⟨Nat.le_of_ble_eq_true rfl, Nat.le_of_ble_eq_true rfl⟩ e10 rfl rfl rfl (Nat.le_of_ble_eq_true rfl) ⟨Nat.zero_le _, Nat.zero_le _⟩ rfl dX10_faultOfAppend_38 (fun hr18 => ?_)
          refine V_if_eq (pc := 41) C 48 hr18 dX10_faultOfAppend_41 (by decide) (fun c41_20 => ?_) (fun c41_20 => ?_)
          · have h := ite_t h c41_20
            refine V_iconst (pc := 48) C dX10_faultOfAppend_48 ?_
            exact V_iret (pc := 49) C hr hlk (by decide) h dX10_faultOfAppend_49
          · have h := ite_f h c41_20
            refine V_iconst (pc := 44) C dX10_faultOfAppend_44 ?_
            refine V_goto (pc := 45) C 49 dX10_faultOfAppend_45 (by decide) ?_
            exact V_iret (pc := 49) C hr hlk (by decide) h dX10_faultOfAppend_49
    · have h := ite_t h c14_8
      refine V_iconst (pc := 17) C dX10_faultOfAppend_17 ?_
      exact V_iret (pc := 18) C hr hlk (by decide) h dX10_faultOfAppend_18
  · have h := ite_t h c5_4
    refine V_iconst (pc := 8) C dX10_faultOfAppend_8 ?_
    exact V_iret (pc := 9) C hr hlk (by decide) h dX10_faultOfAppend_9
set_option maxRecDepth 100000 in
set_option maxHeartbeats 4000000 in
theorem c_X10_faultOfTruncate (l : Launch) (Γ : GG) (sk : List SD) (hsk : Ext sk) (fu : Nat) {M M' : Mem} {a1 : Int} {a2 : Int} {r : Int} (ha1 : rng a1) (ha2 : rng a2) (h : f_X10_faultOfTruncate fu M a1 a2 = some (M', r)) : MetI l yX10_faultOfTruncate cX10_faultOfTruncate 3 .int ({ frames := 2, cells := 0, slots := 0, locals := 42 } : Room) Γ sk [vr Γ 10, vi a1, vi a2] M M' r := by
  unfold f_X10_faultOfTruncate at h
  refine MetI_of RX10 rfl (by decide) rfl (Nat.le_of_ble_eq_true rfl) rfl ?_
  intro p e s m args below meth c C hr hlk hM
  have e10 := hsk 10 _ (by decide) rfl
  have JP33 : ∀ {x1 : Int} {M : Mem}, rng x1 → f_X10_faultOfTruncate_J33 fu x1 M = some (M', r) → VV p l e ({ frames := 2, cells := 0, slots := 0, locals := 42 } : Room) s m args below meth c (MQ below (PostI Γ sk M' r s.heap.size) args s 0 0 (Fr Γ sk s.heap.size)) 3 Γ sk M 0 0 33 [(0, vr Γ 10), (1, vi x1)] [] := by
    intro x1 M hx1 h
    unfold f_X10_faultOfTruncate_J33 at h
    refine V_aload_n (pc := 33) C 0 rfl dX10_faultOfTruncate_33 ?_
    refine V_iload_n (pc := 34) C 1 rfl dX10_faultOfTruncate_34 ?_
    obtain ⟨M10, r11, hc12, h⟩ := cal_of h
    refine V_callVI (pc := 35) C (c_X10_isLive l Γ sk hsk fu hx1 hc12) cf_X10_isLive lk_X10_73 ⟨rfl, rfl⟩ ⟨Nat.le_of_ble_eq_true rfl, Nat.le_of_ble_eq_true rfl⟩ e10 rfl rfl rfl (Nat.le_of_ble_eq_true rfl) ⟨Nat.zero_le _, Nat.zero_le _⟩ rfl dX10_faultOfTruncate_35 (fun hr11 => ?_)
    refine V_if_eq (pc := 38) C 48 hr11 dX10_faultOfTruncate_38 (by decide) (fun c38_13 => ?_) (fun c38_13 => ?_)
    · have h := ite_t h c38_13
      refine V_iconst (pc := 48) C dX10_faultOfTruncate_48 ?_
      refine V_goto (pc := 49) C 53 dX10_faultOfTruncate_49 (by decide) ?_
      exact V_iret (pc := 53) C hr hlk (by decide) h dX10_faultOfTruncate_53
    · have h := ite_f h c38_13
      refine V_aload_n (pc := 41) C 0 rfl dX10_faultOfTruncate_41 ?_
      obtain ⟨M14, r15, hc16, h⟩ := cal_of h
      refine V_callVI (pc := 42) C (c_X10_isFull l Γ sk hsk fu hc16) cf_X10_isFull lk_X10_103 ⟨rfl, rfl⟩ ⟨Nat.le_of_ble_eq_true rfl, Nat.le_of_ble_eq_true rfl⟩ e10 rfl rfl rfl (Nat.le_of_ble_eq_true rfl) ⟨Nat.zero_le _, Nat.zero_le _⟩ rfl dX10_faultOfTruncate_42 (fun hr15 => ?_)
      refine V_if_eq (pc := 45) C 52 hr15 dX10_faultOfTruncate_45 (by decide) (fun c45_17 => ?_) (fun c45_17 => ?_)
      · have h := ite_t h c45_17
        refine V_iconst (pc := 52) C dX10_faultOfTruncate_52 ?_
        exact V_iret (pc := 53) C hr hlk (by decide) h dX10_faultOfTruncate_53
      · have h := ite_f h c45_17
        refine V_iconst (pc := 48) C dX10_faultOfTruncate_48 ?_
        refine V_goto (pc := 49) C 53 dX10_faultOfTruncate_49 (by decide) ?_
        exact V_iret (pc := 53) C hr hlk (by decide) h dX10_faultOfTruncate_53
  skip
  refine V_aload_n (pc := 0) C 0 rfl dX10_faultOfTruncate_0 ?_
  refine V_iload_n (pc := 1) C 1 rfl dX10_faultOfTruncate_1 ?_
  obtain ⟨M1, r2, hc3, h⟩ := cal_of h
  refine V_callVI (pc := 2) C (c_X10_has l Γ sk hsk fu ha1 hc3) cf_X10_has lk_X10_61 ⟨rfl, rfl⟩ ⟨Nat.le_of_ble_eq_true rfl, Nat.le_of_ble_eq_true rfl⟩ e10 rfl rfl rfl (Nat.le_of_ble_eq_true rfl) ⟨Nat.zero_le _, Nat.zero_le _⟩ rfl dX10_faultOfTruncate_2 (fun hr2 => ?_)
  refine V_if_ne (pc := 5) C 10 hr2 dX10_faultOfTruncate_5 (by decide) (fun c5_4 => ?_) (fun c5_4 => ?_)
  · have h := ite_f h c5_4
    refine V_iload_n (pc := 10) C 2 rfl dX10_faultOfTruncate_10 ?_
    refine V_if_lt (pc := 11) C 31 ha2 dX10_faultOfTruncate_11 (by decide) (fun c11_5 => ?_) (fun c11_5 => ?_)
    · have h := ite_t h c11_5
      refine V_iconst (pc := 31) C dX10_faultOfTruncate_31 ?_
      exact V_iret (pc := 32) C hr hlk (by decide) h dX10_faultOfTruncate_32
    · have h := ite_f h c11_5
      refine V_aload_n (pc := 14) C 0 rfl dX10_faultOfTruncate_14 ?_
      refine V_iload_n (pc := 15) C 1 rfl dX10_faultOfTruncate_15 ?_
      obtain ⟨M6, r7, hc8, h⟩ := cal_of h
      refine V_callVI (pc := 16) C (c_X10_isLive l Γ sk hsk fu ha1 hc8) cf_X10_isLive lk_X10_73 ⟨rfl, rfl⟩ ⟨Nat.le_of_ble_eq_true rfl, Nat.le_of_ble_eq_true rfl⟩ e10 rfl rfl rfl (Nat.le_of_ble_eq_true rfl) ⟨Nat.zero_le _, Nat.zero_le _⟩ rfl dX10_faultOfTruncate_16 (fun hr7 => ?_)
      refine V_if_eq (pc := 19) C 33 hr7 dX10_faultOfTruncate_19 (by decide) (fun c19_9 => ?_) (fun c19_9 => ?_)
      · have h := ite_t h c19_9
        refine V_sub (L' := [(0, vr Γ 10), (1, vi a1)]) [0, 1] rfl (by decide) ?_
        exact JP33 ha1 h
      · have h := ite_f h c19_9
        refine V_iload_n (pc := 22) C 2 rfl dX10_faultOfTruncate_22 ?_
        refine V_aload_n (pc := 23) C 0 rfl dX10_faultOfTruncate_23 ?_
        refine V_iload_n (pc := 24) C 1 rfl dX10_faultOfTruncate_24 ?_
        obtain ⟨M18, r19, hc20, h⟩ := cal_of h
        refine V_callVI (pc := 25) C (c_X10_sizeAt l Γ sk hsk fu ha1 hc20) cf_X10_sizeAt lk_X10_83 ⟨rfl, rfl⟩ ⟨Nat.le_of_ble_eq_true rfl, Nat.le_of_ble_eq_true rfl⟩ e10 rfl rfl rfl (Nat.le_of_ble_eq_true rfl) ⟨Nat.zero_le _, Nat.zero_le _⟩ rfl dX10_faultOfTruncate_25 (fun hr19 => ?_)
        refine V_icmp_le (pc := 28) C 33 ha2 hr19 dX10_faultOfTruncate_28 (by decide) (fun c28_21 => ?_) (fun c28_21 => ?_)
        · have h := ite_t h c28_21
          refine V_sub (L' := [(0, vr Γ 10), (1, vi a1)]) [0, 1] rfl (by decide) ?_
          exact JP33 ha1 h
        · have h := ite_f h c28_21
          refine V_iconst (pc := 31) C dX10_faultOfTruncate_31 ?_
          exact V_iret (pc := 32) C hr hlk (by decide) h dX10_faultOfTruncate_32
  · have h := ite_t h c5_4
    refine V_iconst (pc := 8) C dX10_faultOfTruncate_8 ?_
    exact V_iret (pc := 9) C hr hlk (by decide) h dX10_faultOfTruncate_9
set_option maxRecDepth 100000 in
set_option maxHeartbeats 4000000 in
theorem c_X11_positionIn (l : Launch) (Γ : GG) (sk : List SD) (hsk : Ext sk) (fu : Nat) {M M' : Mem} {a0 : Int} {a1 : Int} {r : Int} (ha0 : rng a0) (ha1 : rng a1) (h : f_X11_positionIn fu M a0 a1 = some (M', r)) : MetI l yX11_positionIn cX11_positionIn 2 .int ({ frames := 0, cells := 0, slots := 0, locals := 0 } : Room) Γ sk [vi a0, vi a1] M M' r := by
  unfold f_X11_positionIn at h
  refine MetI_of RX11 rfl (by decide) rfl (Nat.le_of_ble_eq_true rfl) rfl ?_
  intro p e s m args below meth c C hr hlk hM
  refine V_iload_n (pc := 0) C 1 rfl dX11_positionIn_0 ?_
  refine V_iconst (pc := 1) C dX11_positionIn_1 ?_
  refine V_iload_n (pc := 2) C 0 rfl dX11_positionIn_2 ?_
  refine V_iconst (pc := 3) C dX11_positionIn_3 ?_
  refine V_isub (pc := 4) C dX11_positionIn_4 ?_
  refine V_imul (pc := 5) C dX11_positionIn_5 ?_
  obtain ⟨g1, h⟩ := grd_of h
  refine V_ishr (pc := 6) C (y := (2 : Int) * (a0 - (1 : Int))) ha1 g1 dX11_positionIn_6 ?_
  refine V_iconst (pc := 7) C dX11_positionIn_7 ?_
  refine V_iand (pc := 8) C (z := (a1 / (2 ^ ((2 : Int) * (a0 - (1 : Int)) : Int).toNat : Nat)) % 4) 2 (by decide) (by decide) rfl dX11_positionIn_8 ?_
  obtain ⟨g2, h⟩ := grd_of h
  exact V_iret (pc := 9) C hr hlk g2 h dX11_positionIn_9
set_option maxRecDepth 100000 in
set_option maxHeartbeats 4000000 in
theorem c_X8_addLeaves (l : Launch) (Γ : GG) (sk : List SD) (hsk : Ext sk) (fu : Nat) {M M' : Mem} {k1 : Nat} {n1 : Nat} {a2 : Int} {r : Int} (hk1 : sk[k1]? = some (.inl (0, n1))) (hn1 : n1 ≤ 2147483647) (ha2 : rng a2) (h : f_X8_addLeaves fu M k1 n1 a2 = some (M', r)) : MetV l yX8_addLeaves cX8_addLeaves 6 ({ frames := 2, cells := 0, slots := 0, locals := 53 } : Room) Γ sk [vr Γ 4, vr Γ k1, vi a2] M M' := by
  unfold f_X8_addLeaves at h
  refine MetV_of RX8 rfl (by decide) rfl (Nat.le_of_ble_eq_true rfl) rfl ?_
  intro p e s m args below meth c C hr hlk hM
  have e4 := hsk 4 _ (by decide) rfl
  have e5 := hsk 5 _ (by decide) rfl
  have JP33 : ∀ (k5 : Int → Int → Int → Mem → Option (Mem × Int)) (_ : ∀ (x2 : Int) (x3 : Int) (x4 : Int) (M : Mem), rng x2 → rng x3 → rng x4 → k5 x2 x3 x4 M = some (M', r) → VV p l e ({ frames := 2, cells := 0, slots := 0, locals := 53 } : Room) s m args below meth c (MQ below (PostV Γ sk M' s.heap.size) args s 0 0 (Fr Γ sk s.heap.size)) 6 Γ sk M 0 0 5 [(0, vr Γ 4), (1, vr Γ k1), (2, vi x2), (3, vi x3), (4, vi x4)] []) {x2 : Int} {x3 : Int} {x4 : Int} {x5 : Int} {M : Mem}, rng x2 → rng x3 → rng x4 → rng x5 → f_X8_addLeaves_J33 fu k1 n1 k5 x2 x3 x4 x5 M = some (M', r) → VV p l e ({ frames := 2, cells := 0, slots := 0, locals := 53 } : Room) s m args below meth c (MQ below (PostV Γ sk M' s.heap.size) args s 0 0 (Fr Γ sk s.heap.size)) 6 Γ sk M 0 0 33 [(0, vr Γ 4), (1, vr Γ k1), (2, vi x2), (3, vi x3), (4, vi x4), (5, vi x5)] [] := by
    intro k5 hkk5 x2 x3 x4 x5 M hx2 hx3 hx4 hx5 h
    unfold f_X8_addLeaves_J33 at h
    refine V_aload_n (pc := 33) C 0 rfl dX8_addLeaves_33 ?_
    refine V_getR (pc := 34) C e4 rfl inX8 0 (by decide) rfl lf_X8_12 rfl dX8_addLeaves_34 ?_
    refine V_iload_n (pc := 37) C 3 rfl dX8_addLeaves_37 ?_
    refine V_iload (pc := 38) C 5 rfl dX8_addLeaves_38 ?_
    refine V_aload_n (pc := 40) C 1 rfl dX8_addLeaves_40 ?_
    refine V_iload (pc := 41) C 4 rfl dX8_addLeaves_41 ?_
    obtain ⟨M6, r7, hc8, h⟩ := cal_of h
    refine V_callNI (pc := 43) C (c_X11_at l Γ sk hsk fu hk1 hn1 hx4 hc8) cf_X11_at ln_X8_59 ⟨rfl, rfl⟩ ⟨Nat.le_of_ble_eq_true rfl, Nat.le_of_ble_eq_true rfl⟩ rfl (Nat.le_of_ble_eq_true rfl) ⟨Nat.zero_le _, Nat.zero_le _⟩ rfl dX8_addLeaves_43 (fun hr7 => ?_)
    obtain ⟨M9, r10, hc11, h⟩ := cal_of h
    refine V_callVV (pc := 46) C (c_X3_place l Γ sk hsk fu hx3 hx5 hr7 hc11) cf_X3_place lk_X8_63 ⟨rfl, rfl⟩ ⟨Nat.le_of_ble_eq_true rfl, Nat.le_of_ble_eq_true rfl⟩ e5 rfl rfl rfl (Nat.le_of_ble_eq_true rfl) ⟨Nat.zero_le _, Nat.zero_le _⟩ rfl dX8_addLeaves_46 ?_
    refine V_iinc (pc := 49) C (L' := [(0, vr Γ 4), (1, vr Γ k1), (2, vi x2), (3, vi x3), (4, vi (x4 + (1 : Int))), (5, vi x5)]) 4 rfl rfl (by decide) dX8_addLeaves_49 ?_
    refine V_goto (pc := 52) C 5 dX8_addLeaves_52 (by decide) ?_
    obtain ⟨g12, h⟩ := grd_of h
    refine V_sub (L' := [(0, vr Γ 4), (1, vr Γ k1), (2, vi x2), (3, vi x3), (4, vi (x4 + (1 : Int)))]) [0, 1, 2, 3, 4] rfl (by decide) ?_
    exact hkk5 _ _ _ _ hx2 hx3 g12 h
  have LP5 : ∀ (n : Nat) {x2 : Int} {x3 : Int} {x4 : Int} {M : Mem}, rng x2 → rng x3 → rng x4 → f_X8_addLeaves_L5 fu k1 n1 n x2 x3 x4 M = some (M', r) → VV p l e ({ frames := 2, cells := 0, slots := 0, locals := 53 } : Room) s m args below meth c (MQ below (PostV Γ sk M' s.heap.size) args s 0 0 (Fr Γ sk s.heap.size)) 6 Γ sk M 0 0 5 [(0, vr Γ 4), (1, vr Γ k1), (2, vi x2), (3, vi x3), (4, vi x4)] [] := by
    intro n
    induction n with
    | zero =>
      intro x2 x3 x4 M hx2 hx3 hx4 h
      cases h
    | succ n ih =>
      intro x2 x3 x4 M hx2 hx3 hx4 h
      rw [f_X8_addLeaves_L5] at h
      refine V_iload (pc := 5) C 4 rfl dX8_addLeaves_5 ?_
      refine V_iload_n (pc := 7) C 2 rfl dX8_addLeaves_7 ?_
      refine V_icmp_ge (pc := 8) C 55 hx4 hx2 dX8_addLeaves_8 (by decide) (fun c8_1 => ?_) (fun c8_1 => ?_)
      · have h := ite_t h c8_1
        exact V_vret (pc := 55) C hr hlk h dX8_addLeaves_55
      · have h := ite_f h c8_1
        refine V_iconst (pc := 11) C dX8_addLeaves_11 ?_
        refine V_iload (pc := 12) C 4 rfl dX8_addLeaves_12 ?_
        obtain ⟨M2, r3, hc4, h⟩ := cal_of h
        refine V_callNI (pc := 14) C (c_X11_positionIn l Γ sk hsk fu (by decide) hx4 hc4) cf_X11_positionIn ln_X8_52 ⟨rfl, rfl⟩ ⟨Nat.le_of_ble_eq_true rfl, Nat.le_of_ble_eq_true rfl⟩ rfl (Nat.le_of_ble_eq_true rfl) ⟨Nat.zero_le _, Nat.zero_le _⟩ rfl dX8_addLeaves_14 (fun hr3 => ?_)
        refine V_istore (pc := 17) C (L' := [(0, vr Γ 4), (1, vr Γ k1), (2, vi x2), (3, vi x3), (4, vi x4), (5, vi r3)]) rfl (by decide) dX8_addLeaves_17 ?_
        refine V_iload (pc := 19) C 5 rfl dX8_addLeaves_19 ?_
        refine V_if_ne (pc := 21) C 33 hr3 dX8_addLeaves_21 (by decide) (fun c21_5 => ?_) (fun c21_5 => ?_)
        · have h := ite_f h c21_5
          refine V_sub (L' := [(0, vr Γ 4), (1, vr Γ k1), (2, vi x2), (3, vi x3), (4, vi x4), (5, vi r3)]) [0, 1, 2, 3, 4, 5] rfl (by decide) ?_
          exact JP33 _ (fun _ _ _ _ hz0 hz1 hz2 hz => ih hz0 hz1 hz2 hz) hx2 hx3 hx4 hr3 h
        · have h := ite_t h c21_5
          refine V_aload_n (pc := 24) C 0 rfl dX8_addLeaves_24 ?_
          refine V_getR (pc := 25) C e4 rfl inX8 0 (by decide) rfl lf_X8_12 rfl dX8_addLeaves_25 ?_
          refine V_iconst (pc := 28) C dX8_addLeaves_28 ?_
          obtain ⟨M13, r14, hc15, h⟩ := cal_of h
          refine V_callVI (pc := 29) C (c_X3_add l Γ sk hsk fu (by decide) hc15) cf_X3_add lk_X8_56 ⟨rfl, rfl⟩ ⟨Nat.le_of_ble_eq_true rfl, Nat.le_of_ble_eq_true rfl⟩ e5 rfl rfl rfl (Nat.le_of_ble_eq_true rfl) ⟨Nat.zero_le _, Nat.zero_le _⟩ rfl dX8_addLeaves_29 (fun hr14 => ?_)
          refine V_istore_n (pc := 32) C (L' := [(0, vr Γ 4), (1, vr Γ k1), (2, vi x2), (3, vi r14), (4, vi x4), (5, vi r3)]) rfl (by decide) dX8_addLeaves_32 ?_
          refine V_sub (L' := [(0, vr Γ 4), (1, vr Γ k1), (2, vi x2), (3, vi r14), (4, vi x4), (5, vi r3)]) [0, 1, 2, 3, 4, 5] rfl (by decide) ?_
          exact JP33 _ (fun _ _ _ _ hz0 hz1 hz2 hz => ih hz0 hz1 hz2 hz) hx2 hr14 hx4 hr3 h
  skip
  refine V_iconst (pc := 0) C dX8_addLeaves_0 ?_
  refine V_istore_n (pc := 1) C (L' := [(0, vr Γ 4), (1, vr Γ k1), (2, vi a2), (3, vi (-1 : Int))]) rfl (by decide) dX8_addLeaves_1 ?_
  refine V_iconst (pc := 2) C dX8_addLeaves_2 ?_
  refine V_istore (pc := 3) C (L' := [(0, vr Γ 4), (1, vr Γ k1), (2, vi a2), (3, vi (-1 : Int)), (4, vi (0 : Int))]) rfl (by decide) dX8_addLeaves_3 ?_
  refine V_sub (L' := [(0, vr Γ 4), (1, vr Γ k1), (2, vi a2), (3, vi (-1 : Int)), (4, vi (0 : Int))]) [0, 1, 2, 3, 4] rfl (by decide) ?_
  exact LP5 fu  ha2 (by decide) (by decide) h
set_option maxRecDepth 100000 in
set_option maxHeartbeats 4000000 in
theorem c_X11_capacity (l : Launch) (Γ : GG) (sk : List SD) (hsk : Ext sk) (fu : Nat) {M M' : Mem} {a0 : Int} {r : Int} (ha0 : rng a0) (h : f_X11_capacity fu M a0 = some (M', r)) : MetI l yX11_capacity cX11_capacity 1 .int ({ frames := 0, cells := 0, slots := 0, locals := 0 } : Room) Γ sk [vi a0] M M' r := by
  unfold f_X11_capacity at h
  refine MetI_of RX11 rfl (by decide) rfl (Nat.le_of_ble_eq_true rfl) rfl ?_
  intro p e s m args below meth c C hr hlk hM
  refine V_iconst (pc := 0) C dX11_capacity_0 ?_
  refine V_iconst (pc := 1) C dX11_capacity_1 ?_
  refine V_iload_n (pc := 2) C 0 rfl dX11_capacity_2 ?_
  refine V_imul (pc := 3) C dX11_capacity_3 ?_
  obtain ⟨g1, h⟩ := grd_of h
  have g1r : rng ((1 : Int) * (2 ^ ((2 : Int) * a0 : Int).toNat : Nat)) := shl_rng g1
  refine V_ishl (pc := 4) C g1 dX11_capacity_4 ?_
  exact V_iret (pc := 5) C hr hlk g1r h dX11_capacity_5
set_option maxRecDepth 100000 in
set_option maxHeartbeats 4000000 in
theorem c_X11_heightFor (l : Launch) (Γ : GG) (sk : List SD) (hsk : Ext sk) (fu : Nat) {M M' : Mem} {a0 : Int} {r : Int} (ha0 : rng a0) (h : f_X11_heightFor fu M a0 = some (M', r)) : MetI l yX11_heightFor cX11_heightFor 1 .int ({ frames := 1, cells := 0, slots := 0, locals := 20 } : Room) Γ sk [vi a0] M M' r := by
  unfold f_X11_heightFor at h
  refine MetI_of RX11 rfl (by decide) rfl (Nat.le_of_ble_eq_true rfl) rfl ?_
  intro p e s m args below meth c C hr hlk hM
  refine V_iload_n (pc := 0) C 0 rfl dX11_heightFor_0 ?_
  refine V_if_gt (pc := 1) C 6 ha0 dX11_heightFor_1 (by decide) (fun c1_1 => ?_) (fun c1_1 => ?_)
  · have h := ite_t h c1_1
    refine V_iload_n (pc := 6) C 0 rfl dX11_heightFor_6 ?_
    refine V_iconst (pc := 7) C dX11_heightFor_7 ?_
    obtain ⟨M2, r3, hc4, h⟩ := cal_of h
    refine V_callSI (pc := 8) C (c_X11_capacity l Γ sk hsk fu (by decide) hc4) cf_X11_capacity lk_X11_359 ⟨rfl, rfl⟩ ⟨Nat.le_of_ble_eq_true rfl, Nat.le_of_ble_eq_true rfl⟩ rfl (Nat.le_of_ble_eq_true rfl) ⟨Nat.zero_le _, Nat.zero_le _⟩ rfl dX11_heightFor_8 (fun hr3 => ?_)
    refine V_icmp_gt (pc := 11) C 16 ha0 hr3 dX11_heightFor_11 (by decide) (fun c11_5 => ?_) (fun c11_5 => ?_)
    · have h := ite_t h c11_5
      refine V_iload_n (pc := 16) C 0 rfl dX11_heightFor_16 ?_
      refine V_iconst (pc := 17) C dX11_heightFor_17 ?_
      obtain ⟨M6, r7, hc8, h⟩ := cal_of h
      refine V_callSI (pc := 18) C (c_X11_capacity l Γ sk hsk fu (by decide) hc8) cf_X11_capacity lk_X11_359 ⟨rfl, rfl⟩ ⟨Nat.le_of_ble_eq_true rfl, Nat.le_of_ble_eq_true rfl⟩ rfl (Nat.le_of_ble_eq_true rfl) ⟨Nat.zero_le _, Nat.zero_le _⟩ rfl dX11_heightFor_18 (fun hr7 => ?_)
      refine V_icmp_gt (pc := 21) C 28 ha0 hr7 dX11_heightFor_21 (by decide) (fun c21_9 => ?_) (fun c21_9 => ?_)
      · have h := ite_t h c21_9
        refine V_iconst (pc := 28) C dX11_heightFor_28 ?_
        exact V_iret (pc := 29) C hr hlk (by decide) h dX11_heightFor_29
      · have h := ite_f h c21_9
        refine V_iconst (pc := 24) C dX11_heightFor_24 ?_
        refine V_goto (pc := 25) C 29 dX11_heightFor_25 (by decide) ?_
        exact V_iret (pc := 29) C hr hlk (by decide) h dX11_heightFor_29
    · have h := ite_f h c11_5
      refine V_iconst (pc := 14) C dX11_heightFor_14 ?_
      exact V_iret (pc := 15) C hr hlk (by decide) h dX11_heightFor_15
  · have h := ite_f h c1_1
    refine V_iconst (pc := 4) C dX11_heightFor_4 ?_
    exact V_iret (pc := 5) C hr hlk (by decide) h dX11_heightFor_5
set_option maxRecDepth 100000 in
set_option maxHeartbeats 4000000 in
theorem c_X8_addParents (l : Launch) (Γ : GG) (sk : List SD) (hsk : Ext sk) (fu : Nat) {M M' : Mem} {a1 : Int} {a2 : Int} {a3 : Int} {r : Int} (ha1 : rng a1) (ha2 : rng a2) (ha3 : rng a3) (h : f_X8_addParents fu M a1 a2 a3 = some (M', r)) : MetV l yX8_addParents cX8_addParents 7 ({ frames := 2, cells := 0, slots := 0, locals := 53 } : Room) Γ sk [vr Γ 4, vi a1, vi a2, vi a3] M M' := by
  unfold f_X8_addParents at h
  refine MetV_of RX8 rfl (by decide) rfl (Nat.le_of_ble_eq_true rfl) rfl ?_
  intro p e s m args below meth c C hr hlk hM
  have e4 := hsk 4 _ (by decide) rfl
  have e5 := hsk 5 _ (by decide) rfl
  have JP37 : ∀ (k6 : Int → Int → Int → Int → Int → Mem → Option (Mem × Int)) (_ : ∀ (x1 : Int) (x2 : Int) (x3 : Int) (x4 : Int) (x5 : Int) (M : Mem), rng x1 → rng x2 → rng x3 → rng x4 → rng x5 → k6 x1 x2 x3 x4 x5 M = some (M', r) → VV p l e ({ frames := 2, cells := 0, slots := 0, locals := 53 } : Room) s m args below meth c (MQ below (PostV Γ sk M' s.heap.size) args s 0 0 (Fr Γ sk s.heap.size)) 7 Γ sk M 0 0 6 [(0, vr Γ 4), (1, vi x1), (2, vi x2), (3, vi x3), (4, vi x4), (5, vi x5)] []) {x1 : Int} {x2 : Int} {x3 : Int} {x4 : Int} {x5 : Int} {x6 : Int} {M : Mem}, rng x1 → rng x2 → rng x3 → rng x4 → rng x5 → rng x6 → f_X8_addParents_J37 fu k6 x1 x2 x3 x4 x5 x6 M = some (M', r) → VV p l e ({ frames := 2, cells := 0, slots := 0, locals := 53 } : Room) s m args below meth c (MQ below (PostV Γ sk M' s.heap.size) args s 0 0 (Fr Γ sk s.heap.size)) 7 Γ sk M 0 0 37 [(0, vr Γ 4), (1, vi x1), (2, vi x2), (3, vi x3), (4, vi x4), (5, vi x5), (6, vi x6)] [] := by
    intro k6 hkk6 x1 x2 x3 x4 x5 x6 M hx1 hx2 hx3 hx4 hx5 hx6 h
    unfold f_X8_addParents_J37 at h
    refine V_aload_n (pc := 37) C 0 rfl dX8_addParents_37 ?_
    refine V_getR (pc := 38) C e4 rfl inX8 0 (by decide) rfl lf_X8_12 rfl dX8_addParents_38 ?_
    refine V_iload (pc := 41) C 4 rfl dX8_addParents_41 ?_
    refine V_iload (pc := 43) C 6 rfl dX8_addParents_43 ?_
    refine V_iload (pc := 45) C 5 rfl dX8_addParents_45 ?_
    obtain ⟨M7, r8, hc9, h⟩ := cal_of h
    refine V_callVV (pc := 47) C (c_X3_place l Γ sk hsk fu hx4 hx6 hx5 hc9) cf_X3_place lk_X8_63 ⟨rfl, rfl⟩ ⟨Nat.le_of_ble_eq_true rfl, Nat.le_of_ble_eq_true rfl⟩ e5 rfl rfl rfl (Nat.le_of_ble_eq_true rfl) ⟨Nat.zero_le _, Nat.zero_le _⟩ rfl dX8_addParents_47 ?_
    refine V_iinc (pc := 50) C (L' := [(0, vr Γ 4), (1, vi x1), (2, vi x2), (3, vi x3), (4, vi x4), (5, vi (x5 + (1 : Int))), (6, vi x6)]) 5 rfl rfl (by decide) dX8_addParents_50 ?_
    refine V_goto (pc := 53) C 6 dX8_addParents_53 (by decide) ?_
    obtain ⟨g10, h⟩ := grd_of h
    refine V_sub (L' := [(0, vr Γ 4), (1, vi x1), (2, vi x2), (3, vi x3), (4, vi x4), (5, vi (x5 + (1 : Int)))]) [0, 1, 2, 3, 4, 5] rfl (by decide) ?_
    exact hkk6 _ _ _ _ _ _ hx1 hx2 hx3 hx4 g10 h
  have LP6 : ∀ (n : Nat) {x1 : Int} {x2 : Int} {x3 : Int} {x4 : Int} {x5 : Int} {M : Mem}, rng x1 → rng x2 → rng x3 → rng x4 → rng x5 → f_X8_addParents_L6 fu n x1 x2 x3 x4 x5 M = some (M', r) → VV p l e ({ frames := 2, cells := 0, slots := 0, locals := 53 } : Room) s m args below meth c (MQ below (PostV Γ sk M' s.heap.size) args s 0 0 (Fr Γ sk s.heap.size)) 7 Γ sk M 0 0 6 [(0, vr Γ 4), (1, vi x1), (2, vi x2), (3, vi x3), (4, vi x4), (5, vi x5)] [] := by
    intro n
    induction n with
    | zero =>
      intro x1 x2 x3 x4 x5 M hx1 hx2 hx3 hx4 hx5 h
      cases h
    | succ n ih =>
      intro x1 x2 x3 x4 x5 M hx1 hx2 hx3 hx4 hx5 h
      rw [f_X8_addParents_L6] at h
      refine V_iload (pc := 6) C 5 rfl dX8_addParents_6 ?_
      refine V_iload_n (pc := 8) C 3 rfl dX8_addParents_8 ?_
      refine V_icmp_ge (pc := 9) C 56 hx5 hx3 dX8_addParents_9 (by decide) (fun c9_1 => ?_) (fun c9_1 => ?_)
      · have h := ite_t h c9_1
        exact V_vret (pc := 56) C hr hlk h dX8_addParents_56
      · have h := ite_f h c9_1
        refine V_iconst (pc := 12) C dX8_addParents_12 ?_
        refine V_iload (pc := 13) C 5 rfl dX8_addParents_13 ?_
        refine V_iload_n (pc := 15) C 2 rfl dX8_addParents_15 ?_
        refine V_isub (pc := 16) C dX8_addParents_16 ?_
        obtain ⟨g2, h⟩ := grd_of h
        obtain ⟨M3, r4, hc5, h⟩ := cal_of h
        refine V_callNI (pc := 17) C (c_X11_positionIn l Γ sk hsk fu (by decide) g2 hc5) cf_X11_positionIn ln_X8_52 ⟨rfl, rfl⟩ ⟨Nat.le_of_ble_eq_true rfl, Nat.le_of_ble_eq_true rfl⟩ rfl (Nat.le_of_ble_eq_true rfl) ⟨Nat.zero_le _, Nat.zero_le _⟩ rfl dX8_addParents_17 (fun hr4 => ?_)
        refine V_istore (pc := 20) C (L' := [(0, vr Γ 4), (1, vi x1), (2, vi x2), (3, vi x3), (4, vi x4), (5, vi x5), (6, vi r4)]) rfl (by decide) dX8_addParents_20 ?_
        refine V_iload (pc := 22) C 6 rfl dX8_addParents_22 ?_
        refine V_if_ne (pc := 24) C 37 hr4 dX8_addParents_24 (by decide) (fun c24_6 => ?_) (fun c24_6 => ?_)
        · have h := ite_f h c24_6
          refine V_sub (L' := [(0, vr Γ 4), (1, vi x1), (2, vi x2), (3, vi x3), (4, vi x4), (5, vi x5), (6, vi r4)]) [0, 1, 2, 3, 4, 5, 6] rfl (by decide) ?_
          exact JP37 _ (fun _ _ _ _ _ _ hz0 hz1 hz2 hz3 hz4 hz => ih hz0 hz1 hz2 hz3 hz4 hz) hx1 hx2 hx3 hx4 hx5 hr4 h
        · have h := ite_t h c24_6
          refine V_aload_n (pc := 27) C 0 rfl dX8_addParents_27 ?_
          refine V_getR (pc := 28) C e4 rfl inX8 0 (by decide) rfl lf_X8_12 rfl dX8_addParents_28 ?_
          refine V_iload_n (pc := 31) C 1 rfl dX8_addParents_31 ?_
          obtain ⟨M11, r12, hc13, h⟩ := cal_of h
          refine V_callVI (pc := 32) C (c_X3_add l Γ sk hsk fu hx1 hc13) cf_X3_add lk_X8_56 ⟨rfl, rfl⟩ ⟨Nat.le_of_ble_eq_true rfl, Nat.le_of_ble_eq_true rfl⟩ e5 rfl rfl rfl (Nat.le_of_ble_eq_true rfl) ⟨Nat.zero_le _, Nat.zero_le _⟩ rfl dX8_addParents_32 (fun hr12 => ?_)
          refine V_istore (pc := 35) C (L' := [(0, vr Γ 4), (1, vi x1), (2, vi x2), (3, vi x3), (4, vi r12), (5, vi x5), (6, vi r4)]) rfl (by decide) dX8_addParents_35 ?_
          refine V_sub (L' := [(0, vr Γ 4), (1, vi x1), (2, vi x2), (3, vi x3), (4, vi r12), (5, vi x5), (6, vi r4)]) [0, 1, 2, 3, 4, 5, 6] rfl (by decide) ?_
          exact JP37 _ (fun _ _ _ _ _ _ hz0 hz1 hz2 hz3 hz4 hz => ih hz0 hz1 hz2 hz3 hz4 hz) hx1 hx2 hx3 hr12 hx5 hr4 h
  skip
  refine V_iconst (pc := 0) C dX8_addParents_0 ?_
  refine V_istore (pc := 1) C (L' := [(0, vr Γ 4), (1, vi a1), (2, vi a2), (3, vi a3), (4, vi (-1 : Int))]) rfl (by decide) dX8_addParents_1 ?_
  refine V_iload_n (pc := 3) C 2 rfl dX8_addParents_3 ?_
  refine V_istore (pc := 4) C (L' := [(0, vr Γ 4), (1, vi a1), (2, vi a2), (3, vi a3), (4, vi (-1 : Int)), (5, vi a2)]) rfl (by decide) dX8_addParents_4 ?_
  refine V_sub (L' := [(0, vr Γ 4), (1, vi a1), (2, vi a2), (3, vi a3), (4, vi (-1 : Int)), (5, vi a2)]) [0, 1, 2, 3, 4, 5] rfl (by decide) ?_
  exact LP6 fu  ha1 ha2 ha3 (by decide) ha2 h
