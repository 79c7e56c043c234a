set_option maxRecDepth 100000 in
set_option maxHeartbeats 4000000 in
theorem c_X10_isLive (l : Launch) (Γ : GG) (sk : List SD) (hsk : Ext sk) (fu : Nat) {M M' : Mem} {a1 : Int} {r : Int} (ha1 : rng a1) (h : f_X10_isLive fu M a1 = some (M', r)) : MetI l yX10_isLive cX10_isLive 2 .boolean ({ frames := 1, cells := 0, slots := 0, locals := 21 } : Room) Γ sk [vr Γ 10, vi a1] M M' r := by
  unfold f_X10_isLive at h
  refine MetI_of RX10 rfl (by decide) rfl (Nat.le_of_ble_eq_true rfl) rfl ?_
  intro p e s m args below meth c C hr hlk hM
  have e10 := hsk 10 _ (by decide) rfl
  have e18 := hsk 18 _ (by decide) rfl
  refine V_aload_n (pc := 0) C 0 rfl dX10_isLive_0 ?_
  refine V_iload_n (pc := 1) C 1 rfl dX10_isLive_1 ?_
  obtain ⟨M1, r2, hc3, h⟩ := cal_of h
  refine V_callVI (pc := 2) C (c_X10_has l Γ sk hsk fu ha1 hc3) cf_X10_has lk_X10_61 ⟨rfl, rfl⟩ ⟨Nat.le_of_ble_eq_true rfl, Nat.le_of_ble_eq_true rfl⟩ e10 rfl rfl rfl (Nat.le_of_ble_eq_true rfl) ⟨Nat.zero_le _, Nat.zero_le _⟩ rfl dX10_isLive_2 (fun hr2 => ?_)
  refine V_if_eq (pc := 5) C 23 hr2 dX10_isLive_5 (by decide) (fun c5_4 => ?_) (fun c5_4 => ?_)
  · have h := ite_t h c5_4
    refine V_iconst (pc := 23) C dX10_isLive_23 ?_
    exact V_zret (pc := 24) C hr hlk (by decide) h dX10_isLive_24
  · have h := ite_f h c5_4
    refine V_aload_n (pc := 8) C 0 rfl dX10_isLive_8 ?_
    refine V_getR (pc := 9) C e10 rfl inX10 8 (by decide) rfl lf_X10_33 rfl dX10_isLive_9 ?_
    refine V_iload_n (pc := 12) C 1 rfl dX10_isLive_12 ?_
    obtain ⟨M5, r6, hc7, h⟩ := cal_of h
    refine V_callNI (pc := 13) C (c_X11_flagAt l Γ sk hsk fu e18 (by decide) ha1 hc7) cf_X11_flagAt ln_X10_65 ⟨rfl, rfl⟩ ⟨Nat.le_of_ble_eq_true rfl, Nat.le_of_ble_eq_true rfl⟩ rfl (Nat.le_of_ble_eq_true rfl) ⟨Nat.zero_le _, Nat.zero_le _⟩ rfl dX10_isLive_13 (fun hr6 => ?_)
    refine V_if_ne (pc := 16) C 23 hr6 dX10_isLive_16 (by decide) (fun c16_8 => ?_) (fun c16_8 => ?_)
    · have h := ite_f h c16_8
      refine V_iconst (pc := 23) C dX10_isLive_23 ?_
      exact V_zret (pc := 24) C hr hlk (by decide) h dX10_isLive_24
    · have h := ite_t h c16_8
      refine V_iconst (pc := 19) C dX10_isLive_19 ?_
      refine V_goto (pc := 20) C 24 dX10_isLive_20 (by decide) ?_
      exact V_zret (pc := 24) C hr hlk (by decide) h dX10_isLive_24
set_option maxRecDepth 100000 in
set_option maxHeartbeats 4000000 in
theorem c_X10_parentAt (l : Launch) (Γ : GG) (sk : List SD) (hsk : Ext sk) (fu : Nat) {M M' : Mem} {a1 : Int} {r : Int} (ha1 : rng a1) (h : f_X10_parentAt fu M a1 = some (M', r)) : MetI l yX10_parentAt cX10_parentAt 2 .int ({ frames := 1, cells := 0, slots := 0, locals := 21 } : Room) Γ sk [vr Γ 10, vi a1] M M' r := by
  unfold f_X10_parentAt at h
  refine MetI_of RX10 rfl (by decide) rfl (Nat.le_of_ble_eq_true rfl) rfl ?_
  intro p e s m args below meth c C hr hlk hM
  have e10 := hsk 10 _ (by decide) rfl
  have e11 := hsk 11 _ (by decide) rfl
  refine V_aload_n (pc := 0) C 0 rfl dX10_parentAt_0 ?_
  refine V_getR (pc := 1) C e10 rfl inX10 1 (by decide) rfl lf_X10_9 rfl dX10_parentAt_1 ?_
  refine V_iload_n (pc := 4) C 1 rfl dX10_parentAt_4 ?_
  obtain ⟨M1, r2, hc3, h⟩ := cal_of h
  refine V_callNI (pc := 5) C (c_X11_at l Γ sk hsk fu e11 (by decide) ha1 hc3) cf_X11_at ln_X10_69 ⟨rfl, rfl⟩ ⟨Nat.le_of_ble_eq_true rfl, Nat.le_of_ble_eq_true rfl⟩ rfl (Nat.le_of_ble_eq_true rfl) ⟨Nat.zero_le _, Nat.zero_le _⟩ rfl dX10_parentAt_5 (fun hr2 => ?_)
  exact V_iret (pc := 8) C hr hlk hr2 h dX10_parentAt_8
set_option maxRecDepth 100000 in
set_option maxHeartbeats 4000000 in
theorem c_X10_rootAt (l : Launch) (Γ : GG) (sk : List SD) (hsk : Ext sk) (fu : Nat) {M M' : Mem} {a1 : Int} {r : Int} (ha1 : rng a1) (h : f_X10_rootAt fu M a1 = some (M', r)) : MetI l yX10_rootAt cX10_rootAt 2 .int ({ frames := 1, cells := 0, slots := 0, locals := 21 } : Room) Γ sk [vr Γ 10, vi a1] M M' r := by
  unfold f_X10_rootAt at h
  refine MetI_of RX10 rfl (by decide) rfl (Nat.le_of_ble_eq_true rfl) rfl ?_
  intro p e s m args below meth c C hr hlk hM
  have e10 := hsk 10 _ (by decide) rfl
  have e12 := hsk 12 _ (by decide) rfl
  refine V_aload_n (pc := 0) C 0 rfl dX10_rootAt_0 ?_
  refine V_getR (pc := 1) C e10 rfl inX10 2 (by decide) rfl lf_X10_15 rfl dX10_rootAt_1 ?_
  refine V_iload_n (pc := 4) C 1 rfl dX10_rootAt_4 ?_
  obtain ⟨M1, r2, hc3, h⟩ := cal_of h
  refine V_callNI (pc := 5) C (c_X11_at l Γ sk hsk fu e12 (by decide) ha1 hc3) cf_X11_at ln_X10_69 ⟨rfl, rfl⟩ ⟨Nat.le_of_ble_eq_true rfl, Nat.le_of_ble_eq_true rfl⟩ rfl (Nat.le_of_ble_eq_true rfl) ⟨Nat.zero_le _, Nat.zero_le _⟩ rfl dX10_rootAt_5 (fun hr2 => ?_)
  exact V_iret (pc := 8) C hr hlk hr2 h dX10_rootAt_8
set_option maxRecDepth 100000 in
set_option maxHeartbeats 4000000 in
theorem c_X10_sizeAt (l : Launch) (Γ : GG) (sk : List SD) (hsk : Ext sk) (fu : Nat) {M M' : Mem} {a1 : Int} {r : Int} (ha1 : rng a1) (h : f_X10_sizeAt fu M a1 = some (M', r)) : MetI l yX10_sizeAt cX10_sizeAt 2 .int ({ frames := 1, cells := 0, slots := 0, locals := 21 } : Room) Γ sk [vr Γ 10, vi a1] M M' r := by
  unfold f_X10_sizeAt at h
  refine MetI_of RX10 rfl (by decide) rfl (Nat.le_of_ble_eq_true rfl) rfl ?_
  intro p e s m args below meth c C hr hlk hM
  have e10 := hsk 10 _ (by decide) rfl
  have e13 := hsk 13 _ (by decide) rfl
  refine V_aload_n (pc := 0) C 0 rfl dX10_sizeAt_0 ?_
  refine V_getR (pc := 1) C e10 rfl inX10 3 (by decide) rfl lf_X10_18 rfl dX10_sizeAt_1 ?_
  refine V_iload_n (pc := 4) C 1 rfl dX10_sizeAt_4 ?_
  obtain ⟨M1, r2, hc3, h⟩ := cal_of h
  refine V_callNI (pc := 5) C (c_X11_at l Γ sk hsk fu e13 (by decide) ha1 hc3) cf_X11_at ln_X10_69 ⟨rfl, rfl⟩ ⟨Nat.le_of_ble_eq_true rfl, Nat.le_of_ble_eq_true rfl⟩ rfl (Nat.le_of_ble_eq_true rfl) ⟨Nat.zero_le _, Nat.zero_le _⟩ rfl dX10_sizeAt_5 (fun hr2 => ?_)
  exact V_iret (pc := 8) C hr hlk hr2 h dX10_sizeAt_8
set_option maxRecDepth 100000 in
set_option maxHeartbeats 4000000 in
theorem c_X10_createdForAt (l : Launch) (Γ : GG) (sk : List SD) (hsk : Ext sk) (fu : Nat) {M M' : Mem} {a1 : Int} {r : Int} (ha1 : rng a1) (h : f_X10_createdForAt fu M a1 = some (M', r)) : MetI l yX10_createdForAt cX10_createdForAt 2 .int ({ frames := 1, cells := 0, slots := 0, locals := 21 } : Room) Γ sk [vr Γ 10, vi a1] M M' r := by
  unfold f_X10_createdForAt at h
  refine MetI_of RX10 rfl (by decide) rfl (Nat.le_of_ble_eq_true rfl) rfl ?_
  intro p e s m args below meth c C hr hlk hM
  have e10 := hsk 10 _ (by decide) rfl
  have e14 := hsk 14 _ (by decide) rfl
  refine V_aload_n (pc := 0) C 0 rfl dX10_createdForAt_0 ?_
  refine V_getR (pc := 1) C e10 rfl inX10 4 (by decide) rfl lf_X10_21 rfl dX10_createdForAt_1 ?_
  refine V_iload_n (pc := 4) C 1 rfl dX10_createdForAt_4 ?_
  obtain ⟨M1, r2, hc3, h⟩ := cal_of h
  refine V_callNI (pc := 5) C (c_X11_at l Γ sk hsk fu e14 (by decide) ha1 hc3) cf_X11_at ln_X10_69 ⟨rfl, rfl⟩ ⟨Nat.le_of_ble_eq_true rfl, Nat.le_of_ble_eq_true rfl⟩ rfl (Nat.le_of_ble_eq_true rfl) ⟨Nat.zero_le _, Nat.zero_le _⟩ rfl dX10_createdForAt_5 (fun hr2 => ?_)
  exact V_iret (pc := 8) C hr hlk hr2 h dX10_createdForAt_8
set_option maxRecDepth 100000 in
set_option maxHeartbeats 4000000 in
theorem c_X10_countLive (l : Launch) (Γ : GG) (sk : List SD) (hsk : Ext sk) (fu : Nat) {M M' : Mem}  {r : Int}  (h : f_X10_countLive fu M  = some (M', r)) : MetI l yX10_countLive cX10_countLive 3 .int ({ frames := 2, cells := 0, slots := 0, locals := 42 } : Room) Γ sk [vr Γ 10] M M' r := by
  unfold f_X10_countLive at h
  refine MetI_of RX10 rfl (by decide) rfl (Nat.le_of_ble_eq_true rfl) rfl ?_
  intro p e s m args below meth c C hr hlk hM
  have e10 := hsk 10 _ (by decide) rfl
  have LP4 : ∀ (n : Nat) {x1 : Int} {x2 : Int} {M : Mem}, rng x1 → rng x2 → f_X10_countLive_L4 fu n x1 x2 M = some (M', r) → VV p l e ({ frames := 2, cells := 0, slots := 0, locals := 42 } : Room) s m args below meth c (MQ below (PostI Γ sk M' r s.heap.size) args s 0 0 (Fr Γ sk s.heap.size)) 3 Γ sk M 0 0 4 [(0, vr Γ 10), (1, vi x1), (2, vi x2)] [] := by
    intro n
    induction n with
    | zero =>
      intro x1 x2 M hx1 hx2 h
      cases h
    | succ n ih =>
      intro x1 x2 M hx1 hx2 h
      rw [f_X10_countLive_L4] at h
      refine V_iload_n (pc := 4) C 2 rfl dX10_countLive_4 ?_
      refine V_aload_n (pc := 5) C 0 rfl dX10_countLive_5 ?_
      refine V_rng fun hM1 => ?_
      refine V_getI (pc := 6) C e10 rfl inX10 0 (by decide) rfl lf_X10_37 rfl dX10_countLive_6 ?_
      refine V_icmp_ge (pc := 9) C 29 hx2 (hM1 _ _) dX10_countLive_9 (by decide) (fun c9_2 => ?_) (fun c9_2 => ?_)
      · have h := ite_t h c9_2
        refine V_iload_n (pc := 29) C 1 rfl dX10_countLive_29 ?_
        exact V_iret (pc := 30) C hr hlk hx1 h dX10_countLive_30
      · have h := ite_f h c9_2
        refine V_aload_n (pc := 12) C 0 rfl dX10_countLive_12 ?_
        refine V_iload_n (pc := 13) C 2 rfl dX10_countLive_13 ?_
        obtain ⟨M3, r4, hc5, h⟩ := cal_of h
        refine V_callVI (pc := 14) C (c_X10_isLive l Γ sk hsk fu hx2 hc5) cf_X10_isLive lk_X10_73 ⟨rfl, rfl⟩ ⟨Nat.le_of_ble_eq_true rfl, Nat.le_of_ble_eq_true rfl⟩ e10 rfl rfl rfl (Nat.le_of_ble_eq_true rfl) ⟨Nat.zero_le _, Nat.zero_le _⟩ rfl dX10_countLive_14 (fun hr4 => ?_)
        refine V_if_eq (pc := 17) C 23 hr4 dX10_countLive_17 (by decide) (fun c17_6 => ?_) (fun c17_6 => ?_)
        · have h := ite_t h c17_6
          refine V_iinc (pc := 23) C (L' := [(0, vr Γ 10), (1, vi x1), (2, vi (x2 + (1 : Int)))]) 2 rfl rfl (by decide) dX10_countLive_23 ?_
          refine V_goto (pc := 26) C 4 dX10_countLive_26 (by decide) ?_
          obtain ⟨g7, h⟩ := grd_of h
          refine V_sub (L' := [(0, vr Γ 10), (1, vi x1), (2, vi (x2 + (1 : Int)))]) [0, 1, 2] rfl (by decide) ?_
          exact ih hx1 g7 h
        · have h := ite_f h c17_6
          refine V_iinc (pc := 20) C (L' := [(0, vr Γ 10), (1, vi (x1 + (1 : Int))), (2, vi x2)]) 1 rfl rfl (by decide) dX10_countLive_20 ?_
          refine V_iinc (pc := 23) C (L' := [(0, vr Γ 10), (1, vi (x1 + (1 : Int))), (2, vi (x2 + (1 : Int)))]) 2 rfl rfl (by decide) dX10_countLive_23 ?_
          refine V_goto (pc := 26) C 4 dX10_countLive_26 (by decide) ?_
          obtain ⟨g8, h⟩ := grd_of h
          obtain ⟨g9, h⟩ := grd_of h
          refine V_sub (L' := [(0, vr Γ 10), (1, vi (x1 + (1 : Int))), (2, vi (x2 + (1 : Int)))]) [0, 1, 2] rfl (by decide) ?_
          exact ih g8 g9 h
  skip
  refine V_iconst (pc := 0) C dX10_countLive_0 ?_
  refine V_istore_n (pc := 1) C (L' := [(0, vr Γ 10), (1, vi (0 : Int))]) rfl (by decide) dX10_countLive_1 ?_
  refine V_iconst (pc := 2) C dX10_countLive_2 ?_
  refine V_istore_n (pc := 3) C (L' := [(0, vr Γ 10), (1, vi (0 : Int)), (2, vi (0 : Int))]) rfl (by decide) dX10_countLive_3 ?_
  refine V_sub (L' := [(0, vr Γ 10), (1, vi (0 : Int)), (2, vi (0 : Int))]) [0, 1, 2] rfl (by decide) ?_
  exact LP4 fu  (by decide) (by decide) h
set_option maxRecDepth 100000 in
set_option maxHeartbeats 4000000 in
theorem c_X10_countAncestors (l : Launch) (Γ : GG) (sk : List SD) (hsk : Ext sk) (fu : Nat) {M M' : Mem} {a1 : Int} {r : Int} (ha1 : rng a1) (h : f_X10_countAncestors fu M a1 = some (M', r)) : MetI l yX10_countAncestors cX10_countAncestors 4 .int ({ frames := 2, cells := 0, slots := 0, locals := 42 } : Room) Γ sk [vr Γ 10, vi a1] M M' r := by
  unfold f_X10_countAncestors at h
  refine MetI_of RX10 rfl (by decide) rfl (Nat.le_of_ble_eq_true rfl) rfl ?_
  intro p e s m args below meth c C hr hlk hM
  have e10 := hsk 10 _ (by decide) rfl
  have LP8 : ∀ (n : Nat) {x2 : Int} {x3 : Int} {M : Mem}, rng x2 → rng x3 → f_X10_countAncestors_L8 fu n x2 x3 M = some (M', r) → VV p l e ({ frames := 2, cells := 0, slots := 0, locals := 42 } : Room) s m args below meth c (MQ below (PostI Γ sk M' r s.heap.size) args s 0 0 (Fr Γ sk s.heap.size)) 4 Γ sk M 0 0 8 [(0, vr Γ 10), (2, vi x2), (3, vi x3)] [] := by
    intro n
    induction n with
    | zero =>
      intro x2 x3 M hx2 hx3 h
      cases h
    | succ n ih =>
      intro x2 x3 M hx2 hx3 h
      rw [f_X10_countAncestors_L8] at h
      refine V_iload_n (pc := 8) C 2 rfl dX10_countAncestors_8 ?_
      refine V_iconst (pc := 9) C dX10_countAncestors_9 ?_
      refine V_icmp_eq (pc := 10) C 31 hx3 (by decide) dX10_countAncestors_10 (by decide) (fun c10_4 => ?_) (fun c10_4 => ?_)
      · have h := ite_t h c10_4
        refine V_iload_n (pc := 31) C 1 rfl dX10_countAncestors_31 ?_
        exact V_iret (pc := 32) C hr hlk hx2 h dX10_countAncestors_32
      · have h := ite_f h c10_4
        refine V_iload_n (pc := 13) C 1 rfl dX10_countAncestors_13 ?_
        refine V_bipush (pc := 14) C dX10_countAncestors_14 rfl ?_
        refine V_icmp_ge (pc := 16) C 31 hx2 (by decide) dX10_countAncestors_16 (by decide) (fun c16_5 => ?_) (fun c16_5 => ?_)
        · have h := ite_t h c16_5
          refine V_iload_n (pc := 31) C 1 rfl dX10_countAncestors_31 ?_
          exact V_iret (pc := 32) C hr hlk hx2 h dX10_countAncestors_32
        · have h := ite_f h c16_5
          refine V_iinc (pc := 19) C (L' := [(0, vr Γ 10), (2, vi (x2 + (1 : Int))), (3, vi x3)]) 1 rfl rfl (by decide) dX10_countAncestors_19 ?_
          refine V_aload_n (pc := 22) C 0 rfl dX10_countAncestors_22 ?_
          refine V_iload_n (pc := 23) C 2 rfl dX10_countAncestors_23 ?_
          obtain ⟨M6, r7, hc8, h⟩ := cal_of h
          refine V_callVI (pc := 24) C (c_X10_parentAt l Γ sk hsk fu hx3 hc8) cf_X10_parentAt lk_X10_76 ⟨rfl, rfl⟩ ⟨Nat.le_of_ble_eq_true rfl, Nat.le_of_ble_eq_true rfl⟩ e10 rfl rfl rfl (Nat.le_of_ble_eq_true rfl) ⟨Nat.zero_le _, Nat.zero_le _⟩ rfl dX10_countAncestors_24 (fun hr7 => ?_)
          refine V_istore_n (pc := 27) C (L' := [(0, vr Γ 10), (2, vi (x2 + (1 : Int))), (3, vi r7)]) rfl (by decide) dX10_countAncestors_27 ?_
          refine V_goto (pc := 28) C 8 dX10_countAncestors_28 (by decide) ?_
          obtain ⟨g9, h⟩ := grd_of h
          refine V_sub (L' := [(0, vr Γ 10), (2, vi (x2 + (1 : Int))), (3, vi r7)]) [0, 1, 2] rfl (by decide) ?_
          exact ih g9 hr7 h
  skip
  refine V_iconst (pc := 0) C dX10_countAncestors_0 ?_
  refine V_istore_n (pc := 1) C (L' := [(0, vr Γ 10), (1, vi a1), (2, vi (0 : Int))]) rfl (by decide) dX10_countAncestors_1 ?_
  refine V_aload_n (pc := 2) C 0 rfl dX10_countAncestors_2 ?_
  refine V_iload_n (pc := 3) C 1 rfl dX10_countAncestors_3 ?_
  obtain ⟨M1, r2, hc3, h⟩ := cal_of h
  refine V_callVI (pc := 4) C (c_X10_parentAt l Γ sk hsk fu ha1 hc3) cf_X10_parentAt lk_X10_76 ⟨rfl, rfl⟩ ⟨Nat.le_of_ble_eq_true rfl, Nat.le_of_ble_eq_true rfl⟩ e10 rfl rfl rfl (Nat.le_of_ble_eq_true rfl) ⟨Nat.zero_le _, Nat.zero_le _⟩ rfl dX10_countAncestors_4 (fun hr2 => ?_)
  refine V_istore_n (pc := 7) C (L' := [(0, vr Γ 10), (1, vi a1), (2, vi (0 : Int)), (3, vi r2)]) rfl (by decide) dX10_countAncestors_7 ?_
  refine V_sub (L' := [(0, vr Γ 10), (2, vi (0 : Int)), (3, vi r2)]) [0, 2, 3] rfl (by decide) ?_
  exact LP8 fu  (by decide) hr2 h
set_option maxRecDepth 100000 in
set_option maxHeartbeats 4000000 in
theorem c_X10_countChildren (l : Launch) (Γ : GG) (sk : List SD) (hsk : Ext sk) (fu : Nat) {M M' : Mem} {a1 : Int} {r : Int} (ha1 : rng a1) (h : f_X10_countChildren fu M a1 = some (M', r)) : MetI l yX10_countChildren cX10_countChildren 4 .int ({ frames := 2, cells := 0, slots := 0, locals := 42 } : Room) Γ sk [vr Γ 10, vi a1] M M' r := by
  unfold f_X10_countChildren at h
  refine MetI_of RX10 rfl (by decide) rfl (Nat.le_of_ble_eq_true rfl) rfl ?_
  intro p e s m args below meth c C hr hlk hM
  have e10 := hsk 10 _ (by decide) rfl
  have LP4 : ∀ (n : Nat) {x1 : Int} {x2 : Int} {x3 : Int} {M : Mem}, rng x1 → rng x2 → rng x3 → f_X10_countChildren_L4 fu n x1 x2 x3 M = some (M', r) → VV p l e ({ frames := 2, cells := 0, slots := 0, locals := 42 } : Room) s m args below meth c (MQ below (PostI Γ sk M' r s.heap.size) args s 0 0 (Fr Γ sk s.heap.size)) 4 Γ sk M 0 0 4 [(0, vr Γ 10), (1, vi x1), (2, vi x2), (3, vi x3)] [] := by
    intro n
    induction n with
    | zero =>
      intro x1 x2 x3 M hx1 hx2 hx3 h
      cases h
    | succ n ih =>
      intro x1 x2 x3 M hx1 hx2 hx3 h
      rw [f_X10_countChildren_L4] at h
      refine V_iload_n (pc := 4) C 3 rfl dX10_countChildren_4 ?_
      refine V_aload_n (pc := 5) C 0 rfl dX10_countChildren_5 ?_
      refine V_rng fun hM1 => ?_
      refine V_getI (pc := 6) C e10 rfl inX10 0 (by decide) rfl lf_X10_37 rfl dX10_countChildren_6 ?_
      refine V_icmp_ge (pc := 9) C 30 hx3 (hM1 _ _) dX10_countChildren_9 (by decide) (fun c9_2 => ?_) (fun c9_2 => ?_)
      · have h := ite_t h c9_2
        refine V_iload_n (pc := 30) C 2 rfl dX10_countChildren_30 ?_
        exact V_iret (pc := 31) C hr hlk hx2 h dX10_countChildren_31
      · have h := ite_f h c9_2
        refine V_aload_n (pc := 12) C 0 rfl dX10_countChildren_12 ?_
        refine V_iload_n (pc := 13) C 3 rfl dX10_countChildren_13 ?_
        obtain ⟨M3, r4, hc5, h⟩ := cal_of h
        refine V_callVI (pc := 14) C (c_X10_parentAt l Γ sk hsk fu hx3 hc5) cf_X10_parentAt lk_X10_76 ⟨rfl, rfl⟩ ⟨Nat.le_of_ble_eq_true rfl, Nat.le_of_ble_eq_true rfl⟩ e10 rfl rfl rfl (Nat.le_of_ble_eq_true rfl) ⟨Nat.zero_le _, Nat.zero_le _⟩ rfl dX10_countChildren_14 (fun hr4 => ?_)
        refine V_iload_n (pc := 17) C 1 rfl dX10_countChildren_17 ?_
        refine V_icmp_ne (pc := 18) C 24 hr4 hx1 dX10_countChildren_18 (by decide) (fun c18_6 => ?_) (fun c18_6 => ?_)
        · have h := ite_f h c18_6
          refine V_iinc (pc := 24) C (L' := [(0, vr Γ 10), (1, vi x1), (2, vi x2), (3, vi (x3 + (1 : Int)))]) 3 rfl rfl (by decide) dX10_countChildren_24 ?_
          refine V_goto (pc := 27) C 4 dX10_countChildren_27 (by decide) ?_
          obtain ⟨g7, h⟩ := grd_of h
          refine V_sub (L' := [(0, vr Γ 10), (1, vi x1), (2, vi x2), (3, vi (x3 + (1 : Int)))]) [0, 1, 2, 3] rfl (by decide) ?_
          exact ih hx1 hx2 g7 h
        · have h := ite_t h c18_6
          refine V_iinc (pc := 21) C (L' := [(0, vr Γ 10), (1, vi x1), (2, vi (x2 + (1 : Int))), (3, vi x3)]) 2 rfl rfl (by decide) dX10_countChildren_21 ?_
          refine V_iinc (pc := 24) C (L' := [(0, vr Γ 10), (1, vi x1), (2, vi (x2 + (1 : Int))), (3, vi (x3 + (1 : Int)))]) 3 rfl rfl (by decide) dX10_countChildren_24 ?_
          refine V_goto (pc := 27) C 4 dX10_countChildren_27 (by decide) ?_
          obtain ⟨g8, h⟩ := grd_of h
          obtain ⟨g9, h⟩ := grd_of h
          refine V_sub (L' := [(0, vr Γ 10), (1, vi x1), (2, vi (x2 + (1 : Int))), (3, vi (x3 + (1 : Int)))]) [0, 1, 2, 3] rfl (by decide) ?_
          exact ih hx1 g8 g9 h
  skip
  refine V_iconst (pc := 0) C dX10_countChildren_0 ?_
  refine V_istore_n (pc := 1) C (L' := [(0, vr Γ 10), (1, vi a1), (2, vi (0 : Int))]) rfl (by decide) dX10_countChildren_1 ?_
  refine V_iconst (pc := 2) C dX10_countChildren_2 ?_
  refine V_istore_n (pc := 3) C (L' := [(0, vr Γ 10), (1, vi a1), (2, vi (0 : Int)), (3, vi (0 : Int))]) rfl (by decide) dX10_countChildren_3 ?_
  refine V_sub (L' := [(0, vr Γ 10), (1, vi a1), (2, vi (0 : Int)), (3, vi (0 : Int))]) [0, 1, 2, 3] rfl (by decide) ?_
  exact LP4 fu  ha1 (by decide) (by decide) h
set_option maxRecDepth 100000 in
set_option maxHeartbeats 4000000 in
theorem c_X10_meetingPoint (l : Launch) (Γ : GG) (sk : List SD) (hsk : Ext sk) (fu : Nat) {M M' : Mem} {a1 : Int} {a2 : Int} {r : Int} (ha1 : rng a1) (ha2 : rng a2) (h : f_X10_meetingPoint fu M a1 a2 = some (M', r)) : MetI l yX10_meetingPoint cX10_meetingPoint 6 .int ({ frames := 2, cells := 0, slots := 0, locals := 42 } : Room) Γ sk [vr Γ 10, vi a1, vi a2] M M' r := by
  unfold f_X10_meetingPoint at h
  refine MetI_of RX10 rfl (by decide) rfl (Nat.le_of_ble_eq_true rfl) rfl ?_
  intro p e s m args below meth c C hr hlk hM
  have e10 := hsk 10 _ (by decide) rfl
  have LP8 : ∀ (n : Nat) {x3 : Int} {x4 : Int} {x5 : Int} {M : Mem}, rng x3 → rng x4 → rng x5 → f_X10_meetingPoint_L8 fu n x3 x4 x5 M = some (M', r) → VV p l e ({ frames := 2, cells := 0, slots := 0, locals := 42 } : Room) s m args below meth c (MQ below (PostI Γ sk M' r s.heap.size) args s 0 0 (Fr Γ sk s.heap.size)) 6 Γ sk M 0 0 8 [(0, vr Γ 10), (3, vi x3), (4, vi x4), (5, vi x5)] [] := by
    intro n
    induction n with
    | zero =>
      intro x3 x4 x5 M hx3 hx4 hx5 h
      cases h
    | succ n ih =>
      intro x3 x4 x5 M hx3 hx4 hx5 h
      rw [f_X10_meetingPoint_L8] at h
      refine V_iload_n (pc := 8) C 1 rfl dX10_meetingPoint_8 ?_
      refine V_iload (pc := 9) C 2 rfl dX10_meetingPoint_9 ?_
      refine V_icmp_eq (pc := 11) C 50 hx3 hx4 dX10_meetingPoint_11 (by decide) (fun c11_1 => ?_) (fun c11_1 => ?_)
      · have h := ite_t h c11_1
        refine V_iload_n (pc := 50) C 1 rfl dX10_meetingPoint_50 ?_
        exact V_iret (pc := 51) C hr hlk hx3 h dX10_meetingPoint_51
      · have h := ite_f h c11_1
        refine V_iload (pc := 14) C 3 rfl dX10_meetingPoint_14 ?_
        refine V_bipush (pc := 16) C dX10_meetingPoint_16 rfl ?_
        refine V_icmp_ge (pc := 18) C 50 hx5 (by decide) dX10_meetingPoint_18 (by decide) (fun c18_2 => ?_) (fun c18_2 => ?_)
        · have h := ite_t h c18_2
          refine V_iload_n (pc := 50) C 1 rfl dX10_meetingPoint_50 ?_
          exact V_iret (pc := 51) C hr hlk hx3 h dX10_meetingPoint_51
        · have h := ite_f h c18_2
          refine V_iload_n (pc := 21) C 1 rfl dX10_meetingPoint_21 ?_
          refine V_iload (pc := 22) C 2 rfl dX10_meetingPoint_22 ?_
          refine V_icmp_le (pc := 24) C 36 hx3 hx4 dX10_meetingPoint_24 (by decide) (fun c24_3 => ?_) (fun c24_3 => ?_)
          · have h := ite_t h c24_3
            refine V_aload_n (pc := 36) C 0 rfl dX10_meetingPoint_36 ?_
            refine V_iload (pc := 37) C 2 rfl dX10_meetingPoint_37 ?_
            obtain ⟨M4, r5, hc6, h⟩ := cal_of h
            refine V_callVI (pc := 39) C (c_X10_parentAt l Γ sk hsk fu hx4 hc6) cf_X10_parentAt lk_X10_76 ⟨rfl, rfl⟩ ⟨Nat.le_of_ble_eq_true rfl, Nat.le_of_ble_eq_true rfl⟩ e10 rfl rfl rfl (Nat.le_of_ble_eq_true rfl) ⟨Nat.zero_le _, Nat.zero_le _⟩ rfl dX10_meetingPoint_39 (fun hr5 => ?_)
            refine V_istore (pc := 42) C (L' := [(0, vr Γ 10), (3, vi x3), (4, vi r5), (5, vi x5)]) rfl (by decide) dX10_meetingPoint_42 ?_
            refine V_iinc (pc := 44) C (L' := [(0, vr Γ 10), (3, vi x3), (4, vi r5), (5, vi (x5 + (1 : Int)))]) 3 rfl rfl (by decide) dX10_meetingPoint_44 ?_
            refine V_goto (pc := 47) C 8 dX10_meetingPoint_47 (by decide) ?_
            obtain ⟨g7, h⟩ := grd_of h
            refine V_sub (L' := [(0, vr Γ 10), (3, vi x3), (4, vi r5), (5, vi (x5 + (1 : Int)))]) [0, 1, 2, 3] rfl (by decide) ?_
            exact ih hx3 hr5 g7 h
          · have h := ite_f h c24_3
            refine V_aload_n (pc := 27) C 0 rfl dX10_meetingPoint_27 ?_
            refine V_iload_n (pc := 28) C 1 rfl dX10_meetingPoint_28 ?_
            obtain ⟨M8, r9, hc10, h⟩ := cal_of h
            refine V_callVI (pc := 29) C (c_X10_parentAt l Γ sk hsk fu hx3 hc10) cf_X10_parentAt lk_X10_76 ⟨rfl, rfl⟩ ⟨Nat.le_of_ble_eq_true rfl, Nat.le_of_ble_eq_true rfl⟩ e10 rfl rfl rfl (Nat.le_of_ble_eq_true rfl) ⟨Nat.zero_le _, Nat.zero_le _⟩ rfl dX10_meetingPoint_29 (fun hr9 => ?_)
            refine V_istore_n (pc := 32) C (L' := [(0, vr Γ 10), (3, vi r9), (4, vi x4), (5, vi x5)]) rfl (by decide) dX10_meetingPoint_32 ?_
            refine V_goto (pc := 33) C 44 dX10_meetingPoint_33 (by decide) ?_
            refine V_iinc (pc := 44) C (L' := [(0, vr Γ 10), (3, vi r9), (4, vi x4), (5, vi (x5 + (1 : Int)))]) 3 rfl rfl (by decide) dX10_meetingPoint_44 ?_
            refine V_goto (pc := 47) C 8 dX10_meetingPoint_47 (by decide) ?_
            obtain ⟨g11, h⟩ := grd_of h
            refine V_sub (L' := [(0, vr Γ 10), (3, vi r9), (4, vi x4), (5, vi (x5 + (1 : Int)))]) [0, 1, 2, 3] rfl (by decide) ?_
            exact ih hr9 hx4 g11 h
  skip
  refine V_iload_n (pc := 0) C 1 rfl dX10_meetingPoint_0 ?_
  refine V_istore_n (pc := 1) C (L' := [(0, vr Γ 10), (1, vi a1), (2, vi a2), (3, vi a1)]) rfl (by decide) dX10_meetingPoint_1 ?_
  refine V_iload_n (pc := 2) C 2 rfl dX10_meetingPoint_2 ?_
  refine V_istore (pc := 3) C (L' := [(0, vr Γ 10), (1, vi a1), (2, vi a2), (3, vi a1), (4, vi a2)]) rfl (by decide) dX10_meetingPoint_3 ?_
  refine V_iconst (pc := 5) C dX10_meetingPoint_5 ?_
  refine V_istore (pc := 6) C (L' := [(0, vr Γ 10), (1, vi a1), (2, vi a2), (3, vi a1), (4, vi a2), (5, vi (0 : Int))]) rfl (by decide) dX10_meetingPoint_6 ?_
  refine V_sub (L' := [(0, vr Γ 10), (3, vi a1), (4, vi a2), (5, vi (0 : Int))]) [0, 3, 4, 5] rfl (by decide) ?_
  exact LP8 fu  ha1 ha2 (by decide) h
set_option maxRecDepth 100000 in
set_option maxHeartbeats 4000000 in
theorem c_X10_countLiveRoots (l : Launch) (Γ : GG) (sk : List SD) (hsk : Ext sk) (fu : Nat) {M M' : Mem} {a1 : Int} {r : Int} (ha1 : rng a1) (h : f_X10_countLiveRoots fu M a1 = some (M', r)) : MetI l yX10_countLiveRoots cX10_countLiveRoots 4 .int ({ frames := 2, cells := 0, slots := 0, locals := 42 } : Room) Γ sk [vr Γ 10, vi a1] M M' r := by
  unfold f_X10_countLiveRoots at h
  refine MetI_of RX10 rfl (by decide) rfl (Nat.le_of_ble_eq_true rfl) rfl ?_
  intro p e s m args below meth c C hr hlk hM
  have e10 := hsk 10 _ (by decide) rfl
  have LP4 : ∀ (n : Nat) {x1 : Int} {x2 : Int} {x3 : Int} {M : Mem}, rng x1 → rng x2 → rng x3 → f_X10_countLiveRoots_L4 fu n x1 x2 x3 M = some (M', r) → VV p l e ({ frames := 2, cells := 0, slots := 0, locals := 42 } : Room) s m args below meth c (MQ below (PostI Γ sk M' r s.heap.size) args s 0 0 (Fr Γ sk s.heap.size)) 4 Γ sk M 0 0 4 [(0, vr Γ 10), (1, vi x1), (2, vi x2), (3, vi x3)] [] := by
    intro n
    induction n with
    | zero =>
      intro x1 x2 x3 M hx1 hx2 hx3 h
      cases h
    | succ n ih =>
      intro x1 x2 x3 M hx1 hx2 hx3 h
      rw [f_X10_countLiveRoots_L4] at h
      refine V_iload_n (pc := 4) C 3 rfl dX10_countLiveRoots_4 ?_
      refine V_aload_n (pc := 5) C 0 rfl dX10_countLiveRoots_5 ?_
      refine V_rng fun hM1 => ?_
      refine V_getI (pc := 6) C e10 rfl inX10 0 (by decide) rfl lf_X10_37 rfl dX10_countLiveRoots_6 ?_
      refine V_icmp_ge (pc := 9) C 38 hx3 (hM1 _ _) dX10_countLiveRoots_9 (by decide) (fun c9_2 => ?_) (fun c9_2 => ?_)
      · have h := ite_t h c9_2
        refine V_iload_n (pc := 38) C 2 rfl dX10_countLiveRoots_38 ?_
        exact V_iret (pc := 39) C hr hlk hx2 h dX10_countLiveRoots_39
      · have h := ite_f h c9_2
        refine V_aload_n (pc := 12) C 0 rfl dX10_countLiveRoots_12 ?_
        refine V_iload_n (pc := 13) C 3 rfl dX10_countLiveRoots_13 ?_
        obtain ⟨M3, r4, hc5, h⟩ := cal_of h
        refine V_callVI (pc := 14) C (c_X10_isLive l Γ sk hsk fu hx3 hc5) cf_X10_isLive lk_X10_73 ⟨rfl, rfl⟩ ⟨Nat.le_of_ble_eq_true rfl, Nat.le_of_ble_eq_true rfl⟩ e10 rfl rfl rfl (Nat.le_of_ble_eq_true rfl) ⟨Nat.zero_le _, Nat.zero_le _⟩ rfl dX10_countLiveRoots_14 (fun hr4 => ?_)
        refine V_if_eq (pc := 17) C 32 hr4 dX10_countLiveRoots_17 (by decide) (fun c17_6 => ?_) (fun c17_6 => ?_)
        · have h := ite_t h c17_6
          refine V_iinc (pc := 32) C (L' := [(0, vr Γ 10), (1, vi x1), (2, vi x2), (3, vi (x3 + (1 : Int)))]) 3 rfl rfl (by decide) dX10_countLiveRoots_32 ?_
          refine V_goto (pc := 35) C 4 dX10_countLiveRoots_35 (by decide) ?_
          obtain ⟨g7, h⟩ := grd_of h
          refine V_sub (L' := [(0, vr Γ 10), (1, vi x1), (2, vi x2), (3, vi (x3 + (1 : Int)))]) [0, 1, 2, 3] rfl (by decide) ?_
          exact ih hx1 hx2 g7 h
        · have h := ite_f h c17_6
          refine V_aload_n (pc := 20) C 0 rfl dX10_countLiveRoots_20 ?_
          refine V_iload_n (pc := 21) C 3 rfl dX10_countLiveRoots_21 ?_
          obtain ⟨M8, r9, hc10, h⟩ := cal_of h
          refine V_callVI (pc := 22) C (c_X10_rootAt l Γ sk hsk fu hx3 hc10) cf_X10_rootAt lk_X10_80 ⟨rfl, rfl⟩ ⟨Nat.le_of_ble_eq_true rfl, Nat.le_of_ble_eq_true rfl⟩ e10 rfl rfl rfl (Nat.le_of_ble_eq_true rfl) ⟨Nat.zero_le _, Nat.zero_le _⟩ rfl dX10_countLiveRoots_22 (fun hr9 => ?_)
          refine V_iload_n (pc := 25) C 1 rfl dX10_countLiveRoots_25 ?_
          refine V_icmp_ne (pc := 26) C 32 hr9 hx1 dX10_countLiveRoots_26 (by decide) (fun c26_11 => ?_) (fun c26_11 => ?_)
          · have h := ite_f h c26_11
            refine V_iinc (pc := 32) C (L' := [(0, vr Γ 10), (1, vi x1), (2, vi x2), (3, vi (x3 + (1 : Int)))]) 3 rfl rfl (by decide) dX10_countLiveRoots_32 ?_
            refine V_goto (pc := 35) C 4 dX10_countLiveRoots_35 (by decide) ?_
            obtain ⟨g12, h⟩ := grd_of h
            refine V_sub (L' := [(0, vr Γ 10), (1, vi x1), (2, vi x2), (3, vi (x3 + (1 : Int)))]) [0, 1, 2, 3] rfl (by decide) ?_
            exact ih hx1 hx2 g12 h
          · have h := ite_t h c26_11
            refine V_iinc (pc := 29) C (L' := [(0, vr Γ 10), (1, vi x1), (2, vi (x2 + (1 : Int))), (3, vi x3)]) 2 rfl rfl (by decide) dX10_countLiveRoots_29 ?_
            refine V_iinc (pc := 32) C (L' := [(0, vr Γ 10), (1, vi x1), (2, vi (x2 + (1 : Int))), (3, vi (x3 + (1 : Int)))]) 3 rfl rfl (by decide) dX10_countLiveRoots_32 ?_
            refine V_goto (pc := 35) C 4 dX10_countLiveRoots_35 (by decide) ?_
            obtain ⟨g13, h⟩ := grd_of h
            obtain ⟨g14, h⟩ := grd_of h
            refine V_sub (L' := [(0, vr Γ 10), (1, vi x1), (2, vi (x2 + (1 : Int))), (3, vi (x3 + (1 : Int)))]) [0, 1, 2, 3] rfl (by decide) ?_
            exact ih hx1 g13 g14 h
  skip
  refine V_iconst (pc := 0) C dX10_countLiveRoots_0 ?_
  refine V_istore_n (pc := 1) C (L' := [(0, vr Γ 10), (1, vi a1), (2, vi (0 : Int))]) rfl (by decide) dX10_countLiveRoots_1 ?_
  refine V_iconst (pc := 2) C dX10_countLiveRoots_2 ?_
  refine V_istore_n (pc := 3) C (L' := [(0, vr Γ 10), (1, vi a1), (2, vi (0 : Int)), (3, vi (0 : Int))]) rfl (by decide) dX10_countLiveRoots_3 ?_
  refine V_sub (L' := [(0, vr Γ 10), (1, vi a1), (2, vi (0 : Int)), (3, vi (0 : Int))]) [0, 1, 2, 3] rfl (by decide) ?_
  exact LP4 fu  ha1 (by decide) (by decide) h
set_option maxRecDepth 100000 in
set_option maxHeartbeats 4000000 in
theorem c_X10_findLargest (l : Launch) (Γ : GG) (sk : List SD) (hsk : Ext sk) (fu : Nat) {M M' : Mem}  {r : Int}  (h : f_X10_findLargest fu M  = some (M', r)) : MetI l yX10_findLargest cX10_findLargest 3 .int ({ frames := 2, cells := 0, slots := 0, locals := 42 } : Room) Γ sk [vr Γ 10] M M' r := by
  unfold f_X10_findLargest at h
  refine MetI_of RX10 rfl (by decide) rfl (Nat.le_of_ble_eq_true rfl) rfl ?_
  intro p e s m args below meth c C hr hlk hM
  have e10 := hsk 10 _ (by decide) rfl
  have LP4 : ∀ (n : Nat) {x1 : Int} {x2 : Int} {M : Mem}, rng x1 → rng x2 → f_X10_findLargest_L4 fu n x1 x2 M = some (M', r) → VV p l e ({ frames := 2, cells := 0, slots := 0, locals := 42 } : Room) s m args below meth c (MQ below (PostI Γ sk M' r s.heap.size) args s 0 0 (Fr Γ sk s.heap.size)) 3 Γ sk M 0 0 4 [(0, vr Γ 10), (1, vi x1), (2, vi x2)] [] := by
    intro n
    induction n with
    | zero =>
      intro x1 x2 M hx1 hx2 h
      cases h
    | succ n ih =>
      intro x1 x2 M hx1 hx2 h
      rw [f_X10_findLargest_L4] at h
      refine V_iload_n (pc := 4) C 2 rfl dX10_findLargest_4 ?_
      refine V_aload_n (pc := 5) C 0 rfl dX10_findLargest_5 ?_
      refine V_rng fun hM1 => ?_
      refine V_getI (pc := 6) C e10 rfl inX10 0 (by decide) rfl lf_X10_37 rfl dX10_findLargest_6 ?_
      refine V_icmp_ge (pc := 9) C 46 hx2 (hM1 _ _) dX10_findLargest_9 (by decide) (fun c9_2 => ?_) (fun c9_2 => ?_)
      · have h := ite_t h c9_2
        refine V_iload_n (pc := 46) C 1 rfl dX10_findLargest_46 ?_
        exact V_iret (pc := 47) C hr hlk hx1 h dX10_findLargest_47
      · have h := ite_f h c9_2
        refine V_aload_n (pc := 12) C 0 rfl dX10_findLargest_12 ?_
        refine V_iload_n (pc := 13) C 2 rfl dX10_findLargest_13 ?_
        obtain ⟨M3, r4, hc5, h⟩ := cal_of h
        refine V_callVI (pc := 14) C (c_X10_isLive l Γ sk hsk fu hx2 hc5) cf_X10_isLive lk_X10_73 ⟨rfl, rfl⟩ ⟨Nat.le_of_ble_eq_true rfl, Nat.le_of_ble_eq_true rfl⟩ e10 rfl rfl rfl (Nat.le_of_ble_eq_true rfl) ⟨Nat.zero_le _, Nat.zero_le _⟩ rfl dX10_findLargest_14 (fun hr4 => ?_)
        refine V_if_eq (pc := 17) C 40 hr4 dX10_findLargest_17 (by decide) (fun c17_6 => ?_) (fun c17_6 => ?_)
        · have h := ite_t h c17_6
          refine V_iinc (pc := 40) C (L' := [(0, vr Γ 10), (1, vi x1), (2, vi (x2 + (1 : Int)))]) 2 rfl rfl (by decide) dX10_findLargest_40 ?_
          refine V_goto (pc := 43) C 4 dX10_findLargest_43 (by decide) ?_
          obtain ⟨g7, h⟩ := grd_of h
          refine V_sub (L' := [(0, vr Γ 10), (1, vi x1), (2, vi (x2 + (1 : Int)))]) [0, 1, 2] rfl (by decide) ?_
          exact ih hx1 g7 h
        · have h := ite_f h c17_6
          refine V_iload_n (pc := 20) C 1 rfl dX10_findLargest_20 ?_
          refine V_iconst (pc := 21) C dX10_findLargest_21 ?_
          refine V_icmp_eq (pc := 22) C 38 hx1 (by decide) dX10_findLargest_22 (by decide) (fun c22_8 => ?_) (fun c22_8 => ?_)
          · have h := ite_t h c22_8
            refine V_iload_n (pc := 38) C 2 rfl dX10_findLargest_38 ?_
            refine V_istore_n (pc := 39) C (L' := [(0, vr Γ 10), (1, vi x2), (2, vi x2)]) rfl (by decide) dX10_findLargest_39 ?_
            refine V_iinc (pc := 40) C (L' := [(0, vr Γ 10), (1, vi x2), (2, vi (x2 + (1 : Int)))]) 2 rfl rfl (by decide) dX10_findLargest_40 ?_
            refine V_goto (pc := 43) C 4 dX10_findLargest_43 (by decide) ?_
            obtain ⟨g9, h⟩ := grd_of h
            refine V_sub (L' := [(0, vr Γ 10), (1, vi x2), (2, vi (x2 + (1 : Int)))]) [0, 1, 2] rfl (by decide) ?_
            exact ih hx2 g9 h
          · have h := ite_f h c22_8
            refine V_aload_n (pc := 25) C 0 rfl dX10_findLargest_25 ?_
            refine V_iload_n (pc := 26) C 2 rfl dX10_findLargest_26 ?_
            obtain ⟨M10, r11, hc12, h⟩ := cal_of h
            refine V_callVI (pc := 27) C (c_X10_sizeAt l Γ sk hsk fu hx2 hc12) cf_X10_sizeAt lk_X10_83 ⟨rfl, rfl⟩ ⟨Nat.le_of_ble_eq_true rfl, Nat.le_of_ble_eq_true rfl⟩ e10 rfl rfl rfl (Nat.le_of_ble_eq_true rfl) ⟨Nat.zero_le _, Nat.zero_le _⟩ rfl dX10_findLargest_27 (fun hr11 => ?_)
            refine V_aload_n (pc := 30) C 0 rfl dX10_findLargest_30 ?_
            refine V_iload_n (pc := 31) C 1 rfl dX10_findLargest_31 ?_
            obtain ⟨M13, r14, hc15, h⟩ := cal_of h
            refine V_callVI (pc := 32) C (c_X10_sizeAt l Γ sk hsk fu hx1 hc15) cf_X10_sizeAt lk_X10_83 ⟨rfl, rfl⟩ ⟨Nat.le_of_ble_eq_true rfl, Nat.le_of_ble_eq_true rfl⟩ e10 rfl rfl rfl (Nat.le_of_ble_eq_true rfl) ⟨Nat.zero_le _, Nat.zero_le _⟩ rfl dX10_findLargest_32 (fun hr14 => ?_)
            refine V_icmp_le (pc := 35) C 40 hr11 hr14 dX10_findLargest_35 (by decide) (fun c35_16 => ?_) (fun c35_16 => ?_)
            · have h := ite_t h c35_16
              refine V_iinc (pc := 40) C (L' := [(0, vr Γ 10), (1, vi x1), (2, vi (x2 + (1 : Int)))]) 2 rfl rfl (by decide) dX10_findLargest_40 ?_
              refine V_goto (pc := 43) C 4 dX10_findLargest_43 (by decide) ?_
              obtain ⟨g17, h⟩ := grd_of h
              refine V_sub (L' := [(0, vr Γ 10), (1, vi x1), (2, vi (x2 + (1 : Int)))]) [0, 1, 2] rfl (by decide) ?_
              exact ih hx1 g17 h
            · have h := ite_f h c35_16
              refine V_iload_n (pc := 38) C 2 rfl dX10_findLargest_38 ?_
              refine V_istore_n (pc := 39) C (L' := [(0, vr Γ 10), (1, vi x2), (2, vi x2)]) rfl (by decide) dX10_findLargest_39 ?_
              refine V_iinc (pc := 40) C (L' := [(0, vr Γ 10), (1, vi x2), (2, vi (x2 + (1 : Int)))]) 2 rfl rfl (by decide) dX10_findLargest_40 ?_
              refine V_goto (pc := 43) C 4 dX10_findLargest_43 (by decide) ?_
              obtain ⟨g18, h⟩ := grd_of h
              refine V_sub (L' := [(0, vr Γ 10), (1, vi x2), (2, vi (x2 + (1 : Int)))]) [0, 1, 2] rfl (by decide) ?_
              exact ih hx2 g18 h
  skip
  refine V_iconst (pc := 0) C dX10_findLargest_0 ?_
  refine V_istore_n (pc := 1) C (L' := [(0, vr Γ 10), (1, vi (-1 : Int))]) rfl (by decide) dX10_findLargest_1 ?_
  refine V_iconst (pc := 2) C dX10_findLargest_2 ?_
  refine V_istore_n (pc := 3) C (L' := [(0, vr Γ 10), (1, vi (-1 : Int)), (2, vi (0 : Int))]) rfl (by decide) dX10_findLargest_3 ?_
  refine V_sub (L' := [(0, vr Γ 10), (1, vi (-1 : Int)), (2, vi (0 : Int))]) [0, 1, 2] rfl (by decide) ?_
  exact LP4 fu  (by decide) (by decide) h
set_option maxRecDepth 100000 in
set_option maxHeartbeats 4000000 in
theorem c_X10_recordedElement (l : Launch) (Γ : GG) (sk : List SD) (hsk : Ext sk) (fu : Nat) {M M' : Mem} {a1 : Int} {a2 : Int} {r : Int} (ha1 : rng a1) (ha2 : rng a2) (h : f_X10_recordedElement fu M a1 a2 = some (M', r)) : MetI l yX10_recordedElement cX10_recordedElement 5 .int ({ frames := 2, cells := 0, slots := 0, locals := 42 } : Room) Γ sk [vr Γ 10, vi a1, vi a2] M M' r := by
  unfold f_X10_recordedElement at h
  refine MetI_of RX10 rfl (by decide) rfl (Nat.le_of_ble_eq_true rfl) rfl ?_
  intro p e s m args below meth c C hr hlk hM
  have e10 := hsk 10 _ (by decide) rfl
  have e15 := hsk 15 _ (by decide) rfl
  have e16 := hsk 16 _ (by decide) rfl
  have e17 := hsk 17 _ (by decide) rfl
  have LP5 : ∀ (n : Nat) {x2 : Int} {x3 : Int} {x4 : Int} {M : Mem}, rng x2 → rng x3 → rng x4 → f_X10_recordedElement_L5 fu n x2 x3 x4 M = some (M', r) → VV p l e ({ frames := 2, cells := 0, slots := 0, locals := 42 } : Room) s m args below meth c (MQ below (PostI Γ sk M' r s.heap.size) args s 0 0 (Fr Γ sk s.heap.size)) 5 Γ sk M 0 0 5 [(0, vr Γ 10), (2, vi x2), (3, vi x3), (4, vi x4)] [] := by
    intro n
    induction n with
    | zero =>
      intro x2 x3 x4 M hx2 hx3 hx4 h
      cases h
    | succ n ih =>
      intro x2 x3 x4 M hx2 hx3 hx4 h
      rw [f_X10_recordedElement_L5] at h
      refine V_iload_n (pc := 5) C 2 rfl dX10_recordedElement_5 ?_
      refine V_iconst (pc := 6) C dX10_recordedElement_6 ?_
      refine V_icmp_eq (pc := 7) C 50 hx3 (by decide) dX10_recordedElement_7 (by decide) (fun c7_1 => ?_) (fun c7_1 => ?_)
      · have h := ite_t h c7_1
        refine V_aload_n (pc := 50) C 0 rfl dX10_recordedElement_50 ?_
        refine V_getR (pc := 51) C e10 rfl inX10 7 (by decide) rfl lf_X10_30 rfl dX10_recordedElement_51 ?_
        refine V_iload_n (pc := 54) C 1 rfl dX10_recordedElement_54 ?_
        obtain ⟨M2, r3, hc4, h⟩ := cal_of h
        refine V_callNI (pc := 55) C (c_X11_at l Γ sk hsk fu e17 (by decide) hx2 hc4) cf_X11_at ln_X10_69 ⟨rfl, rfl⟩ ⟨Nat.le_of_ble_eq_true rfl, Nat.le_of_ble_eq_true rfl⟩ rfl (Nat.le_of_ble_eq_true rfl) ⟨Nat.zero_le _, Nat.zero_le _⟩ rfl dX10_recordedElement_55 (fun hr3 => ?_)
        exact V_iret (pc := 58) C hr hlk hr3 h dX10_recordedElement_58
      · have h := ite_f h c7_1
        refine V_iload (pc := 10) C 3 rfl dX10_recordedElement_10 ?_
        refine V_bipush (pc := 12) C dX10_recordedElement_12 rfl ?_
        refine V_icmp_ge (pc := 14) C 50 hx4 (by decide) dX10_recordedElement_14 (by decide) (fun c14_5 => ?_) (fun c14_5 => ?_)
        · have h := ite_t h c14_5
          refine V_aload_n (pc := 50) C 0 rfl dX10_recordedElement_50 ?_
          refine V_getR (pc := 51) C e10 rfl inX10 7 (by decide) rfl lf_X10_30 rfl dX10_recordedElement_51 ?_
          refine V_iload_n (pc := 54) C 1 rfl dX10_recordedElement_54 ?_
          obtain ⟨M6, r7, hc8, h⟩ := cal_of h
          refine V_callNI (pc := 55) C (c_X11_at l Γ sk hsk fu e17 (by decide) hx2 hc8) cf_X11_at ln_X10_69 ⟨rfl, rfl⟩ ⟨Nat.le_of_ble_eq_true rfl, Nat.le_of_ble_eq_true rfl⟩ rfl (Nat.le_of_ble_eq_true rfl) ⟨Nat.zero_le _, Nat.zero_le _⟩ rfl dX10_recordedElement_55 (fun hr7 => ?_)
          exact V_iret (pc := 58) C hr hlk hr7 h dX10_recordedElement_58
        · have h := ite_f h c14_5
          refine V_aload_n (pc := 17) C 0 rfl dX10_recordedElement_17 ?_
          refine V_getR (pc := 18) C e10 rfl inX10 5 (by decide) rfl lf_X10_24 rfl dX10_recordedElement_18 ?_
          refine V_iload_n (pc := 21) C 2 rfl dX10_recordedElement_21 ?_
          obtain ⟨M9, r10, hc11, h⟩ := cal_of h
          refine V_callNI (pc := 22) C (c_X11_at l Γ sk hsk fu e15 (by decide) hx3 hc11) cf_X11_at ln_X10_69 ⟨rfl, rfl⟩ ⟨Nat.le_of_ble_eq_true rfl, Nat.le_of_ble_eq_true rfl⟩ rfl (Nat.le_of_ble_eq_true rfl) ⟨Nat.zero_le _, Nat.zero_le _⟩ rfl dX10_recordedElement_22 (fun hr10 => ?_)
          refine V_iload_n (pc := 25) C 1 rfl dX10_recordedElement_25 ?_
          refine V_icmp_ne (pc := 26) C 38 hr10 hx2 dX10_recordedElement_26 (by decide) (fun c26_12 => ?_) (fun c26_12 => ?_)
          · have h := ite_f h c26_12
            refine V_aload_n (pc := 38) C 0 rfl dX10_recordedElement_38 ?_
            refine V_iload_n (pc := 39) C 2 rfl dX10_recordedElement_39 ?_
            obtain ⟨M13, r14, hc15, h⟩ := cal_of h
            refine V_callVI (pc := 40) C (c_X10_parentAt l Γ sk hsk fu hx3 hc15) cf_X10_parentAt lk_X10_76 ⟨rfl, rfl⟩ ⟨Nat.le_of_ble_eq_true rfl, Nat.le_of_ble_eq_true rfl⟩ e10 rfl rfl rfl (Nat.le_of_ble_eq_true rfl) ⟨Nat.zero_le _, Nat.zero_le _⟩ rfl dX10_recordedElement_40 (fun hr14 => ?_)
            refine V_istore_n (pc := 43) C (L' := [(0, vr Γ 10), (2, vi x2), (3, vi r14), (4, vi x4)]) rfl (by decide) dX10_recordedElement_43 ?_
            refine V_iinc (pc := 44) C (L' := [(0, vr Γ 10), (2, vi x2), (3, vi r14), (4, vi (x4 + (1 : Int)))]) 3 rfl rfl (by decide) dX10_recordedElement_44 ?_
            refine V_goto (pc := 47) C 5 dX10_recordedElement_47 (by decide) ?_
            obtain ⟨g16, h⟩ := grd_of h
            refine V_sub (L' := [(0, vr Γ 10), (2, vi x2), (3, vi r14), (4, vi (x4 + (1 : Int)))]) [0, 1, 2, 3] rfl (by decide) ?_
            exact ih hx2 hr14 g16 h
          · have h := ite_t h c26_12
            refine V_aload_n (pc := 29) C 0 rfl dX10_recordedElement_29 ?_
            refine V_getR (pc := 30) C e10 rfl inX10 6 (by decide) rfl lf_X10_27 rfl dX10_recordedElement_30 ?_
            refine V_iload_n (pc := 33) C 2 rfl dX10_recordedElement_33 ?_
            obtain ⟨M17, r18, hc19, h⟩ := cal_of h
            refine V_callNI (pc := 34) C (c_X11_at l Γ sk hsk fu e16 (by decide) hx3 hc19) cf_X11_at ln_X10_69 ⟨rfl, rfl⟩ ⟨Nat.le_of_ble_eq_true rfl, Nat.le_of_ble_eq_true rfl⟩ rfl (Nat.le_of_ble_eq_true rfl) ⟨Nat.zero_le _, Nat.zero_le _⟩ rfl dX10_recordedElement_34 (fun hr18 => ?_)
            exact V_iret (pc := 37) C hr hlk hr18 h dX10_recordedElement_37
  skip
  refine V_iload_n (pc := 0) C 1 rfl dX10_recordedElement_0 ?_
  refine V_istore_n (pc := 1) C (L' := [(0, vr Γ 10), (1, vi a1), (2, vi a2), (3, vi a1)]) rfl (by decide) dX10_recordedElement_1 ?_
  refine V_iconst (pc := 2) C dX10_recordedElement_2 ?_
  refine V_istore (pc := 3) C (L' := [(0, vr Γ 10), (1, vi a1), (2, vi a2), (3, vi a1), (4, vi (0 : Int))]) rfl (by decide) dX10_recordedElement_3 ?_
  refine V_sub (L' := [(0, vr Γ 10), (2, vi a2), (3, vi a1), (4, vi (0 : Int))]) [0, 2, 3, 4] rfl (by decide) ?_
  exact LP5 fu  ha2 ha1 (by decide) h
set_option maxRecDepth 100000 in
set_option maxHeartbeats 4000000 in
theorem c_X10_sumOfCreated (l : Launch) (Γ : GG) (sk : List SD) (hsk : Ext sk) (fu : Nat) {M M' : Mem}  {r : Int}  (h : f_X10_sumOfCreated fu M  = some (M', r)) : MetI l yX10_sumOfCreated cX10_sumOfCreated 3 .int ({ frames := 2, cells := 0, slots := 0, locals := 42 } : Room) Γ sk [vr Γ 10] M M' r := by
  unfold f_X10_sumOfCreated at h
  refine MetI_of RX10 rfl (by decide) rfl (Nat.le_of_ble_eq_true rfl) rfl ?_
  intro p e s m args below meth c C hr hlk hM
  have e10 := hsk 10 _ (by decide) rfl
  have LP4 : ∀ (n : Nat) {x1 : Int} {x2 : Int} {M : Mem}, rng x1 → rng x2 → f_X10_sumOfCreated_L4 fu n x1 x2 M = some (M', r) → VV p l e ({ frames := 2, cells := 0, slots := 0, locals := 42 } : Room) s m args below meth c (MQ below (PostI Γ sk M' r s.heap.size) args s 0 0 (Fr Γ sk s.heap.size)) 3 Γ sk M 0 0 4 [(0, vr Γ 10), (1, vi x1), (2, vi x2)] [] := by
    intro n
    induction n with
    | zero =>
      intro x1 x2 M hx1 hx2 h
      cases h
    | succ n ih =>
      intro x1 x2 M hx1 hx2 h
      rw [f_X10_sumOfCreated_L4] at h
      refine V_iload_n (pc := 4) C 2 rfl dX10_sumOfCreated_4 ?_
      refine V_aload_n (pc := 5) C 0 rfl dX10_sumOfCreated_5 ?_
      refine V_rng fun hM1 => ?_
      refine V_getI (pc := 6) C e10 rfl inX10 0 (by decide) rfl lf_X10_37 rfl dX10_sumOfCreated_6 ?_
      refine V_icmp_ge (pc := 9) C 26 hx2 (hM1 _ _) dX10_sumOfCreated_9 (by decide) (fun c9_2 => ?_) (fun c9_2 => ?_)
      · have h := ite_t h c9_2
        refine V_iload_n (pc := 26) C 1 rfl dX10_sumOfCreated_26 ?_
        exact V_iret (pc := 27) C hr hlk hx1 h dX10_sumOfCreated_27
      · have h := ite_f h c9_2
        refine V_iload_n (pc := 12) C 1 rfl dX10_sumOfCreated_12 ?_
        refine V_aload_n (pc := 13) C 0 rfl dX10_sumOfCreated_13 ?_
        refine V_iload_n (pc := 14) C 2 rfl dX10_sumOfCreated_14 ?_
        obtain ⟨M3, r4, hc5, h⟩ := cal_of h
        refine V_callVI (pc := 15) C (c_X10_createdForAt l Γ sk hsk fu hx2 hc5) cf_X10_createdForAt lk_X10_86 ⟨rfl, rfl⟩ ⟨Nat.le_of_ble_eq_true rfl, Nat.le_of_ble_eq_true rfl⟩ e10 rfl rfl rfl (Nat.le_of_ble_eq_true rfl) ⟨Nat.zero_le _, Nat.zero_le _⟩ rfl dX10_sumOfCreated_15 (fun hr4 => ?_)
        refine V_iadd (pc := 18) C dX10_sumOfCreated_18 ?_
        refine V_istore_n (pc := 19) C (L' := [(0, vr Γ 10), (1, vi (x1 + r4)), (2, vi x2)]) rfl (by decide) dX10_sumOfCreated_19 ?_
        refine V_iinc (pc := 20) C (L' := [(0, vr Γ 10), (1, vi (x1 + r4)), (2, vi (x2 + (1 : Int)))]) 2 rfl rfl (by decide) dX10_sumOfCreated_20 ?_
        refine V_goto (pc := 23) C 4 dX10_sumOfCreated_23 (by decide) ?_
        obtain ⟨g6, h⟩ := grd_of h
        obtain ⟨g7, h⟩ := grd_of h
        refine V_sub (L' := [(0, vr Γ 10), (1, vi (x1 + r4)), (2, vi (x2 + (1 : Int)))]) [0, 1, 2] rfl (by decide) ?_
        exact ih g6 g7 h
  skip
  refine V_iconst (pc := 0) C dX10_sumOfCreated_0 ?_
  refine V_istore_n (pc := 1) C (L' := [(0, vr Γ 10), (1, vi (0 : Int))]) rfl (by decide) dX10_sumOfCreated_1 ?_
  refine V_iconst (pc := 2) C dX10_sumOfCreated_2 ?_
  refine V_istore_n (pc := 3) C (L' := [(0, vr Γ 10), (1, vi (0 : Int)), (2, vi (0 : Int))]) rfl (by decide) dX10_sumOfCreated_3 ?_
  refine V_sub (L' := [(0, vr Γ 10), (1, vi (0 : Int)), (2, vi (0 : Int))]) [0, 1, 2] rfl (by decide) ?_
  exact LP4 fu  (by decide) (by decide) h
set_option maxRecDepth 100000 in
set_option maxHeartbeats 4000000 in
theorem c_X10_isFull (l : Launch) (Γ : GG) (sk : List SD) (hsk : Ext sk) (fu : Nat) {M M' : Mem}  {r : Int}  (h : f_X10_isFull fu M  = some (M', r)) : MetI l yX10_isFull cX10_isFull 1 .boolean ({ frames := 0, cells := 0, slots := 0, locals := 0 } : Room) Γ sk [vr Γ 10] M M' r := by
  unfold f_X10_isFull at h
  refine MetI_of RX10 rfl (by decide) rfl (Nat.le_of_ble_eq_true rfl) rfl ?_
  intro p e s m args below meth c C hr hlk hM
  have e10 := hsk 10 _ (by decide) rfl
  refine V_aload_n (pc := 0) C 0 rfl dX10_isFull_0 ?_
  refine V_getI (pc := 1) C e10 rfl inX10 0 (by decide) rfl lf_X10_37 rfl dX10_isFull_1 ?_
  refine V_bipush (pc := 4) C dX10_isFull_4 rfl ?_
  refine V_icmp_lt (pc := 6) C 13 (hM _ _) (by decide) dX10_isFull_6 (by decide) (fun c6_1 => ?_) (fun c6_1 => ?_)
  · have h := ite_t h c6_1
    refine V_iconst (pc := 13) C dX10_isFull_13 ?_
    exact V_zret (pc := 14) C hr hlk (by decide) h dX10_isFull_14
  · have h := ite_f h c6_1
    refine V_iconst (pc := 9) C dX10_isFull_9 ?_
    refine V_goto (pc := 10) C 14 dX10_isFull_10 (by decide) ?_
    exact V_zret (pc := 14) C hr hlk (by decide) h dX10_isFull_14
set_option maxRecDepth 100000 in
set_option maxHeartbeats 4000000 in
theorem c_X10_faultOfReading (l : Launch) (Γ : GG) (sk : List SD) (hsk : Ext sk) (fu : Nat) {M M' : Mem} {a1 : Int} {r : Int} (ha1 : rng a1) (h : f_X10_faultOfReading fu M a1 = some (M', r)) : MetI l yX10_faultOfReading cX10_faultOfReading 2 .int ({ frames := 2, cells := 0, slots := 0, locals := 42 } : Room) Γ sk [vr Γ 10, vi a1] M M' r := by
  unfold f_X10_faultOfReading at h
  refine MetI_of RX10 rfl (by decide) rfl (Nat.le_of_ble_eq_true rfl) rfl ?_
  intro p e s m args below meth c C hr hlk hM
  have e10 := hsk 10 _ (by decide) rfl
  refine V_aload_n (pc := 0) C 0 rfl dX10_faultOfReading_0 ?_
  refine V_iload_n (pc := 1) C 1 rfl dX10_faultOfReading_1 ?_
  obtain ⟨M1, r2, hc3, h⟩ := cal_of h
  refine V_callVI (pc := 2) C (c_X10_has l Γ sk hsk fu ha1 hc3) cf_X10_has lk_X10_61 ⟨rfl, rfl⟩ ⟨Nat.le_of_ble_eq_true rfl, Nat.le_of_ble_eq_true rfl⟩ e10 rfl rfl rfl (Nat.le_of_ble_eq_true rfl) ⟨Nat.zero_le _, Nat.zero_le _⟩ rfl dX10_faultOfReading_2 (fun hr2 => ?_)
  refine V_if_ne (pc := 5) C 10 hr2 dX10_faultOfReading_5 (by decide) (fun c5_4 => ?_) (fun c5_4 => ?_)
  · have h := ite_f h c5_4
    refine V_aload_n (pc := 10) C 0 rfl dX10_faultOfReading_10 ?_
    refine V_iload_n (pc := 11) C 1 rfl dX10_faultOfReading_11 ?_
    obtain ⟨M5, r6, hc7, h⟩ := cal_of h
    refine V_callVI (pc := 12) C (c_X10_isLive l Γ sk hsk fu ha1 hc7) cf_X10_isLive lk_X10_73 ⟨rfl, rfl⟩ ⟨Nat.le_of_ble_eq_true rfl, Nat.le_of_ble_eq_true rfl⟩ e10 rfl rfl rfl (Nat.le_of_ble_eq_true rfl) ⟨Nat.zero_le _, Nat.zero_le _⟩ rfl dX10_faultOfReading_12 (fun hr6 => ?_)
    refine V_if_eq (pc := 15) C 22 hr6 dX10_faultOfReading_15 (by decide) (fun c15_8 => ?_) (fun c15_8 => ?_)
    · have h := ite_t h c15_8
      refine V_iconst (pc := 22) C dX10_faultOfReading_22 ?_
      exact V_iret (pc := 23) C hr hlk (by decide) h dX10_faultOfReading_23
    · have h := ite_f h c15_8
      refine V_iconst (pc := 18) C dX10_faultOfReading_18 ?_
      refine V_goto (pc := 19) C 23 dX10_faultOfReading_19 (by decide) ?_
      exact V_iret (pc := 23) C hr hlk (by decide) h dX10_faultOfReading_23
  · have h := ite_t h c5_4
    refine V_iconst (pc := 8) C dX10_faultOfReading_8 ?_
    exact V_iret (pc := 9) C hr hlk (by decide) h dX10_faultOfReading_9
set_option maxRecDepth 100000 in
set_option maxHeartbeats 4000000 in
theorem c_X10_faultOfReadingBoth (l : Launch) (Γ : GG) (sk : List SD) (hsk : Ext sk) (fu : Nat) {M M' : Mem} {a1 : Int} {a2 : Int} {r : Int} (ha1 : rng a1) (ha2 : rng a2) (h : f_X10_faultOfReadingBoth fu M a1 a2 = some (M', r)) : MetI l yX10_faultOfReadingBoth cX10_faultOfReadingBoth 3 .int ({ frames := 2, cells := 0, slots := 0, locals := 42 } : Room) Γ sk [vr Γ 10, vi a1, vi a2] M M' r := by
  unfold f_X10_faultOfReadingBoth at h
  refine MetI_of RX10 rfl (by decide) rfl (Nat.le_of_ble_eq_true rfl) rfl ?_
  intro p e s m args below meth c C hr hlk hM
  have e10 := hsk 10 _ (by decide) rfl
  refine V_aload_n (pc := 0) C 0 rfl dX10_faultOfReadingBoth_0 ?_
  refine V_iload_n (pc := 1) C 1 rfl dX10_faultOfReadingBoth_1 ?_
  obtain ⟨M1, r2, hc3, h⟩ := cal_of h
  refine V_callVI (pc := 2) C (c_X10_has l Γ sk hsk fu ha1 hc3) cf_X10_has lk_X10_61 ⟨rfl, rfl⟩ ⟨Nat.le_of_ble_eq_true rfl, Nat.le_of_ble_eq_true rfl⟩ e10 rfl rfl rfl (Nat.le_of_ble_eq_true rfl) ⟨Nat.zero_le _, Nat.zero_le _⟩ rfl dX10_faultOfReadingBoth_2 (fun hr2 => ?_)
  refine V_if_eq (pc := 5) C 16 hr2 dX10_faultOfReadingBoth_5 (by decide) (fun c5_4 => ?_) (fun c5_4 => ?_)
  · have h := ite_t h c5_4
    refine V_iconst (pc := 16) C dX10_faultOfReadingBoth_16 ?_
    exact V_iret (pc := 17) C hr hlk (by decide) h dX10_faultOfReadingBoth_17
  · have h := ite_f h c5_4
    refine V_aload_n (pc := 8) C 0 rfl dX10_faultOfReadingBoth_8 ?_
    refine V_iload_n (pc := 9) C 2 rfl dX10_faultOfReadingBoth_9 ?_
    obtain ⟨M5, r6, hc7, h⟩ := cal_of h
    refine V_callVI (pc := 10) C (c_X10_has l Γ sk hsk fu ha2 hc7) cf_X10_has lk_X10_61 ⟨rfl, rfl⟩ ⟨Nat.le_of_ble_eq_true rfl, Nat.le_of_ble_eq_true rfl⟩ e10 rfl rfl rfl (Nat.le_of_ble_eq_true rfl) ⟨Nat.zero_le _, Nat.zero_le _⟩ rfl dX10_faultOfReadingBoth_10 (fun hr6 => ?_)
    refine V_if_ne (pc := 13) C 18 hr6 dX10_faultOfReadingBoth_13 (by decide) (fun c13_8 => ?_) (fun c13_8 => ?_)
    · have h := ite_f h c13_8
      refine V_aload_n (pc := 18) C 0 rfl dX10_faultOfReadingBoth_18 ?_
      refine V_iload_n (pc := 19) C 1 rfl dX10_faultOfReadingBoth_19 ?_
      obtain ⟨M9, r10, hc11, h⟩ := cal_of h
      refine V_callVI (pc := 20) C (c_X10_isLive l Γ sk hsk fu ha1 hc11) cf_X10_isLive lk_X10_73 ⟨rfl, rfl⟩ ⟨Nat.le_of_ble_eq_true rfl, Nat.le_of_ble_eq_true rfl⟩ e10 rfl rfl rfl (Nat.le_of_ble_eq_true rfl) ⟨Nat.zero_le _, Nat.zero_le _⟩ rfl dX10_faultOfReadingBoth_20 (fun hr10 => ?_)
      refine V_if_eq (pc := 23) C 38 hr10 dX10_faultOfReadingBoth_23 (by decide) (fun c23_12 => ?_) (fun c23_12 => ?_)
      · have h := ite_t h c23_12
        refine V_iconst (pc := 38) C dX10_faultOfReadingBoth_38 ?_
        exact V_iret (pc := 39) C hr hlk (by decide) h dX10_faultOfReadingBoth_39
      · have h := ite_f h c23_12
        refine V_aload_n (pc := 26) C 0 rfl dX10_faultOfReadingBoth_26 ?_
        refine V_iload_n (pc := 27) C 2 rfl dX10_faultOfReadingBoth_27 ?_
        obtain ⟨M13, r14, hc15, h⟩ := cal_of h
        refine V_callVI (pc := 28) C (c_X10_isLive l Γ sk hsk fu ha2 hc15) cf_X10_isLive lk_X10_73 ⟨rfl, rfl⟩ ⟨Nat.le_of_ble_eq_true rfl, Nat.le_of_ble_eq_true rfl⟩ e10 rfl rfl rfl (Nat.le_of_ble_eq_true rfl) ⟨Nat.zero_le _, Nat.zero_le _⟩ rfl dX10_faultOfReadingBoth_28 (fun hr14 => ?_)
        refine V_if_eq (pc := 31) C 38 hr14 dX10_faultOfReadingBoth_31 (by decide) (fun c31_16 => ?_) (fun c31_16 => ?_)
        · have h := ite_t h c31_16
          refine V_iconst (pc := 38) C dX10_faultOfReadingBoth_38 ?_
          exact V_iret (pc := 39) C hr hlk (by decide) h dX10_faultOfReadingBoth_39
        · have h := ite_f h c31_16
          refine V_iconst (pc := 34) C dX10_faultOfReadingBoth_34 ?_
          refine V_goto (pc := 35) C 39 dX10_faultOfReadingBoth_35 (by decide) ?_
          exact V_iret (pc := 39) C hr hlk (by decide) h dX10_faultOfReadingBoth_39
    · have h := ite_t h c13_8
      refine V_iconst (pc := 16) C dX10_faultOfReadingBoth_16 ?_
      exact V_iret (pc := 17) C hr hlk (by decide) h dX10_faultOfReadingBoth_17
set_option maxRecDepth 100000 in
set_option maxHeartbeats 4000000 in
theorem c_X10_faultOfElement (l : Launch) (Γ : GG) (sk : List SD) (hsk : Ext sk) (fu : Nat) {M M' : Mem} {a1 : Int} {a2 : Int} {r : Int} (ha1 : rng a1) (ha2 : rng a2) (h : f_X10_faultOfElement fu M a1 a2 = some (M', r)) : MetI l yX10_faultOfElement cX10_faultOfElement 4 .int ({ frames := 3, cells := 0, slots := 0, locals := 63 } : Room) Γ sk [vr Γ 10, vi a1, vi a2] M M' r := by
  unfold f_X10_faultOfElement at h
  refine MetI_of RX10 rfl (by decide) rfl (Nat.le_of_ble_eq_true rfl) rfl ?_
  intro p e s m args below meth c C hr hlk hM
  have e10 := hsk 10 _ (by decide) rfl
  refine V_aload_n (pc := 0) C 0 rfl dX10_faultOfElement_0 ?_
  refine V_iload_n (pc := 1) C 1 rfl dX10_faultOfElement_1 ?_
  obtain ⟨M1, r2, hc3, h⟩ := cal_of h
  refine V_callVI (pc := 2) C (c_X10_faultOfReading l Γ sk hsk fu ha1 hc3) cf_X10_faultOfReading lk_X10_89 ⟨rfl, rfl⟩ ⟨Nat.le_of_ble_eq_true rfl, Nat.le_of_ble_eq_true rfl⟩ e10 rfl rfl rfl (Nat.le_of_ble_eq_true rfl) ⟨Nat.zero_le _, Nat.zero_le _⟩ rfl dX10_faultOfElement_2 (fun hr2 => ?_)
  refine V_istore_n (pc := 5) C (L' := [(0, vr Γ 10), (1, vi a1), (2, vi a2), (3, vi r2)]) rfl (by decide) dX10_faultOfElement_5 ?_
  refine V_iload_n (pc := 6) C 3 rfl dX10_faultOfElement_6 ?_
  refine V_if_ne (pc := 7) C 25 hr2 dX10_faultOfElement_7 (by decide) (fun c7_4 => ?_) (fun c7_4 => ?_)
  · have h := ite_f h c7_4
    refine V_iload_n (pc := 25) C 3 rfl dX10_faultOfElement_25 ?_
    exact V_iret (pc := 26) C hr hlk hr2 h dX10_faultOfElement_26
  · have h := ite_t h c7_4
    refine V_iload_n (pc := 10) C 2 rfl dX10_faultOfElement_10 ?_
    refine V_if_lt (pc := 11) C 23 ha2 dX10_faultOfElement_11 (by decide) (fun c11_5 => ?_) (fun c11_5 => ?_)
    · have h := ite_t h c11_5
      refine V_iconst (pc := 23) C dX10_faultOfElement_23 ?_
      exact V_iret (pc := 24) C hr hlk (by decide) h dX10_faultOfElement_24
    · have h := ite_f h c11_5
      refine V_iload_n (pc := 14) C 2 rfl dX10_faultOfElement_14 ?_
      refine V_aload_n (pc := 15) C 0 rfl dX10_faultOfElement_15 ?_
      refine V_iload_n (pc := 16) C 1 rfl dX10_faultOfElement_16 ?_
      obtain ⟨M6, r7, hc8, h⟩ := cal_of h
      refine V_callVI (pc := 17) C (c_X10_sizeAt l Γ sk hsk fu ha1 hc8) cf_X10_sizeAt lk_X10_83 ⟨rfl, rfl⟩ ⟨Nat.le_of_ble_eq_true rfl, Nat.le_of_ble_eq_true rfl⟩ e10 rfl rfl rfl (Nat.le_of_ble_eq_true rfl) ⟨Nat.zero_le _, Nat.zero_le _⟩ rfl dX10_faultOfElement_17 (fun hr7 => ?_)
      refine V_icmp_lt (pc := 20) C 25 ha2 hr7 dX10_faultOfElement_20 (by decide) (fun c20_9 => ?_) (fun c20_9 => ?_)
      · have h := ite_t h c20_9
        refine V_iload_n (pc := 25) C 3 rfl dX10_faultOfElement_25 ?_
        exact V_iret (pc := 26) C hr hlk hr2 h dX10_faultOfElement_26
      · have h := ite_f h c20_9
        refine V_iconst (pc := 23) C dX10_faultOfElement_23 ?_
        exact V_iret (pc := 24) C hr hlk (by decide) h dX10_faultOfElement_24
set_option maxRecDepth 100000 in
set_option maxHeartbeats 4000000 in
theorem c_X11_isElementValue (l : Launch) (Γ : GG) (sk : List SD) (hsk : Ext sk) (fu : Nat) {M M' : Mem} {a0 : Int} {r : Int} (ha0 : rng a0) (h : f_X11_isElementValue fu M a0 = some (M', r)) : MetI l yX11_isElementValue cX11_isElementValue 1 .boolean ({ frames := 0, cells := 0, slots := 0, locals := 0 } : Room) Γ sk [vi a0] M M' r := by
  unfold f_X11_isElementValue at h
  refine MetI_of RX11 rfl (by decide) rfl (Nat.le_of_ble_eq_true rfl) rfl ?_
  intro p e s m args below meth c C hr hlk hM
  refine V_iload_n (pc := 0) C 0 rfl dX11_isElementValue_0 ?_
  refine V_sipush (pc := 1) C dX11_isElementValue_1 rfl ?_
  refine V_icmp_lt (pc := 4) C 18 ha0 (by decide) dX11_isElementValue_4 (by decide) (fun c4_1 => ?_) (fun c4_1 => ?_)
  · have h := ite_t h c4_1
    refine V_iconst (pc := 18) C dX11_isElementValue_18 ?_
    exact V_zret (pc := 19) C hr hlk (by decide) h dX11_isElementValue_19
  · have h := ite_f h c4_1
    refine V_iload_n (pc := 7) C 0 rfl dX11_isElementValue_7 ?_
    refine V_sipush (pc := 8) C dX11_isElementValue_8 rfl ?_
    refine V_icmp_gt (pc := 11) C 18 ha0 (by decide) dX11_isElementValue_11 (by decide) (fun c11_2 => ?_) (fun c11_2 => ?_)
    · have h := ite_t h c11_2
      refine V_iconst (pc := 18) C dX11_isElementValue_18 ?_
      exact V_zret (pc := 19) C hr hlk (by decide) h dX11_isElementValue_19
    · have h := ite_f h c11_2
      refine V_iconst (pc := 14) C dX11_isElementValue_14 ?_
      refine V_goto (pc := 15) C 19 dX11_isElementValue_15 (by decide) ?_
      exact V_zret (pc := 19) C hr hlk (by decide) h dX11_isElementValue_19
