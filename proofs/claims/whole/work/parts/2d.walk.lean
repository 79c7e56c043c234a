set_option maxRecDepth 100000 in
set_option maxHeartbeats 4000000 in
theorem c_X8_makeWithElement (l : Launch) (Γ : GG) (sk : List SD) (hsk : Ext sk) (fu : Nat) {M M' : Mem} {a1 : Int} {a2 : Int} {a3 : Int} {r : Int} (ha1 : rng a1) (ha2 : rng a2) (ha3 : rng a3) (h : f_X8_makeWithElement fu M a1 a2 a3 = some (M', r)) : MetI l yX8_makeWithElement cX8_makeWithElement 6 .int ({ frames := 37, cells := 0, slots := 0, locals := 1286 } : Room) Γ sk [vr Γ 4, vi a1, vi a2, vi a3] M M' r := by
  unfold f_X8_makeWithElement at h
  refine MetI_of RX8 rfl (by decide) rfl (Nat.le_of_ble_eq_true rfl) rfl ?_
  intro p e s m args below meth c C hr hlk hM
  have e4 := hsk 4 _ (by decide) rfl
  have e5 := hsk 5 _ (by decide) rfl
  have e10 := hsk 10 _ (by decide) rfl
  have JP44 : ∀ {x1 : Int} {x2 : Int} {x3 : Int} {x4 : Int} {x5 : Int} {M : Mem}, rng x1 → rng x2 → rng x3 → rng x4 → rng x5 → f_X8_makeWithElement_J44 fu x1 x2 x3 x4 x5 M = some (M', r) → VV p l e ({ frames := 37, cells := 0, slots := 0, locals := 1286 } : Room) s m args below meth c (MQ below (PostI Γ sk M' r s.heap.size) args s 0 0 (Fr Γ sk s.heap.size)) 6 Γ sk M 0 0 44 [(0, vr Γ 4), (1, vi x1), (2, vi x2), (3, vi x3), (4, vi x4), (5, vi x5)] [] := by
    intro x1 x2 x3 x4 x5 M hx1 hx2 hx3 hx4 hx5 h
    unfold f_X8_makeWithElement_J44 at h
    refine V_aload_n (pc := 44) C 0 rfl dX8_makeWithElement_44 ?_
    refine V_getR (pc := 45) C e4 rfl inX8 1 (by decide) rfl lf_X8_21 rfl dX8_makeWithElement_45 ?_
    refine V_iload_n (pc := 48) C 1 rfl dX8_makeWithElement_48 ?_
    refine V_iload (pc := 49) C 5 rfl dX8_makeWithElement_49 ?_
    refine V_aload_n (pc := 51) C 0 rfl dX8_makeWithElement_51 ?_
    refine V_getR (pc := 52) C e4 rfl inX8 1 (by decide) rfl lf_X8_21 rfl dX8_makeWithElement_52 ?_
    refine V_iload_n (pc := 55) C 1 rfl dX8_makeWithElement_55 ?_
    obtain ⟨M8, r9, hc10, h⟩ := cal_of h
    refine V_callVI (pc := 56) C (c_X10_sizeAt l Γ sk hsk fu hx1 hc10) cf_X10_sizeAt lk_X8_66 ⟨rfl, rfl⟩ ⟨Nat.le_of_ble_eq_true rfl, Nat.le_of_ble_eq_true rfl⟩ e10 rfl rfl rfl (Nat.le_of_ble_eq_true rfl) ⟨Nat.zero_le _, Nat.zero_le _⟩ rfl dX8_makeWithElement_56 (fun hr9 => ?_)
    refine V_aload_n (pc := 59) C 0 rfl dX8_makeWithElement_59 ?_
    refine V_getR (pc := 60) C e4 rfl inX8 0 (by decide) rfl lf_X8_12 rfl dX8_makeWithElement_60 ?_
    refine V_rng fun hM11 => ?_
    refine V_getI (pc := 63) C e5 rfl inX3 0 (by decide) rfl lf_X8_32 rfl dX8_makeWithElement_63 ?_
    refine V_iload (pc := 66) C 4 rfl dX8_makeWithElement_66 ?_
    refine V_isub (pc := 68) C dX8_makeWithElement_68 ?_
    refine V_iload_n (pc := 69) C 2 rfl dX8_makeWithElement_69 ?_
    refine V_iload_n (pc := 70) C 3 rfl dX8_makeWithElement_70 ?_
    obtain ⟨g12, h⟩ := grd_of h
    obtain ⟨M13, r14, hc15, h⟩ := cal_of h
    refine V_callVI (pc := 71) C (c_X10_add l Γ sk hsk fu hx1 hx5 hr9 g12 hx2 hx3 hc15) cf_X10_add lk_X8_88 ⟨rfl, rfl⟩ ⟨Nat.le_of_ble_eq_true rfl, Nat.le_of_ble_eq_true rfl⟩ e10 rfl rfl rfl (Nat.le_of_ble_eq_true rfl) ⟨Nat.zero_le _, Nat.zero_le _⟩ rfl dX8_makeWithElement_71 (fun hr14 => ?_)
    exact V_iret (pc := 74) C hr hlk hr14 h dX8_makeWithElement_74
  skip
  refine V_aload_n (pc := 0) C 0 rfl dX8_makeWithElement_0 ?_
  refine V_getR (pc := 1) C e4 rfl inX8 0 (by decide) rfl lf_X8_12 rfl dX8_makeWithElement_1 ?_
  refine V_getI (pc := 4) C e5 rfl inX3 0 (by decide) rfl lf_X8_32 rfl dX8_makeWithElement_4 ?_
  refine V_istore (pc := 7) C (L' := [(0, vr Γ 4), (1, vi a1), (2, vi a2), (3, vi a3), (4, vi (M 5 0))]) rfl (by decide) dX8_makeWithElement_7 ?_
  refine V_aload_n (pc := 9) C 0 rfl dX8_makeWithElement_9 ?_
  refine V_getR (pc := 10) C e4 rfl inX8 1 (by decide) rfl lf_X8_21 rfl dX8_makeWithElement_10 ?_
  refine V_iload_n (pc := 13) C 1 rfl dX8_makeWithElement_13 ?_
  obtain ⟨M1, r2, hc3, h⟩ := cal_of h
  refine V_callVI (pc := 14) C (c_X10_rootAt l Γ sk hsk fu ha1 hc3) cf_X10_rootAt lk_X8_69 ⟨rfl, rfl⟩ ⟨Nat.le_of_ble_eq_true rfl, Nat.le_of_ble_eq_true rfl⟩ e10 rfl rfl rfl (Nat.le_of_ble_eq_true rfl) ⟨Nat.zero_le _, Nat.zero_le _⟩ rfl dX8_makeWithElement_14 (fun hr2 => ?_)
  refine V_istore (pc := 17) C (L' := [(0, vr Γ 4), (1, vi a1), (2, vi a2), (3, vi a3), (4, vi (M 5 0)), (5, vi r2)]) rfl (by decide) dX8_makeWithElement_17 ?_
  refine V_aload_n (pc := 19) C 0 rfl dX8_makeWithElement_19 ?_
  refine V_iload_n (pc := 20) C 1 rfl dX8_makeWithElement_20 ?_
  refine V_iload_n (pc := 21) C 2 rfl dX8_makeWithElement_21 ?_
  obtain ⟨M4, r5, hc6, h⟩ := cal_of h
  refine V_callVI (pc := 22) C (c_X8_elementAt l Γ sk hsk fu ha1 ha2 hc6) cf_X8_elementAt lk_X8_81 ⟨rfl, rfl⟩ ⟨Nat.le_of_ble_eq_true rfl, Nat.le_of_ble_eq_true rfl⟩ e4 rfl rfl rfl (Nat.le_of_ble_eq_true rfl) ⟨Nat.zero_le _, Nat.zero_le _⟩ rfl dX8_makeWithElement_22 (fun hr5 => ?_)
  refine V_iload_n (pc := 25) C 3 rfl dX8_makeWithElement_25 ?_
  refine V_icmp_eq (pc := 26) C 44 hr5 ha3 dX8_makeWithElement_26 (by decide) (fun c26_7 => ?_) (fun c26_7 => ?_)
  · have h := ite_t h c26_7
    refine V_sub (L' := [(0, vr Γ 4), (1, vi a1), (2, vi a2), (3, vi a3), (4, vi (M 5 0)), (5, vi r2)]) [0, 1, 2, 3, 4, 5] rfl (by decide) ?_
    exact JP44 ha1 ha2 ha3 (hM _ _) hr2 h
  · have h := ite_f h c26_7
    refine V_aload_n (pc := 29) C 0 rfl dX8_makeWithElement_29 ?_
    refine V_iload (pc := 30) C 5 rfl dX8_makeWithElement_30 ?_
    refine V_aload_n (pc := 32) C 0 rfl dX8_makeWithElement_32 ?_
    refine V_iload_n (pc := 33) C 1 rfl dX8_makeWithElement_33 ?_
    obtain ⟨M16, r17, hc18, h⟩ := cal_of h
    refine V_callVI (pc := 34) C (c_X8_heightAt l Γ sk hsk fu ha1 hc18) cf_X8_heightAt lk_X8_72 ⟨rfl, rfl⟩ ⟨Nat.le_of_ble_eq_true rfl, Nat.le_of_ble_eq_true rfl⟩ e4 rfl rfl rfl (Nat.le_of_ble_eq_true rfl) ⟨Nat.zero_le _, Nat.zero_le _⟩ rfl dX8_makeWithElement_34 (fun hr17 => ?_)
    refine V_iload_n (pc := 37) C 2 rfl dX8_makeWithElement_37 ?_
    refine V_iload_n (pc := 38) C 3 rfl dX8_makeWithElement_38 ?_
    obtain ⟨M19, r20, hc21, h⟩ := cal_of h
    refine V_callVI (pc := 39) C (c_X8_copyWithElement l Γ sk hsk fu 8 hr2 hr17 ha2 ha3 hc21) cf_X8_copyWithElement lk_X8_84 ⟨rfl, rfl⟩ ⟨Nat.le_of_ble_eq_true rfl, Nat.le_of_ble_eq_true rfl⟩ e4 rfl rfl rfl (Nat.le_of_ble_eq_true rfl) ⟨Nat.zero_le _, Nat.zero_le _⟩ rfl dX8_makeWithElement_39 (fun hr20 => ?_)
    refine V_istore (pc := 42) C (L' := [(0, vr Γ 4), (1, vi a1), (2, vi a2), (3, vi a3), (4, vi (M 5 0)), (5, vi r20)]) rfl (by decide) dX8_makeWithElement_42 ?_
    refine V_sub (L' := [(0, vr Γ 4), (1, vi a1), (2, vi a2), (3, vi a3), (4, vi (M 5 0)), (5, vi r20)]) [0, 1, 2, 3, 4, 5] rfl (by decide) ?_
    exact JP44 ha1 ha2 ha3 (hM _ _) hr20 h
set_option maxRecDepth 100000 in
set_option maxHeartbeats 4000000 in
theorem c_X8_addRoot (l : Launch) (Γ : GG) (sk : List SD) (hsk : Ext sk) (fu : Nat) {M M' : Mem} {a1 : Int} {a2 : Int} {a3 : Int} {r : Int} (ha1 : rng a1) (ha2 : rng a2) (ha3 : rng a3) (h : f_X8_addRoot fu M a1 a2 a3 = some (M', r)) : MetI l yX8_addRoot cX8_addRoot 5 .int ({ frames := 2, cells := 0, slots := 0, locals := 53 } : Room) Γ sk [vr Γ 4, vi a1, vi a2, vi a3] M M' r := by
  unfold f_X8_addRoot at h
  refine MetI_of RX8 rfl (by decide) rfl (Nat.le_of_ble_eq_true rfl) rfl ?_
  intro p e s m args below meth c C hr hlk hM
  have e4 := hsk 4 _ (by decide) rfl
  have e5 := hsk 5 _ (by decide) rfl
  refine V_aload_n (pc := 0) C 0 rfl dX8_addRoot_0 ?_
  refine V_getR (pc := 1) C e4 rfl inX8 0 (by decide) rfl lf_X8_12 rfl dX8_addRoot_1 ?_
  refine V_iload_n (pc := 4) C 1 rfl dX8_addRoot_4 ?_
  obtain ⟨M1, r2, hc3, h⟩ := cal_of h
  refine V_callVI (pc := 5) C (c_X3_add l Γ sk hsk fu ha1 hc3) cf_X3_add lk_X8_56 ⟨rfl, rfl⟩ ⟨Nat.le_of_ble_eq_true rfl, Nat.le_of_ble_eq_true rfl⟩ e5 rfl rfl rfl (Nat.le_of_ble_eq_true rfl) ⟨Nat.zero_le _, Nat.zero_le _⟩ rfl dX8_addRoot_5 (fun hr2 => ?_)
  refine V_istore (pc := 8) C (L' := [(0, vr Γ 4), (1, vi a1), (2, vi a2), (3, vi a3), (4, vi r2)]) rfl (by decide) dX8_addRoot_8 ?_
  refine V_aload_n (pc := 10) C 0 rfl dX8_addRoot_10 ?_
  refine V_getR (pc := 11) C e4 rfl inX8 0 (by decide) rfl lf_X8_12 rfl dX8_addRoot_11 ?_
  refine V_iload (pc := 14) C 4 rfl dX8_addRoot_14 ?_
  refine V_iconst (pc := 16) C dX8_addRoot_16 ?_
  refine V_iload_n (pc := 17) C 2 rfl dX8_addRoot_17 ?_
  obtain ⟨M4, r5, hc6, h⟩ := cal_of h
  refine V_callVV (pc := 18) C (c_X3_place l Γ sk hsk fu hr2 (by decide) ha2 hc6) cf_X3_place lk_X8_63 ⟨rfl, rfl⟩ ⟨Nat.le_of_ble_eq_true rfl, Nat.le_of_ble_eq_true rfl⟩ e5 rfl rfl rfl (Nat.le_of_ble_eq_true rfl) ⟨Nat.zero_le _, Nat.zero_le _⟩ rfl dX8_addRoot_18 ?_
  refine V_aload_n (pc := 21) C 0 rfl dX8_addRoot_21 ?_
  refine V_getR (pc := 22) C e4 rfl inX8 0 (by decide) rfl lf_X8_12 rfl dX8_addRoot_22 ?_
  refine V_iload (pc := 25) C 4 rfl dX8_addRoot_25 ?_
  refine V_iconst (pc := 27) C dX8_addRoot_27 ?_
  refine V_iload_n (pc := 28) C 3 rfl dX8_addRoot_28 ?_
  obtain ⟨M7, r8, hc9, h⟩ := cal_of h
  refine V_callVV (pc := 29) C (c_X3_place l Γ sk hsk fu hr2 (by decide) ha3 hc9) cf_X3_place lk_X8_63 ⟨rfl, rfl⟩ ⟨Nat.le_of_ble_eq_true rfl, Nat.le_of_ble_eq_true rfl⟩ e5 rfl rfl rfl (Nat.le_of_ble_eq_true rfl) ⟨Nat.zero_le _, Nat.zero_le _⟩ rfl dX8_addRoot_29 ?_
  refine V_iload (pc := 32) C 4 rfl dX8_addRoot_32 ?_
  exact V_iret (pc := 34) C hr hlk hr2 h dX8_addRoot_34
set_option maxRecDepth 100000 in
set_option maxHeartbeats 4000000 in
theorem c_X8_makeLonger (l : Launch) (Γ : GG) (sk : List SD) (hsk : Ext sk) (fu : Nat) {M M' : Mem} {a1 : Int} {a2 : Int} {r : Int} (ha1 : rng a1) (ha2 : rng a2) (h : f_X8_makeLonger fu M a1 a2 = some (M', r)) : MetI l yX8_makeLonger cX8_makeLonger 8 .int ({ frames := 37, cells := 0, slots := 0, locals := 1286 } : Room) Γ sk [vr Γ 4, vi a1, vi a2] M M' r := by
  unfold f_X8_makeLonger at h
  refine MetI_of RX8 rfl (by decide) rfl (Nat.le_of_ble_eq_true rfl) rfl ?_
  intro p e s m args below meth c C hr hlk hM
  have e4 := hsk 4 _ (by decide) rfl
  have e5 := hsk 5 _ (by decide) rfl
  have e10 := hsk 10 _ (by decide) rfl
  have JP94 : ∀ {x1 : Int} {x2 : Int} {x3 : Int} {x4 : Int} {x5 : Int} {M : Mem}, rng x1 → rng x2 → rng x3 → rng x4 → rng x5 → f_X8_makeLonger_J94 fu x1 x2 x3 x4 x5 M = some (M', r) → VV p l e ({ frames := 37, cells := 0, slots := 0, locals := 1286 } : Room) s m args below meth c (MQ below (PostI Γ sk M' r s.heap.size) args s 0 0 (Fr Γ sk s.heap.size)) 8 Γ sk M 0 0 94 [(0, vr Γ 4), (1, vi x1), (2, vi x2), (3, vi x3), (4, vi x4), (5, vi x5)] [] := by
    intro x1 x2 x3 x4 x5 M hx1 hx2 hx3 hx4 hx5 h
    unfold f_X8_makeLonger_J94 at h
    refine V_aload_n (pc := 94) C 0 rfl dX8_makeLonger_94 ?_
    refine V_getR (pc := 95) C e4 rfl inX8 1 (by decide) rfl lf_X8_21 rfl dX8_makeLonger_95 ?_
    refine V_iload_n (pc := 98) C 1 rfl dX8_makeLonger_98 ?_
    refine V_iload (pc := 99) C 5 rfl dX8_makeLonger_99 ?_
    refine V_iload (pc := 101) C 4 rfl dX8_makeLonger_101 ?_
    refine V_iconst (pc := 103) C dX8_makeLonger_103 ?_
    refine V_iadd (pc := 104) C dX8_makeLonger_104 ?_
    refine V_aload_n (pc := 105) C 0 rfl dX8_makeLonger_105 ?_
    refine V_getR (pc := 106) C e4 rfl inX8 0 (by decide) rfl lf_X8_12 rfl dX8_makeLonger_106 ?_
    refine V_rng fun hM15 => ?_
    refine V_getI (pc := 109) C e5 rfl inX3 0 (by decide) rfl lf_X8_32 rfl dX8_makeLonger_109 ?_
    refine V_iload_n (pc := 112) C 3 rfl dX8_makeLonger_112 ?_
    refine V_isub (pc := 113) C dX8_makeLonger_113 ?_
    refine V_iload (pc := 114) C 4 rfl dX8_makeLonger_114 ?_
    refine V_iload_n (pc := 116) C 2 rfl dX8_makeLonger_116 ?_
    obtain ⟨g16, h⟩ := grd_of h
    obtain ⟨g17, h⟩ := grd_of h
    obtain ⟨M18, r19, hc20, h⟩ := cal_of h
    refine V_callVI (pc := 117) C (c_X10_add l Γ sk hsk fu hx1 hx5 g16 g17 hx4 hx2 hc20) cf_X10_add lk_X8_88 ⟨rfl, rfl⟩ ⟨Nat.le_of_ble_eq_true rfl, Nat.le_of_ble_eq_true rfl⟩ e10 rfl rfl rfl (Nat.le_of_ble_eq_true rfl) ⟨Nat.zero_le _, Nat.zero_le _⟩ rfl dX8_makeLonger_117 (fun hr19 => ?_)
    exact V_iret (pc := 120) C hr hlk hr19 h dX8_makeLonger_120
  have JP81 : ∀ {x1 : Int} {x2 : Int} {x3 : Int} {x4 : Int} {x5 : Int} {x6 : Int} {M : Mem}, rng x1 → rng x2 → rng x3 → rng x4 → rng x5 → rng x6 → f_X8_makeLonger_J81 fu x1 x2 x3 x4 x5 x6 M = some (M', r) → VV p l e ({ frames := 37, cells := 0, slots := 0, locals := 1286 } : Room) s m args below meth c (MQ below (PostI Γ sk M' r s.heap.size) args s 0 0 (Fr Γ sk s.heap.size)) 8 Γ sk M 0 0 81 [(0, vr Γ 4), (1, vi x1), (2, vi x2), (3, vi x3), (4, vi x4), (5, vi x5), (6, vi x6)] [] := by
    intro x1 x2 x3 x4 x5 x6 M hx1 hx2 hx3 hx4 hx5 hx6 h
    unfold f_X8_makeLonger_J81 at h
    refine V_aload_n (pc := 81) C 0 rfl dX8_makeLonger_81 ?_
    refine V_iload (pc := 82) C 5 rfl dX8_makeLonger_82 ?_
    refine V_iload (pc := 84) C 6 rfl dX8_makeLonger_84 ?_
    refine V_iload (pc := 86) C 4 rfl dX8_makeLonger_86 ?_
    refine V_iload_n (pc := 88) C 2 rfl dX8_makeLonger_88 ?_
    obtain ⟨M12, r13, hc14, h⟩ := cal_of h
    refine V_callVI (pc := 89) C (c_X8_copyWithElement l Γ sk hsk fu 8 hx5 hx6 hx4 hx2 hc14) cf_X8_copyWithElement lk_X8_84 ⟨rfl, rfl⟩ ⟨Nat.le_of_ble_eq_true rfl, Nat.le_of_ble_eq_true rfl⟩ e4 rfl rfl rfl (Nat.le_of_ble_eq_true rfl) ⟨Nat.zero_le _, Nat.zero_le _⟩ rfl dX8_makeLonger_89 (fun hr13 => ?_)
    refine V_istore (pc := 92) C (L' := [(0, vr Γ 4), (1, vi x1), (2, vi x2), (3, vi x3), (4, vi x4), (5, vi r13), (6, vi x6)]) rfl (by decide) dX8_makeLonger_92 ?_
    refine V_sub (L' := [(0, vr Γ 4), (1, vi x1), (2, vi x2), (3, vi x3), (4, vi x4), (5, vi r13)]) [0, 1, 2, 3, 4, 5] rfl (by decide) ?_
    exact JP94 hx1 hx2 hx3 hx4 hr13 h
  skip
  refine V_aload_n (pc := 0) C 0 rfl dX8_makeLonger_0 ?_
  refine V_getR (pc := 1) C e4 rfl inX8 0 (by decide) rfl lf_X8_12 rfl dX8_makeLonger_1 ?_
  refine V_getI (pc := 4) C e5 rfl inX3 0 (by decide) rfl lf_X8_32 rfl dX8_makeLonger_4 ?_
  refine V_istore_n (pc := 7) C (L' := [(0, vr Γ 4), (1, vi a1), (2, vi a2), (3, vi (M 5 0))]) rfl (by decide) dX8_makeLonger_7 ?_
  refine V_aload_n (pc := 8) C 0 rfl dX8_makeLonger_8 ?_
  refine V_getR (pc := 9) C e4 rfl inX8 1 (by decide) rfl lf_X8_21 rfl dX8_makeLonger_9 ?_
  refine V_iload_n (pc := 12) C 1 rfl dX8_makeLonger_12 ?_
  obtain ⟨M1, r2, hc3, h⟩ := cal_of h
  refine V_callVI (pc := 13) C (c_X10_sizeAt l Γ sk hsk fu ha1 hc3) cf_X10_sizeAt lk_X8_66 ⟨rfl, rfl⟩ ⟨Nat.le_of_ble_eq_true rfl, Nat.le_of_ble_eq_true rfl⟩ e10 rfl rfl rfl (Nat.le_of_ble_eq_true rfl) ⟨Nat.zero_le _, Nat.zero_le _⟩ rfl dX8_makeLonger_13 (fun hr2 => ?_)
  refine V_istore (pc := 16) C (L' := [(0, vr Γ 4), (1, vi a1), (2, vi a2), (3, vi (M 5 0)), (4, vi r2)]) rfl (by decide) dX8_makeLonger_16 ?_
  refine V_aload_n (pc := 18) C 0 rfl dX8_makeLonger_18 ?_
  refine V_getR (pc := 19) C e4 rfl inX8 1 (by decide) rfl lf_X8_21 rfl dX8_makeLonger_19 ?_
  refine V_iload_n (pc := 22) C 1 rfl dX8_makeLonger_22 ?_
  obtain ⟨M4, r5, hc6, h⟩ := cal_of h
  refine V_callVI (pc := 23) C (c_X10_rootAt l Γ sk hsk fu ha1 hc6) cf_X10_rootAt lk_X8_69 ⟨rfl, rfl⟩ ⟨Nat.le_of_ble_eq_true rfl, Nat.le_of_ble_eq_true rfl⟩ e10 rfl rfl rfl (Nat.le_of_ble_eq_true rfl) ⟨Nat.zero_le _, Nat.zero_le _⟩ rfl dX8_makeLonger_23 (fun hr5 => ?_)
  refine V_istore (pc := 26) C (L' := [(0, vr Γ 4), (1, vi a1), (2, vi a2), (3, vi (M 5 0)), (4, vi r2), (5, vi r5)]) rfl (by decide) dX8_makeLonger_26 ?_
  refine V_iload (pc := 28) C 4 rfl dX8_makeLonger_28 ?_
  refine V_iconst (pc := 30) C dX8_makeLonger_30 ?_
  refine V_iadd (pc := 31) C dX8_makeLonger_31 ?_
  obtain ⟨g7, h⟩ := grd_of h
  obtain ⟨M8, r9, hc10, h⟩ := cal_of h
  refine V_callNI (pc := 32) C (c_X11_heightFor l Γ sk hsk fu g7 hc10) cf_X11_heightFor ln_X8_40 ⟨rfl, rfl⟩ ⟨Nat.le_of_ble_eq_true rfl, Nat.le_of_ble_eq_true rfl⟩ rfl (Nat.le_of_ble_eq_true rfl) ⟨Nat.zero_le _, Nat.zero_le _⟩ rfl dX8_makeLonger_32 (fun hr9 => ?_)
  refine V_istore (pc := 35) C (L' := [(0, vr Γ 4), (1, vi a1), (2, vi a2), (3, vi (M 5 0)), (4, vi r2), (5, vi r5), (6, vi r9)]) rfl (by decide) dX8_makeLonger_35 ?_
  refine V_iload (pc := 37) C 4 rfl dX8_makeLonger_37 ?_
  refine V_if_le (pc := 39) C 81 hr2 dX8_makeLonger_39 (by decide) (fun c39_11 => ?_) (fun c39_11 => ?_)
  · have h := ite_t h c39_11
    refine V_sub (L' := [(0, vr Γ 4), (1, vi a1), (2, vi a2), (3, vi (M 5 0)), (4, vi r2), (5, vi r5), (6, vi r9)]) [0, 1, 2, 3, 4, 5, 6] rfl (by decide) ?_
    exact JP81 ha1 ha2 (hM _ _) hr2 hr5 hr9 h
  · have h := ite_f h c39_11
    refine V_iload (pc := 42) C 6 rfl dX8_makeLonger_42 ?_
    refine V_iload (pc := 44) C 4 rfl dX8_makeLonger_44 ?_
    obtain ⟨M21, r22, hc23, h⟩ := cal_of h
    refine V_callNI (pc := 46) C (c_X11_heightFor l Γ sk hsk fu hr2 hc23) cf_X11_heightFor ln_X8_40 ⟨rfl, rfl⟩ ⟨Nat.le_of_ble_eq_true rfl, Nat.le_of_ble_eq_true rfl⟩ rfl (Nat.le_of_ble_eq_true rfl) ⟨Nat.zero_le _, Nat.zero_le _⟩ rfl dX8_makeLonger_46 (fun hr22 => ?_)
    refine V_icmp_le (pc := 49) C 81 hr9 hr22 dX8_makeLonger_49 (by decide) (fun c49_24 => ?_) (fun c49_24 => ?_)
    · have h := ite_t h c49_24
      refine V_sub (L' := [(0, vr Γ 4), (1, vi a1), (2, vi a2), (3, vi (M 5 0)), (4, vi r2), (5, vi r5), (6, vi r9)]) [0, 1, 2, 3, 4, 5, 6] rfl (by decide) ?_
      exact JP81 ha1 ha2 (hM _ _) hr2 hr5 hr9 h
    · have h := ite_f h c49_24
      refine V_aload_n (pc := 52) C 0 rfl dX8_makeLonger_52 ?_
      refine V_iconst (pc := 53) C dX8_makeLonger_53 ?_
      refine V_iload (pc := 54) C 6 rfl dX8_makeLonger_54 ?_
      refine V_iconst (pc := 56) C dX8_makeLonger_56 ?_
      refine V_isub (pc := 57) C dX8_makeLonger_57 ?_
      refine V_iload (pc := 58) C 4 rfl dX8_makeLonger_58 ?_
      refine V_iload_n (pc := 60) C 2 rfl dX8_makeLonger_60 ?_
      obtain ⟨g25, h⟩ := grd_of h
      obtain ⟨M26, r27, hc28, h⟩ := cal_of h
      refine V_callVI (pc := 61) C (c_X8_copyWithElement l Γ sk hsk fu 8 (by decide) g25 hr2 ha2 hc28) cf_X8_copyWithElement lk_X8_84 ⟨rfl, rfl⟩ ⟨Nat.le_of_ble_eq_true rfl, Nat.le_of_ble_eq_true rfl⟩ e4 rfl rfl rfl (Nat.le_of_ble_eq_true rfl) ⟨Nat.zero_le _, Nat.zero_le _⟩ rfl dX8_makeLonger_61 (fun hr27 => ?_)
      refine V_istore (pc := 64) C (L' := [(0, vr Γ 4), (1, vi a1), (2, vi a2), (3, vi (M 5 0)), (4, vi r2), (5, vi r5), (6, vi r9), (7, vi r27)]) rfl (by decide) dX8_makeLonger_64 ?_
      refine V_aload_n (pc := 66) C 0 rfl dX8_makeLonger_66 ?_
      refine V_iload (pc := 67) C 6 rfl dX8_makeLonger_67 ?_
      refine V_iload (pc := 69) C 5 rfl dX8_makeLonger_69 ?_
      refine V_iload (pc := 71) C 7 rfl dX8_makeLonger_71 ?_
      obtain ⟨M29, r30, hc31, h⟩ := cal_of h
      refine V_callVI (pc := 73) C (c_X8_addRoot l Γ sk hsk fu hr9 hr5 hr27 hc31) cf_X8_addRoot lk_X8_91 ⟨rfl, rfl⟩ ⟨Nat.le_of_ble_eq_true rfl, Nat.le_of_ble_eq_true rfl⟩ e4 rfl rfl rfl (Nat.le_of_ble_eq_true rfl) ⟨Nat.zero_le _, Nat.zero_le _⟩ rfl dX8_makeLonger_73 (fun hr30 => ?_)
      refine V_istore (pc := 76) C (L' := [(0, vr Γ 4), (1, vi a1), (2, vi a2), (3, vi (M 5 0)), (4, vi r2), (5, vi r30), (6, vi r9), (7, vi r27)]) rfl (by decide) dX8_makeLonger_76 ?_
      refine V_goto (pc := 78) C 94 dX8_makeLonger_78 (by decide) ?_
      refine V_sub (L' := [(0, vr Γ 4), (1, vi a1), (2, vi a2), (3, vi (M 5 0)), (4, vi r2), (5, vi r30)]) [0, 1, 2, 3, 4, 5] rfl (by decide) ?_
      exact JP94 ha1 ha2 (hM _ _) hr2 hr30 h
set_option maxRecDepth 100000 in
set_option maxHeartbeats 4000000 in
theorem c_X8_firstNodeAt (l : Launch) (Γ : GG) (sk : List SD) (hsk : Ext sk) (fu : Nat) {M M' : Mem} {a1 : Int} {a2 : Int} {r : Int} (ha1 : rng a1) (ha2 : rng a2) (h : f_X8_firstNodeAt fu M a1 a2 = some (M', r)) : MetI l yX8_firstNodeAt cX8_firstNodeAt 5 .int ({ frames := 3, cells := 0, slots := 0, locals := 63 } : Room) Γ sk [vr Γ 4, vi a1, vi a2] M M' r := by
  unfold f_X8_firstNodeAt at h
  refine MetI_of RX8 rfl (by decide) rfl (Nat.le_of_ble_eq_true rfl) rfl ?_
  intro p e s m args below meth c C hr hlk hM
  have e4 := hsk 4 _ (by decide) rfl
  have e5 := hsk 5 _ (by decide) rfl
  have e10 := hsk 10 _ (by decide) rfl
  have LP16 : ∀ (n : Nat) {x2 : Int} {x3 : Int} {x4 : Int} {M : Mem}, rng x2 → rng x3 → rng x4 → f_X8_firstNodeAt_L16 fu n x2 x3 x4 M = some (M', r) → VV p l e ({ frames := 3, cells := 0, slots := 0, locals := 63 } : Room) s m args below meth c (MQ below (PostI Γ sk M' r s.heap.size) args s 0 0 (Fr Γ sk s.heap.size)) 5 Γ sk M 0 0 16 [(0, vr Γ 4), (2, vi x2), (3, vi x3), (4, vi x4)] [] := by
    intro n
    induction n with
    | zero =>
      intro x2 x3 x4 M hx2 hx3 hx4 h
      cases h
    | succ n ih =>
      intro x2 x3 x4 M hx2 hx3 hx4 h
      rw [f_X8_firstNodeAt_L16] at h
      refine V_iload (pc := 16) C 3 rfl dX8_firstNodeAt_16 ?_
      refine V_iload_n (pc := 18) C 1 rfl dX8_firstNodeAt_18 ?_
      refine V_icmp_le (pc := 19) C 38 hx4 hx2 dX8_firstNodeAt_19 (by decide) (fun c19_7 => ?_) (fun c19_7 => ?_)
      · have h := ite_t h c19_7
        refine V_iload_n (pc := 38) C 2 rfl dX8_firstNodeAt_38 ?_
        exact V_iret (pc := 39) C hr hlk hx3 h dX8_firstNodeAt_39
      · have h := ite_f h c19_7
        refine V_aload_n (pc := 22) C 0 rfl dX8_firstNodeAt_22 ?_
        refine V_getR (pc := 23) C e4 rfl inX8 0 (by decide) rfl lf_X8_12 rfl dX8_firstNodeAt_23 ?_
        refine V_iload_n (pc := 26) C 2 rfl dX8_firstNodeAt_26 ?_
        refine V_iconst (pc := 27) C dX8_firstNodeAt_27 ?_
        obtain ⟨M8, r9, hc10, h⟩ := cal_of h
        refine V_callVI (pc := 28) C (c_X3_entryAt l Γ sk hsk fu hx3 (by decide) hc10) cf_X3_entryAt lk_X8_75 ⟨rfl, rfl⟩ ⟨Nat.le_of_ble_eq_true rfl, Nat.le_of_ble_eq_true rfl⟩ e5 rfl rfl rfl (Nat.le_of_ble_eq_true rfl) ⟨Nat.zero_le _, Nat.zero_le _⟩ rfl dX8_firstNodeAt_28 (fun hr9 => ?_)
        refine V_istore_n (pc := 31) C (L' := [(0, vr Γ 4), (2, vi x2), (3, vi r9), (4, vi x4)]) rfl (by decide) dX8_firstNodeAt_31 ?_
        refine V_iinc (pc := 32) C (L' := [(0, vr Γ 4), (2, vi x2), (3, vi r9), (4, vi (x4 + (-1 : Int)))]) 3 rfl rfl (by decide) dX8_firstNodeAt_32 ?_
        refine V_goto (pc := 35) C 16 dX8_firstNodeAt_35 (by decide) ?_
        obtain ⟨g11, h⟩ := grd_of h
        refine V_sub (L' := [(0, vr Γ 4), (2, vi x2), (3, vi r9), (4, vi (x4 + (-1 : Int)))]) [0, 1, 2, 3] rfl (by decide) ?_
        exact ih hx2 hr9 g11 h
  skip
  refine V_aload_n (pc := 0) C 0 rfl dX8_firstNodeAt_0 ?_
  refine V_getR (pc := 1) C e4 rfl inX8 1 (by decide) rfl lf_X8_21 rfl dX8_firstNodeAt_1 ?_
  refine V_iload_n (pc := 4) C 1 rfl dX8_firstNodeAt_4 ?_
  obtain ⟨M1, r2, hc3, h⟩ := cal_of h
  refine V_callVI (pc := 5) C (c_X10_rootAt l Γ sk hsk fu ha1 hc3) cf_X10_rootAt lk_X8_69 ⟨rfl, rfl⟩ ⟨Nat.le_of_ble_eq_true rfl, Nat.le_of_ble_eq_true rfl⟩ e10 rfl rfl rfl (Nat.le_of_ble_eq_true rfl) ⟨Nat.zero_le _, Nat.zero_le _⟩ rfl dX8_firstNodeAt_5 (fun hr2 => ?_)
  refine V_istore_n (pc := 8) C (L' := [(0, vr Γ 4), (1, vi a1), (2, vi a2), (3, vi r2)]) rfl (by decide) dX8_firstNodeAt_8 ?_
  refine V_aload_n (pc := 9) C 0 rfl dX8_firstNodeAt_9 ?_
  refine V_iload_n (pc := 10) C 1 rfl dX8_firstNodeAt_10 ?_
  obtain ⟨M4, r5, hc6, h⟩ := cal_of h
  refine V_callVI (pc := 11) C (c_X8_heightAt l Γ sk hsk fu ha1 hc6) cf_X8_heightAt lk_X8_72 ⟨rfl, rfl⟩ ⟨Nat.le_of_ble_eq_true rfl, Nat.le_of_ble_eq_true rfl⟩ e4 rfl rfl rfl (Nat.le_of_ble_eq_true rfl) ⟨Nat.zero_le _, Nat.zero_le _⟩ rfl dX8_firstNodeAt_11 (fun hr5 => ?_)
  refine V_istore (pc := 14) C (L' := [(0, vr Γ 4), (1, vi a1), (2, vi a2), (3, vi r2), (4, vi r5)]) rfl (by decide) dX8_firstNodeAt_14 ?_
  refine V_sub (L' := [(0, vr Γ 4), (2, vi a2), (3, vi r2), (4, vi r5)]) [0, 2, 3, 4] rfl (by decide) ?_
  exact LP16 fu  ha2 hr2 hr5 h
set_option maxRecDepth 100000 in
set_option maxHeartbeats 4000000 in
theorem c_X8_countElements (l : Launch) (Γ : GG) (sk : List SD) (hsk : Ext sk) (fu : Nat) {M M' : Mem} {a1 : Int} {a2 : Int} {r : Int} (ha1 : rng a1) (ha2 : rng a2) (h : f_X8_countElements fu M a1 a2 = some (M', r)) : MetI l yX8_countElements cX8_countElements 7 .int ({ frames := 2, cells := 0, slots := 0, locals := 43 } : Room) Γ sk [vr Γ 4, vi a1, vi a2] M M' r := by
  unfold f_X8_countElements at h
  refine MetI_of RX8 rfl (by decide) rfl (Nat.le_of_ble_eq_true rfl) rfl ?_
  intro p e s m args below meth c C hr hlk hM
  have e4 := hsk 4 _ (by decide) rfl
  have e5 := hsk 5 _ (by decide) rfl
  have LP8 : ∀ (n : Nat) {x3 : Int} {x4 : Int} {x5 : Int} {M : Mem}, rng x3 → rng x4 → rng x5 → f_X8_countElements_L8 fu n x3 x4 x5 M = some (M', r) → VV p l e ({ frames := 2, cells := 0, slots := 0, locals := 43 } : Room) s m args below meth c (MQ below (PostI Γ sk M' r s.heap.size) args s 0 0 (Fr Γ sk s.heap.size)) 7 Γ sk M 0 0 8 [(0, vr Γ 4), (3, vi x3), (4, vi x4), (5, vi x5)] [] := by
    intro n
    induction n with
    | zero =>
      intro x3 x4 x5 M hx3 hx4 hx5 h
      cases h
    | succ n ih =>
      intro x3 x4 x5 M hx3 hx4 hx5 h
      rw [f_X8_countElements_L8] at h
      refine V_iload (pc := 8) C 3 rfl dX8_countElements_8 ?_
      refine V_iconst (pc := 10) C dX8_countElements_10 ?_
      refine V_icmp_le (pc := 11) C 58 hx5 (by decide) dX8_countElements_11 (by decide) (fun c11_1 => ?_) (fun c11_1 => ?_)
      · have h := ite_t h c11_1
        refine V_iload (pc := 58) C 2 rfl dX8_countElements_58 ?_
        refine V_aload_n (pc := 60) C 0 rfl dX8_countElements_60 ?_
        refine V_getR (pc := 61) C e4 rfl inX8 0 (by decide) rfl lf_X8_12 rfl dX8_countElements_61 ?_
        refine V_iload_n (pc := 64) C 1 rfl dX8_countElements_64 ?_
        obtain ⟨M2, r3, hc4, h⟩ := cal_of h
        refine V_callVI (pc := 65) C (c_X3_fillAt l Γ sk hsk fu hx3 hc4) cf_X3_fillAt lk_X8_104 ⟨rfl, rfl⟩ ⟨Nat.le_of_ble_eq_true rfl, Nat.le_of_ble_eq_true rfl⟩ e5 rfl rfl rfl (Nat.le_of_ble_eq_true rfl) ⟨Nat.zero_le _, Nat.zero_le _⟩ rfl dX8_countElements_65 (fun hr3 => ?_)
        refine V_iadd (pc := 68) C dX8_countElements_68 ?_
        obtain ⟨g5, h⟩ := grd_of h
        exact V_iret (pc := 69) C hr hlk g5 h dX8_countElements_69
      · have h := ite_f h c11_1
        refine V_aload_n (pc := 14) C 0 rfl dX8_countElements_14 ?_
        refine V_getR (pc := 15) C e4 rfl inX8 0 (by decide) rfl lf_X8_12 rfl dX8_countElements_15 ?_
        refine V_iload_n (pc := 18) C 1 rfl dX8_countElements_18 ?_
        obtain ⟨M6, r7, hc8, h⟩ := cal_of h
        refine V_callVI (pc := 19) C (c_X3_fillAt l Γ sk hsk fu hx3 hc8) cf_X3_fillAt lk_X8_104 ⟨rfl, rfl⟩ ⟨Nat.le_of_ble_eq_true rfl, Nat.le_of_ble_eq_true rfl⟩ e5 rfl rfl rfl (Nat.le_of_ble_eq_true rfl) ⟨Nat.zero_le _, Nat.zero_le _⟩ rfl dX8_countElements_19 (fun hr7 => ?_)
        refine V_iconst (pc := 22) C dX8_countElements_22 ?_
        refine V_isub (pc := 23) C dX8_countElements_23 ?_
        refine V_istore (pc := 24) C (L' := [(0, vr Γ 4), (3, vi x3), (4, vi x4), (5, vi x5), (6, vi (r7 - (1 : Int)))]) rfl (by decide) dX8_countElements_24 ?_
        refine V_iload (pc := 26) C 2 rfl dX8_countElements_26 ?_
        refine V_iload (pc := 28) C 4 rfl dX8_countElements_28 ?_
        refine V_iload (pc := 30) C 3 rfl dX8_countElements_30 ?_
        refine V_iconst (pc := 32) C dX8_countElements_32 ?_
        refine V_isub (pc := 33) C dX8_countElements_33 ?_
        obtain ⟨g9, h⟩ := grd_of h
        obtain ⟨M10, r11, hc12, h⟩ := cal_of h
        refine V_callNI (pc := 34) C (c_X11_capacity l Γ sk hsk fu g9 hc12) cf_X11_capacity ln_X8_114 ⟨rfl, rfl⟩ ⟨Nat.le_of_ble_eq_true rfl, Nat.le_of_ble_eq_true rfl⟩ rfl (Nat.le_of_ble_eq_true rfl) ⟨Nat.zero_le _, Nat.zero_le _⟩ rfl dX8_countElements_34 (fun hr11 => ?_)
        refine V_imul (pc := 37) C dX8_countElements_37 ?_
        refine V_iadd (pc := 38) C dX8_countElements_38 ?_
        refine V_istore (pc := 39) C (L' := [(0, vr Γ 4), (3, vi x3), (4, vi (x4 + ((r7 - (1 : Int)) * r11))), (5, vi x5), (6, vi (r7 - (1 : Int)))]) rfl (by decide) dX8_countElements_39 ?_
        refine V_aload_n (pc := 41) C 0 rfl dX8_countElements_41 ?_
        refine V_getR (pc := 42) C e4 rfl inX8 0 (by decide) rfl lf_X8_12 rfl dX8_countElements_42 ?_
        refine V_iload_n (pc := 45) C 1 rfl dX8_countElements_45 ?_
        refine V_iload (pc := 46) C 4 rfl dX8_countElements_46 ?_
        obtain ⟨g13, h⟩ := grd_of h
        obtain ⟨M14, r15, hc16, h⟩ := cal_of h
        refine V_callVI (pc := 48) C (c_X3_entryAt l Γ sk hsk fu hx3 g13 hc16) cf_X3_entryAt lk_X8_75 ⟨rfl, rfl⟩ ⟨Nat.le_of_ble_eq_true rfl, Nat.le_of_ble_eq_true rfl⟩ e5 rfl rfl rfl (Nat.le_of_ble_eq_true rfl) ⟨Nat.zero_le _, Nat.zero_le _⟩ rfl dX8_countElements_48 (fun hr15 => ?_)
        refine V_istore_n (pc := 51) C (L' := [(0, vr Γ 4), (3, vi r15), (4, vi (x4 + ((r7 - (1 : Int)) * r11))), (5, vi x5), (6, vi (r7 - (1 : Int)))]) rfl (by decide) dX8_countElements_51 ?_
        refine V_iinc (pc := 52) C (L' := [(0, vr Γ 4), (3, vi r15), (4, vi (x4 + ((r7 - (1 : Int)) * r11))), (5, vi (x5 + (-1 : Int))), (6, vi (r7 - (1 : Int)))]) 3 rfl rfl (by decide) dX8_countElements_52 ?_
        refine V_goto (pc := 55) C 8 dX8_countElements_55 (by decide) ?_
        obtain ⟨g17, h⟩ := grd_of h
        obtain ⟨g18, h⟩ := grd_of h
        refine V_sub (L' := [(0, vr Γ 4), (3, vi r15), (4, vi (x4 + ((r7 - (1 : Int)) * r11))), (5, vi (x5 + (-1 : Int)))]) [0, 1, 2, 3] rfl (by decide) ?_
        exact ih hr15 g17 g18 h
  skip
  refine V_iload_n (pc := 0) C 1 rfl dX8_countElements_0 ?_
  refine V_istore_n (pc := 1) C (L' := [(0, vr Γ 4), (1, vi a1), (2, vi a2), (3, vi a1)]) rfl (by decide) dX8_countElements_1 ?_
  refine V_iconst (pc := 2) C dX8_countElements_2 ?_
  refine V_istore (pc := 3) C (L' := [(0, vr Γ 4), (1, vi a1), (2, vi a2), (3, vi a1), (4, vi (0 : Int))]) rfl (by decide) dX8_countElements_3 ?_
  refine V_iload_n (pc := 5) C 2 rfl dX8_countElements_5 ?_
  refine V_istore (pc := 6) C (L' := [(0, vr Γ 4), (1, vi a1), (2, vi a2), (3, vi a1), (4, vi (0 : Int)), (5, vi a2)]) rfl (by decide) dX8_countElements_6 ?_
  refine V_sub (L' := [(0, vr Γ 4), (3, vi a1), (4, vi (0 : Int)), (5, vi a2)]) [0, 3, 4, 5] rfl (by decide) ?_
  exact LP8 fu  ha1 (by decide) ha2 h
set_option maxRecDepth 100000 in
set_option maxHeartbeats 4000000 in
theorem c_X8_copyWithFirst (l : Launch) (Γ : GG) (sk : List SD) (hsk : Ext sk) (fu : Nat) : ∀ (d : Nat) {M M' : Mem} {a1 : Int} {a2 : Int} {a3 : Int} {r : Int} (ha1 : rng a1) (ha2 : rng a2) (ha3 : rng a3) (h : f_X8_copyWithFirst fu d M a1 a2 a3 = some (M', r)), MetI l yX8_copyWithFirst cX8_copyWithFirst 6 .int ({ frames := 4 * (d + 1), cells := 0, slots := 0, locals := 140 * (d + 1) } : Room) Γ sk [vr Γ 4, vi a1, vi a2, vi a3] M M' r := by
  intro d
  induction d with
  | zero =>
    intro M M' a1 a2 a3 r ha1 ha2 ha3 h
    cases h
  | succ d hsf =>
    intro M M' a1 a2 a3 r ha1 ha2 ha3 h
    rw [f_X8_copyWithFirst] at h
    refine MetI_of RX8 rfl (by decide) rfl (Nat.le_of_ble_eq_true rfl) rfl ?_
    intro p e s m args below meth c C hr hlk hM
    have e4 := hsk 4 _ (by decide) rfl
    have e5 := hsk 5 _ (by decide) rfl
    generalize hsfe : f_X8_copyWithFirst fu d = sf at h hsf
    have JP60 : ∀ {x1 : Int} {x2 : Int} {x4 : Int} {x5 : Int} {M : Mem}, rng x1 → rng x2 → rng x4 → rng x5 → f_X8_copyWithFirst_J60 fu sf x1 x2 x4 x5 M = some (M', r) → VV p l e ({ frames := 4 * (d + 1 + 1), cells := 0, slots := 0, locals := 140 * (d + 1 + 1) } : Room) s m args below meth c (MQ below (PostI Γ sk M' r s.heap.size) args s 0 0 (Fr Γ sk s.heap.size)) 6 Γ sk M 0 0 60 [(0, vr Γ 4), (1, vi x1), (2, vi x2), (4, vi x4), (5, vi x5)] [] := by
      intro x1 x2 x4 x5 M hx1 hx2 hx4 hx5 h
      unfold f_X8_copyWithFirst_J60 at h
      refine V_aload_n (pc := 60) C 0 rfl dX8_copyWithFirst_60 ?_
      refine V_getR (pc := 61) C e4 rfl inX8 0 (by decide) rfl lf_X8_12 rfl dX8_copyWithFirst_61 ?_
      refine V_iload_n (pc := 64) C 1 rfl dX8_copyWithFirst_64 ?_
      refine V_iload_n (pc := 65) C 2 rfl dX8_copyWithFirst_65 ?_
      refine V_iload (pc := 66) C 3 rfl dX8_copyWithFirst_66 ?_
      refine V_iload (pc := 68) C 3 rfl dX8_copyWithFirst_68 ?_
      refine V_iload (pc := 70) C 4 rfl dX8_copyWithFirst_70 ?_
      obtain ⟨M13, r14, hc15, h⟩ := cal_of h
      refine V_callVI (pc := 72) C (c_X3_addCopy l Γ sk hsk fu hx1 hx2 hx4 hx4 hx5 hc15) cf_X3_addCopy lk_X8_107 ⟨rfl, rfl⟩ ⟨by dsimp only; omega, by dsimp only; omega⟩ e5 rfl rfl rfl (Nat.le_of_ble_eq_true rfl) ⟨Nat.zero_le _, Nat.zero_le _⟩ rfl dX8_copyWithFirst_72 (fun hr14 => ?_)
      exact V_iret (pc := 75) C hr hlk hr14 h dX8_copyWithFirst_75
    skip
    refine V_aload_n (pc := 0) C 0 rfl dX8_copyWithFirst_0 ?_
    refine V_iload_n (pc := 1) C 1 rfl dX8_copyWithFirst_1 ?_
    refine V_iload_n (pc := 2) C 2 rfl dX8_copyWithFirst_2 ?_
    obtain ⟨M1, r2, hc3, h⟩ := cal_of h
    refine V_callVI (pc := 3) C (c_X8_countElements l Γ sk hsk fu ha1 ha2 hc3) cf_X8_countElements lk_X8_111 ⟨rfl, rfl⟩ ⟨by dsimp only; omega, by dsimp only; omega⟩ e4 rfl rfl rfl (Nat.le_of_ble_eq_true rfl) ⟨Nat.zero_le _, Nat.zero_le _⟩ rfl dX8_copyWithFirst_3 (fun hr2 => ?_)
    refine V_iload_n (pc := 6) C 3 rfl dX8_copyWithFirst_6 ?_
    refine V_icmp_ne (pc := 7) C 12 hr2 ha3 dX8_copyWithFirst_7 (by decide) (fun c7_4 => ?_) (fun c7_4 => ?_)
    · have h := ite_f h c7_4
      refine V_iload_n (pc := 12) C 2 rfl dX8_copyWithFirst_12 ?_
      refine V_iload_n (pc := 13) C 3 rfl dX8_copyWithFirst_13 ?_
      refine V_iconst (pc := 14) C dX8_copyWithFirst_14 ?_
      refine V_isub (pc := 15) C dX8_copyWithFirst_15 ?_
      obtain ⟨g5, h⟩ := grd_of h
      obtain ⟨M6, r7, hc8, h⟩ := cal_of h
      refine V_callNI (pc := 16) C (c_X11_positionIn l Γ sk hsk fu ha2 g5 hc8) cf_X11_positionIn ln_X8_52 ⟨rfl, rfl⟩ ⟨by dsimp only; omega, by dsimp only; omega⟩ rfl (Nat.le_of_ble_eq_true rfl) ⟨Nat.zero_le _, Nat.zero_le _⟩ rfl dX8_copyWithFirst_16 (fun hr7 => ?_)
      refine V_istore (pc := 19) C (L' := [(0, vr Γ 4), (1, vi a1), (2, vi a2), (3, vi a3), (4, vi r7)]) rfl (by decide) dX8_copyWithFirst_19 ?_
      refine V_aload_n (pc := 21) C 0 rfl dX8_copyWithFirst_21 ?_
      refine V_getR (pc := 22) C e4 rfl inX8 0 (by decide) rfl lf_X8_12 rfl dX8_copyWithFirst_22 ?_
      refine V_iload_n (pc := 25) C 1 rfl dX8_copyWithFirst_25 ?_
      refine V_iload (pc := 26) C 4 rfl dX8_copyWithFirst_26 ?_
      obtain ⟨M9, r10, hc11, h⟩ := cal_of h
      refine V_callVI (pc := 28) C (c_X3_entryAt l Γ sk hsk fu ha1 hr7 hc11) cf_X3_entryAt lk_X8_75 ⟨rfl, rfl⟩ ⟨by dsimp only; omega, by dsimp only; omega⟩ e5 rfl rfl rfl (Nat.le_of_ble_eq_true rfl) ⟨Nat.zero_le _, Nat.zero_le _⟩ rfl dX8_copyWithFirst_28 (fun hr10 => ?_)
      refine V_istore (pc := 31) C (L' := [(0, vr Γ 4), (1, vi a1), (2, vi a2), (3, vi a3), (4, vi r7), (5, vi r10)]) rfl (by decide) dX8_copyWithFirst_31 ?_
      refine V_iload_n (pc := 33) C 2 rfl dX8_copyWithFirst_33 ?_
      refine V_iconst (pc := 34) C dX8_copyWithFirst_34 ?_
      refine V_icmp_le (pc := 35) C 60 ha2 (by decide) dX8_copyWithFirst_35 (by decide) (fun c35_12 => ?_) (fun c35_12 => ?_)
      · have h := ite_t h c35_12
        refine V_sub (L' := [(0, vr Γ 4), (1, vi a1), (2, vi a2), (4, vi r7), (5, vi r10)]) [0, 1, 2, 4, 5] rfl (by decide) ?_
        exact JP60 ha1 ha2 hr7 hr10 h
      · have h := ite_f h c35_12
        refine V_aload_n (pc := 38) C 0 rfl dX8_copyWithFirst_38 ?_
        refine V_iload (pc := 39) C 5 rfl dX8_copyWithFirst_39 ?_
        refine V_iload_n (pc := 41) C 2 rfl dX8_copyWithFirst_41 ?_
        refine V_iconst (pc := 42) C dX8_copyWithFirst_42 ?_
        refine V_isub (pc := 43) C dX8_copyWithFirst_43 ?_
        refine V_iload_n (pc := 44) C 3 rfl dX8_copyWithFirst_44 ?_
        refine V_iload (pc := 45) C 4 rfl dX8_copyWithFirst_45 ?_
        refine V_iload_n (pc := 47) C 2 rfl dX8_copyWithFirst_47 ?_
        refine V_iconst (pc := 48) C dX8_copyWithFirst_48 ?_
        refine V_isub (pc := 49) C dX8_copyWithFirst_49 ?_
        obtain ⟨g16, h⟩ := grd_of h
        obtain ⟨M17, r18, hc19, h⟩ := cal_of h
        refine V_callNI (pc := 50) C (c_X11_capacity l Γ sk hsk fu g16 hc19) cf_X11_capacity ln_X8_114 ⟨rfl, rfl⟩ ⟨by dsimp only; omega, by dsimp only; omega⟩ rfl (Nat.le_of_ble_eq_true rfl) ⟨Nat.zero_le _, Nat.zero_le _⟩ rfl dX8_copyWithFirst_50 (fun hr18 => ?_)
        refine V_imul (pc := 53) C dX8_copyWithFirst_53 ?_
        refine V_isub (pc := 54) C dX8_copyWithFirst_54 ?_
        obtain ⟨g20, h⟩ := grd_of h
        obtain ⟨g21, h⟩ := grd_of h
        obtain ⟨M22, r23, hc24, h⟩ := cal_of h
        refine V_callVI (pc := 55) C (hsf hr10 g20 g21 hc24) cf_X8_copyWithFirst lk_X8_98 ⟨rfl, rfl⟩ ⟨by dsimp only; omega, by dsimp only; omega⟩ e4 rfl rfl rfl (Nat.le_of_ble_eq_true rfl) ⟨Nat.zero_le _, Nat.zero_le _⟩ rfl dX8_copyWithFirst_55 (fun hr23 => ?_)
        refine V_istore (pc := 58) C (L' := [(0, vr Γ 4), (1, vi a1), (2, vi a2), (3, vi a3), (4, vi r7), (5, vi r23)]) rfl (by decide) dX8_copyWithFirst_58 ?_
        refine V_sub (L' := [(0, vr Γ 4), (1, vi a1), (2, vi a2), (4, vi r7), (5, vi r23)]) [0, 1, 2, 4, 5] rfl (by decide) ?_
        exact JP60 ha1 ha2 hr7 hr23 h
    · have h := ite_t h c7_4
      refine V_iload_n (pc := 10) C 1 rfl dX8_copyWithFirst_10 ?_
      exact V_iret (pc := 11) C hr hlk ha1 h dX8_copyWithFirst_11
set_option maxRecDepth 100000 in
set_option maxHeartbeats 4000000 in
theorem c_X8_makeShorter (l : Launch) (Γ : GG) (sk : List SD) (hsk : Ext sk) (fu : Nat) {M M' : Mem} {a1 : Int} {a2 : Int} {r : Int} (ha1 : rng a1) (ha2 : rng a2) (h : f_X8_makeShorter fu M a1 a2 = some (M', r)) : MetI l yX8_makeShorter cX8_makeShorter 5 .int ({ frames := 37, cells := 0, slots := 0, locals := 1285 } : Room) Γ sk [vr Γ 4, vi a1, vi a2] M M' r := by
  unfold f_X8_makeShorter at h
  refine MetI_of RX8 rfl (by decide) rfl (Nat.le_of_ble_eq_true rfl) rfl ?_
  intro p e s m args below meth c C hr hlk hM
  have e4 := hsk 4 _ (by decide) rfl
  have e5 := hsk 5 _ (by decide) rfl
  have e10 := hsk 10 _ (by decide) rfl
  have JP35 : ∀ {x1 : Int} {x2 : Int} {x3 : Int} {x4 : Int} {M : Mem}, rng x1 → rng x2 → rng x3 → rng x4 → f_X8_makeShorter_J35 fu x1 x2 x3 x4 M = some (M', r) → VV p l e ({ frames := 37, cells := 0, slots := 0, locals := 1285 } : Room) s m args below meth c (MQ below (PostI Γ sk M' r s.heap.size) args s 0 0 (Fr Γ sk s.heap.size)) 5 Γ sk M 0 0 35 [(0, vr Γ 4), (1, vi x1), (2, vi x2), (3, vi x3), (4, vi x4)] [] := by
    intro x1 x2 x3 x4 M hx1 hx2 hx3 hx4 h
    unfold f_X8_makeShorter_J35 at h
    refine V_aload_n (pc := 35) C 0 rfl dX8_makeShorter_35 ?_
    refine V_getR (pc := 36) C e4 rfl inX8 1 (by decide) rfl lf_X8_21 rfl dX8_makeShorter_36 ?_
    refine V_iload_n (pc := 39) C 1 rfl dX8_makeShorter_39 ?_
    refine V_iload (pc := 40) C 4 rfl dX8_makeShorter_40 ?_
    refine V_iload_n (pc := 42) C 2 rfl dX8_makeShorter_42 ?_
    refine V_aload_n (pc := 43) C 0 rfl dX8_makeShorter_43 ?_
    refine V_getR (pc := 44) C e4 rfl inX8 0 (by decide) rfl lf_X8_12 rfl dX8_makeShorter_44 ?_
    refine V_rng fun hM2 => ?_
    refine V_getI (pc := 47) C e5 rfl inX3 0 (by decide) rfl lf_X8_32 rfl dX8_makeShorter_47 ?_
    refine V_iload_n (pc := 50) C 3 rfl dX8_makeShorter_50 ?_
    refine V_isub (pc := 51) C dX8_makeShorter_51 ?_
    refine V_iconst (pc := 52) C dX8_makeShorter_52 ?_
    refine V_iconst (pc := 53) C dX8_makeShorter_53 ?_
    obtain ⟨g3, h⟩ := grd_of h
    obtain ⟨M4, r5, hc6, h⟩ := cal_of h
    refine V_callVI (pc := 54) C (c_X10_add l Γ sk hsk fu hx1 hx4 hx2 g3 (by decide) (by decide) hc6) cf_X10_add lk_X8_88 ⟨rfl, rfl⟩ ⟨Nat.le_of_ble_eq_true rfl, Nat.le_of_ble_eq_true rfl⟩ e10 rfl rfl rfl (Nat.le_of_ble_eq_true rfl) ⟨Nat.zero_le _, Nat.zero_le _⟩ rfl dX8_makeShorter_54 (fun hr5 => ?_)
    exact V_iret (pc := 57) C hr hlk hr5 h dX8_makeShorter_57
  skip
  refine V_aload_n (pc := 0) C 0 rfl dX8_makeShorter_0 ?_
  refine V_getR (pc := 1) C e4 rfl inX8 0 (by decide) rfl lf_X8_12 rfl dX8_makeShorter_1 ?_
  refine V_getI (pc := 4) C e5 rfl inX3 0 (by decide) rfl lf_X8_32 rfl dX8_makeShorter_4 ?_
  refine V_istore_n (pc := 7) C (L' := [(0, vr Γ 4), (1, vi a1), (2, vi a2), (3, vi (M 5 0))]) rfl (by decide) dX8_makeShorter_7 ?_
  refine V_iconst (pc := 8) C dX8_makeShorter_8 ?_
  refine V_istore (pc := 9) C (L' := [(0, vr Γ 4), (1, vi a1), (2, vi a2), (3, vi (M 5 0)), (4, vi (-1 : Int))]) rfl (by decide) dX8_makeShorter_9 ?_
  refine V_iload_n (pc := 11) C 2 rfl dX8_makeShorter_11 ?_
  refine V_if_le (pc := 12) C 35 ha2 dX8_makeShorter_12 (by decide) (fun c12_1 => ?_) (fun c12_1 => ?_)
  · have h := ite_t h c12_1
    refine V_sub (L' := [(0, vr Γ 4), (1, vi a1), (2, vi a2), (3, vi (M 5 0)), (4, vi (-1 : Int))]) [0, 1, 2, 3, 4] rfl (by decide) ?_
    exact JP35 ha1 ha2 (hM _ _) (by decide) h
  · have h := ite_f h c12_1
    refine V_aload_n (pc := 15) C 0 rfl dX8_makeShorter_15 ?_
    refine V_aload_n (pc := 16) C 0 rfl dX8_makeShorter_16 ?_
    refine V_iload_n (pc := 17) C 1 rfl dX8_makeShorter_17 ?_
    refine V_iload_n (pc := 18) C 2 rfl dX8_makeShorter_18 ?_
    obtain ⟨M7, r8, hc9, h⟩ := cal_of h
    refine V_callNI (pc := 19) C (c_X11_heightFor l Γ sk hsk fu ha2 hc9) cf_X11_heightFor ln_X8_40 ⟨rfl, rfl⟩ ⟨Nat.le_of_ble_eq_true rfl, Nat.le_of_ble_eq_true rfl⟩ rfl (Nat.le_of_ble_eq_true rfl) ⟨Nat.zero_le _, Nat.zero_le _⟩ rfl dX8_makeShorter_19 (fun hr8 => ?_)
    obtain ⟨M10, r11, hc12, h⟩ := cal_of h
    refine V_callVI (pc := 22) C (c_X8_firstNodeAt l Γ sk hsk fu ha1 hr8 hc12) cf_X8_firstNodeAt lk_X8_95 ⟨rfl, rfl⟩ ⟨Nat.le_of_ble_eq_true rfl, Nat.le_of_ble_eq_true rfl⟩ e4 rfl rfl rfl (Nat.le_of_ble_eq_true rfl) ⟨Nat.zero_le _, Nat.zero_le _⟩ rfl dX8_makeShorter_22 (fun hr11 => ?_)
    refine V_iload_n (pc := 25) C 2 rfl dX8_makeShorter_25 ?_
    obtain ⟨M13, r14, hc15, h⟩ := cal_of h
    refine V_callNI (pc := 26) C (c_X11_heightFor l Γ sk hsk fu ha2 hc15) cf_X11_heightFor ln_X8_40 ⟨rfl, rfl⟩ ⟨Nat.le_of_ble_eq_true rfl, Nat.le_of_ble_eq_true rfl⟩ rfl (Nat.le_of_ble_eq_true rfl) ⟨Nat.zero_le _, Nat.zero_le _⟩ rfl dX8_makeShorter_26 (fun hr14 => ?_)
    refine V_iload_n (pc := 29) C 2 rfl dX8_makeShorter_29 ?_
    obtain ⟨M16, r17, hc18, h⟩ := cal_of h
    refine V_callVI (pc := 30) C (c_X8_copyWithFirst l Γ sk hsk fu 8 hr11 hr14 ha2 hc18) cf_X8_copyWithFirst lk_X8_98 ⟨rfl, rfl⟩ ⟨Nat.le_of_ble_eq_true rfl, Nat.le_of_ble_eq_true rfl⟩ e4 rfl rfl rfl (Nat.le_of_ble_eq_true rfl) ⟨Nat.zero_le _, Nat.zero_le _⟩ rfl dX8_makeShorter_30 (fun hr17 => ?_)
    refine V_istore (pc := 33) C (L' := [(0, vr Γ 4), (1, vi a1), (2, vi a2), (3, vi (M 5 0)), (4, vi r17)]) rfl (by decide) dX8_makeShorter_33 ?_
    refine V_sub (L' := [(0, vr Γ 4), (1, vi a1), (2, vi a2), (3, vi (M 5 0)), (4, vi r17)]) [0, 1, 2, 3, 4] rfl (by decide) ?_
    exact JP35 ha1 ha2 (hM _ _) hr17 h
set_option maxRecDepth 100000 in
set_option maxHeartbeats 4000000 in
theorem c_X8_countNodesFrom (l : Launch) (Γ : GG) (sk : List SD) (hsk : Ext sk) (fu : Nat) : ∀ (d : Nat) {M M' : Mem} {a1 : Int} {a2 : Int} {r : Int} (ha1 : rng a1) (ha2 : rng a2) (h : f_X8_countNodesFrom fu d M a1 a2 = some (M', r)), MetI l yX8_countNodesFrom cX8_countNodesFrom 5 .int ({ frames := 3 * (d + 1), cells := 0, slots := 0, locals := 103 * (d + 1) } : Room) Γ sk [vr Γ 4, vi a1, vi a2] M M' r := by
  intro d
  induction d with
  | zero =>
    intro M M' a1 a2 r ha1 ha2 h
    cases h
  | succ d hsf =>
    intro M M' a1 a2 r ha1 ha2 h
    rw [f_X8_countNodesFrom] at h
    refine MetI_of RX8 rfl (by decide) rfl (Nat.le_of_ble_eq_true rfl) rfl ?_
    intro p e s m args below meth c C hr hlk hM
    have e4 := hsk 4 _ (by decide) rfl
    have e5 := hsk 5 _ (by decide) rfl
    generalize hsfe : f_X8_countNodesFrom fu d = sf at h hsf
    have LP12 : ∀ (n : Nat) {x1 : Int} {x2 : Int} {x3 : Int} {x4 : Int} {M : Mem}, rng x1 → rng x2 → rng x3 → rng x4 → f_X8_countNodesFrom_L12 fu sf n x1 x2 x3 x4 M = some (M', r) → VV p l e ({ frames := 3 * (d + 1 + 1), cells := 0, slots := 0, locals := 103 * (d + 1 + 1) } : Room) s m args below meth c (MQ below (PostI Γ sk M' r s.heap.size) args s 0 0 (Fr Γ sk s.heap.size)) 5 Γ sk M 0 0 12 [(0, vr Γ 4), (1, vi x1), (2, vi x2), (3, vi x3), (4, vi x4)] [] := by
      intro n
      induction n with
      | zero =>
        intro x1 x2 x3 x4 M hx1 hx2 hx3 hx4 h
        cases h
      | succ n ih =>
        intro x1 x2 x3 x4 M hx1 hx2 hx3 hx4 h
        rw [f_X8_countNodesFrom_L12] at h
        refine V_iload_n (pc := 12) C 2 rfl dX8_countNodesFrom_12 ?_
        refine V_iconst (pc := 13) C dX8_countNodesFrom_13 ?_
        refine V_icmp_le (pc := 14) C 56 hx2 (by decide) dX8_countNodesFrom_14 (by decide) (fun c14_2 => ?_) (fun c14_2 => ?_)
        · have h := ite_t h c14_2
          refine V_iload_n (pc := 56) C 3 rfl dX8_countNodesFrom_56 ?_
          exact V_iret (pc := 57) C hr hlk hx3 h dX8_countNodesFrom_57
        · have h := ite_f h c14_2
          refine V_iload (pc := 17) C 4 rfl dX8_countNodesFrom_17 ?_
          refine V_aload_n (pc := 19) C 0 rfl dX8_countNodesFrom_19 ?_
          refine V_getR (pc := 20) C e4 rfl inX8 0 (by decide) rfl lf_X8_12 rfl dX8_countNodesFrom_20 ?_
          refine V_iload_n (pc := 23) C 1 rfl dX8_countNodesFrom_23 ?_
          obtain ⟨M3, r4, hc5, h⟩ := cal_of h
          refine V_callVI (pc := 24) C (c_X3_fillAt l Γ sk hsk fu hx1 hc5) cf_X3_fillAt lk_X8_104 ⟨rfl, rfl⟩ ⟨by dsimp only; omega, by dsimp only; omega⟩ e5 rfl rfl rfl (Nat.le_of_ble_eq_true rfl) ⟨Nat.zero_le _, Nat.zero_le _⟩ rfl dX8_countNodesFrom_24 (fun hr4 => ?_)
          refine V_icmp_ge (pc := 27) C 56 hx4 hr4 dX8_countNodesFrom_27 (by decide) (fun c27_6 => ?_) (fun c27_6 => ?_)
          · have h := ite_t h c27_6
            refine V_iload_n (pc := 56) C 3 rfl dX8_countNodesFrom_56 ?_
            exact V_iret (pc := 57) C hr hlk hx3 h dX8_countNodesFrom_57
          · have h := ite_f h c27_6
            refine V_iload_n (pc := 30) C 3 rfl dX8_countNodesFrom_30 ?_
            refine V_aload_n (pc := 31) C 0 rfl dX8_countNodesFrom_31 ?_
            refine V_aload_n (pc := 32) C 0 rfl dX8_countNodesFrom_32 ?_
            refine V_getR (pc := 33) C e4 rfl inX8 0 (by decide) rfl lf_X8_12 rfl dX8_countNodesFrom_33 ?_
            refine V_iload_n (pc := 36) C 1 rfl dX8_countNodesFrom_36 ?_
            refine V_iload (pc := 37) C 4 rfl dX8_countNodesFrom_37 ?_
            obtain ⟨M7, r8, hc9, h⟩ := cal_of h
            refine V_callVI (pc := 39) C (c_X3_entryAt l Γ sk hsk fu hx1 hx4 hc9) cf_X3_entryAt lk_X8_75 ⟨rfl, rfl⟩ ⟨by dsimp only; omega, by dsimp only; omega⟩ e5 rfl rfl rfl (Nat.le_of_ble_eq_true rfl) ⟨Nat.zero_le _, Nat.zero_le _⟩ rfl dX8_countNodesFrom_39 (fun hr8 => ?_)
            refine V_iload_n (pc := 42) C 2 rfl dX8_countNodesFrom_42 ?_
            refine V_iconst (pc := 43) C dX8_countNodesFrom_43 ?_
            refine V_isub (pc := 44) C dX8_countNodesFrom_44 ?_
            obtain ⟨g10, h⟩ := grd_of h
            obtain ⟨M11, r12, hc13, h⟩ := cal_of h
            refine V_callVI (pc := 45) C (hsf hr8 g10 hc13) cf_X8_countNodesFrom lk_X8_117 ⟨rfl, rfl⟩ ⟨by dsimp only; omega, by dsimp only; omega⟩ e4 rfl rfl rfl (Nat.le_of_ble_eq_true rfl) ⟨Nat.zero_le _, Nat.zero_le _⟩ rfl dX8_countNodesFrom_45 (fun hr12 => ?_)
            refine V_iadd (pc := 48) C dX8_countNodesFrom_48 ?_
            refine V_istore_n (pc := 49) C (L' := [(0, vr Γ 4), (1, vi x1), (2, vi x2), (3, vi (x3 + r12)), (4, vi x4)]) rfl (by decide) dX8_countNodesFrom_49 ?_
            refine V_iinc (pc := 50) C (L' := [(0, vr Γ 4), (1, vi x1), (2, vi x2), (3, vi (x3 + r12)), (4, vi (x4 + (1 : Int)))]) 4 rfl rfl (by decide) dX8_countNodesFrom_50 ?_
            refine V_goto (pc := 53) C 12 dX8_countNodesFrom_53 (by decide) ?_
            obtain ⟨g14, h⟩ := grd_of h
            obtain ⟨g15, h⟩ := grd_of h
            refine V_sub (L' := [(0, vr Γ 4), (1, vi x1), (2, vi x2), (3, vi (x3 + r12)), (4, vi (x4 + (1 : Int)))]) [0, 1, 2, 3, 4] rfl (by decide) ?_
            exact ih hx1 hx2 g14 g15 h
    skip
    refine V_iload_n (pc := 0) C 2 rfl dX8_countNodesFrom_0 ?_
    refine V_iconst (pc := 1) C dX8_countNodesFrom_1 ?_
    refine V_icmp_ge (pc := 2) C 7 ha2 (by decide) dX8_countNodesFrom_2 (by decide) (fun c2_1 => ?_) (fun c2_1 => ?_)
    · have h := ite_t h c2_1
      refine V_iconst (pc := 7) C dX8_countNodesFrom_7 ?_
      refine V_istore_n (pc := 8) C (L' := [(0, vr Γ 4), (1, vi a1), (2, vi a2), (3, vi (1 : Int))]) rfl (by decide) dX8_countNodesFrom_8 ?_
      refine V_iconst (pc := 9) C dX8_countNodesFrom_9 ?_
      refine V_istore (pc := 10) C (L' := [(0, vr Γ 4), (1, vi a1), (2, vi a2), (3, vi (1 : Int)), (4, vi (0 : Int))]) rfl (by decide) dX8_countNodesFrom_10 ?_
      refine V_sub (L' := [(0, vr Γ 4), (1, vi a1), (2, vi a2), (3, vi (1 : Int)), (4, vi (0 : Int))]) [0, 1, 2, 3, 4] rfl (by decide) ?_
      exact LP12 fu  ha1 ha2 (by decide) (by decide) h
    · have h := ite_f h c2_1
      refine V_iconst (pc := 5) C dX8_countNodesFrom_5 ?_
      exact V_iret (pc := 6) C hr hlk (by decide) h dX8_countNodesFrom_6
set_option maxRecDepth 100000 in
set_option maxHeartbeats 4000000 in
theorem c_X8_countTree (l : Launch) (Γ : GG) (sk : List SD) (hsk : Ext sk) (fu : Nat) {M M' : Mem} {a1 : Int} {r : Int} (ha1 : rng a1) (h : f_X8_countTree fu M a1 = some (M', r)) : MetI l yX8_countTree cX8_countTree 2 .int ({ frames := 28, cells := 0, slots := 0, locals := 951 } : Room) Γ sk [vr Γ 4, vi a1] M M' r := by
  unfold f_X8_countTree at h
  refine MetI_of RX8 rfl (by decide) rfl (Nat.le_of_ble_eq_true rfl) rfl ?_
  intro p e s m args below meth c C hr hlk hM
  have e4 := hsk 4 _ (by decide) rfl
  have e10 := hsk 10 _ (by decide) rfl
  refine V_aload_n (pc := 0) C 0 rfl dX8_countTree_0 ?_
  refine V_aload_n (pc := 1) C 0 rfl dX8_countTree_1 ?_
  refine V_getR (pc := 2) C e4 rfl inX8 1 (by decide) rfl lf_X8_21 rfl dX8_countTree_2 ?_
  refine V_iload_n (pc := 5) C 1 rfl dX8_countTree_5 ?_
  obtain ⟨M1, r2, hc3, h⟩ := cal_of h
  refine V_callVI (pc := 6) C (c_X10_rootAt l Γ sk hsk fu ha1 hc3) cf_X10_rootAt lk_X8_69 ⟨rfl, rfl⟩ ⟨Nat.le_of_ble_eq_true rfl, Nat.le_of_ble_eq_true rfl⟩ e10 rfl rfl rfl (Nat.le_of_ble_eq_true rfl) ⟨Nat.zero_le _, Nat.zero_le _⟩ rfl dX8_countTree_6 (fun hr2 => ?_)
  refine V_aload_n (pc := 9) C 0 rfl dX8_countTree_9 ?_
  refine V_iload_n (pc := 10) C 1 rfl dX8_countTree_10 ?_
  obtain ⟨M4, r5, hc6, h⟩ := cal_of h
  refine V_callVI (pc := 11) C (c_X8_heightAt l Γ sk hsk fu ha1 hc6) cf_X8_heightAt lk_X8_72 ⟨rfl, rfl⟩ ⟨Nat.le_of_ble_eq_true rfl, Nat.le_of_ble_eq_true rfl⟩ e4 rfl rfl rfl (Nat.le_of_ble_eq_true rfl) ⟨Nat.zero_le _, Nat.zero_le _⟩ rfl dX8_countTree_11 (fun hr5 => ?_)
  obtain ⟨M7, r8, hc9, h⟩ := cal_of h
  refine V_callVI (pc := 14) C (c_X8_countNodesFrom l Γ sk hsk fu 8 hr2 hr5 hc9) cf_X8_countNodesFrom lk_X8_117 ⟨rfl, rfl⟩ ⟨Nat.le_of_ble_eq_true rfl, Nat.le_of_ble_eq_true rfl⟩ e4 rfl rfl rfl (Nat.le_of_ble_eq_true rfl) ⟨Nat.zero_le _, Nat.zero_le _⟩ rfl dX8_countTree_14 (fun hr8 => ?_)
  exact V_iret (pc := 17) C hr hlk hr8 h dX8_countTree_17
set_option maxRecDepth 100000 in
set_option maxHeartbeats 4000000 in
theorem c_X8_countAllTrees (l : Launch) (Γ : GG) (sk : List SD) (hsk : Ext sk) (fu : Nat) {M M' : Mem}  {r : Int}  (h : f_X8_countAllTrees fu M  = some (M', r)) : MetI l yX8_countAllTrees cX8_countAllTrees 3 .int ({ frames := 29, cells := 0, slots := 0, locals := 972 } : Room) Γ sk [vr Γ 4] M M' r := by
  unfold f_X8_countAllTrees at h
  refine MetI_of RX8 rfl (by decide) rfl (Nat.le_of_ble_eq_true rfl) rfl ?_
  intro p e s m args below meth c C hr hlk hM
  have e4 := hsk 4 _ (by decide) rfl
  have e10 := hsk 10 _ (by decide) rfl
  have LP4 : ∀ (n : Nat) {x1 : Int} {x2 : Int} {M : Mem}, rng x1 → rng x2 → f_X8_countAllTrees_L4 fu n x1 x2 M = some (M', r) → VV p l e ({ frames := 29, cells := 0, slots := 0, locals := 972 } : Room) s m args below meth c (MQ below (PostI Γ sk M' r s.heap.size) args s 0 0 (Fr Γ sk s.heap.size)) 3 Γ sk M 0 0 4 [(0, vr Γ 4), (1, vi x1), (2, vi x2)] [] := by
    intro n
    induction n with
    | zero =>
      intro x1 x2 M hx1 hx2 h
      cases h
    | succ n ih =>
      intro x1 x2 M hx1 hx2 h
      rw [f_X8_countAllTrees_L4] at h
      refine V_iload_n (pc := 4) C 2 rfl dX8_countAllTrees_4 ?_
      refine V_aload_n (pc := 5) C 0 rfl dX8_countAllTrees_5 ?_
      refine V_getR (pc := 6) C e4 rfl inX8 1 (by decide) rfl lf_X8_21 rfl dX8_countAllTrees_6 ?_
      refine V_rng fun hM1 => ?_
      refine V_getI (pc := 9) C e10 rfl inX10 0 (by decide) rfl lf_X8_120 rfl dX8_countAllTrees_9 ?_
      refine V_icmp_ge (pc := 12) C 40 hx2 (hM1 _ _) dX8_countAllTrees_12 (by decide) (fun c12_2 => ?_) (fun c12_2 => ?_)
      · have h := ite_t h c12_2
        refine V_iload_n (pc := 40) C 1 rfl dX8_countAllTrees_40 ?_
        exact V_iret (pc := 41) C hr hlk hx1 h dX8_countAllTrees_41
      · have h := ite_f h c12_2
        refine V_aload_n (pc := 15) C 0 rfl dX8_countAllTrees_15 ?_
        refine V_getR (pc := 16) C e4 rfl inX8 1 (by decide) rfl lf_X8_21 rfl dX8_countAllTrees_16 ?_
        refine V_iload_n (pc := 19) C 2 rfl dX8_countAllTrees_19 ?_
        obtain ⟨M3, r4, hc5, h⟩ := cal_of h
        refine V_callVI (pc := 20) C (c_X10_isLive l Γ sk hsk fu hx2 hc5) cf_X10_isLive lk_X8_123 ⟨rfl, rfl⟩ ⟨Nat.le_of_ble_eq_true rfl, Nat.le_of_ble_eq_true rfl⟩ e10 rfl rfl rfl (Nat.le_of_ble_eq_true rfl) ⟨Nat.zero_le _, Nat.zero_le _⟩ rfl dX8_countAllTrees_20 (fun hr4 => ?_)
        refine V_if_eq (pc := 23) C 34 hr4 dX8_countAllTrees_23 (by decide) (fun c23_6 => ?_) (fun c23_6 => ?_)
        · have h := ite_t h c23_6
          refine V_iinc (pc := 34) C (L' := [(0, vr Γ 4), (1, vi x1), (2, vi (x2 + (1 : Int)))]) 2 rfl rfl (by decide) dX8_countAllTrees_34 ?_
          refine V_goto (pc := 37) C 4 dX8_countAllTrees_37 (by decide) ?_
          obtain ⟨g7, h⟩ := grd_of h
          refine V_sub (L' := [(0, vr Γ 4), (1, vi x1), (2, vi (x2 + (1 : Int)))]) [0, 1, 2] rfl (by decide) ?_
          exact ih hx1 g7 h
        · have h := ite_f h c23_6
          refine V_iload_n (pc := 26) C 1 rfl dX8_countAllTrees_26 ?_
          refine V_aload_n (pc := 27) C 0 rfl dX8_countAllTrees_27 ?_
          refine V_iload_n (pc := 28) C 2 rfl dX8_countAllTrees_28 ?_
          obtain ⟨M8, r9, hc10, h⟩ := cal_of h
          refine V_callVI (pc := 29) C (c_X8_countTree l Γ sk hsk fu hx2 hc10) cf_X8_countTree lk_X8_127 ⟨rfl, rfl⟩ ⟨Nat.le_of_ble_eq_true rfl, Nat.le_of_ble_eq_true rfl⟩ e4 rfl rfl rfl (Nat.le_of_ble_eq_true rfl) ⟨Nat.zero_le _, Nat.zero_le _⟩ rfl dX8_countAllTrees_29 (fun hr9 => ?_)
          refine V_iadd (pc := 32) C dX8_countAllTrees_32 ?_
          refine V_istore_n (pc := 33) C (L' := [(0, vr Γ 4), (1, vi (x1 + r9)), (2, vi x2)]) rfl (by decide) dX8_countAllTrees_33 ?_
          refine V_iinc (pc := 34) C (L' := [(0, vr Γ 4), (1, vi (x1 + r9)), (2, vi (x2 + (1 : Int)))]) 2 rfl rfl (by decide) dX8_countAllTrees_34 ?_
          refine V_goto (pc := 37) C 4 dX8_countAllTrees_37 (by decide) ?_
          obtain ⟨g11, h⟩ := grd_of h
          obtain ⟨g12, h⟩ := grd_of h
          refine V_sub (L' := [(0, vr Γ 4), (1, vi (x1 + r9)), (2, vi (x2 + (1 : Int)))]) [0, 1, 2] rfl (by decide) ?_
          exact ih g11 g12 h
  skip
  refine V_iconst (pc := 0) C dX8_countAllTrees_0 ?_
  refine V_istore_n (pc := 1) C (L' := [(0, vr Γ 4), (1, vi (0 : Int))]) rfl (by decide) dX8_countAllTrees_1 ?_
  refine V_iconst (pc := 2) C dX8_countAllTrees_2 ?_
  refine V_istore_n (pc := 3) C (L' := [(0, vr Γ 4), (1, vi (0 : Int)), (2, vi (0 : Int))]) rfl (by decide) dX8_countAllTrees_3 ?_
  refine V_sub (L' := [(0, vr Γ 4), (1, vi (0 : Int)), (2, vi (0 : Int))]) [0, 1, 2] rfl (by decide) ?_
  exact LP4 fu  (by decide) (by decide) h
set_option maxRecDepth 100000 in
set_option maxHeartbeats 4000000 in
theorem c_X8_countDifferences (l : Launch) (Γ : GG) (sk : List SD) (hsk : Ext sk) (fu : Nat) {M M' : Mem} {a1 : Int} {a2 : Int} {r : Int} (ha1 : rng a1) (ha2 : rng a2) (h : f_X8_countDifferences fu M a1 a2 = some (M', r)) : MetI l yX8_countDifferences cX8_countDifferences 7 .int ({ frames := 5, cells := 0, slots := 0, locals := 109 } : Room) Γ sk [vr Γ 4, vi a1, vi a2] M M' r := by
  unfold f_X8_countDifferences at h
  refine MetI_of RX8 rfl (by decide) rfl (Nat.le_of_ble_eq_true rfl) rfl ?_
  intro p e s m args below meth c C hr hlk hM
  have e4 := hsk 4 _ (by decide) rfl
  have e10 := hsk 10 _ (by decide) rfl
  have LP31 : ∀ (n : Nat) {x1 : Int} {x2 : Int} {x3 : Int} {x4 : Int} {x5 : Int} {x6 : Int} {M : Mem}, rng x1 → rng x2 → rng x3 → rng x4 → rng x5 → rng x6 → f_X8_countDifferences_L31 fu n x1 x2 x3 x4 x5 x6 M = some (M', r) → VV p l e ({ frames := 5, cells := 0, slots := 0, locals := 109 } : Room) s m args below meth c (MQ below (PostI Γ sk M' r s.heap.size) args s 0 0 (Fr Γ sk s.heap.size)) 7 Γ sk M 0 0 31 [(0, vr Γ 4), (1, vi x1), (2, vi x2), (3, vi x3), (4, vi x4), (5, vi x5), (6, vi x6)] [] := by
    intro n
    induction n with
    | zero =>
      intro x1 x2 x3 x4 x5 x6 M hx1 hx2 hx3 hx4 hx5 hx6 h
      cases h
    | succ n ih =>
      intro x1 x2 x3 x4 x5 x6 M hx1 hx2 hx3 hx4 hx5 hx6 h
      rw [f_X8_countDifferences_L31] at h
      refine V_iload (pc := 31) C 6 rfl dX8_countDifferences_31 ?_
      refine V_iload_n (pc := 33) C 3 rfl dX8_countDifferences_33 ?_
      refine V_iload (pc := 34) C 4 rfl dX8_countDifferences_34 ?_
      refine V_min (pc := 36) C lk_X8_135 math_min hx3 hx4 ⟨Nat.le_of_ble_eq_true rfl, Nat.le_of_ble_eq_true rfl⟩ ⟨Nat.zero_le _, Nat.zero_le _⟩ (Nat.le_of_ble_eq_true rfl) dX8_countDifferences_36 ?_
      refine V_icmp_ge (pc := 39) C 68 hx6 (imin_rng hx3 hx4) dX8_countDifferences_39 (by decide) (fun c39_8 => ?_) (fun c39_8 => ?_)
      · have h := ite_t h c39_8
        refine V_iload (pc := 68) C 5 rfl dX8_countDifferences_68 ?_
        exact V_iret (pc := 70) C hr hlk hx5 h dX8_countDifferences_70
      · have h := ite_f h c39_8
        refine V_aload_n (pc := 42) C 0 rfl dX8_countDifferences_42 ?_
        refine V_iload_n (pc := 43) C 1 rfl dX8_countDifferences_43 ?_
        refine V_iload (pc := 44) C 6 rfl dX8_countDifferences_44 ?_
        obtain ⟨M9, r10, hc11, h⟩ := cal_of h
        refine V_callVI (pc := 46) C (c_X8_elementAt l Γ sk hsk fu hx1 hx6 hc11) cf_X8_elementAt lk_X8_81 ⟨rfl, rfl⟩ ⟨Nat.le_of_ble_eq_true rfl, Nat.le_of_ble_eq_true rfl⟩ e4 rfl rfl rfl (Nat.le_of_ble_eq_true rfl) ⟨Nat.zero_le _, Nat.zero_le _⟩ rfl dX8_countDifferences_46 (fun hr10 => ?_)
        refine V_aload_n (pc := 49) C 0 rfl dX8_countDifferences_49 ?_
        refine V_iload_n (pc := 50) C 2 rfl dX8_countDifferences_50 ?_
        refine V_iload (pc := 51) C 6 rfl dX8_countDifferences_51 ?_
        obtain ⟨M12, r13, hc14, h⟩ := cal_of h
        refine V_callVI (pc := 53) C (c_X8_elementAt l Γ sk hsk fu hx2 hx6 hc14) cf_X8_elementAt lk_X8_81 ⟨rfl, rfl⟩ ⟨Nat.le_of_ble_eq_true rfl, Nat.le_of_ble_eq_true rfl⟩ e4 rfl rfl rfl (Nat.le_of_ble_eq_true rfl) ⟨Nat.zero_le _, Nat.zero_le _⟩ rfl dX8_countDifferences_53 (fun hr13 => ?_)
        refine V_icmp_eq (pc := 56) C 62 hr10 hr13 dX8_countDifferences_56 (by decide) (fun c56_15 => ?_) (fun c56_15 => ?_)
        · have h := ite_t h c56_15
          refine V_iinc (pc := 62) C (L' := [(0, vr Γ 4), (1, vi x1), (2, vi x2), (3, vi x3), (4, vi x4), (5, vi x5), (6, vi (x6 + (1 : Int)))]) 6 rfl rfl (by decide) dX8_countDifferences_62 ?_
          refine V_goto (pc := 65) C 31 dX8_countDifferences_65 (by decide) ?_
          obtain ⟨g16, h⟩ := grd_of h
          refine V_sub (L' := [(0, vr Γ 4), (1, vi x1), (2, vi x2), (3, vi x3), (4, vi x4), (5, vi x5), (6, vi (x6 + (1 : Int)))]) [0, 1, 2, 3, 4, 5, 6] rfl (by decide) ?_
          exact ih hx1 hx2 hx3 hx4 hx5 g16 h
        · have h := ite_f h c56_15
          refine V_iinc (pc := 59) C (L' := [(0, vr Γ 4), (1, vi x1), (2, vi x2), (3, vi x3), (4, vi x4), (5, vi (x5 + (1 : Int))), (6, vi x6)]) 5 rfl rfl (by decide) dX8_countDifferences_59 ?_
          refine V_iinc (pc := 62) C (L' := [(0, vr Γ 4), (1, vi x1), (2, vi x2), (3, vi x3), (4, vi x4), (5, vi (x5 + (1 : Int))), (6, vi (x6 + (1 : Int)))]) 6 rfl rfl (by decide) dX8_countDifferences_62 ?_
          refine V_goto (pc := 65) C 31 dX8_countDifferences_65 (by decide) ?_
          obtain ⟨g17, h⟩ := grd_of h
          obtain ⟨g18, h⟩ := grd_of h
          refine V_sub (L' := [(0, vr Γ 4), (1, vi x1), (2, vi x2), (3, vi x3), (4, vi x4), (5, vi (x5 + (1 : Int))), (6, vi (x6 + (1 : Int)))]) [0, 1, 2, 3, 4, 5, 6] rfl (by decide) ?_
          exact ih hx1 hx2 hx3 hx4 g17 g18 h
  skip
  refine V_aload_n (pc := 0) C 0 rfl dX8_countDifferences_0 ?_
  refine V_getR (pc := 1) C e4 rfl inX8 1 (by decide) rfl lf_X8_21 rfl dX8_countDifferences_1 ?_
  refine V_iload_n (pc := 4) C 1 rfl dX8_countDifferences_4 ?_
  obtain ⟨M1, r2, hc3, h⟩ := cal_of h
  refine V_callVI (pc := 5) C (c_X10_sizeAt l Γ sk hsk fu ha1 hc3) cf_X10_sizeAt lk_X8_66 ⟨rfl, rfl⟩ ⟨Nat.le_of_ble_eq_true rfl, Nat.le_of_ble_eq_true rfl⟩ e10 rfl rfl rfl (Nat.le_of_ble_eq_true rfl) ⟨Nat.zero_le _, Nat.zero_le _⟩ rfl dX8_countDifferences_5 (fun hr2 => ?_)
  refine V_istore_n (pc := 8) C (L' := [(0, vr Γ 4), (1, vi a1), (2, vi a2), (3, vi r2)]) rfl (by decide) dX8_countDifferences_8 ?_
  refine V_aload_n (pc := 9) C 0 rfl dX8_countDifferences_9 ?_
  refine V_getR (pc := 10) C e4 rfl inX8 1 (by decide) rfl lf_X8_21 rfl dX8_countDifferences_10 ?_
  refine V_iload_n (pc := 13) C 2 rfl dX8_countDifferences_13 ?_
  obtain ⟨M4, r5, hc6, h⟩ := cal_of h
  refine V_callVI (pc := 14) C (c_X10_sizeAt l Γ sk hsk fu ha2 hc6) cf_X10_sizeAt lk_X8_66 ⟨rfl, rfl⟩ ⟨Nat.le_of_ble_eq_true rfl, Nat.le_of_ble_eq_true rfl⟩ e10 rfl rfl rfl (Nat.le_of_ble_eq_true rfl) ⟨Nat.zero_le _, Nat.zero_le _⟩ rfl dX8_countDifferences_14 (fun hr5 => ?_)
  refine V_istore (pc := 17) C (L' := [(0, vr Γ 4), (1, vi a1), (2, vi a2), (3, vi r2), (4, vi r5)]) rfl (by decide) dX8_countDifferences_17 ?_
  refine V_iload_n (pc := 19) C 3 rfl dX8_countDifferences_19 ?_
  refine V_iload (pc := 20) C 4 rfl dX8_countDifferences_20 ?_
  refine V_isub (pc := 22) C dX8_countDifferences_22 ?_
  obtain ⟨g7, h⟩ := grd_of h
  refine V_abs (pc := 23) C lk_X8_130 math_abs g7 ⟨Nat.le_of_ble_eq_true rfl, Nat.le_of_ble_eq_true rfl⟩ ⟨Nat.zero_le _, Nat.zero_le _⟩ (Nat.le_of_ble_eq_true rfl) dX8_countDifferences_23 ?_
  refine V_istore (pc := 26) C (L' := [(0, vr Γ 4), (1, vi a1), (2, vi a2), (3, vi r2), (4, vi r5), (5, vi (iabs (r2 - r5)))]) rfl (by decide) dX8_countDifferences_26 ?_
  refine V_iconst (pc := 28) C dX8_countDifferences_28 ?_
  refine V_istore (pc := 29) C (L' := [(0, vr Γ 4), (1, vi a1), (2, vi a2), (3, vi r2), (4, vi r5), (5, vi (iabs (r2 - r5))), (6, vi (0 : Int))]) rfl (by decide) dX8_countDifferences_29 ?_
  obtain ⟨g19, h⟩ := grd_of h
  refine V_sub (L' := [(0, vr Γ 4), (1, vi a1), (2, vi a2), (3, vi r2), (4, vi r5), (5, vi (iabs (r2 - r5))), (6, vi (0 : Int))]) [0, 1, 2, 3, 4, 5, 6] rfl (by decide) ?_
  exact LP31 fu  ha1 ha2 hr2 hr5 g19 (by decide) h
