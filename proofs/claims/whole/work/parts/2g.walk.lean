set_option maxRecDepth 100000 in
set_option maxHeartbeats 4000000 in
theorem c_X1_keep (l : Launch) (Γ : GG) (sk : List SD) (hsk : Ext sk) (fu : Nat) {M M' : Mem}  {r : Int}  (h : f_X1_keep fu M  = some (M', r)) : MetV l yX1_keep cX1_keep 2 ({ frames := 2, cells := 0, slots := 0, locals := 47 } : Room) Γ sk [vr Γ 38, vr Γ 4] M M' := by
  unfold f_X1_keep at h
  refine MetV_of RX1 rfl (by decide) rfl (Nat.le_of_ble_eq_true rfl) rfl ?_
  intro p e s m args below meth c C hr hlk hM
  have e4 := hsk 4 _ (by decide) rfl
  have e5 := hsk 5 _ (by decide) rfl
  have e9 := hsk 9 _ (by decide) rfl
  have e10 := hsk 10 _ (by decide) rfl
  have e18 := hsk 18 _ (by decide) rfl
  have e38 := hsk 38 _ (by decide) rfl
  have e39 := hsk 39 _ (by decide) rfl
  have e40 := hsk 40 _ (by decide) rfl
  have e41 := hsk 41 _ (by decide) rfl
  have e42 := hsk 42 _ (by decide) rfl
  refine V_aload_n (pc := 0) C 0 rfl dX1_keep_0 ?_
  refine V_getR (pc := 1) C e38 rfl inX1 2 (by decide) rfl lf_X1_9 rfl dX1_keep_1 ?_
  refine V_aload_n (pc := 4) C 0 rfl dX1_keep_4 ?_
  refine V_getI (pc := 5) C e38 rfl inX1 1 (by decide) rfl lf_X1_29 rfl dX1_keep_5 ?_
  refine V_aload_n (pc := 8) C 1 rfl dX1_keep_8 ?_
  refine V_getR (pc := 9) C e4 rfl inX8 1 (by decide) rfl lf_X1_32 rfl dX1_keep_9 ?_
  refine V_getI (pc := 12) C e10 rfl inX10 0 (by decide) rfl lf_X1_38 rfl dX1_keep_12 ?_
  obtain ⟨M1, r2, hc3, h⟩ := cal_of h
  refine V_callNV (pc := 15) C (c_X11_put l Γ sk hsk fu e39 (by decide) (by decide) (hM _ _) (hM _ _) hc3) cf_X11_put ln_X1_41 ⟨rfl, rfl⟩ ⟨Nat.le_of_ble_eq_true rfl, Nat.le_of_ble_eq_true rfl⟩ rfl (Nat.le_of_ble_eq_true rfl) ⟨Nat.zero_le _, Nat.zero_le _⟩ rfl dX1_keep_15 ?_
  refine V_aload_n (pc := 18) C 0 rfl dX1_keep_18 ?_
  refine V_getR (pc := 19) C e38 rfl inX1 3 (by decide) rfl lf_X1_15 rfl dX1_keep_19 ?_
  refine V_aload_n (pc := 22) C 0 rfl dX1_keep_22 ?_
  refine V_rng fun hM4 => ?_
  refine V_getI (pc := 23) C e38 rfl inX1 1 (by decide) rfl lf_X1_29 rfl dX1_keep_23 ?_
  refine V_aload_n (pc := 26) C 1 rfl dX1_keep_26 ?_
  refine V_getR (pc := 27) C e4 rfl inX8 0 (by decide) rfl lf_X1_45 rfl dX1_keep_27 ?_
  refine V_getI (pc := 30) C e5 rfl inX3 0 (by decide) rfl lf_X1_49 rfl dX1_keep_30 ?_
  obtain ⟨M5, r6, hc7, h⟩ := cal_of h
  refine V_callNV (pc := 33) C (c_X11_put l Γ sk hsk fu e40 (by decide) (by decide) (hM4 _ _) (hM4 _ _) hc7) cf_X11_put ln_X1_41 ⟨rfl, rfl⟩ ⟨Nat.le_of_ble_eq_true rfl, Nat.le_of_ble_eq_true rfl⟩ rfl (Nat.le_of_ble_eq_true rfl) ⟨Nat.zero_le _, Nat.zero_le _⟩ rfl dX1_keep_33 ?_
  refine V_aload_n (pc := 36) C 1 rfl dX1_keep_36 ?_
  refine V_getR (pc := 37) C e4 rfl inX8 1 (by decide) rfl lf_X1_32 rfl dX1_keep_37 ?_
  refine V_getR (pc := 40) C e10 rfl inX10 8 (by decide) rfl lf_X1_54 rfl dX1_keep_40 ?_
  refine V_iconst (pc := 43) C dX1_keep_43 ?_
  refine V_aload_n (pc := 44) C 0 rfl dX1_keep_44 ?_
  refine V_getR (pc := 45) C e38 rfl inX1 4 (by decide) rfl lf_X1_18 rfl dX1_keep_45 ?_
  refine V_aload_n (pc := 48) C 0 rfl dX1_keep_48 ?_
  refine V_rng fun hM8 => ?_
  refine V_getI (pc := 49) C e38 rfl inX1 1 (by decide) rfl lf_X1_29 rfl dX1_keep_49 ?_
  refine V_bipush (pc := 52) C dX1_keep_52 rfl ?_
  refine V_imul (pc := 54) C dX1_keep_54 ?_
  refine V_bipush (pc := 55) C dX1_keep_55 rfl ?_
  obtain ⟨g9, h⟩ := grd_of h
  obtain ⟨M10, r11, hc12, h⟩ := cal_of h
  refine V_callNV (pc := 57) C (c_X11_copyFlags l Γ sk hsk fu e18 (by decide) (by decide) e41 (by decide) (by decide) g9 (by decide) hc12) cf_X11_copyFlags ln_X1_55 ⟨rfl, rfl⟩ ⟨Nat.le_of_ble_eq_true rfl, Nat.le_of_ble_eq_true rfl⟩ rfl (Nat.le_of_ble_eq_true rfl) ⟨Nat.zero_le _, Nat.zero_le _⟩ rfl dX1_keep_57 ?_
  refine V_aload_n (pc := 60) C 1 rfl dX1_keep_60 ?_
  refine V_getR (pc := 61) C e4 rfl inX8 0 (by decide) rfl lf_X1_45 rfl dX1_keep_61 ?_
  refine V_getR (pc := 64) C e5 rfl inX3 4 (by decide) rfl lf_X1_59 rfl dX1_keep_64 ?_
  refine V_iconst (pc := 67) C dX1_keep_67 ?_
  refine V_aload_n (pc := 68) C 0 rfl dX1_keep_68 ?_
  refine V_getR (pc := 69) C e38 rfl inX1 5 (by decide) rfl lf_X1_22 rfl dX1_keep_69 ?_
  refine V_aload_n (pc := 72) C 0 rfl dX1_keep_72 ?_
  refine V_rng fun hM13 => ?_
  refine V_getI (pc := 73) C e38 rfl inX1 1 (by decide) rfl lf_X1_29 rfl dX1_keep_73 ?_
  refine V_sipush (pc := 76) C dX1_keep_76 rfl ?_
  refine V_imul (pc := 79) C dX1_keep_79 ?_
  refine V_sipush (pc := 80) C dX1_keep_80 rfl ?_
  obtain ⟨g14, h⟩ := grd_of h
  obtain ⟨M15, r16, hc17, h⟩ := cal_of h
  refine V_callNV (pc := 83) C (c_X11_copyFlags l Γ sk hsk fu e9 (by decide) (by decide) e42 (by decide) (by decide) g14 (by decide) hc17) cf_X11_copyFlags ln_X1_55 ⟨rfl, rfl⟩ ⟨Nat.le_of_ble_eq_true rfl, Nat.le_of_ble_eq_true rfl⟩ rfl (Nat.le_of_ble_eq_true rfl) ⟨Nat.zero_le _, Nat.zero_le _⟩ rfl dX1_keep_83 ?_
  refine V_aload_n (pc := 86) C 0 rfl dX1_keep_86 ?_
  refine V_aload_n (pc := 87) C 0 rfl dX1_keep_87 ?_
  refine V_rng fun hM18 => ?_
  refine V_getI (pc := 88) C e38 rfl inX1 1 (by decide) rfl lf_X1_29 rfl dX1_keep_88 ?_
  refine V_iconst (pc := 91) C dX1_keep_91 ?_
  refine V_iadd (pc := 92) C dX1_keep_92 ?_
  refine V_bipush (pc := 93) C dX1_keep_93 rfl ?_
  obtain ⟨g19, h⟩ := grd_of h
  refine V_irem (pc := 95) C g19 dX1_keep_95 ?_
  obtain ⟨g20, h⟩ := grd_of h
  refine V_putI (pc := 96) C (by decide) e38 rfl inX1 tyX1 tyX1_ok nmX1 1 (by decide) rfl rfl lf_X1_29 rfl g20 rfl dX1_keep_96 ?_
  refine V_aload_n (pc := 99) C 0 rfl dX1_keep_99 ?_
  refine V_aload_n (pc := 100) C 0 rfl dX1_keep_100 ?_
  refine V_rng fun hM21 => ?_
  refine V_getI (pc := 101) C e38 rfl inX1 0 (by decide) rfl lf_X1_25 rfl dX1_keep_101 ?_
  refine V_iconst (pc := 104) C dX1_keep_104 ?_
  refine V_iadd (pc := 105) C dX1_keep_105 ?_
  refine V_bipush (pc := 106) C dX1_keep_106 rfl ?_
  obtain ⟨g22, h⟩ := grd_of h
  refine V_min (pc := 108) C lk_X1_60 math_min g22 (by decide) ⟨Nat.le_of_ble_eq_true rfl, Nat.le_of_ble_eq_true rfl⟩ ⟨Nat.zero_le _, Nat.zero_le _⟩ (Nat.le_of_ble_eq_true rfl) dX1_keep_108 ?_
  refine V_putI (pc := 111) C (by decide) e38 rfl inX1 tyX1 tyX1_ok nmX1 0 (by decide) rfl rfl lf_X1_25 rfl (imin_rng g22 (by decide)) rfl dX1_keep_111 ?_
  exact V_vret (pc := 114) C hr hlk h dX1_keep_114
set_option maxRecDepth 100000 in
set_option maxHeartbeats 4000000 in
theorem c_X1_goBack (l : Launch) (Γ : GG) (sk : List SD) (hsk : Ext sk) (fu : Nat) {M M' : Mem}  {r : Int}  (h : f_X1_goBack fu M  = some (M', r)) : MetV l yX1_goBack cX1_goBack 2 ({ frames := 2, cells := 0, slots := 0, locals := 47 } : Room) Γ sk [vr Γ 38, vr Γ 4] M M' := by
  unfold f_X1_goBack at h
  refine MetV_of RX1 rfl (by decide) rfl (Nat.le_of_ble_eq_true rfl) rfl ?_
  intro p e s m args below meth c C hr hlk hM
  have e4 := hsk 4 _ (by decide) rfl
  have e5 := hsk 5 _ (by decide) rfl
  have e9 := hsk 9 _ (by decide) rfl
  have e10 := hsk 10 _ (by decide) rfl
  have e18 := hsk 18 _ (by decide) rfl
  have e38 := hsk 38 _ (by decide) rfl
  have e39 := hsk 39 _ (by decide) rfl
  have e40 := hsk 40 _ (by decide) rfl
  have e41 := hsk 41 _ (by decide) rfl
  have e42 := hsk 42 _ (by decide) rfl
  refine V_aload_n (pc := 0) C 0 rfl dX1_goBack_0 ?_
  refine V_aload_n (pc := 1) C 0 rfl dX1_goBack_1 ?_
  refine V_getI (pc := 2) C e38 rfl inX1 1 (by decide) rfl lf_X1_29 rfl dX1_goBack_2 ?_
  refine V_bipush (pc := 5) C dX1_goBack_5 rfl ?_
  refine V_iadd (pc := 7) C dX1_goBack_7 ?_
  refine V_iconst (pc := 8) C dX1_goBack_8 ?_
  refine V_isub (pc := 9) C dX1_goBack_9 ?_
  refine V_bipush (pc := 10) C dX1_goBack_10 rfl ?_
  obtain ⟨g1, h⟩ := grd_of h
  refine V_irem (pc := 12) C g1 dX1_goBack_12 ?_
  obtain ⟨g2, h⟩ := grd_of h
  refine V_putI (pc := 13) C (by decide) e38 rfl inX1 tyX1 tyX1_ok nmX1 1 (by decide) rfl rfl lf_X1_29 rfl g2 rfl dX1_goBack_13 ?_
  refine V_aload_n (pc := 16) C 0 rfl dX1_goBack_16 ?_
  refine V_aload_n (pc := 17) C 0 rfl dX1_goBack_17 ?_
  refine V_rng fun hM3 => ?_
  refine V_getI (pc := 18) C e38 rfl inX1 0 (by decide) rfl lf_X1_25 rfl dX1_goBack_18 ?_
  refine V_iconst (pc := 21) C dX1_goBack_21 ?_
  refine V_isub (pc := 22) C dX1_goBack_22 ?_
  refine V_iconst (pc := 23) C dX1_goBack_23 ?_
  obtain ⟨g4, h⟩ := grd_of h
  refine V_max (pc := 24) C lk_X1_66 math_max g4 (by decide) ⟨Nat.le_of_ble_eq_true rfl, Nat.le_of_ble_eq_true rfl⟩ ⟨Nat.zero_le _, Nat.zero_le _⟩ (Nat.le_of_ble_eq_true rfl) dX1_goBack_24 ?_
  refine V_putI (pc := 27) C (by decide) e38 rfl inX1 tyX1 tyX1_ok nmX1 0 (by decide) rfl rfl lf_X1_25 rfl (imax_rng g4 (by decide)) rfl dX1_goBack_27 ?_
  refine V_aload_n (pc := 30) C 1 rfl dX1_goBack_30 ?_
  refine V_getR (pc := 31) C e4 rfl inX8 1 (by decide) rfl lf_X1_32 rfl dX1_goBack_31 ?_
  refine V_aload_n (pc := 34) C 0 rfl dX1_goBack_34 ?_
  refine V_getR (pc := 35) C e38 rfl inX1 2 (by decide) rfl lf_X1_9 rfl dX1_goBack_35 ?_
  refine V_aload_n (pc := 38) C 0 rfl dX1_goBack_38 ?_
  refine V_rng fun hM5 => ?_
  refine V_getI (pc := 39) C e38 rfl inX1 1 (by decide) rfl lf_X1_29 rfl dX1_goBack_39 ?_
  obtain ⟨M6, r7, hc8, h⟩ := cal_of h
  refine V_callNI (pc := 42) C (c_X11_at l Γ sk hsk fu e39 (by decide) (hM5 _ _) hc8) cf_X11_at ln_X1_69 ⟨rfl, rfl⟩ ⟨Nat.le_of_ble_eq_true rfl, Nat.le_of_ble_eq_true rfl⟩ rfl (Nat.le_of_ble_eq_true rfl) ⟨Nat.zero_le _, Nat.zero_le _⟩ rfl dX1_goBack_42 (fun hr7 => ?_)
  refine V_putI (pc := 45) C (by decide) e10 rfl inX10 tyX10 tyX10_ok nmX10 0 (by decide) rfl rfl lf_X1_38 rfl hr7 rfl dX1_goBack_45 ?_
  refine V_aload_n (pc := 48) C 1 rfl dX1_goBack_48 ?_
  refine V_getR (pc := 49) C e4 rfl inX8 0 (by decide) rfl lf_X1_45 rfl dX1_goBack_49 ?_
  refine V_aload_n (pc := 52) C 0 rfl dX1_goBack_52 ?_
  refine V_getR (pc := 53) C e38 rfl inX1 3 (by decide) rfl lf_X1_15 rfl dX1_goBack_53 ?_
  refine V_aload_n (pc := 56) C 0 rfl dX1_goBack_56 ?_
  refine V_rng fun hM9 => ?_
  refine V_getI (pc := 57) C e38 rfl inX1 1 (by decide) rfl lf_X1_29 rfl dX1_goBack_57 ?_
  obtain ⟨M10, r11, hc12, h⟩ := cal_of h
  refine V_callNI (pc := 60) C (c_X11_at l Γ sk hsk fu e40 (by decide) (hM9 _ _) hc12) cf_X11_at ln_X1_69 ⟨rfl, rfl⟩ ⟨Nat.le_of_ble_eq_true rfl, Nat.le_of_ble_eq_true rfl⟩ rfl (Nat.le_of_ble_eq_true rfl) ⟨Nat.zero_le _, Nat.zero_le _⟩ rfl dX1_goBack_60 (fun hr11 => ?_)
  refine V_putI (pc := 63) C (by decide) e5 rfl inX3 tyX3 tyX3_ok nmX3 0 (by decide) rfl rfl lf_X1_49 rfl hr11 rfl dX1_goBack_63 ?_
  refine V_aload_n (pc := 66) C 0 rfl dX1_goBack_66 ?_
  refine V_getR (pc := 67) C e38 rfl inX1 4 (by decide) rfl lf_X1_18 rfl dX1_goBack_67 ?_
  refine V_aload_n (pc := 70) C 0 rfl dX1_goBack_70 ?_
  refine V_rng fun hM13 => ?_
  refine V_getI (pc := 71) C e38 rfl inX1 1 (by decide) rfl lf_X1_29 rfl dX1_goBack_71 ?_
  refine V_bipush (pc := 74) C dX1_goBack_74 rfl ?_
  refine V_imul (pc := 76) C dX1_goBack_76 ?_
  refine V_aload_n (pc := 77) C 1 rfl dX1_goBack_77 ?_
  refine V_getR (pc := 78) C e4 rfl inX8 1 (by decide) rfl lf_X1_32 rfl dX1_goBack_78 ?_
  refine V_getR (pc := 81) C e10 rfl inX10 8 (by decide) rfl lf_X1_54 rfl dX1_goBack_81 ?_
  refine V_iconst (pc := 84) C dX1_goBack_84 ?_
  refine V_bipush (pc := 85) C dX1_goBack_85 rfl ?_
  obtain ⟨g14, h⟩ := grd_of h
  obtain ⟨M15, r16, hc17, h⟩ := cal_of h
  refine V_callNV (pc := 87) C (c_X11_copyFlags l Γ sk hsk fu e41 (by decide) g14 e18 (by decide) (by decide) (by decide) (by decide) hc17) cf_X11_copyFlags ln_X1_55 ⟨rfl, rfl⟩ ⟨Nat.le_of_ble_eq_true rfl, Nat.le_of_ble_eq_true rfl⟩ rfl (Nat.le_of_ble_eq_true rfl) ⟨Nat.zero_le _, Nat.zero_le _⟩ rfl dX1_goBack_87 ?_
  refine V_aload_n (pc := 90) C 0 rfl dX1_goBack_90 ?_
  refine V_getR (pc := 91) C e38 rfl inX1 5 (by decide) rfl lf_X1_22 rfl dX1_goBack_91 ?_
  refine V_aload_n (pc := 94) C 0 rfl dX1_goBack_94 ?_
  refine V_rng fun hM18 => ?_
  refine V_getI (pc := 95) C e38 rfl inX1 1 (by decide) rfl lf_X1_29 rfl dX1_goBack_95 ?_
  refine V_sipush (pc := 98) C dX1_goBack_98 rfl ?_
  refine V_imul (pc := 101) C dX1_goBack_101 ?_
  refine V_aload_n (pc := 102) C 1 rfl dX1_goBack_102 ?_
  refine V_getR (pc := 103) C e4 rfl inX8 0 (by decide) rfl lf_X1_45 rfl dX1_goBack_103 ?_
  refine V_getR (pc := 106) C e5 rfl inX3 4 (by decide) rfl lf_X1_59 rfl dX1_goBack_106 ?_
  refine V_iconst (pc := 109) C dX1_goBack_109 ?_
  refine V_sipush (pc := 110) C dX1_goBack_110 rfl ?_
  obtain ⟨g19, h⟩ := grd_of h
  obtain ⟨M20, r21, hc22, h⟩ := cal_of h
  refine V_callNV (pc := 113) C (c_X11_copyFlags l Γ sk hsk fu e42 (by decide) g19 e9 (by decide) (by decide) (by decide) (by decide) hc22) cf_X11_copyFlags ln_X1_55 ⟨rfl, rfl⟩ ⟨Nat.le_of_ble_eq_true rfl, Nat.le_of_ble_eq_true rfl⟩ rfl (Nat.le_of_ble_eq_true rfl) ⟨Nat.zero_le _, Nat.zero_le _⟩ rfl dX1_goBack_113 ?_
  exact V_vret (pc := 116) C hr hlk h dX1_goBack_116
set_option maxRecDepth 100000 in
set_option maxHeartbeats 4000000 in
theorem c_X2_hasRoomForBlock (l : Launch) (Γ : GG) (sk : List SD) (hsk : Ext sk) (fu : Nat) {M M' : Mem}  {r : Int}  (h : f_X2_hasRoomForBlock fu M  = some (M', r)) : MetI l yX2_hasRoomForBlock cX2_hasRoomForBlock 1 .boolean ({ frames := 0, cells := 0, slots := 0, locals := 0 } : Room) Γ sk [vr Γ 43] M M' r := by
  unfold f_X2_hasRoomForBlock at h
  refine MetI_of RX2 rfl (by decide) rfl (Nat.le_of_ble_eq_true rfl) rfl ?_
  intro p e s m args below meth c C hr hlk hM
  have e43 := hsk 43 _ (by decide) rfl
  refine V_aload_n (pc := 0) C 0 rfl dX2_hasRoomForBlock_0 ?_
  refine V_getI (pc := 1) C e43 rfl inX2 0 (by decide) rfl lf_X2_15 rfl dX2_hasRoomForBlock_1 ?_
  refine V_bipush (pc := 4) C dX2_hasRoomForBlock_4 rfl ?_
  refine V_iadd (pc := 6) C dX2_hasRoomForBlock_6 ?_
  refine V_sipush (pc := 7) C dX2_hasRoomForBlock_7 rfl ?_
  obtain ⟨g1, h⟩ := grd_of h
  refine V_icmp_gt (pc := 10) C 17 g1 (by decide) dX2_hasRoomForBlock_10 (by decide) (fun c10_2 => ?_) (fun c10_2 => ?_)
  · have h := ite_t h c10_2
    refine V_iconst (pc := 17) C dX2_hasRoomForBlock_17 ?_
    exact V_zret (pc := 18) C hr hlk (by decide) h dX2_hasRoomForBlock_18
  · have h := ite_f h c10_2
    refine V_iconst (pc := 13) C dX2_hasRoomForBlock_13 ?_
    refine V_goto (pc := 14) C 18 dX2_hasRoomForBlock_14 (by decide) ?_
    exact V_zret (pc := 18) C hr hlk (by decide) h dX2_hasRoomForBlock_18
set_option maxRecDepth 100000 in
set_option maxHeartbeats 4000000 in
theorem c_X2_addByte (l : Launch) (Γ : GG) (sk : List SD) (hsk : Ext sk) (fu : Nat) {M M' : Mem} {a1 : Int} {r : Int} (ha1 : rng a1) (h : f_X2_addByte fu M a1 = some (M', r)) : MetV l yX2_addByte cX2_addByte 2 ({ frames := 1, cells := 0, slots := 0, locals := 22 } : Room) Γ sk [vr Γ 43, vi a1] M M' := by
  unfold f_X2_addByte at h
  refine MetV_of RX2 rfl (by decide) rfl (Nat.le_of_ble_eq_true rfl) rfl ?_
  intro p e s m args below meth c C hr hlk hM
  have e43 := hsk 43 _ (by decide) rfl
  have e44 := hsk 44 _ (by decide) rfl
  refine V_aload_n (pc := 0) C 0 rfl dX2_addByte_0 ?_
  refine V_getR (pc := 1) C e43 rfl inX2 1 (by decide) rfl lf_X2_9 rfl dX2_addByte_1 ?_
  refine V_aload_n (pc := 4) C 0 rfl dX2_addByte_4 ?_
  refine V_getI (pc := 5) C e43 rfl inX2 0 (by decide) rfl lf_X2_15 rfl dX2_addByte_5 ?_
  refine V_iload_n (pc := 8) C 1 rfl dX2_addByte_8 ?_
  obtain ⟨M1, r2, hc3, h⟩ := cal_of h
  refine V_callNV (pc := 9) C (c_X11_put l Γ sk hsk fu e44 (by decide) (by decide) (hM _ _) ha1 hc3) cf_X11_put ln_X2_23 ⟨rfl, rfl⟩ ⟨Nat.le_of_ble_eq_true rfl, Nat.le_of_ble_eq_true rfl⟩ rfl (Nat.le_of_ble_eq_true rfl) ⟨Nat.zero_le _, Nat.zero_le _⟩ rfl dX2_addByte_9 ?_
  refine V_aload_n (pc := 12) C 0 rfl dX2_addByte_12 ?_
  refine V_dup (pc := 13) C rfl dX2_addByte_13 ?_
  refine V_rng fun hM4 => ?_
  refine V_getI (pc := 14) C e43 rfl inX2 0 (by decide) rfl lf_X2_15 rfl dX2_addByte_14 ?_
  refine V_iconst (pc := 17) C dX2_addByte_17 ?_
  refine V_iadd (pc := 18) C dX2_addByte_18 ?_
  obtain ⟨g5, h⟩ := grd_of h
  refine V_putI (pc := 19) C (by decide) e43 rfl inX2 tyX2 tyX2_ok nmX2 0 (by decide) rfl rfl lf_X2_15 rfl g5 rfl dX2_addByte_19 ?_
  exact V_vret (pc := 22) C hr hlk h dX2_addByte_22
set_option maxRecDepth 100000 in
set_option maxHeartbeats 4000000 in
theorem c_X2_addWord (l : Launch) (Γ : GG) (sk : List SD) (hsk : Ext sk) (fu : Nat) {M M' : Mem} {a1 : Int} {r : Int} (ha1 : rng a1) (h : f_X2_addWord fu M a1 = some (M', r)) : MetV l yX2_addWord cX2_addWord 2 ({ frames := 2, cells := 0, slots := 0, locals := 43 } : Room) Γ sk [vr Γ 43, vi a1] M M' := by
  unfold f_X2_addWord at h
  refine MetV_of RX2 rfl (by decide) rfl (Nat.le_of_ble_eq_true rfl) rfl ?_
  intro p e s m args below meth c C hr hlk hM
  have e43 := hsk 43 _ (by decide) rfl
  refine V_aload_n (pc := 0) C 0 rfl dX2_addWord_0 ?_
  refine V_iload_n (pc := 1) C 1 rfl dX2_addWord_1 ?_
  refine V_bipush (pc := 2) C dX2_addWord_2 rfl ?_
  refine V_iushr (pc := 4) C (y := (24 : Int)) ha1 (by decide) dX2_addWord_4 ?_
  obtain ⟨g1, h⟩ := grd_of h
  obtain ⟨M2, r3, hc4, h⟩ := cal_of h
  refine V_callVV (pc := 5) C (c_X2_addByte l Γ sk hsk fu g1 hc4) cf_X2_addByte lk_X2_19 ⟨rfl, rfl⟩ ⟨Nat.le_of_ble_eq_true rfl, Nat.le_of_ble_eq_true rfl⟩ e43 rfl rfl rfl (Nat.le_of_ble_eq_true rfl) ⟨Nat.zero_le _, Nat.zero_le _⟩ rfl dX2_addWord_5 ?_
  refine V_aload_n (pc := 8) C 0 rfl dX2_addWord_8 ?_
  refine V_iload_n (pc := 9) C 1 rfl dX2_addWord_9 ?_
  refine V_bipush (pc := 10) C dX2_addWord_10 rfl ?_
  refine V_iushr (pc := 12) C (y := (16 : Int)) ha1 (by decide) dX2_addWord_12 ?_
  refine V_sipush (pc := 13) C dX2_addWord_13 rfl ?_
  refine V_iand (pc := 16) C (z := (a1 % 4294967296 / (2 ^ ((16 : Int) : Int).toNat : Nat)) % 256) 8 (by decide) (by decide) rfl dX2_addWord_16 ?_
  obtain ⟨g5, h⟩ := grd_of h
  obtain ⟨M6, r7, hc8, h⟩ := cal_of h
  refine V_callVV (pc := 17) C (c_X2_addByte l Γ sk hsk fu g5 hc8) cf_X2_addByte lk_X2_19 ⟨rfl, rfl⟩ ⟨Nat.le_of_ble_eq_true rfl, Nat.le_of_ble_eq_true rfl⟩ e43 rfl rfl rfl (Nat.le_of_ble_eq_true rfl) ⟨Nat.zero_le _, Nat.zero_le _⟩ rfl dX2_addWord_17 ?_
  refine V_aload_n (pc := 20) C 0 rfl dX2_addWord_20 ?_
  refine V_iload_n (pc := 21) C 1 rfl dX2_addWord_21 ?_
  refine V_bipush (pc := 22) C dX2_addWord_22 rfl ?_
  refine V_iushr (pc := 24) C (y := (8 : Int)) ha1 (by decide) dX2_addWord_24 ?_
  refine V_sipush (pc := 25) C dX2_addWord_25 rfl ?_
  refine V_iand (pc := 28) C (z := (a1 % 4294967296 / (2 ^ ((8 : Int) : Int).toNat : Nat)) % 256) 8 (by decide) (by decide) rfl dX2_addWord_28 ?_
  obtain ⟨g9, h⟩ := grd_of h
  obtain ⟨M10, r11, hc12, h⟩ := cal_of h
  refine V_callVV (pc := 29) C (c_X2_addByte l Γ sk hsk fu g9 hc12) cf_X2_addByte lk_X2_19 ⟨rfl, rfl⟩ ⟨Nat.le_of_ble_eq_true rfl, Nat.le_of_ble_eq_true rfl⟩ e43 rfl rfl rfl (Nat.le_of_ble_eq_true rfl) ⟨Nat.zero_le _, Nat.zero_le _⟩ rfl dX2_addWord_29 ?_
  refine V_aload_n (pc := 32) C 0 rfl dX2_addWord_32 ?_
  refine V_iload_n (pc := 33) C 1 rfl dX2_addWord_33 ?_
  refine V_sipush (pc := 34) C dX2_addWord_34 rfl ?_
  refine V_iand (pc := 37) C (z := a1 % 256) 8 (by decide) (by decide) rfl dX2_addWord_37 ?_
  obtain ⟨g13, h⟩ := grd_of h
  obtain ⟨M14, r15, hc16, h⟩ := cal_of h
  refine V_callVV (pc := 38) C (c_X2_addByte l Γ sk hsk fu g13 hc16) cf_X2_addByte lk_X2_19 ⟨rfl, rfl⟩ ⟨Nat.le_of_ble_eq_true rfl, Nat.le_of_ble_eq_true rfl⟩ e43 rfl rfl rfl (Nat.le_of_ble_eq_true rfl) ⟨Nat.zero_le _, Nat.zero_le _⟩ rfl dX2_addWord_38 ?_
  exact V_vret (pc := 41) C hr hlk h dX2_addWord_41
set_option maxRecDepth 100000 in
set_option maxHeartbeats 4000000 in
theorem c_X2_byteAt (l : Launch) (Γ : GG) (sk : List SD) (hsk : Ext sk) (fu : Nat) {M M' : Mem} {a1 : Int} {r : Int} (ha1 : rng a1) (h : f_X2_byteAt fu M a1 = some (M', r)) : MetI l yX2_byteAt cX2_byteAt 2 .int ({ frames := 0, cells := 0, slots := 0, locals := 0 } : Room) Γ sk [vr Γ 43, vi a1] M M' r := by
  unfold f_X2_byteAt at h
  refine MetI_of RX2 rfl (by decide) rfl (Nat.le_of_ble_eq_true rfl) rfl ?_
  intro p e s m args below meth c C hr hlk hM
  have e43 := hsk 43 _ (by decide) rfl
  have e44 := hsk 44 _ (by decide) rfl
  refine V_iload_n (pc := 0) C 1 rfl dX2_byteAt_0 ?_
  refine V_if_lt (pc := 1) C 30 ha1 dX2_byteAt_1 (by decide) (fun c1_1 => ?_) (fun c1_1 => ?_)
  · have h := ite_t h c1_1
    refine V_iconst (pc := 30) C dX2_byteAt_30 ?_
    exact V_iret (pc := 31) C hr hlk (by decide) h dX2_byteAt_31
  · have h := ite_f h c1_1
    refine V_iload_n (pc := 4) C 1 rfl dX2_byteAt_4 ?_
    refine V_aload_n (pc := 5) C 0 rfl dX2_byteAt_5 ?_
    refine V_getI (pc := 6) C e43 rfl inX2 0 (by decide) rfl lf_X2_15 rfl dX2_byteAt_6 ?_
    refine V_icmp_ge (pc := 9) C 30 ha1 (hM _ _) dX2_byteAt_9 (by decide) (fun c9_2 => ?_) (fun c9_2 => ?_)
    · have h := ite_t h c9_2
      refine V_iconst (pc := 30) C dX2_byteAt_30 ?_
      exact V_iret (pc := 31) C hr hlk (by decide) h dX2_byteAt_31
    · have h := ite_f h c9_2
      refine V_iload_n (pc := 12) C 1 rfl dX2_byteAt_12 ?_
      refine V_aload_n (pc := 13) C 0 rfl dX2_byteAt_13 ?_
      refine V_getR (pc := 14) C e43 rfl inX2 1 (by decide) rfl lf_X2_9 rfl dX2_byteAt_14 ?_
      refine V_alen (pc := 17) C e44 dX2_byteAt_17 ?_
      refine V_icmp_ge (pc := 18) C 30 ha1 (by decide) dX2_byteAt_18 (by decide) (fun c18_3 => ?_) (fun c18_3 => ?_)
      · have h := ite_t h c18_3
        refine V_iconst (pc := 30) C dX2_byteAt_30 ?_
        exact V_iret (pc := 31) C hr hlk (by decide) h dX2_byteAt_31
      · have h := ite_f h c18_3
        refine V_aload_n (pc := 21) C 0 rfl dX2_byteAt_21 ?_
        refine V_getR (pc := 22) C e43 rfl inX2 1 (by decide) rfl lf_X2_9 rfl dX2_byteAt_22 ?_
        refine V_iload_n (pc := 25) C 1 rfl dX2_byteAt_25 ?_
        obtain ⟨g4, h⟩ := grd_of h
        refine V_iald (pc := 26) C e44 g4 ha1 dX2_byteAt_26 ?_
        refine V_goto (pc := 27) C 31 dX2_byteAt_27 (by decide) ?_
        exact V_iret (pc := 31) C hr hlk (hM _ _) h dX2_byteAt_31
set_option maxRecDepth 100000 in
set_option maxHeartbeats 4000000 in
theorem c_X9_begin (l : Launch) (Γ : GG) (sk : List SD) (hsk : Ext sk) (fu : Nat) {M M' : Mem}  {r : Int}  (h : f_X9_begin fu M  = some (M', r)) : MetV l yX9_begin cX9_begin 1 ({ frames := 0, cells := 0, slots := 0, locals := 0 } : Room) Γ sk [vr Γ 45] M M' := by
  unfold f_X9_begin at h
  refine MetV_of RX9 rfl (by decide) rfl (Nat.le_of_ble_eq_true rfl) rfl ?_
  intro p e s m args below meth c C hr hlk hM
  have e45 := hsk 45 _ (by decide) rfl
  refine V_aload_n (pc := 0) C 0 rfl dX9_begin_0 ?_
  refine V_iconst (pc := 1) C dX9_begin_1 ?_
  refine V_putI (pc := 2) C (by decide) e45 rfl inX9 tyX9 tyX9_ok nmX9 6 (by decide) rfl rfl lf_X9_9 rfl (by decide) rfl dX9_begin_2 ?_
  refine V_aload_n (pc := 5) C 0 rfl dX9_begin_5 ?_
  refine V_iconst (pc := 6) C dX9_begin_6 ?_
  refine V_putI (pc := 7) C (by decide) e45 rfl inX9 tyX9 tyX9_ok nmX9 7 (by decide) rfl rfl lf_X9_15 rfl (by decide) rfl dX9_begin_7 ?_
  refine V_aload_n (pc := 10) C 0 rfl dX9_begin_10 ?_
  refine V_iconst (pc := 11) C dX9_begin_11 ?_
  refine V_putI (pc := 12) C (by decide) e45 rfl inX9 tyX9 tyX9_ok nmX9 1 (by decide) rfl rfl lf_X9_22 rfl (by decide) rfl dX9_begin_12 ?_
  exact V_vret (pc := 15) C hr hlk h dX9_begin_15
set_option maxRecDepth 100000 in
set_option maxHeartbeats 4000000 in
theorem c_X9_fail (l : Launch) (Γ : GG) (sk : List SD) (hsk : Ext sk) (fu : Nat) {M M' : Mem} {a1 : Int} {r : Int} (ha1 : rng a1) (h : f_X9_fail fu M a1 = some (M', r)) : MetI l yX9_fail cX9_fail 2 .boolean ({ frames := 0, cells := 0, slots := 0, locals := 0 } : Room) Γ sk [vr Γ 45, vi a1] M M' r := by
  unfold f_X9_fail at h
  refine MetI_of RX9 rfl (by decide) rfl (Nat.le_of_ble_eq_true rfl) rfl ?_
  intro p e s m args below meth c C hr hlk hM
  have e45 := hsk 45 _ (by decide) rfl
  refine V_aload_n (pc := 0) C 0 rfl dX9_fail_0 ?_
  refine V_iload_n (pc := 1) C 1 rfl dX9_fail_1 ?_
  refine V_putI (pc := 2) C (by decide) e45 rfl inX9 tyX9 tyX9_ok nmX9 6 (by decide) rfl rfl lf_X9_9 rfl ha1 rfl dX9_fail_2 ?_
  refine V_aload_n (pc := 5) C 0 rfl dX9_fail_5 ?_
  refine V_aload_n (pc := 6) C 0 rfl dX9_fail_6 ?_
  refine V_rng fun hM1 => ?_
  refine V_getI (pc := 7) C e45 rfl inX9 2 (by decide) rfl lf_X9_25 rfl dX9_fail_7 ?_
  refine V_putI (pc := 10) C (by decide) e45 rfl inX9 tyX9 tyX9_ok nmX9 7 (by decide) rfl rfl lf_X9_15 rfl (hM1 _ _) rfl dX9_fail_10 ?_
  refine V_iconst (pc := 13) C dX9_fail_13 ?_
  exact V_zret (pc := 14) C hr hlk (by decide) h dX9_fail_14
set_option maxRecDepth 100000 in
set_option maxHeartbeats 4000000 in
theorem c_X9_isLetter (l : Launch) (Γ : GG) (sk : List SD) (hsk : Ext sk) (fu : Nat) {M M' : Mem} {a0 : Int} {r : Int} (ha0 : rng a0) (h : f_X9_isLetter fu M a0 = some (M', r)) : MetI l yX9_isLetter cX9_isLetter 1 .boolean ({ frames := 0, cells := 0, slots := 0, locals := 0 } : Room) Γ sk [vi a0] M M' r := by
  unfold f_X9_isLetter at h
  refine MetI_of RX9 rfl (by decide) rfl (Nat.le_of_ble_eq_true rfl) rfl ?_
  intro p e s m args below meth c C hr hlk hM
  refine V_iload_n (pc := 0) C 0 rfl dX9_isLetter_0 ?_
  refine V_bipush (pc := 1) C dX9_isLetter_1 rfl ?_
  refine V_icmp_lt (pc := 3) C 16 ha0 (by decide) dX9_isLetter_3 (by decide) (fun c3_1 => ?_) (fun c3_1 => ?_)
  · have h := ite_t h c3_1
    refine V_iconst (pc := 16) C dX9_isLetter_16 ?_
    exact V_zret (pc := 17) C hr hlk (by decide) h dX9_isLetter_17
  · have h := ite_f h c3_1
    refine V_iload_n (pc := 6) C 0 rfl dX9_isLetter_6 ?_
    refine V_bipush (pc := 7) C dX9_isLetter_7 rfl ?_
    refine V_icmp_gt (pc := 9) C 16 ha0 (by decide) dX9_isLetter_9 (by decide) (fun c9_2 => ?_) (fun c9_2 => ?_)
    · have h := ite_t h c9_2
      refine V_iconst (pc := 16) C dX9_isLetter_16 ?_
      exact V_zret (pc := 17) C hr hlk (by decide) h dX9_isLetter_17
    · have h := ite_f h c9_2
      refine V_iconst (pc := 12) C dX9_isLetter_12 ?_
      refine V_goto (pc := 13) C 17 dX9_isLetter_13 (by decide) ?_
      exact V_zret (pc := 17) C hr hlk (by decide) h dX9_isLetter_17
set_option maxRecDepth 100000 in
set_option maxHeartbeats 4000000 in
theorem c_X9_isDigit (l : Launch) (Γ : GG) (sk : List SD) (hsk : Ext sk) (fu : Nat) {M M' : Mem} {a0 : Int} {r : Int} (ha0 : rng a0) (h : f_X9_isDigit fu M a0 = some (M', r)) : MetI l yX9_isDigit cX9_isDigit 1 .boolean ({ frames := 0, cells := 0, slots := 0, locals := 0 } : Room) Γ sk [vi a0] M M' r := by
  unfold f_X9_isDigit at h
  refine MetI_of RX9 rfl (by decide) rfl (Nat.le_of_ble_eq_true rfl) rfl ?_
  intro p e s m args below meth c C hr hlk hM
  refine V_iload_n (pc := 0) C 0 rfl dX9_isDigit_0 ?_
  refine V_bipush (pc := 1) C dX9_isDigit_1 rfl ?_
  refine V_icmp_lt (pc := 3) C 16 ha0 (by decide) dX9_isDigit_3 (by decide) (fun c3_1 => ?_) (fun c3_1 => ?_)
  · have h := ite_t h c3_1
    refine V_iconst (pc := 16) C dX9_isDigit_16 ?_
    exact V_zret (pc := 17) C hr hlk (by decide) h dX9_isDigit_17
  · have h := ite_f h c3_1
    refine V_iload_n (pc := 6) C 0 rfl dX9_isDigit_6 ?_
    refine V_bipush (pc := 7) C dX9_isDigit_7 rfl ?_
    refine V_icmp_gt (pc := 9) C 16 ha0 (by decide) dX9_isDigit_9 (by decide) (fun c9_2 => ?_) (fun c9_2 => ?_)
    · have h := ite_t h c9_2
      refine V_iconst (pc := 16) C dX9_isDigit_16 ?_
      exact V_zret (pc := 17) C hr hlk (by decide) h dX9_isDigit_17
    · have h := ite_f h c9_2
      refine V_iconst (pc := 12) C dX9_isDigit_12 ?_
      refine V_goto (pc := 13) C 17 dX9_isDigit_13 (by decide) ?_
      exact V_zret (pc := 17) C hr hlk (by decide) h dX9_isDigit_17
set_option maxRecDepth 100000 in
set_option maxHeartbeats 4000000 in
theorem c_X9_readNumber (l : Launch) (Γ : GG) (sk : List SD) (hsk : Ext sk) (fu : Nat) {M M' : Mem}  {r : Int}  (h : f_X9_readNumber fu M  = some (M', r)) : MetV l yX9_readNumber cX9_readNumber 1 ({ frames := 1, cells := 0, slots := 0, locals := 21 } : Room) Γ sk [vr Γ 45] M M' := by
  unfold f_X9_readNumber at h
  refine MetV_of RX9 rfl (by decide) rfl (Nat.le_of_ble_eq_true rfl) rfl ?_
  intro p e s m args below meth c C hr hlk hM
  have e43 := hsk 43 _ (by decide) rfl
  have e45 := hsk 45 _ (by decide) rfl
  have JP75 : ∀ {M : Mem}, f_X9_readNumber_J75 fu M = some (M', r) → VV p l e ({ frames := 1, cells := 0, slots := 0, locals := 21 } : Room) s m args below meth c (MQ below (PostV Γ sk M' s.heap.size) args s 0 0 (Fr Γ sk s.heap.size)) 1 Γ sk M 0 0 75 [(0, vr Γ 45)] [] := by
    intro M h
    unfold f_X9_readNumber_J75 at h
    refine V_aload_n (pc := 75) C 0 rfl dX9_readNumber_75 ?_
    refine V_aload_n (pc := 76) C 0 rfl dX9_readNumber_76 ?_
    refine V_rng fun hM3 => ?_
    refine V_getI (pc := 77) C e45 rfl inX9 1 (by decide) rfl lf_X9_22 rfl dX9_readNumber_77 ?_
    refine V_aload_n (pc := 80) C 0 rfl dX9_readNumber_80 ?_
    refine V_getI (pc := 81) C e45 rfl inX9 2 (by decide) rfl lf_X9_25 rfl dX9_readNumber_81 ?_
    refine V_isub (pc := 84) C dX9_readNumber_84 ?_
    refine V_iconst (pc := 85) C dX9_readNumber_85 ?_
    obtain ⟨g4, h⟩ := grd_of h
    refine V_icmp_le (pc := 86) C 93 g4 (by decide) dX9_readNumber_86 (by decide) (fun c86_5 => ?_) (fun c86_5 => ?_)
    · have h := ite_t h c86_5
      refine V_iconst (pc := 93) C dX9_readNumber_93 ?_
      refine V_putI (pc := 94) C (by decide) e45 rfl inX9 tyX9 tyX9_ok nmX9 3 (by decide) rfl rfl lf_X9_56 rfl (by decide) rfl dX9_readNumber_94 ?_
      exact V_vret (pc := 97) C hr hlk h dX9_readNumber_97
    · have h := ite_f h c86_5
      refine V_iconst (pc := 89) C dX9_readNumber_89 ?_
      refine V_goto (pc := 90) C 94 dX9_readNumber_90 (by decide) ?_
      refine V_putI (pc := 94) C (by decide) e45 rfl inX9 tyX9 tyX9_ok nmX9 3 (by decide) rfl rfl lf_X9_56 rfl (by decide) rfl dX9_readNumber_94 ?_
      exact V_vret (pc := 97) C hr hlk h dX9_readNumber_97
  have LP5 : ∀ (n : Nat) {M : Mem}, f_X9_readNumber_L5 fu n M = some (M', r) → VV p l e ({ frames := 1, cells := 0, slots := 0, locals := 21 } : Room) s m args below meth c (MQ below (PostV Γ sk M' s.heap.size) args s 0 0 (Fr Γ sk s.heap.size)) 1 Γ sk M 0 0 5 [(0, vr Γ 45)] [] := by
    intro n
    induction n with
    | zero =>
      intro M h
      cases h
    | succ n ih =>
      intro M h
      rw [f_X9_readNumber_L5] at h
      refine V_aload_n (pc := 5) C 0 rfl dX9_readNumber_5 ?_
      refine V_rng fun hM1 => ?_
      refine V_getI (pc := 6) C e45 rfl inX9 1 (by decide) rfl lf_X9_22 rfl dX9_readNumber_6 ?_
      refine V_aload_n (pc := 9) C 0 rfl dX9_readNumber_9 ?_
      refine V_getR (pc := 10) C e45 rfl inX9 0 (by decide) rfl lf_X9_18 rfl dX9_readNumber_10 ?_
      refine V_getI (pc := 13) C e43 rfl inX2 0 (by decide) rfl lf_X9_28 rfl dX9_readNumber_13 ?_
      refine V_icmp_ge (pc := 16) C 75 (hM1 _ _) (hM1 _ _) dX9_readNumber_16 (by decide) (fun c16_2 => ?_) (fun c16_2 => ?_)
      · have h := ite_t h c16_2
        refine V_sub (L' := [(0, vr Γ 45)]) [0] rfl (by decide) ?_
        exact JP75 h
      · have h := ite_f h c16_2
        refine V_aload_n (pc := 19) C 0 rfl dX9_readNumber_19 ?_
        refine V_getR (pc := 20) C e45 rfl inX9 0 (by decide) rfl lf_X9_18 rfl dX9_readNumber_20 ?_
        refine V_aload_n (pc := 23) C 0 rfl dX9_readNumber_23 ?_
        refine V_getI (pc := 24) C e45 rfl inX9 1 (by decide) rfl lf_X9_22 rfl dX9_readNumber_24 ?_
        obtain ⟨M6, r7, hc8, h⟩ := cal_of h
        refine V_callVI (pc := 27) C (c_X2_byteAt l Γ sk hsk fu (hM1 _ _) hc8) cf_X2_byteAt lk_X9_33 ⟨rfl, rfl⟩ ⟨Nat.le_of_ble_eq_true rfl, Nat.le_of_ble_eq_true rfl⟩ e43 rfl rfl rfl (Nat.le_of_ble_eq_true rfl) ⟨Nat.zero_le _, Nat.zero_le _⟩ rfl dX9_readNumber_27 (fun hr7 => ?_)
        obtain ⟨M9, r10, hc11, h⟩ := cal_of h
        refine V_callSI (pc := 30) C (c_X9_isDigit l Γ sk hsk fu hr7 hc11) cf_X9_isDigit lk_X9_50 ⟨rfl, rfl⟩ ⟨Nat.le_of_ble_eq_true rfl, Nat.le_of_ble_eq_true rfl⟩ rfl (Nat.le_of_ble_eq_true rfl) ⟨Nat.zero_le _, Nat.zero_le _⟩ rfl dX9_readNumber_30 (fun hr10 => ?_)
        refine V_if_eq (pc := 33) C 75 hr10 dX9_readNumber_33 (by decide) (fun c33_12 => ?_) (fun c33_12 => ?_)
        · have h := ite_t h c33_12
          refine V_sub (L' := [(0, vr Γ 45)]) [0] rfl (by decide) ?_
          exact JP75 h
        · have h := ite_f h c33_12
          refine V_aload_n (pc := 36) C 0 rfl dX9_readNumber_36 ?_
          refine V_aload_n (pc := 37) C 0 rfl dX9_readNumber_37 ?_
          refine V_rng fun hM13 => ?_
          refine V_getI (pc := 38) C e45 rfl inX9 5 (by decide) rfl lf_X9_63 rfl dX9_readNumber_38 ?_
          refine V_bipush (pc := 41) C dX9_readNumber_41 rfl ?_
          refine V_imul (pc := 43) C dX9_readNumber_43 ?_
          refine V_aload_n (pc := 44) C 0 rfl dX9_readNumber_44 ?_
          refine V_getR (pc := 45) C e45 rfl inX9 0 (by decide) rfl lf_X9_18 rfl dX9_readNumber_45 ?_
          refine V_aload_n (pc := 48) C 0 rfl dX9_readNumber_48 ?_
          refine V_getI (pc := 49) C e45 rfl inX9 1 (by decide) rfl lf_X9_22 rfl dX9_readNumber_49 ?_
          obtain ⟨M14, r15, hc16, h⟩ := cal_of h
          refine V_callVI (pc := 52) C (c_X2_byteAt l Γ sk hsk fu (hM13 _ _) hc16) cf_X2_byteAt lk_X9_33 ⟨rfl, rfl⟩ ⟨Nat.le_of_ble_eq_true rfl, Nat.le_of_ble_eq_true rfl⟩ e43 rfl rfl rfl (Nat.le_of_ble_eq_true rfl) ⟨Nat.zero_le _, Nat.zero_le _⟩ rfl dX9_readNumber_52 (fun hr15 => ?_)
          refine V_iadd (pc := 55) C dX9_readNumber_55 ?_
          refine V_bipush (pc := 56) C dX9_readNumber_56 rfl ?_
          refine V_isub (pc := 58) C dX9_readNumber_58 ?_
          refine V_wrap ?_
          refine V_putI (pc := 59) C (by decide) e45 rfl inX9 tyX9 tyX9_ok nmX9 5 (by decide) rfl rfl lf_X9_63 rfl (w32_rng _) rfl dX9_readNumber_59 ?_
          refine V_aload_n (pc := 62) C 0 rfl dX9_readNumber_62 ?_
          refine V_dup (pc := 63) C rfl dX9_readNumber_63 ?_
          refine V_rng fun hM17 => ?_
          refine V_getI (pc := 64) C e45 rfl inX9 1 (by decide) rfl lf_X9_22 rfl dX9_readNumber_64 ?_
          refine V_iconst (pc := 67) C dX9_readNumber_67 ?_
          refine V_iadd (pc := 68) C dX9_readNumber_68 ?_
          obtain ⟨g18, h⟩ := grd_of h
          refine V_putI (pc := 69) C (by decide) e45 rfl inX9 tyX9 tyX9_ok nmX9 1 (by decide) rfl rfl lf_X9_22 rfl g18 rfl dX9_readNumber_69 ?_
          refine V_goto (pc := 72) C 5 dX9_readNumber_72 (by decide) ?_
          refine V_sub (L' := [(0, vr Γ 45)]) [0] rfl (by decide) ?_
          exact ih h
  skip
  refine V_aload_n (pc := 0) C 0 rfl dX9_readNumber_0 ?_
  refine V_iconst (pc := 1) C dX9_readNumber_1 ?_
  refine V_putI (pc := 2) C (by decide) e45 rfl inX9 tyX9 tyX9_ok nmX9 5 (by decide) rfl rfl lf_X9_63 rfl (by decide) rfl dX9_readNumber_2 ?_
  refine V_sub (L' := [(0, vr Γ 45)]) [0] rfl (by decide) ?_
  exact LP5 fu  h
set_option maxRecDepth 100000 in
set_option maxHeartbeats 4000000 in
theorem c_X9_spells (l : Launch) (Γ : GG) (sk : List SD) (hsk : Ext sk) (fu : Nat) {M M' : Mem} {q1 : Nat} {r : Int} (hq1 : q1 < lensL.length) (h : f_X9_spells fu M q1 = some (M', r)) : MetI l yX9_spells cX9_spells 3 .boolean ({ frames := 12, cells := 0, slots := 0, locals := 400 } : Room) Γ sk [vr Γ 45, vs Γ q1] M M' r := by
  unfold f_X9_spells at h
  refine MetI_of RX9 rfl (by decide) rfl (Nat.le_of_ble_eq_true rfl) rfl ?_
  intro p e s m args below meth c C hr hlk hM
  have e43 := hsk 43 _ (by decide) rfl
  have e45 := hsk 45 _ (by decide) rfl
  have LP20 : ∀ (n : Nat) {x2 : Int} {M : Mem}, rng x2 → f_X9_spells_L20 fu q1 n x2 M = some (M', r) → VV p l e ({ frames := 12, cells := 0, slots := 0, locals := 400 } : Room) s m args below meth c (MQ below (PostI Γ sk M' r s.heap.size) args s 0 0 (Fr Γ sk s.heap.size)) 3 Γ sk M 0 0 20 [(0, vr Γ 45), (1, vs Γ q1), (2, vi x2)] [] := by
    intro n
    induction n with
    | zero =>
      intro x2 M hx2 h
      cases h
    | succ n ih =>
      intro x2 M hx2 h
      rw [f_X9_spells_L20] at h
      refine V_iload_n (pc := 20) C 2 rfl dX9_spells_20 ?_
      refine V_aload_n (pc := 21) C 1 rfl dX9_spells_21 ?_
      refine V_slen (pc := 22) C hq1 lk_X9_84 ⟨Nat.le_of_ble_eq_true rfl, Nat.le_of_ble_eq_true rfl⟩ ⟨Nat.zero_le _, Nat.zero_le _⟩ (Nat.le_of_ble_eq_true rfl) dX9_spells_22 ?_
      refine V_icmp_ge (pc := 25) C 57 hx2 (slen_rng _) dX9_spells_25 (by decide) (fun c25_3 => ?_) (fun c25_3 => ?_)
      · have h := ite_t h c25_3
        refine V_iconst (pc := 57) C dX9_spells_57 ?_
        exact V_zret (pc := 58) C hr hlk (by decide) h dX9_spells_58
      · have h := ite_f h c25_3
        refine V_aload_n (pc := 28) C 0 rfl dX9_spells_28 ?_
        refine V_getR (pc := 29) C e45 rfl inX9 0 (by decide) rfl lf_X9_18 rfl dX9_spells_29 ?_
        refine V_aload_n (pc := 32) C 0 rfl dX9_spells_32 ?_
        refine V_rng fun hM4 => ?_
        refine V_getI (pc := 33) C e45 rfl inX9 2 (by decide) rfl lf_X9_25 rfl dX9_spells_33 ?_
        refine V_iload_n (pc := 36) C 2 rfl dX9_spells_36 ?_
        refine V_iadd (pc := 37) C dX9_spells_37 ?_
        obtain ⟨g5, h⟩ := grd_of h
        obtain ⟨M6, r7, hc8, h⟩ := cal_of h
        refine V_callVI (pc := 38) C (c_X2_byteAt l Γ sk hsk fu g5 hc8) cf_X2_byteAt lk_X9_33 ⟨rfl, rfl⟩ ⟨Nat.le_of_ble_eq_true rfl, Nat.le_of_ble_eq_true rfl⟩ e43 rfl rfl rfl (Nat.le_of_ble_eq_true rfl) ⟨Nat.zero_le _, Nat.zero_le _⟩ rfl dX9_spells_38 (fun hr7 => ?_)
        refine V_aload_n (pc := 41) C 1 rfl dX9_spells_41 ?_
        refine V_iload_n (pc := 42) C 2 rfl dX9_spells_42 ?_
        obtain ⟨g9, h⟩ := grd_of h
        refine V_schar (pc := 43) C hq1 g9 hx2 lk_X9_88 ⟨Nat.le_of_ble_eq_true rfl, Nat.le_of_ble_eq_true rfl⟩ ⟨Nat.zero_le _, Nat.zero_le _⟩ (Nat.le_of_ble_eq_true rfl) dX9_spells_43 ?_
        refine V_icmp_eq (pc := 46) C 51 hr7 (schar_rng _ _) dX9_spells_46 (by decide) (fun c46_10 => ?_) (fun c46_10 => ?_)
        · have h := ite_t h c46_10
          refine V_iinc (pc := 51) C (L' := [(0, vr Γ 45), (1, vs Γ q1), (2, vi (x2 + (1 : Int)))]) 2 rfl rfl (by decide) dX9_spells_51 ?_
          refine V_goto (pc := 54) C 20 dX9_spells_54 (by decide) ?_
          obtain ⟨g11, h⟩ := grd_of h
          refine V_sub (L' := [(0, vr Γ 45), (1, vs Γ q1), (2, vi (x2 + (1 : Int)))]) [0, 1, 2] rfl (by decide) ?_
          exact ih g11 h
        · have h := ite_f h c46_10
          refine V_iconst (pc := 49) C dX9_spells_49 ?_
          exact V_zret (pc := 50) C hr hlk (by decide) h dX9_spells_50
  skip
  refine V_aload_n (pc := 0) C 0 rfl dX9_spells_0 ?_
  refine V_getI (pc := 1) C e45 rfl inX9 1 (by decide) rfl lf_X9_22 rfl dX9_spells_1 ?_
  refine V_aload_n (pc := 4) C 0 rfl dX9_spells_4 ?_
  refine V_getI (pc := 5) C e45 rfl inX9 2 (by decide) rfl lf_X9_25 rfl dX9_spells_5 ?_
  refine V_isub (pc := 8) C dX9_spells_8 ?_
  refine V_aload_n (pc := 9) C 1 rfl dX9_spells_9 ?_
  refine V_slen (pc := 10) C hq1 lk_X9_84 ⟨Nat.le_of_ble_eq_true rfl, Nat.le_of_ble_eq_true rfl⟩ ⟨Nat.zero_le _, Nat.zero_le _⟩ (Nat.le_of_ble_eq_true rfl) dX9_spells_10 ?_
  obtain ⟨g1, h⟩ := grd_of h
  refine V_icmp_eq (pc := 13) C 18 g1 (slen_rng _) dX9_spells_13 (by decide) (fun c13_2 => ?_) (fun c13_2 => ?_)
  · have h := ite_t h c13_2
    refine V_iconst (pc := 18) C dX9_spells_18 ?_
    refine V_istore_n (pc := 19) C (L' := [(0, vr Γ 45), (1, vs Γ q1), (2, vi (0 : Int))]) rfl (by decide) dX9_spells_19 ?_
    refine V_sub (L' := [(0, vr Γ 45), (1, vs Γ q1), (2, vi (0 : Int))]) [0, 1, 2] rfl (by decide) ?_
    exact LP20 fu  (by decide) h
  · have h := ite_f h c13_2
    refine V_iconst (pc := 16) C dX9_spells_16 ?_
    exact V_zret (pc := 17) C hr hlk (by decide) h dX9_spells_17
set_option maxRecDepth 100000 in
set_option maxHeartbeats 4000000 in
theorem c_X9_knownWord (l : Launch) (Γ : GG) (sk : List SD) (hsk : Ext sk) (fu : Nat) {M M' : Mem}  {r : Int}  (h : f_X9_knownWord fu M  = some (M', r)) : MetI l yX9_knownWord cX9_knownWord 1 .int ({ frames := 13, cells := 0, slots := 0, locals := 422 } : Room) Γ sk [vr Γ 45] M M' r := by
  unfold f_X9_knownWord at h
  refine MetI_of RX9 rfl (by decide) rfl (Nat.le_of_ble_eq_true rfl) rfl ?_
  intro p e s m args below meth c C hr hlk hM
  have e45 := hsk 45 _ (by decide) rfl
  refine V_aload_n (pc := 0) C 0 rfl dX9_knownWord_0 ?_
  refine V_ldcS (pc := 1) C (q := 0) (C.2.2.2.2.2.2.2.2.2.2.2.1 _ (List.mem_of_getElem? (i := 0) (by decide +kernel) : (RX9, 66, "list", 0) ∈ strL)) dX9_knownWord_1 ?_
  obtain ⟨M1, r2, hc3, h⟩ := cal_of h
  refine V_callVI (pc := 3) C (c_X9_spells l Γ sk hsk fu (by decide) hc3) cf_X9_spells lk_X9_68 ⟨rfl, rfl⟩ ⟨Nat.le_of_ble_eq_true rfl, Nat.le_of_ble_eq_true rfl⟩ e45 rfl rfl rfl (Nat.le_of_ble_eq_true rfl) ⟨Nat.zero_le _, Nat.zero_le _⟩ rfl dX9_knownWord_3 (fun hr2 => ?_)
  refine V_if_eq (pc := 6) C 11 hr2 dX9_knownWord_6 (by decide) (fun c6_4 => ?_) (fun c6_4 => ?_)
  · have h := ite_t h c6_4
    refine V_aload_n (pc := 11) C 0 rfl dX9_knownWord_11 ?_
    refine V_ldcS (pc := 12) C (q := 1) (C.2.2.2.2.2.2.2.2.2.2.2.1 _ (List.mem_of_getElem? (i := 1) (by decide +kernel) : (RX9, 72, "minus", 1) ∈ strL)) dX9_knownWord_12 ?_
    obtain ⟨M5, r6, hc7, h⟩ := cal_of h
    refine V_callVI (pc := 14) C (c_X9_spells l Γ sk hsk fu (by decide) hc7) cf_X9_spells lk_X9_68 ⟨rfl, rfl⟩ ⟨Nat.le_of_ble_eq_true rfl, Nat.le_of_ble_eq_true rfl⟩ e45 rfl rfl rfl (Nat.le_of_ble_eq_true rfl) ⟨Nat.zero_le _, Nat.zero_le _⟩ rfl dX9_knownWord_14 (fun hr6 => ?_)
    refine V_if_eq (pc := 17) C 22 hr6 dX9_knownWord_17 (by decide) (fun c17_8 => ?_) (fun c17_8 => ?_)
    · have h := ite_t h c17_8
      refine V_aload_n (pc := 22) C 0 rfl dX9_knownWord_22 ?_
      refine V_ldcS (pc := 23) C (q := 2) (C.2.2.2.2.2.2.2.2.2.2.2.1 _ (List.mem_of_getElem? (i := 2) (by decide +kernel) : (RX9, 74, "set", 2) ∈ strL)) dX9_knownWord_23 ?_
      obtain ⟨M9, r10, hc11, h⟩ := cal_of h
      refine V_callVI (pc := 25) C (c_X9_spells l Γ sk hsk fu (by decide) hc11) cf_X9_spells lk_X9_68 ⟨rfl, rfl⟩ ⟨Nat.le_of_ble_eq_true rfl, Nat.le_of_ble_eq_true rfl⟩ e45 rfl rfl rfl (Nat.le_of_ble_eq_true rfl) ⟨Nat.zero_le _, Nat.zero_le _⟩ rfl dX9_knownWord_25 (fun hr10 => ?_)
      refine V_if_eq (pc := 28) C 33 hr10 dX9_knownWord_28 (by decide) (fun c28_12 => ?_) (fun c28_12 => ?_)
      · have h := ite_t h c28_12
        refine V_aload_n (pc := 33) C 0 rfl dX9_knownWord_33 ?_
        refine V_ldcS (pc := 34) C (q := 3) (C.2.2.2.2.2.2.2.2.2.2.2.1 _ (List.mem_of_getElem? (i := 3) (by decide +kernel) : (RX9, 76, "append", 3) ∈ strL)) dX9_knownWord_34 ?_
        obtain ⟨M13, r14, hc15, h⟩ := cal_of h
        refine V_callVI (pc := 36) C (c_X9_spells l Γ sk hsk fu (by decide) hc15) cf_X9_spells lk_X9_68 ⟨rfl, rfl⟩ ⟨Nat.le_of_ble_eq_true rfl, Nat.le_of_ble_eq_true rfl⟩ e45 rfl rfl rfl (Nat.le_of_ble_eq_true rfl) ⟨Nat.zero_le _, Nat.zero_le _⟩ rfl dX9_knownWord_36 (fun hr14 => ?_)
        refine V_if_eq (pc := 39) C 44 hr14 dX9_knownWord_39 (by decide) (fun c39_16 => ?_) (fun c39_16 => ?_)
        · have h := ite_t h c39_16
          refine V_aload_n (pc := 44) C 0 rfl dX9_knownWord_44 ?_
          refine V_ldcS (pc := 45) C (q := 4) (C.2.2.2.2.2.2.2.2.2.2.2.1 _ (List.mem_of_getElem? (i := 4) (by decide +kernel) : (RX9, 78, "truncate", 4) ∈ strL)) dX9_knownWord_45 ?_
          obtain ⟨M17, r18, hc19, h⟩ := cal_of h
          refine V_callVI (pc := 47) C (c_X9_spells l Γ sk hsk fu (by decide) hc19) cf_X9_spells lk_X9_68 ⟨rfl, rfl⟩ ⟨Nat.le_of_ble_eq_true rfl, Nat.le_of_ble_eq_true rfl⟩ e45 rfl rfl rfl (Nat.le_of_ble_eq_true rfl) ⟨Nat.zero_le _, Nat.zero_le _⟩ rfl dX9_knownWord_47 (fun hr18 => ?_)
          refine V_if_eq (pc := 50) C 55 hr18 dX9_knownWord_50 (by decide) (fun c50_20 => ?_) (fun c50_20 => ?_)
          · have h := ite_t h c50_20
            refine V_aload_n (pc := 55) C 0 rfl dX9_knownWord_55 ?_
            refine V_ldcS (pc := 56) C (q := 5) (C.2.2.2.2.2.2.2.2.2.2.2.1 _ (List.mem_of_getElem? (i := 5) (by decide +kernel) : (RX9, 80, "release", 5) ∈ strL)) dX9_knownWord_56 ?_
            obtain ⟨M21, r22, hc23, h⟩ := cal_of h
            refine V_callVI (pc := 58) C (c_X9_spells l Γ sk hsk fu (by decide) hc23) cf_X9_spells lk_X9_68 ⟨rfl, rfl⟩ ⟨Nat.le_of_ble_eq_true rfl, Nat.le_of_ble_eq_true rfl⟩ e45 rfl rfl rfl (Nat.le_of_ble_eq_true rfl) ⟨Nat.zero_le _, Nat.zero_le _⟩ rfl dX9_knownWord_58 (fun hr22 => ?_)
            refine V_if_eq (pc := 61) C 67 hr22 dX9_knownWord_61 (by decide) (fun c61_24 => ?_) (fun c61_24 => ?_)
            · have h := ite_t h c61_24
              refine V_aload_n (pc := 67) C 0 rfl dX9_knownWord_67 ?_
              refine V_ldcS (pc := 68) C (q := 6) (C.2.2.2.2.2.2.2.2.2.2.2.1 _ (List.mem_of_getElem? (i := 6) (by decide +kernel) : (RX9, 82, "collect", 6) ∈ strL)) dX9_knownWord_68 ?_
              obtain ⟨M25, r26, hc27, h⟩ := cal_of h
              refine V_callVI (pc := 70) C (c_X9_spells l Γ sk hsk fu (by decide) hc27) cf_X9_spells lk_X9_68 ⟨rfl, rfl⟩ ⟨Nat.le_of_ble_eq_true rfl, Nat.le_of_ble_eq_true rfl⟩ e45 rfl rfl rfl (Nat.le_of_ble_eq_true rfl) ⟨Nat.zero_le _, Nat.zero_le _⟩ rfl dX9_knownWord_70 (fun hr26 => ?_)
              refine V_if_eq (pc := 73) C 81 hr26 dX9_knownWord_73 (by decide) (fun c73_28 => ?_) (fun c73_28 => ?_)
              · have h := ite_t h c73_28
                refine V_iconst (pc := 81) C dX9_knownWord_81 ?_
                exact V_iret (pc := 82) C hr hlk (by decide) h dX9_knownWord_82
              · have h := ite_f h c73_28
                refine V_bipush (pc := 76) C dX9_knownWord_76 rfl ?_
                refine V_goto (pc := 78) C 82 dX9_knownWord_78 (by decide) ?_
                exact V_iret (pc := 82) C hr hlk (by decide) h dX9_knownWord_82
            · have h := ite_f h c61_24
              refine V_bipush (pc := 64) C dX9_knownWord_64 rfl ?_
              exact V_iret (pc := 66) C hr hlk (by decide) h dX9_knownWord_66
          · have h := ite_f h c50_20
            refine V_iconst (pc := 53) C dX9_knownWord_53 ?_
            exact V_iret (pc := 54) C hr hlk (by decide) h dX9_knownWord_54
        · have h := ite_f h c39_16
          refine V_iconst (pc := 42) C dX9_knownWord_42 ?_
          exact V_iret (pc := 43) C hr hlk (by decide) h dX9_knownWord_43
      · have h := ite_f h c28_12
        refine V_iconst (pc := 31) C dX9_knownWord_31 ?_
        exact V_iret (pc := 32) C hr hlk (by decide) h dX9_knownWord_32
    · have h := ite_f h c17_8
      refine V_iconst (pc := 20) C dX9_knownWord_20 ?_
      exact V_iret (pc := 21) C hr hlk (by decide) h dX9_knownWord_21
  · have h := ite_f h c6_4
    refine V_iconst (pc := 9) C dX9_knownWord_9 ?_
    exact V_iret (pc := 10) C hr hlk (by decide) h dX9_knownWord_10
set_option maxRecDepth 100000 in
set_option maxHeartbeats 4000000 in
theorem c_X9_readWord (l : Launch) (Γ : GG) (sk : List SD) (hsk : Ext sk) (fu : Nat) {M M' : Mem}  {r : Int}  (h : f_X9_readWord fu M  = some (M', r)) : MetV l yX9_readWord cX9_readWord 1 ({ frames := 14, cells := 0, slots := 0, locals := 442 } : Room) Γ sk [vr Γ 45] M M' := by
  unfold f_X9_readWord at h
  refine MetV_of RX9 rfl (by decide) rfl (Nat.le_of_ble_eq_true rfl) rfl ?_
  intro p e s m args below meth c C hr hlk hM
  have e43 := hsk 43 _ (by decide) rfl
  have e45 := hsk 45 _ (by decide) rfl
  have JP44 : ∀ {M : Mem}, f_X9_readWord_J44 fu M = some (M', r) → VV p l e ({ frames := 14, cells := 0, slots := 0, locals := 442 } : Room) s m args below meth c (MQ below (PostV Γ sk M' s.heap.size) args s 0 0 (Fr Γ sk s.heap.size)) 1 Γ sk M 0 0 44 [(0, vr Γ 45)] [] := by
    intro M h
    unfold f_X9_readWord_J44 at h
    refine V_aload_n (pc := 44) C 0 rfl dX9_readWord_44 ?_
    refine V_iconst (pc := 45) C dX9_readWord_45 ?_
    refine V_putI (pc := 46) C (by decide) e45 rfl inX9 tyX9 tyX9_ok nmX9 3 (by decide) rfl rfl lf_X9_56 rfl (by decide) rfl dX9_readWord_46 ?_
    refine V_aload_n (pc := 49) C 0 rfl dX9_readWord_49 ?_
    refine V_aload_n (pc := 50) C 0 rfl dX9_readWord_50 ?_
    obtain ⟨M3, r4, hc5, h⟩ := cal_of h
    refine V_callVI (pc := 51) C (c_X9_knownWord l Γ sk hsk fu hc5) cf_X9_knownWord lk_X9_59 ⟨rfl, rfl⟩ ⟨Nat.le_of_ble_eq_true rfl, Nat.le_of_ble_eq_true rfl⟩ e45 rfl rfl rfl (Nat.le_of_ble_eq_true rfl) ⟨Nat.zero_le _, Nat.zero_le _⟩ rfl dX9_readWord_51 (fun hr4 => ?_)
    refine V_putI (pc := 54) C (by decide) e45 rfl inX9 tyX9 tyX9_ok nmX9 4 (by decide) rfl rfl lf_X9_41 rfl hr4 rfl dX9_readWord_54 ?_
    exact V_vret (pc := 57) C hr hlk h dX9_readWord_57
  have LP0 : ∀ (n : Nat) {M : Mem}, f_X9_readWord_L0 fu n M = some (M', r) → VV p l e ({ frames := 14, cells := 0, slots := 0, locals := 442 } : Room) s m args below meth c (MQ below (PostV Γ sk M' s.heap.size) args s 0 0 (Fr Γ sk s.heap.size)) 1 Γ sk M 0 0 0 [(0, vr Γ 45)] [] := by
    intro n
    induction n with
    | zero =>
      intro M h
      cases h
    | succ n ih =>
      intro M h
      rw [f_X9_readWord_L0] at h
      refine V_aload_n (pc := 0) C 0 rfl dX9_readWord_0 ?_
      refine V_rng fun hM1 => ?_
      refine V_getI (pc := 1) C e45 rfl inX9 1 (by decide) rfl lf_X9_22 rfl dX9_readWord_1 ?_
      refine V_aload_n (pc := 4) C 0 rfl dX9_readWord_4 ?_
      refine V_getR (pc := 5) C e45 rfl inX9 0 (by decide) rfl lf_X9_18 rfl dX9_readWord_5 ?_
      refine V_getI (pc := 8) C e43 rfl inX2 0 (by decide) rfl lf_X9_28 rfl dX9_readWord_8 ?_
      refine V_icmp_ge (pc := 11) C 44 (hM1 _ _) (hM1 _ _) dX9_readWord_11 (by decide) (fun c11_2 => ?_) (fun c11_2 => ?_)
      · have h := ite_t h c11_2
        refine V_sub (L' := [(0, vr Γ 45)]) [0] rfl (by decide) ?_
        exact JP44 h
      · have h := ite_f h c11_2
        refine V_aload_n (pc := 14) C 0 rfl dX9_readWord_14 ?_
        refine V_getR (pc := 15) C e45 rfl inX9 0 (by decide) rfl lf_X9_18 rfl dX9_readWord_15 ?_
        refine V_aload_n (pc := 18) C 0 rfl dX9_readWord_18 ?_
        refine V_getI (pc := 19) C e45 rfl inX9 1 (by decide) rfl lf_X9_22 rfl dX9_readWord_19 ?_
        obtain ⟨M6, r7, hc8, h⟩ := cal_of h
        refine V_callVI (pc := 22) C (c_X2_byteAt l Γ sk hsk fu (hM1 _ _) hc8) cf_X2_byteAt lk_X9_33 ⟨rfl, rfl⟩ ⟨Nat.le_of_ble_eq_true rfl, Nat.le_of_ble_eq_true rfl⟩ e43 rfl rfl rfl (Nat.le_of_ble_eq_true rfl) ⟨Nat.zero_le _, Nat.zero_le _⟩ rfl dX9_readWord_22 (fun hr7 => ?_)
        obtain ⟨M9, r10, hc11, h⟩ := cal_of h
        refine V_callSI (pc := 25) C (c_X9_isLetter l Γ sk hsk fu hr7 hc11) cf_X9_isLetter lk_X9_44 ⟨rfl, rfl⟩ ⟨Nat.le_of_ble_eq_true rfl, Nat.le_of_ble_eq_true rfl⟩ rfl (Nat.le_of_ble_eq_true rfl) ⟨Nat.zero_le _, Nat.zero_le _⟩ rfl dX9_readWord_25 (fun hr10 => ?_)
        refine V_if_eq (pc := 28) C 44 hr10 dX9_readWord_28 (by decide) (fun c28_12 => ?_) (fun c28_12 => ?_)
        · have h := ite_t h c28_12
          refine V_sub (L' := [(0, vr Γ 45)]) [0] rfl (by decide) ?_
          exact JP44 h
        · have h := ite_f h c28_12
          refine V_aload_n (pc := 31) C 0 rfl dX9_readWord_31 ?_
          refine V_dup (pc := 32) C rfl dX9_readWord_32 ?_
          refine V_rng fun hM13 => ?_
          refine V_getI (pc := 33) C e45 rfl inX9 1 (by decide) rfl lf_X9_22 rfl dX9_readWord_33 ?_
          refine V_iconst (pc := 36) C dX9_readWord_36 ?_
          refine V_iadd (pc := 37) C dX9_readWord_37 ?_
          obtain ⟨g14, h⟩ := grd_of h
          refine V_putI (pc := 38) C (by decide) e45 rfl inX9 tyX9 tyX9_ok nmX9 1 (by decide) rfl rfl lf_X9_22 rfl g14 rfl dX9_readWord_38 ?_
          refine V_goto (pc := 41) C 0 dX9_readWord_41 (by decide) ?_
          refine V_sub (L' := [(0, vr Γ 45)]) [0] rfl (by decide) ?_
          exact ih h
  skip
  refine V_sub (L' := [(0, vr Γ 45)]) [0] rfl (by decide) ?_
  exact LP0 fu  h
set_option maxRecDepth 100000 in
set_option maxHeartbeats 4000000 in
theorem c_X9_isBlank (l : Launch) (Γ : GG) (sk : List SD) (hsk : Ext sk) (fu : Nat) {M M' : Mem} {a0 : Int} {r : Int} (ha0 : rng a0) (h : f_X9_isBlank fu M a0 = some (M', r)) : MetI l yX9_isBlank cX9_isBlank 1 .boolean ({ frames := 0, cells := 0, slots := 0, locals := 0 } : Room) Γ sk [vi a0] M M' r := by
  unfold f_X9_isBlank at h
  refine MetI_of RX9 rfl (by decide) rfl (Nat.le_of_ble_eq_true rfl) rfl ?_
  intro p e s m args below meth c C hr hlk hM
  refine V_iload_n (pc := 0) C 0 rfl dX9_isBlank_0 ?_
  refine V_bipush (pc := 1) C dX9_isBlank_1 rfl ?_
  refine V_icmp_eq (pc := 3) C 12 ha0 (by decide) dX9_isBlank_3 (by decide) (fun c3_1 => ?_) (fun c3_1 => ?_)
  · have h := ite_t h c3_1
    refine V_iconst (pc := 12) C dX9_isBlank_12 ?_
    refine V_goto (pc := 13) C 17 dX9_isBlank_13 (by decide) ?_
    exact V_zret (pc := 17) C hr hlk (by decide) h dX9_isBlank_17
  · have h := ite_f h c3_1
    refine V_iload_n (pc := 6) C 0 rfl dX9_isBlank_6 ?_
    refine V_bipush (pc := 7) C dX9_isBlank_7 rfl ?_
    refine V_icmp_ne (pc := 9) C 16 ha0 (by decide) dX9_isBlank_9 (by decide) (fun c9_2 => ?_) (fun c9_2 => ?_)
    · have h := ite_f h c9_2
      refine V_iconst (pc := 16) C dX9_isBlank_16 ?_
      exact V_zret (pc := 17) C hr hlk (by decide) h dX9_isBlank_17
    · have h := ite_t h c9_2
      refine V_iconst (pc := 12) C dX9_isBlank_12 ?_
      refine V_goto (pc := 13) C 17 dX9_isBlank_13 (by decide) ?_
      exact V_zret (pc := 17) C hr hlk (by decide) h dX9_isBlank_17
