set_option maxRecDepth 100000 in
set_option maxHeartbeats 4000000 in
theorem c_X11_truncateInput (l : Launch) (Γ : GG) (sk : List SD) (hsk : Ext sk) (fu : Nat) {M M' : Mem} {a1 : Int} {r : Int} (ha1 : rng a1) (h : f_X11_truncateInput fu M a1 = some (M', r)) : MetI l yX11_truncateInput cX11_truncateInput 2 .boolean ({ frames := 0, cells := 0, slots := 0, locals := 0 } : Room) Γ sk [vr Γ 3, vi a1] M M' r := by
  unfold f_X11_truncateInput at h
  refine MetI_of RX11 rfl (by decide) rfl (Nat.le_of_ble_eq_true rfl) rfl ?_
  intro p e s m args below meth c C hr hlk hM
  have e3 := hsk 3 _ (by decide) rfl
  have e43 := hsk 43 _ (by decide) rfl
  refine V_iload_n (pc := 0) C 1 rfl dX11_truncateInput_0 ?_
  refine V_if_lt (pc := 1) C 15 ha1 dX11_truncateInput_1 (by decide) (fun c1_1 => ?_) (fun c1_1 => ?_)
  · have h := ite_t h c1_1
    refine V_iconst (pc := 15) C dX11_truncateInput_15 ?_
    exact V_zret (pc := 16) C hr hlk (by decide) h dX11_truncateInput_16
  · have h := ite_f h c1_1
    refine V_iload_n (pc := 4) C 1 rfl dX11_truncateInput_4 ?_
    refine V_aload_n (pc := 5) C 0 rfl dX11_truncateInput_5 ?_
    refine V_getR (pc := 6) C e3 rfl inX11 6 (by decide) rfl lf_X11_47 rfl dX11_truncateInput_6 ?_
    refine V_getI (pc := 9) C e43 rfl inX2 0 (by decide) rfl lf_X11_99 rfl dX11_truncateInput_9 ?_
    refine V_icmp_le (pc := 12) C 17 ha1 (hM _ _) dX11_truncateInput_12 (by decide) (fun c12_2 => ?_) (fun c12_2 => ?_)
    · have h := ite_t h c12_2
      refine V_aload_n (pc := 17) C 0 rfl dX11_truncateInput_17 ?_
      refine V_getR (pc := 18) C e3 rfl inX11 6 (by decide) rfl lf_X11_47 rfl dX11_truncateInput_18 ?_
      refine V_iload_n (pc := 21) C 1 rfl dX11_truncateInput_21 ?_
      refine V_putI (pc := 22) C (by decide) e43 rfl inX2 tyX2 tyX2_ok nmX2 0 (by decide) rfl rfl lf_X11_99 rfl ha1 rfl dX11_truncateInput_22 ?_
      refine V_iconst (pc := 25) C dX11_truncateInput_25 ?_
      exact V_zret (pc := 26) C hr hlk (by decide) h dX11_truncateInput_26
    · have h := ite_f h c12_2
      refine V_iconst (pc := 15) C dX11_truncateInput_15 ?_
      exact V_zret (pc := 16) C hr hlk (by decide) h dX11_truncateInput_16
set_option maxRecDepth 100000 in
set_option maxHeartbeats 4000000 in
theorem c_X11_loadSetup (l : Launch) (Γ : GG) (sk : List SD) (hsk : Ext sk) (fu : Nat) {M M' : Mem}  {r : Int}  (h : f_X11_loadSetup fu M  = some (M', r)) : MetI l yX11_loadSetup cX11_loadSetup 2 .int ({ frames := 17, cells := 0, slots := 0, locals := 505 } : Room) Γ sk [vr Γ 3] M M' r := by
  unfold f_X11_loadSetup at h
  refine MetI_of RX11 rfl (by decide) rfl (Nat.le_of_ble_eq_true rfl) rfl ?_
  intro p e s m args below meth c C hr hlk hM
  have e3 := hsk 3 _ (by decide) rfl
  have e4 := hsk 4 _ (by decide) rfl
  have e38 := hsk 38 _ (by decide) rfl
  have e43 := hsk 43 _ (by decide) rfl
  have e46 := hsk 46 _ (by decide) rfl
  have e47 := hsk 47 _ (by decide) rfl
  refine V_aload_n (pc := 0) C 0 rfl dX11_loadSetup_0 ?_
  refine V_getR (pc := 1) C e3 rfl inX11 8 (by decide) rfl lf_X11_65 rfl dX11_loadSetup_1 ?_
  obtain ⟨M1, r2, hc3, h⟩ := cal_of h
  refine V_callVI (pc := 4) C (c_X7_parse l Γ sk hsk fu hc3) cf_X7_parse lk_X11_103 ⟨rfl, rfl⟩ ⟨Nat.le_of_ble_eq_true rfl, Nat.le_of_ble_eq_true rfl⟩ e46 rfl rfl rfl (Nat.le_of_ble_eq_true rfl) ⟨Nat.zero_le _, Nat.zero_le _⟩ rfl dX11_loadSetup_4 (fun hr2 => ?_)
  refine V_istore_n (pc := 7) C (L' := [(0, vr Γ 3), (1, vi r2)]) rfl (by decide) dX11_loadSetup_7 ?_
  refine V_aload_n (pc := 8) C 0 rfl dX11_loadSetup_8 ?_
  refine V_getR (pc := 9) C e3 rfl inX11 6 (by decide) rfl lf_X11_47 rfl dX11_loadSetup_9 ?_
  refine V_iconst (pc := 12) C dX11_loadSetup_12 ?_
  refine V_putI (pc := 13) C (by decide) e43 rfl inX2 tyX2 tyX2_ok nmX2 0 (by decide) rfl rfl lf_X11_99 rfl (by decide) rfl dX11_loadSetup_13 ?_
  refine V_iload_n (pc := 16) C 1 rfl dX11_loadSetup_16 ?_
  refine V_if_ne (pc := 17) C 22 hr2 dX11_loadSetup_17 (by decide) (fun c17_4 => ?_) (fun c17_4 => ?_)
  · have h := ite_f h c17_4
    refine V_aload_n (pc := 22) C 0 rfl dX11_loadSetup_22 ?_
    refine V_getR (pc := 23) C e3 rfl inX11 0 (by decide) rfl lf_X11_10 rfl dX11_loadSetup_23 ?_
    refine V_aload_n (pc := 26) C 0 rfl dX11_loadSetup_26 ?_
    refine V_getR (pc := 27) C e3 rfl inX11 8 (by decide) rfl lf_X11_65 rfl dX11_loadSetup_27 ?_
    refine V_getR (pc := 30) C e46 rfl inX7 3 (by decide) rfl lf_X11_106 rfl dX11_loadSetup_30 ?_
    refine V_aload_n (pc := 33) C 0 rfl dX11_loadSetup_33 ?_
    refine V_getR (pc := 34) C e3 rfl inX11 8 (by decide) rfl lf_X11_65 rfl dX11_loadSetup_34 ?_
    refine V_rng fun hM5 => ?_
    refine V_getI (pc := 37) C e46 rfl inX7 4 (by decide) rfl lf_X11_109 rfl dX11_loadSetup_37 ?_
    obtain ⟨M6, r7, hc8, h⟩ := cal_of h
    refine V_callVV (pc := 40) C (c_X8_begin l Γ sk hsk fu e47 (by decide) (hM5 _ _) hc8) cf_X8_begin lk_X11_87 ⟨rfl, rfl⟩ ⟨Nat.le_of_ble_eq_true rfl, Nat.le_of_ble_eq_true rfl⟩ e4 rfl rfl rfl (Nat.le_of_ble_eq_true rfl) ⟨Nat.zero_le _, Nat.zero_le _⟩ rfl dX11_loadSetup_40 ?_
    refine V_aload_n (pc := 43) C 0 rfl dX11_loadSetup_43 ?_
    refine V_getR (pc := 44) C e3 rfl inX11 5 (by decide) rfl lf_X11_40 rfl dX11_loadSetup_44 ?_
    obtain ⟨M9, r10, hc11, h⟩ := cal_of h
    refine V_callVV (pc := 47) C (c_X1_forget l Γ sk hsk fu hc11) cf_X1_forget lk_X11_112 ⟨rfl, rfl⟩ ⟨Nat.le_of_ble_eq_true rfl, Nat.le_of_ble_eq_true rfl⟩ e38 rfl rfl rfl (Nat.le_of_ble_eq_true rfl) ⟨Nat.zero_le _, Nat.zero_le _⟩ rfl dX11_loadSetup_47 ?_
    refine V_aload_n (pc := 50) C 0 rfl dX11_loadSetup_50 ?_
    refine V_iconst (pc := 51) C dX11_loadSetup_51 ?_
    obtain ⟨g12, h⟩ := grd_of h
    refine V_putZ (pc := 52) C (by decide) e3 rfl inX11 tyX11 tyX11_ok nmX11 2 (by decide) rfl rfl lf_X11_115 rfl g12 rfl dX11_loadSetup_52 ?_
    refine V_aload_n (pc := 55) C 0 rfl dX11_loadSetup_55 ?_
    refine V_getR (pc := 56) C e3 rfl inX11 8 (by decide) rfl lf_X11_65 rfl dX11_loadSetup_56 ?_
    refine V_rng fun hM13 => ?_
    refine V_getI (pc := 59) C e46 rfl inX7 4 (by decide) rfl lf_X11_109 rfl dX11_loadSetup_59 ?_
    exact V_iret (pc := 62) C hr hlk (hM13 _ _) h dX11_loadSetup_62
  · have h := ite_t h c17_4
    refine V_iconst (pc := 20) C dX11_loadSetup_20 ?_
    exact V_iret (pc := 21) C hr hlk (by decide) h dX11_loadSetup_21
set_option maxRecDepth 100000 in
set_option maxHeartbeats 4000000 in
theorem c_X11_faultOfStatement (l : Launch) (Γ : GG) (sk : List SD) (hsk : Ext sk) (fu : Nat) {M M' : Mem} {a1 : Int} {r : Int} (ha1 : rng a1) (h : f_X11_faultOfStatement fu M a1 = some (M', r)) : MetI l yX11_faultOfStatement cX11_faultOfStatement 4 .int ({ frames := 6, cells := 0, slots := 0, locals := 134 } : Room) Γ sk [vr Γ 3, vi a1] M M' r := by
  unfold f_X11_faultOfStatement at h
  refine MetI_of RX11 rfl (by decide) rfl (Nat.le_of_ble_eq_true rfl) rfl ?_
  intro p e s m args below meth c C hr hlk hM
  have e3 := hsk 3 _ (by decide) rfl
  have e4 := hsk 4 _ (by decide) rfl
  have e10 := hsk 10 _ (by decide) rfl
  have e48 := hsk 48 _ (by decide) rfl
  refine V_aload_n (pc := 0) C 0 rfl dX11_faultOfStatement_0 ?_
  refine V_getR (pc := 1) C e3 rfl inX11 9 (by decide) rfl lf_X11_72 rfl dX11_faultOfStatement_1 ?_
  refine V_iload_n (pc := 4) C 1 rfl dX11_faultOfStatement_4 ?_
  refine V_iconst (pc := 5) C dX11_faultOfStatement_5 ?_
  obtain ⟨M1, r2, hc3, h⟩ := cal_of h
  refine V_callVI (pc := 6) C (c_X6_argumentOf l Γ sk hsk fu ha1 (by decide) hc3) cf_X6_argumentOf lk_X11_329 ⟨rfl, rfl⟩ ⟨Nat.le_of_ble_eq_true rfl, Nat.le_of_ble_eq_true rfl⟩ e48 rfl rfl rfl (Nat.le_of_ble_eq_true rfl) ⟨Nat.zero_le _, Nat.zero_le _⟩ rfl dX11_faultOfStatement_6 (fun hr2 => ?_)
  refine V_istore_n (pc := 9) C (L' := [(0, vr Γ 3), (1, vi a1), (2, vi r2)]) rfl (by decide) dX11_faultOfStatement_9 ?_
  refine V_aload_n (pc := 10) C 0 rfl dX11_faultOfStatement_10 ?_
  refine V_getR (pc := 11) C e3 rfl inX11 9 (by decide) rfl lf_X11_72 rfl dX11_faultOfStatement_11 ?_
  refine V_iload_n (pc := 14) C 1 rfl dX11_faultOfStatement_14 ?_
  refine V_iconst (pc := 15) C dX11_faultOfStatement_15 ?_
  obtain ⟨M4, r5, hc6, h⟩ := cal_of h
  refine V_callVI (pc := 16) C (c_X6_argumentOf l Γ sk hsk fu ha1 (by decide) hc6) cf_X6_argumentOf lk_X11_329 ⟨rfl, rfl⟩ ⟨Nat.le_of_ble_eq_true rfl, Nat.le_of_ble_eq_true rfl⟩ e48 rfl rfl rfl (Nat.le_of_ble_eq_true rfl) ⟨Nat.zero_le _, Nat.zero_le _⟩ rfl dX11_faultOfStatement_16 (fun hr5 => ?_)
  refine V_istore_n (pc := 19) C (L' := [(0, vr Γ 3), (1, vi a1), (2, vi r2), (3, vi r5)]) rfl (by decide) dX11_faultOfStatement_19 ?_
  refine V_aload_n (pc := 20) C 0 rfl dX11_faultOfStatement_20 ?_
  refine V_getR (pc := 21) C e3 rfl inX11 9 (by decide) rfl lf_X11_72 rfl dX11_faultOfStatement_21 ?_
  refine V_iload_n (pc := 24) C 1 rfl dX11_faultOfStatement_24 ?_
  obtain ⟨M7, r8, hc9, h⟩ := cal_of h
  refine V_callVI (pc := 25) C (c_X6_wordOf l Γ sk hsk fu ha1 hc9) cf_X6_wordOf lk_X11_332 ⟨rfl, rfl⟩ ⟨Nat.le_of_ble_eq_true rfl, Nat.le_of_ble_eq_true rfl⟩ e48 rfl rfl rfl (Nat.le_of_ble_eq_true rfl) ⟨Nat.zero_le _, Nat.zero_le _⟩ rfl dX11_faultOfStatement_25 (fun hr8 => ?_)
  by_cases c28_3_10 : r8 = (3 : Int)
  · have h := ite_t h c28_3_10
    refine V_tabIn (pc := 28) C 60 (3 : Int) c28_3_10 hr8 dX11_faultOfStatement_28 (by decide) (by decide) rfl (by decide) ?_
    refine V_aload_n (pc := 60) C 0 rfl dX11_faultOfStatement_60 ?_
    refine V_getR (pc := 61) C e3 rfl inX11 0 (by decide) rfl lf_X11_10 rfl dX11_faultOfStatement_61 ?_
    refine V_getR (pc := 64) C e4 rfl inX8 1 (by decide) rfl lf_X11_137 rfl dX11_faultOfStatement_64 ?_
    refine V_iload_n (pc := 67) C 2 rfl dX11_faultOfStatement_67 ?_
    refine V_iload_n (pc := 68) C 3 rfl dX11_faultOfStatement_68 ?_
    refine V_aload_n (pc := 69) C 0 rfl dX11_faultOfStatement_69 ?_
    refine V_getR (pc := 70) C e3 rfl inX11 9 (by decide) rfl lf_X11_72 rfl dX11_faultOfStatement_70 ?_
    refine V_iload_n (pc := 73) C 1 rfl dX11_faultOfStatement_73 ?_
    refine V_iconst (pc := 74) C dX11_faultOfStatement_74 ?_
    obtain ⟨M11, r12, hc13, h⟩ := cal_of h
    refine V_callVI (pc := 75) C (c_X6_argumentOf l Γ sk hsk fu ha1 (by decide) hc13) cf_X6_argumentOf lk_X11_329 ⟨rfl, rfl⟩ ⟨Nat.le_of_ble_eq_true rfl, Nat.le_of_ble_eq_true rfl⟩ e48 rfl rfl rfl (Nat.le_of_ble_eq_true rfl) ⟨Nat.zero_le _, Nat.zero_le _⟩ rfl dX11_faultOfStatement_75 (fun hr12 => ?_)
    obtain ⟨M14, r15, hc16, h⟩ := cal_of h
    refine V_callVI (pc := 78) C (c_X10_faultOfSet l Γ sk hsk fu hr2 hr5 hr12 hc16) cf_X10_faultOfSet lk_X11_275 ⟨rfl, rfl⟩ ⟨Nat.le_of_ble_eq_true rfl, Nat.le_of_ble_eq_true rfl⟩ e10 rfl rfl rfl (Nat.le_of_ble_eq_true rfl) ⟨Nat.zero_le _, Nat.zero_le _⟩ rfl dX11_faultOfStatement_78 (fun hr15 => ?_)
    exact V_iret (pc := 81) C hr hlk hr15 h dX11_faultOfStatement_81
  have h := ite_f h c28_3_10
  by_cases c28_4_17 : r8 = (4 : Int)
  · have h := ite_t h c28_4_17
    refine V_tabIn (pc := 28) C 82 (4 : Int) c28_4_17 hr8 dX11_faultOfStatement_28 (by decide) (by decide) rfl (by decide) ?_
    refine V_aload_n (pc := 82) C 0 rfl dX11_faultOfStatement_82 ?_
    refine V_getR (pc := 83) C e3 rfl inX11 0 (by decide) rfl lf_X11_10 rfl dX11_faultOfStatement_83 ?_
    refine V_getR (pc := 86) C e4 rfl inX8 1 (by decide) rfl lf_X11_137 rfl dX11_faultOfStatement_86 ?_
    refine V_iload_n (pc := 89) C 2 rfl dX11_faultOfStatement_89 ?_
    refine V_iload_n (pc := 90) C 3 rfl dX11_faultOfStatement_90 ?_
    obtain ⟨M18, r19, hc20, h⟩ := cal_of h
    refine V_callVI (pc := 91) C (c_X10_faultOfAppend l Γ sk hsk fu hr2 hr5 hc20) cf_X10_faultOfAppend lk_X11_284 ⟨rfl, rfl⟩ ⟨Nat.le_of_ble_eq_true rfl, Nat.le_of_ble_eq_true rfl⟩ e10 rfl rfl rfl (Nat.le_of_ble_eq_true rfl) ⟨Nat.zero_le _, Nat.zero_le _⟩ rfl dX11_faultOfStatement_91 (fun hr19 => ?_)
    exact V_iret (pc := 94) C hr hlk hr19 h dX11_faultOfStatement_94
  have h := ite_f h c28_4_17
  by_cases c28_5_21 : r8 = (5 : Int)
  · have h := ite_t h c28_5_21
    refine V_tabIn (pc := 28) C 95 (5 : Int) c28_5_21 hr8 dX11_faultOfStatement_28 (by decide) (by decide) rfl (by decide) ?_
    refine V_aload_n (pc := 95) C 0 rfl dX11_faultOfStatement_95 ?_
    refine V_getR (pc := 96) C e3 rfl inX11 0 (by decide) rfl lf_X11_10 rfl dX11_faultOfStatement_96 ?_
    refine V_getR (pc := 99) C e4 rfl inX8 1 (by decide) rfl lf_X11_137 rfl dX11_faultOfStatement_99 ?_
    refine V_iload_n (pc := 102) C 2 rfl dX11_faultOfStatement_102 ?_
    refine V_iload_n (pc := 103) C 3 rfl dX11_faultOfStatement_103 ?_
    obtain ⟨M22, r23, hc24, h⟩ := cal_of h
    refine V_callVI (pc := 104) C (c_X10_faultOfTruncate l Γ sk hsk fu hr2 hr5 hc24) cf_X10_faultOfTruncate lk_X11_290 ⟨rfl, rfl⟩ ⟨Nat.le_of_ble_eq_true rfl, Nat.le_of_ble_eq_true rfl⟩ e10 rfl rfl rfl (Nat.le_of_ble_eq_true rfl) ⟨Nat.zero_le _, Nat.zero_le _⟩ rfl dX11_faultOfStatement_104 (fun hr23 => ?_)
    exact V_iret (pc := 107) C hr hlk hr23 h dX11_faultOfStatement_107
  have h := ite_f h c28_5_21
  by_cases c28_6_25 : r8 = (6 : Int)
  · have h := ite_t h c28_6_25
    refine V_tabIn (pc := 28) C 108 (6 : Int) c28_6_25 hr8 dX11_faultOfStatement_28 (by decide) (by decide) rfl (by decide) ?_
    refine V_aload_n (pc := 108) C 0 rfl dX11_faultOfStatement_108 ?_
    refine V_getR (pc := 109) C e3 rfl inX11 0 (by decide) rfl lf_X11_10 rfl dX11_faultOfStatement_109 ?_
    refine V_getR (pc := 112) C e4 rfl inX8 1 (by decide) rfl lf_X11_137 rfl dX11_faultOfStatement_112 ?_
    refine V_iload_n (pc := 115) C 2 rfl dX11_faultOfStatement_115 ?_
    obtain ⟨M26, r27, hc28, h⟩ := cal_of h
    refine V_callVI (pc := 116) C (c_X10_faultOfReading l Γ sk hsk fu hr2 hc28) cf_X10_faultOfReading lk_X11_296 ⟨rfl, rfl⟩ ⟨Nat.le_of_ble_eq_true rfl, Nat.le_of_ble_eq_true rfl⟩ e10 rfl rfl rfl (Nat.le_of_ble_eq_true rfl) ⟨Nat.zero_le _, Nat.zero_le _⟩ rfl dX11_faultOfStatement_116 (fun hr27 => ?_)
    exact V_iret (pc := 119) C hr hlk hr27 h dX11_faultOfStatement_119
  have h := ite_f h c28_6_25
  refine V_tabOut (pc := 28) C 120 hr8 dX11_faultOfStatement_28 (tabout_3_6 c28_3_10 c28_4_17 c28_5_21 c28_6_25) (by decide) ?_
  refine V_iconst (pc := 120) C dX11_faultOfStatement_120 ?_
  exact V_iret (pc := 121) C hr hlk (by decide) h dX11_faultOfStatement_121
set_option maxRecDepth 100000 in
set_option maxHeartbeats 4000000 in
theorem c_X11_perform (l : Launch) (Γ : GG) (sk : List SD) (hsk : Ext sk) (fu : Nat) {M M' : Mem} {a1 : Int} {r : Int} (ha1 : rng a1) (h : f_X11_perform fu M a1 = some (M', r)) : MetV l yX11_perform cX11_perform 4 ({ frames := 38, cells := 0, slots := 0, locals := 1313 } : Room) Γ sk [vr Γ 3, vi a1] M M' := by
  unfold f_X11_perform at h
  refine MetV_of RX11 rfl (by decide) rfl (Nat.le_of_ble_eq_true rfl) rfl ?_
  intro p e s m args below meth c C hr hlk hM
  have e3 := hsk 3 _ (by decide) rfl
  have e4 := hsk 4 _ (by decide) rfl
  have e10 := hsk 10 _ (by decide) rfl
  have e34 := hsk 34 _ (by decide) rfl
  have e48 := hsk 48 _ (by decide) rfl
  refine V_aload_n (pc := 0) C 0 rfl dX11_perform_0 ?_
  refine V_getR (pc := 1) C e3 rfl inX11 9 (by decide) rfl lf_X11_72 rfl dX11_perform_1 ?_
  refine V_iload_n (pc := 4) C 1 rfl dX11_perform_4 ?_
  refine V_iconst (pc := 5) C dX11_perform_5 ?_
  obtain ⟨M1, r2, hc3, h⟩ := cal_of h
  refine V_callVI (pc := 6) C (c_X6_argumentOf l Γ sk hsk fu ha1 (by decide) hc3) cf_X6_argumentOf lk_X11_329 ⟨rfl, rfl⟩ ⟨Nat.le_of_ble_eq_true rfl, Nat.le_of_ble_eq_true rfl⟩ e48 rfl rfl rfl (Nat.le_of_ble_eq_true rfl) ⟨Nat.zero_le _, Nat.zero_le _⟩ rfl dX11_perform_6 (fun hr2 => ?_)
  refine V_istore_n (pc := 9) C (L' := [(0, vr Γ 3), (1, vi a1), (2, vi r2)]) rfl (by decide) dX11_perform_9 ?_
  refine V_aload_n (pc := 10) C 0 rfl dX11_perform_10 ?_
  refine V_getR (pc := 11) C e3 rfl inX11 9 (by decide) rfl lf_X11_72 rfl dX11_perform_11 ?_
  refine V_iload_n (pc := 14) C 1 rfl dX11_perform_14 ?_
  refine V_iconst (pc := 15) C dX11_perform_15 ?_
  obtain ⟨M4, r5, hc6, h⟩ := cal_of h
  refine V_callVI (pc := 16) C (c_X6_argumentOf l Γ sk hsk fu ha1 (by decide) hc6) cf_X6_argumentOf lk_X11_329 ⟨rfl, rfl⟩ ⟨Nat.le_of_ble_eq_true rfl, Nat.le_of_ble_eq_true rfl⟩ e48 rfl rfl rfl (Nat.le_of_ble_eq_true rfl) ⟨Nat.zero_le _, Nat.zero_le _⟩ rfl dX11_perform_16 (fun hr5 => ?_)
  refine V_istore_n (pc := 19) C (L' := [(0, vr Γ 3), (1, vi a1), (2, vi r2), (3, vi r5)]) rfl (by decide) dX11_perform_19 ?_
  refine V_aload_n (pc := 20) C 0 rfl dX11_perform_20 ?_
  refine V_getR (pc := 21) C e3 rfl inX11 9 (by decide) rfl lf_X11_72 rfl dX11_perform_21 ?_
  refine V_iload_n (pc := 24) C 1 rfl dX11_perform_24 ?_
  obtain ⟨M7, r8, hc9, h⟩ := cal_of h
  refine V_callVI (pc := 25) C (c_X6_wordOf l Γ sk hsk fu ha1 hc9) cf_X6_wordOf lk_X11_332 ⟨rfl, rfl⟩ ⟨Nat.le_of_ble_eq_true rfl, Nat.le_of_ble_eq_true rfl⟩ e48 rfl rfl rfl (Nat.le_of_ble_eq_true rfl) ⟨Nat.zero_le _, Nat.zero_le _⟩ rfl dX11_perform_25 (fun hr8 => ?_)
  by_cases c28_3_10 : r8 = (3 : Int)
  · have h := ite_t h c28_3_10
    refine V_tabIn (pc := 28) C 60 (3 : Int) c28_3_10 hr8 dX11_perform_28 (by decide) (by decide) rfl (by decide) ?_
    refine V_aload_n (pc := 60) C 0 rfl dX11_perform_60 ?_
    refine V_getR (pc := 61) C e3 rfl inX11 0 (by decide) rfl lf_X11_10 rfl dX11_perform_61 ?_
    refine V_iload_n (pc := 64) C 2 rfl dX11_perform_64 ?_
    refine V_iload_n (pc := 65) C 3 rfl dX11_perform_65 ?_
    refine V_aload_n (pc := 66) C 0 rfl dX11_perform_66 ?_
    refine V_getR (pc := 67) C e3 rfl inX11 9 (by decide) rfl lf_X11_72 rfl dX11_perform_67 ?_
    refine V_iload_n (pc := 70) C 1 rfl dX11_perform_70 ?_
    refine V_iconst (pc := 71) C dX11_perform_71 ?_
    obtain ⟨M11, r12, hc13, h⟩ := cal_of h
    refine V_callVI (pc := 72) C (c_X6_argumentOf l Γ sk hsk fu ha1 (by decide) hc13) cf_X6_argumentOf lk_X11_329 ⟨rfl, rfl⟩ ⟨Nat.le_of_ble_eq_true rfl, Nat.le_of_ble_eq_true rfl⟩ e48 rfl rfl rfl (Nat.le_of_ble_eq_true rfl) ⟨Nat.zero_le _, Nat.zero_le _⟩ rfl dX11_perform_72 (fun hr12 => ?_)
    obtain ⟨M14, r15, hc16, h⟩ := cal_of h
    refine V_callVI (pc := 75) C (c_X8_makeWithElement l Γ sk hsk fu hr2 hr5 hr12 hc16) cf_X8_makeWithElement lk_X11_281 ⟨rfl, rfl⟩ ⟨Nat.le_of_ble_eq_true rfl, Nat.le_of_ble_eq_true rfl⟩ e4 rfl rfl rfl (Nat.le_of_ble_eq_true rfl) ⟨Nat.zero_le _, Nat.zero_le _⟩ rfl dX11_perform_75 (fun hr15 => ?_)
    refine V_pop (pc := 78) C rfl dX11_perform_78 ?_
    refine V_goto (pc := 79) C 130 dX11_perform_79 (by decide) ?_
    exact V_vret (pc := 130) C hr hlk h dX11_perform_130
  have h := ite_f h c28_3_10
  by_cases c28_4_17 : r8 = (4 : Int)
  · have h := ite_t h c28_4_17
    refine V_tabIn (pc := 28) C 82 (4 : Int) c28_4_17 hr8 dX11_perform_28 (by decide) (by decide) rfl (by decide) ?_
    refine V_aload_n (pc := 82) C 0 rfl dX11_perform_82 ?_
    refine V_getR (pc := 83) C e3 rfl inX11 0 (by decide) rfl lf_X11_10 rfl dX11_perform_83 ?_
    refine V_iload_n (pc := 86) C 2 rfl dX11_perform_86 ?_
    refine V_iload_n (pc := 87) C 3 rfl dX11_perform_87 ?_
    obtain ⟨M18, r19, hc20, h⟩ := cal_of h
    refine V_callVI (pc := 88) C (c_X8_makeLonger l Γ sk hsk fu hr2 hr5 hc20) cf_X8_makeLonger lk_X11_287 ⟨rfl, rfl⟩ ⟨Nat.le_of_ble_eq_true rfl, Nat.le_of_ble_eq_true rfl⟩ e4 rfl rfl rfl (Nat.le_of_ble_eq_true rfl) ⟨Nat.zero_le _, Nat.zero_le _⟩ rfl dX11_perform_88 (fun hr19 => ?_)
    refine V_pop (pc := 91) C rfl dX11_perform_91 ?_
    refine V_goto (pc := 92) C 130 dX11_perform_92 (by decide) ?_
    exact V_vret (pc := 130) C hr hlk h dX11_perform_130
  have h := ite_f h c28_4_17
  by_cases c28_5_21 : r8 = (5 : Int)
  · have h := ite_t h c28_5_21
    refine V_tabIn (pc := 28) C 95 (5 : Int) c28_5_21 hr8 dX11_perform_28 (by decide) (by decide) rfl (by decide) ?_
    refine V_aload_n (pc := 95) C 0 rfl dX11_perform_95 ?_
    refine V_getR (pc := 96) C e3 rfl inX11 0 (by decide) rfl lf_X11_10 rfl dX11_perform_96 ?_
    refine V_iload_n (pc := 99) C 2 rfl dX11_perform_99 ?_
    refine V_iload_n (pc := 100) C 3 rfl dX11_perform_100 ?_
    obtain ⟨M22, r23, hc24, h⟩ := cal_of h
    refine V_callVI (pc := 101) C (c_X8_makeShorter l Γ sk hsk fu hr2 hr5 hc24) cf_X8_makeShorter lk_X11_293 ⟨rfl, rfl⟩ ⟨Nat.le_of_ble_eq_true rfl, Nat.le_of_ble_eq_true rfl⟩ e4 rfl rfl rfl (Nat.le_of_ble_eq_true rfl) ⟨Nat.zero_le _, Nat.zero_le _⟩ rfl dX11_perform_101 (fun hr23 => ?_)
    refine V_pop (pc := 104) C rfl dX11_perform_104 ?_
    refine V_goto (pc := 105) C 130 dX11_perform_105 (by decide) ?_
    exact V_vret (pc := 130) C hr hlk h dX11_perform_130
  have h := ite_f h c28_5_21
  by_cases c28_6_25 : r8 = (6 : Int)
  · have h := ite_t h c28_6_25
    refine V_tabIn (pc := 28) C 108 (6 : Int) c28_6_25 hr8 dX11_perform_28 (by decide) (by decide) rfl (by decide) ?_
    refine V_aload_n (pc := 108) C 0 rfl dX11_perform_108 ?_
    refine V_getR (pc := 109) C e3 rfl inX11 0 (by decide) rfl lf_X11_10 rfl dX11_perform_109 ?_
    refine V_getR (pc := 112) C e4 rfl inX8 1 (by decide) rfl lf_X11_137 rfl dX11_perform_112 ?_
    refine V_iload_n (pc := 115) C 2 rfl dX11_perform_115 ?_
    obtain ⟨M26, r27, hc28, h⟩ := cal_of h
    refine V_callVV (pc := 116) C (c_X10_drop l Γ sk hsk fu hr2 hc28) cf_X10_drop lk_X11_299 ⟨rfl, rfl⟩ ⟨Nat.le_of_ble_eq_true rfl, Nat.le_of_ble_eq_true rfl⟩ e10 rfl rfl rfl (Nat.le_of_ble_eq_true rfl) ⟨Nat.zero_le _, Nat.zero_le _⟩ rfl dX11_perform_116 ?_
    refine V_goto (pc := 119) C 130 dX11_perform_119 (by decide) ?_
    exact V_vret (pc := 130) C hr hlk h dX11_perform_130
  have h := ite_f h c28_6_25
  refine V_tabOut (pc := 28) C 122 hr8 dX11_perform_28 (tabout_3_6 c28_3_10 c28_4_17 c28_5_21 c28_6_25) (by decide) ?_
  refine V_aload_n (pc := 122) C 0 rfl dX11_perform_122 ?_
  refine V_getR (pc := 123) C e3 rfl inX11 3 (by decide) rfl lf_X11_24 rfl dX11_perform_123 ?_
  obtain ⟨M29, r30, hc31, h⟩ := cal_of h
  refine V_callVI (pc := 126) C (c_X5_removeGarbage l Γ sk hsk fu hc31) cf_X5_removeGarbage lk_X11_302 ⟨rfl, rfl⟩ ⟨Nat.le_of_ble_eq_true rfl, Nat.le_of_ble_eq_true rfl⟩ e34 rfl rfl rfl (Nat.le_of_ble_eq_true rfl) ⟨Nat.zero_le _, Nat.zero_le _⟩ rfl dX11_perform_126 (fun hr30 => ?_)
  refine V_pop (pc := 129) C rfl dX11_perform_129 ?_
  exact V_vret (pc := 130) C hr hlk h dX11_perform_130
set_option maxRecDepth 100000 in
set_option maxHeartbeats 4000000 in
theorem c_X11_runScript (l : Launch) (Γ : GG) (sk : List SD) (hsk : Ext sk) (fu : Nat) {M M' : Mem}  {r : Int}  (h : f_X11_runScript fu M  = some (M', r)) : MetI l yX11_runScript cX11_runScript 3 .int ({ frames := 39, cells := 0, slots := 0, locals := 1336 } : Room) Γ sk [vr Γ 3] M M' r := by
  unfold f_X11_runScript at h
  refine MetI_of RX11 rfl (by decide) rfl (Nat.le_of_ble_eq_true rfl) rfl ?_
  intro p e s m args below meth c C hr hlk hM
  have e3 := hsk 3 _ (by decide) rfl
  have e38 := hsk 38 _ (by decide) rfl
  have e43 := hsk 43 _ (by decide) rfl
  have e48 := hsk 48 _ (by decide) rfl
  have LP35 : ∀ (n : Nat) {x2 : Int} {M : Mem}, rng x2 → f_X11_runScript_L35 fu n x2 M = some (M', r) → VV p l e ({ frames := 39, cells := 0, slots := 0, locals := 1336 } : Room) s m args below meth c (MQ below (PostI Γ sk M' r s.heap.size) args s 0 0 (Fr Γ sk s.heap.size)) 3 Γ sk M 0 0 35 [(0, vr Γ 3), (2, vi x2)] [] := by
    intro n
    induction n with
    | zero =>
      intro x2 M hx2 h
      cases h
    | succ n ih =>
      intro x2 M hx2 h
      rw [f_X11_runScript_L35] at h
      refine V_iload_n (pc := 35) C 1 rfl dX11_runScript_35 ?_
      refine V_aload_n (pc := 36) C 0 rfl dX11_runScript_36 ?_
      refine V_getR (pc := 37) C e3 rfl inX11 9 (by decide) rfl lf_X11_72 rfl dX11_runScript_37 ?_
      refine V_rng fun hM8 => ?_
      refine V_getI (pc := 40) C e48 rfl inX6 5 (by decide) rfl lf_X11_123 rfl dX11_runScript_40 ?_
      refine V_icmp_ge (pc := 43) C 65 hx2 (hM8 _ _) dX11_runScript_43 (by decide) (fun c43_9 => ?_) (fun c43_9 => ?_)
      · have h := ite_t h c43_9
        refine V_iload_n (pc := 65) C 1 rfl dX11_runScript_65 ?_
        exact V_iret (pc := 66) C hr hlk hx2 h dX11_runScript_66
      · have h := ite_f h c43_9
        refine V_aload_n (pc := 46) C 0 rfl dX11_runScript_46 ?_
        refine V_iload_n (pc := 47) C 1 rfl dX11_runScript_47 ?_
        obtain ⟨M10, r11, hc12, h⟩ := cal_of h
        refine V_callVI (pc := 48) C (c_X11_faultOfStatement l Γ sk hsk fu hx2 hc12) cf_X11_faultOfStatement lk_X11_124 ⟨rfl, rfl⟩ ⟨Nat.le_of_ble_eq_true rfl, Nat.le_of_ble_eq_true rfl⟩ e3 rfl rfl rfl (Nat.le_of_ble_eq_true rfl) ⟨Nat.zero_le _, Nat.zero_le _⟩ rfl dX11_runScript_48 (fun hr11 => ?_)
        refine V_if_ne (pc := 51) C 65 hr11 dX11_runScript_51 (by decide) (fun c51_13 => ?_) (fun c51_13 => ?_)
        · have h := ite_f h c51_13
          refine V_iload_n (pc := 65) C 1 rfl dX11_runScript_65 ?_
          exact V_iret (pc := 66) C hr hlk hx2 h dX11_runScript_66
        · have h := ite_t h c51_13
          refine V_aload_n (pc := 54) C 0 rfl dX11_runScript_54 ?_
          refine V_iload_n (pc := 55) C 1 rfl dX11_runScript_55 ?_
          obtain ⟨M14, r15, hc16, h⟩ := cal_of h
          refine V_callVV (pc := 56) C (c_X11_perform l Γ sk hsk fu hx2 hc16) cf_X11_perform lk_X11_128 ⟨rfl, rfl⟩ ⟨Nat.le_of_ble_eq_true rfl, Nat.le_of_ble_eq_true rfl⟩ e3 rfl rfl rfl (Nat.le_of_ble_eq_true rfl) ⟨Nat.zero_le _, Nat.zero_le _⟩ rfl dX11_runScript_56 ?_
          refine V_iinc (pc := 59) C (L' := [(0, vr Γ 3), (2, vi (x2 + (1 : Int)))]) 1 rfl rfl (by decide) dX11_runScript_59 ?_
          refine V_goto (pc := 62) C 35 dX11_runScript_62 (by decide) ?_
          obtain ⟨g17, h⟩ := grd_of h
          refine V_sub (L' := [(0, vr Γ 3), (2, vi (x2 + (1 : Int)))]) [0, 1] rfl (by decide) ?_
          exact ih g17 h
  skip
  refine V_aload_n (pc := 0) C 0 rfl dX11_runScript_0 ?_
  refine V_getR (pc := 1) C e3 rfl inX11 9 (by decide) rfl lf_X11_72 rfl dX11_runScript_1 ?_
  obtain ⟨M1, r2, hc3, h⟩ := cal_of h
  refine V_callVI (pc := 4) C (c_X6_parse l Γ sk hsk fu hc3) cf_X6_parse lk_X11_119 ⟨rfl, rfl⟩ ⟨Nat.le_of_ble_eq_true rfl, Nat.le_of_ble_eq_true rfl⟩ e48 rfl rfl rfl (Nat.le_of_ble_eq_true rfl) ⟨Nat.zero_le _, Nat.zero_le _⟩ rfl dX11_runScript_4 (fun hr2 => ?_)
  refine V_istore_n (pc := 7) C (L' := [(0, vr Γ 3), (1, vi r2)]) rfl (by decide) dX11_runScript_7 ?_
  refine V_aload_n (pc := 8) C 0 rfl dX11_runScript_8 ?_
  refine V_getR (pc := 9) C e3 rfl inX11 6 (by decide) rfl lf_X11_47 rfl dX11_runScript_9 ?_
  refine V_iconst (pc := 12) C dX11_runScript_12 ?_
  refine V_putI (pc := 13) C (by decide) e43 rfl inX2 tyX2 tyX2_ok nmX2 0 (by decide) rfl rfl lf_X11_99 rfl (by decide) rfl dX11_runScript_13 ?_
  refine V_iload_n (pc := 16) C 1 rfl dX11_runScript_16 ?_
  refine V_if_ne (pc := 17) C 22 hr2 dX11_runScript_17 (by decide) (fun c17_4 => ?_) (fun c17_4 => ?_)
  · have h := ite_f h c17_4
    refine V_aload_n (pc := 22) C 0 rfl dX11_runScript_22 ?_
    refine V_getR (pc := 23) C e3 rfl inX11 5 (by decide) rfl lf_X11_40 rfl dX11_runScript_23 ?_
    refine V_aload_n (pc := 26) C 0 rfl dX11_runScript_26 ?_
    refine V_getR (pc := 27) C e3 rfl inX11 0 (by decide) rfl lf_X11_10 rfl dX11_runScript_27 ?_
    obtain ⟨M5, r6, hc7, h⟩ := cal_of h
    refine V_callVV (pc := 30) C (c_X1_keep l Γ sk hsk fu hc7) cf_X1_keep lk_X11_120 ⟨rfl, rfl⟩ ⟨Nat.le_of_ble_eq_true rfl, Nat.le_of_ble_eq_true rfl⟩ e38 rfl rfl rfl (Nat.le_of_ble_eq_true rfl) ⟨Nat.zero_le _, Nat.zero_le _⟩ rfl dX11_runScript_30 ?_
    refine V_iconst (pc := 33) C dX11_runScript_33 ?_
    refine V_istore_n (pc := 34) C (L' := [(0, vr Γ 3), (1, vi r2), (2, vi (0 : Int))]) rfl (by decide) dX11_runScript_34 ?_
    refine V_sub (L' := [(0, vr Γ 3), (2, vi (0 : Int))]) [0, 2] rfl (by decide) ?_
    exact LP35 fu  (by decide) h
  · have h := ite_t h c17_4
    refine V_iconst (pc := 20) C dX11_runScript_20 ?_
    exact V_iret (pc := 21) C hr hlk (by decide) h dX11_runScript_21
set_option maxRecDepth 100000 in
set_option maxHeartbeats 4000000 in
theorem c_X11_errorCode (l : Launch) (Γ : GG) (sk : List SD) (hsk : Ext sk) (fu : Nat) {M M' : Mem}  {r : Int}  (h : f_X11_errorCode fu M  = some (M', r)) : MetI l yX11_errorCode cX11_errorCode 1 .int ({ frames := 0, cells := 0, slots := 0, locals := 0 } : Room) Γ sk [vr Γ 3] M M' r := by
  unfold f_X11_errorCode at h
  refine MetI_of RX11 rfl (by decide) rfl (Nat.le_of_ble_eq_true rfl) rfl ?_
  intro p e s m args below meth c C hr hlk hM
  have e3 := hsk 3 _ (by decide) rfl
  have e45 := hsk 45 _ (by decide) rfl
  refine V_aload_n (pc := 0) C 0 rfl dX11_errorCode_0 ?_
  refine V_getR (pc := 1) C e3 rfl inX11 7 (by decide) rfl lf_X11_56 rfl dX11_errorCode_1 ?_
  refine V_getI (pc := 4) C e45 rfl inX9 6 (by decide) rfl lf_X11_131 rfl dX11_errorCode_4 ?_
  exact V_iret (pc := 7) C hr hlk (hM _ _) h dX11_errorCode_7
set_option maxRecDepth 100000 in
set_option maxHeartbeats 4000000 in
theorem c_X11_errorOffset (l : Launch) (Γ : GG) (sk : List SD) (hsk : Ext sk) (fu : Nat) {M M' : Mem}  {r : Int}  (h : f_X11_errorOffset fu M  = some (M', r)) : MetI l yX11_errorOffset cX11_errorOffset 1 .int ({ frames := 0, cells := 0, slots := 0, locals := 0 } : Room) Γ sk [vr Γ 3] M M' r := by
  unfold f_X11_errorOffset at h
  refine MetI_of RX11 rfl (by decide) rfl (Nat.le_of_ble_eq_true rfl) rfl ?_
  intro p e s m args below meth c C hr hlk hM
  have e3 := hsk 3 _ (by decide) rfl
  have e45 := hsk 45 _ (by decide) rfl
  refine V_aload_n (pc := 0) C 0 rfl dX11_errorOffset_0 ?_
  refine V_getR (pc := 1) C e3 rfl inX11 7 (by decide) rfl lf_X11_56 rfl dX11_errorOffset_1 ?_
  refine V_getI (pc := 4) C e45 rfl inX9 7 (by decide) rfl lf_X11_134 rfl dX11_errorOffset_4 ?_
  exact V_iret (pc := 7) C hr hlk (hM _ _) h dX11_errorOffset_7
set_option maxRecDepth 100000 in
set_option maxHeartbeats 4000000 in
theorem c_X11_versionCount (l : Launch) (Γ : GG) (sk : List SD) (hsk : Ext sk) (fu : Nat) {M M' : Mem}  {r : Int}  (h : f_X11_versionCount fu M  = some (M', r)) : MetI l yX11_versionCount cX11_versionCount 1 .int ({ frames := 0, cells := 0, slots := 0, locals := 0 } : Room) Γ sk [vr Γ 3] M M' r := by
  unfold f_X11_versionCount at h
  refine MetI_of RX11 rfl (by decide) rfl (Nat.le_of_ble_eq_true rfl) rfl ?_
  intro p e s m args below meth c C hr hlk hM
  have e3 := hsk 3 _ (by decide) rfl
  have e4 := hsk 4 _ (by decide) rfl
  have e10 := hsk 10 _ (by decide) rfl
  refine V_aload_n (pc := 0) C 0 rfl dX11_versionCount_0 ?_
  refine V_getR (pc := 1) C e3 rfl inX11 0 (by decide) rfl lf_X11_10 rfl dX11_versionCount_1 ?_
  refine V_getR (pc := 4) C e4 rfl inX8 1 (by decide) rfl lf_X11_137 rfl dX11_versionCount_4 ?_
  refine V_getI (pc := 7) C e10 rfl inX10 0 (by decide) rfl lf_X11_141 rfl dX11_versionCount_7 ?_
  exact V_iret (pc := 10) C hr hlk (hM _ _) h dX11_versionCount_10
set_option maxRecDepth 100000 in
set_option maxHeartbeats 4000000 in
theorem c_X11_liveCount (l : Launch) (Γ : GG) (sk : List SD) (hsk : Ext sk) (fu : Nat) {M M' : Mem}  {r : Int}  (h : f_X11_liveCount fu M  = some (M', r)) : MetI l yX11_liveCount cX11_liveCount 1 .int ({ frames := 3, cells := 0, slots := 0, locals := 64 } : Room) Γ sk [vr Γ 3] M M' r := by
  unfold f_X11_liveCount at h
  refine MetI_of RX11 rfl (by decide) rfl (Nat.le_of_ble_eq_true rfl) rfl ?_
  intro p e s m args below meth c C hr hlk hM
  have e3 := hsk 3 _ (by decide) rfl
  have e4 := hsk 4 _ (by decide) rfl
  have e10 := hsk 10 _ (by decide) rfl
  refine V_aload_n (pc := 0) C 0 rfl dX11_liveCount_0 ?_
  refine V_getR (pc := 1) C e3 rfl inX11 0 (by decide) rfl lf_X11_10 rfl dX11_liveCount_1 ?_
  refine V_getR (pc := 4) C e4 rfl inX8 1 (by decide) rfl lf_X11_137 rfl dX11_liveCount_4 ?_
  obtain ⟨M1, r2, hc3, h⟩ := cal_of h
  refine V_callVI (pc := 7) C (c_X10_countLive l Γ sk hsk fu hc3) cf_X10_countLive lk_X11_144 ⟨rfl, rfl⟩ ⟨Nat.le_of_ble_eq_true rfl, Nat.le_of_ble_eq_true rfl⟩ e10 rfl rfl rfl (Nat.le_of_ble_eq_true rfl) ⟨Nat.zero_le _, Nat.zero_le _⟩ rfl dX11_liveCount_7 (fun hr2 => ?_)
  exact V_iret (pc := 10) C hr hlk hr2 h dX11_liveCount_10
set_option maxRecDepth 100000 in
set_option maxHeartbeats 4000000 in
theorem c_X11_createdNodes (l : Launch) (Γ : GG) (sk : List SD) (hsk : Ext sk) (fu : Nat) {M M' : Mem}  {r : Int}  (h : f_X11_createdNodes fu M  = some (M', r)) : MetI l yX11_createdNodes cX11_createdNodes 1 .int ({ frames := 0, cells := 0, slots := 0, locals := 0 } : Room) Γ sk [vr Γ 3] M M' r := by
  unfold f_X11_createdNodes at h
  refine MetI_of RX11 rfl (by decide) rfl (Nat.le_of_ble_eq_true rfl) rfl ?_
  intro p e s m args below meth c C hr hlk hM
  have e3 := hsk 3 _ (by decide) rfl
  have e4 := hsk 4 _ (by decide) rfl
  have e5 := hsk 5 _ (by decide) rfl
  refine V_aload_n (pc := 0) C 0 rfl dX11_createdNodes_0 ?_
  refine V_getR (pc := 1) C e3 rfl inX11 0 (by decide) rfl lf_X11_10 rfl dX11_createdNodes_1 ?_
  refine V_getR (pc := 4) C e4 rfl inX8 0 (by decide) rfl lf_X11_198 rfl dX11_createdNodes_4 ?_
  refine V_getI (pc := 7) C e5 rfl inX3 0 (by decide) rfl lf_X11_202 rfl dX11_createdNodes_7 ?_
  exact V_iret (pc := 10) C hr hlk (hM _ _) h dX11_createdNodes_10
set_option maxRecDepth 100000 in
set_option maxHeartbeats 4000000 in
theorem c_X11_storedNodes (l : Launch) (Γ : GG) (sk : List SD) (hsk : Ext sk) (fu : Nat) {M M' : Mem}  {r : Int}  (h : f_X11_storedNodes fu M  = some (M', r)) : MetI l yX11_storedNodes cX11_storedNodes 1 .int ({ frames := 3, cells := 0, slots := 0, locals := 64 } : Room) Γ sk [vr Γ 3] M M' r := by
  unfold f_X11_storedNodes at h
  refine MetI_of RX11 rfl (by decide) rfl (Nat.le_of_ble_eq_true rfl) rfl ?_
  intro p e s m args below meth c C hr hlk hM
  have e3 := hsk 3 _ (by decide) rfl
  have e4 := hsk 4 _ (by decide) rfl
  have e5 := hsk 5 _ (by decide) rfl
  refine V_aload_n (pc := 0) C 0 rfl dX11_storedNodes_0 ?_
  refine V_getR (pc := 1) C e3 rfl inX11 0 (by decide) rfl lf_X11_10 rfl dX11_storedNodes_1 ?_
  refine V_getR (pc := 4) C e4 rfl inX8 0 (by decide) rfl lf_X11_198 rfl dX11_storedNodes_4 ?_
  obtain ⟨M1, r2, hc3, h⟩ := cal_of h
  refine V_callVI (pc := 7) C (c_X3_countStored l Γ sk hsk fu hc3) cf_X3_countStored lk_X11_207 ⟨rfl, rfl⟩ ⟨Nat.le_of_ble_eq_true rfl, Nat.le_of_ble_eq_true rfl⟩ e5 rfl rfl rfl (Nat.le_of_ble_eq_true rfl) ⟨Nat.zero_le _, Nat.zero_le _⟩ rfl dX11_storedNodes_7 (fun hr2 => ?_)
  exact V_iret (pc := 10) C hr hlk hr2 h dX11_storedNodes_10
set_option maxRecDepth 100000 in
set_option maxHeartbeats 4000000 in
theorem c_X11_garbageNodes (l : Launch) (Γ : GG) (sk : List SD) (hsk : Ext sk) (fu : Nat) {M M' : Mem}  {r : Int}  (h : f_X11_garbageNodes fu M  = some (M', r)) : MetI l yX11_garbageNodes cX11_garbageNodes 1 .int ({ frames := 30, cells := 0, slots := 0, locals := 992 } : Room) Γ sk [vr Γ 3] M M' r := by
  unfold f_X11_garbageNodes at h
  refine MetI_of RX11 rfl (by decide) rfl (Nat.le_of_ble_eq_true rfl) rfl ?_
  intro p e s m args below meth c C hr hlk hM
  have e3 := hsk 3 _ (by decide) rfl
  have e34 := hsk 34 _ (by decide) rfl
  refine V_aload_n (pc := 0) C 0 rfl dX11_garbageNodes_0 ?_
  refine V_getR (pc := 1) C e3 rfl inX11 3 (by decide) rfl lf_X11_24 rfl dX11_garbageNodes_1 ?_
  obtain ⟨M1, r2, hc3, h⟩ := cal_of h
  refine V_callVI (pc := 4) C (c_X5_countGarbage l Γ sk hsk fu hc3) cf_X5_countGarbage lk_X11_210 ⟨rfl, rfl⟩ ⟨Nat.le_of_ble_eq_true rfl, Nat.le_of_ble_eq_true rfl⟩ e34 rfl rfl rfl (Nat.le_of_ble_eq_true rfl) ⟨Nat.zero_le _, Nat.zero_le _⟩ rfl dX11_garbageNodes_4 (fun hr2 => ?_)
  exact V_iret (pc := 7) C hr hlk hr2 h dX11_garbageNodes_7
set_option maxRecDepth 100000 in
set_option maxHeartbeats 4000000 in
theorem c_X11_largestVersion (l : Launch) (Γ : GG) (sk : List SD) (hsk : Ext sk) (fu : Nat) {M M' : Mem}  {r : Int}  (h : f_X11_largestVersion fu M  = some (M', r)) : MetI l yX11_largestVersion cX11_largestVersion 1 .int ({ frames := 3, cells := 0, slots := 0, locals := 64 } : Room) Γ sk [vr Γ 3] M M' r := by
  unfold f_X11_largestVersion at h
  refine MetI_of RX11 rfl (by decide) rfl (Nat.le_of_ble_eq_true rfl) rfl ?_
  intro p e s m args below meth c C hr hlk hM
  have e3 := hsk 3 _ (by decide) rfl
  have e4 := hsk 4 _ (by decide) rfl
  have e10 := hsk 10 _ (by decide) rfl
  refine V_aload_n (pc := 0) C 0 rfl dX11_largestVersion_0 ?_
  refine V_getR (pc := 1) C e3 rfl inX11 0 (by decide) rfl lf_X11_10 rfl dX11_largestVersion_1 ?_
  refine V_getR (pc := 4) C e4 rfl inX8 1 (by decide) rfl lf_X11_137 rfl dX11_largestVersion_4 ?_
  obtain ⟨M1, r2, hc3, h⟩ := cal_of h
  refine V_callVI (pc := 7) C (c_X10_findLargest l Γ sk hsk fu hc3) cf_X10_findLargest lk_X11_263 ⟨rfl, rfl⟩ ⟨Nat.le_of_ble_eq_true rfl, Nat.le_of_ble_eq_true rfl⟩ e10 rfl rfl rfl (Nat.le_of_ble_eq_true rfl) ⟨Nat.zero_le _, Nat.zero_le _⟩ rfl dX11_largestVersion_7 (fun hr2 => ?_)
  exact V_iret (pc := 10) C hr hlk hr2 h dX11_largestVersion_10
set_option maxRecDepth 100000 in
set_option maxHeartbeats 4000000 in
theorem c_X11_isConsistent (l : Launch) (Γ : GG) (sk : List SD) (hsk : Ext sk) (fu : Nat) {M M' : Mem}  {r : Int}  (h : f_X11_isConsistent fu M  = some (M', r)) : MetI l yX11_isConsistent cX11_isConsistent 1 .boolean ({ frames := 31, cells := 0, slots := 0, locals := 1014 } : Room) Γ sk [vr Γ 3] M M' r := by
  unfold f_X11_isConsistent at h
  refine MetI_of RX11 rfl (by decide) rfl (Nat.le_of_ble_eq_true rfl) rfl ?_
  intro p e s m args below meth c C hr hlk hM
  have e3 := hsk 3 _ (by decide) rfl
  have e36 := hsk 36 _ (by decide) rfl
  refine V_aload_n (pc := 0) C 0 rfl dX11_isConsistent_0 ?_
  refine V_getR (pc := 1) C e3 rfl inX11 4 (by decide) rfl lf_X11_33 rfl dX11_isConsistent_1 ?_
  obtain ⟨M1, r2, hc3, h⟩ := cal_of h
  refine V_callVI (pc := 4) C (c_X0_passes l Γ sk hsk fu hc3) cf_X0_passes lk_X11_272 ⟨rfl, rfl⟩ ⟨Nat.le_of_ble_eq_true rfl, Nat.le_of_ble_eq_true rfl⟩ e36 rfl rfl rfl (Nat.le_of_ble_eq_true rfl) ⟨Nat.zero_le _, Nat.zero_le _⟩ rfl dX11_isConsistent_4 (fun hr2 => ?_)
  obtain ⟨g4, h⟩ := grd_of h
  exact V_zret (pc := 7) C hr hlk g4 h dX11_isConsistent_7
set_option maxRecDepth 100000 in
set_option maxHeartbeats 4000000 in
theorem c_X11_outputByte (l : Launch) (Γ : GG) (sk : List SD) (hsk : Ext sk) (fu : Nat) {M M' : Mem} {a1 : Int} {r : Int} (ha1 : rng a1) (h : f_X11_outputByte fu M a1 = some (M', r)) : MetI l yX11_outputByte cX11_outputByte 2 .int ({ frames := 2, cells := 0, slots := 0, locals := 42 } : Room) Γ sk [vr Γ 3, vi a1] M M' r := by
  unfold f_X11_outputByte at h
  refine MetI_of RX11 rfl (by decide) rfl (Nat.le_of_ble_eq_true rfl) rfl ?_
  intro p e s m args below meth c C hr hlk hM
  have e3 := hsk 3 _ (by decide) rfl
  have e50 := hsk 50 _ (by decide) rfl
  refine V_aload_n (pc := 0) C 0 rfl dX11_outputByte_0 ?_
  refine V_getR (pc := 1) C e3 rfl inX11 10 (by decide) rfl lf_X11_79 rfl dX11_outputByte_1 ?_
  refine V_iload_n (pc := 4) C 1 rfl dX11_outputByte_4 ?_
  obtain ⟨M1, r2, hc3, h⟩ := cal_of h
  refine V_callVI (pc := 5) C (c_X4_byteAt l Γ sk hsk fu ha1 hc3) cf_X4_byteAt lk_X11_321 ⟨rfl, rfl⟩ ⟨Nat.le_of_ble_eq_true rfl, Nat.le_of_ble_eq_true rfl⟩ e50 rfl rfl rfl (Nat.le_of_ble_eq_true rfl) ⟨Nat.zero_le _, Nat.zero_le _⟩ rfl dX11_outputByte_5 (fun hr2 => ?_)
  exact V_iret (pc := 8) C hr hlk hr2 h dX11_outputByte_8
set_option maxRecDepth 100000 in
set_option maxHeartbeats 4000000 in
theorem c_X3_copyFrom (l : Launch) (Γ : GG) (sk : List SD) (hsk : Ext sk) (fu : Nat) {M M' : Mem}  {r : Int}  (h : f_X3_copyFrom fu M  = some (M', r)) : MetV l yX3_copyFrom cX3_copyFrom 2 ({ frames := 2, cells := 0, slots := 0, locals := 47 } : Room) Γ sk [vr Γ 20, vr Γ 5] M M' := by
  unfold f_X3_copyFrom at h
  refine MetV_of RX3 rfl (by decide) rfl (Nat.le_of_ble_eq_true rfl) rfl ?_
  intro p e s m args below meth c C hr hlk hM
  have e5 := hsk 5 _ (by decide) rfl
  have e6 := hsk 6 _ (by decide) rfl
  have e7 := hsk 7 _ (by decide) rfl
  have e8 := hsk 8 _ (by decide) rfl
  have e9 := hsk 9 _ (by decide) rfl
  have e20 := hsk 20 _ (by decide) rfl
  have e21 := hsk 21 _ (by decide) rfl
  have e22 := hsk 22 _ (by decide) rfl
  have e23 := hsk 23 _ (by decide) rfl
  have e24 := hsk 24 _ (by decide) rfl
  refine V_aload_n (pc := 0) C 0 rfl dX3_copyFrom_0 ?_
  refine V_aload_n (pc := 1) C 1 rfl dX3_copyFrom_1 ?_
  refine V_getI (pc := 2) C e5 rfl inX3 0 (by decide) rfl lf_X3_25 rfl dX3_copyFrom_2 ?_
  refine V_putI (pc := 5) C (by decide) e20 rfl inX3 tyX3 tyX3_ok nmX3 0 (by decide) rfl rfl lf_X3_25 rfl (hM _ _) rfl dX3_copyFrom_5 ?_
  refine V_aload_n (pc := 8) C 1 rfl dX3_copyFrom_8 ?_
  refine V_getR (pc := 9) C e5 rfl inX3 1 (by decide) rfl lf_X3_9 rfl dX3_copyFrom_9 ?_
  refine V_aload_n (pc := 12) C 0 rfl dX3_copyFrom_12 ?_
  refine V_getR (pc := 13) C e20 rfl inX3 1 (by decide) rfl lf_X3_9 rfl dX3_copyFrom_13 ?_
  obtain ⟨M1, r2, hc3, h⟩ := cal_of h
  refine V_callNV (pc := 16) C (c_X11_copyRow l Γ sk hsk fu e6 (by decide) e21 (by decide) (by decide) hc3) cf_X11_copyRow ln_X3_29 ⟨rfl, rfl⟩ ⟨Nat.le_of_ble_eq_true rfl, Nat.le_of_ble_eq_true rfl⟩ rfl (Nat.le_of_ble_eq_true rfl) ⟨Nat.zero_le _, Nat.zero_le _⟩ rfl dX3_copyFrom_16 ?_
  refine V_aload_n (pc := 19) C 1 rfl dX3_copyFrom_19 ?_
  refine V_getR (pc := 20) C e5 rfl inX3 2 (by decide) rfl lf_X3_15 rfl dX3_copyFrom_20 ?_
  refine V_aload_n (pc := 23) C 0 rfl dX3_copyFrom_23 ?_
  refine V_getR (pc := 24) C e20 rfl inX3 2 (by decide) rfl lf_X3_15 rfl dX3_copyFrom_24 ?_
  obtain ⟨M4, r5, hc6, h⟩ := cal_of h
  refine V_callNV (pc := 27) C (c_X11_copyRow l Γ sk hsk fu e7 (by decide) e22 (by decide) (by decide) hc6) cf_X11_copyRow ln_X3_29 ⟨rfl, rfl⟩ ⟨Nat.le_of_ble_eq_true rfl, Nat.le_of_ble_eq_true rfl⟩ rfl (Nat.le_of_ble_eq_true rfl) ⟨Nat.zero_le _, Nat.zero_le _⟩ rfl dX3_copyFrom_27 ?_
  refine V_aload_n (pc := 30) C 1 rfl dX3_copyFrom_30 ?_
  refine V_getR (pc := 31) C e5 rfl inX3 3 (by decide) rfl lf_X3_18 rfl dX3_copyFrom_31 ?_
  refine V_aload_n (pc := 34) C 0 rfl dX3_copyFrom_34 ?_
  refine V_getR (pc := 35) C e20 rfl inX3 3 (by decide) rfl lf_X3_18 rfl dX3_copyFrom_35 ?_
  obtain ⟨M7, r8, hc9, h⟩ := cal_of h
  refine V_callNV (pc := 38) C (c_X11_copyRow l Γ sk hsk fu e8 (by decide) e23 (by decide) (by decide) hc9) cf_X11_copyRow ln_X3_29 ⟨rfl, rfl⟩ ⟨Nat.le_of_ble_eq_true rfl, Nat.le_of_ble_eq_true rfl⟩ rfl (Nat.le_of_ble_eq_true rfl) ⟨Nat.zero_le _, Nat.zero_le _⟩ rfl dX3_copyFrom_38 ?_
  refine V_aload_n (pc := 41) C 1 rfl dX3_copyFrom_41 ?_
  refine V_getR (pc := 42) C e5 rfl inX3 4 (by decide) rfl lf_X3_21 rfl dX3_copyFrom_42 ?_
  refine V_iconst (pc := 45) C dX3_copyFrom_45 ?_
  refine V_aload_n (pc := 46) C 0 rfl dX3_copyFrom_46 ?_
  refine V_getR (pc := 47) C e20 rfl inX3 4 (by decide) rfl lf_X3_21 rfl dX3_copyFrom_47 ?_
  refine V_iconst (pc := 50) C dX3_copyFrom_50 ?_
  refine V_sipush (pc := 51) C dX3_copyFrom_51 rfl ?_
  obtain ⟨M10, r11, hc12, h⟩ := cal_of h
  refine V_callNV (pc := 54) C (c_X11_copyFlags l Γ sk hsk fu e9 (by decide) (by decide) e24 (by decide) (by decide) (by decide) (by decide) hc12) cf_X11_copyFlags ln_X3_33 ⟨rfl, rfl⟩ ⟨Nat.le_of_ble_eq_true rfl, Nat.le_of_ble_eq_true rfl⟩ rfl (Nat.le_of_ble_eq_true rfl) ⟨Nat.zero_le _, Nat.zero_le _⟩ rfl dX3_copyFrom_54 ?_
  exact V_vret (pc := 57) C hr hlk h dX3_copyFrom_57
set_option maxRecDepth 100000 in
set_option maxHeartbeats 4000000 in
theorem c_X10_copyFrom (l : Launch) (Γ : GG) (sk : List SD) (hsk : Ext sk) (fu : Nat) {M M' : Mem}  {r : Int}  (h : f_X10_copyFrom fu M  = some (M', r)) : MetV l yX10_copyFrom cX10_copyFrom 2 ({ frames := 2, cells := 0, slots := 0, locals := 47 } : Room) Γ sk [vr Γ 25, vr Γ 10] M M' := by
  unfold f_X10_copyFrom at h
  refine MetV_of RX10 rfl (by decide) rfl (Nat.le_of_ble_eq_true rfl) rfl ?_
  intro p e s m args below meth c C hr hlk hM
  have e10 := hsk 10 _ (by decide) rfl
  have e11 := hsk 11 _ (by decide) rfl
  have e12 := hsk 12 _ (by decide) rfl
  have e13 := hsk 13 _ (by decide) rfl
  have e14 := hsk 14 _ (by decide) rfl
  have e15 := hsk 15 _ (by decide) rfl
  have e16 := hsk 16 _ (by decide) rfl
  have e17 := hsk 17 _ (by decide) rfl
  have e18 := hsk 18 _ (by decide) rfl
  have e25 := hsk 25 _ (by decide) rfl
  have e26 := hsk 26 _ (by decide) rfl
  have e27 := hsk 27 _ (by decide) rfl
  have e28 := hsk 28 _ (by decide) rfl
  have e29 := hsk 29 _ (by decide) rfl
  have e30 := hsk 30 _ (by decide) rfl
  have e31 := hsk 31 _ (by decide) rfl
  have e32 := hsk 32 _ (by decide) rfl
  have e33 := hsk 33 _ (by decide) rfl
  refine V_aload_n (pc := 0) C 0 rfl dX10_copyFrom_0 ?_
  refine V_aload_n (pc := 1) C 1 rfl dX10_copyFrom_1 ?_
  refine V_getI (pc := 2) C e10 rfl inX10 0 (by decide) rfl lf_X10_37 rfl dX10_copyFrom_2 ?_
  refine V_putI (pc := 5) C (by decide) e25 rfl inX10 tyX10 tyX10_ok nmX10 0 (by decide) rfl rfl lf_X10_37 rfl (hM _ _) rfl dX10_copyFrom_5 ?_
  refine V_aload_n (pc := 8) C 1 rfl dX10_copyFrom_8 ?_
  refine V_getR (pc := 9) C e10 rfl inX10 1 (by decide) rfl lf_X10_9 rfl dX10_copyFrom_9 ?_
  refine V_aload_n (pc := 12) C 0 rfl dX10_copyFrom_12 ?_
  refine V_getR (pc := 13) C e25 rfl inX10 1 (by decide) rfl lf_X10_9 rfl dX10_copyFrom_13 ?_
  obtain ⟨M1, r2, hc3, h⟩ := cal_of h
  refine V_callNV (pc := 16) C (c_X11_copyRow l Γ sk hsk fu e11 (by decide) e26 (by decide) (by decide) hc3) cf_X11_copyRow ln_X10_41 ⟨rfl, rfl⟩ ⟨Nat.le_of_ble_eq_true rfl, Nat.le_of_ble_eq_true rfl⟩ rfl (Nat.le_of_ble_eq_true rfl) ⟨Nat.zero_le _, Nat.zero_le _⟩ rfl dX10_copyFrom_16 ?_
  refine V_aload_n (pc := 19) C 1 rfl dX10_copyFrom_19 ?_
  refine V_getR (pc := 20) C e10 rfl inX10 2 (by decide) rfl lf_X10_15 rfl dX10_copyFrom_20 ?_
  refine V_aload_n (pc := 23) C 0 rfl dX10_copyFrom_23 ?_
  refine V_getR (pc := 24) C e25 rfl inX10 2 (by decide) rfl lf_X10_15 rfl dX10_copyFrom_24 ?_
  obtain ⟨M4, r5, hc6, h⟩ := cal_of h
  refine V_callNV (pc := 27) C (c_X11_copyRow l Γ sk hsk fu e12 (by decide) e27 (by decide) (by decide) hc6) cf_X11_copyRow ln_X10_41 ⟨rfl, rfl⟩ ⟨Nat.le_of_ble_eq_true rfl, Nat.le_of_ble_eq_true rfl⟩ rfl (Nat.le_of_ble_eq_true rfl) ⟨Nat.zero_le _, Nat.zero_le _⟩ rfl dX10_copyFrom_27 ?_
  refine V_aload_n (pc := 30) C 1 rfl dX10_copyFrom_30 ?_
  refine V_getR (pc := 31) C e10 rfl inX10 3 (by decide) rfl lf_X10_18 rfl dX10_copyFrom_31 ?_
  refine V_aload_n (pc := 34) C 0 rfl dX10_copyFrom_34 ?_
  refine V_getR (pc := 35) C e25 rfl inX10 3 (by decide) rfl lf_X10_18 rfl dX10_copyFrom_35 ?_
  obtain ⟨M7, r8, hc9, h⟩ := cal_of h
  refine V_callNV (pc := 38) C (c_X11_copyRow l Γ sk hsk fu e13 (by decide) e28 (by decide) (by decide) hc9) cf_X11_copyRow ln_X10_41 ⟨rfl, rfl⟩ ⟨Nat.le_of_ble_eq_true rfl, Nat.le_of_ble_eq_true rfl⟩ rfl (Nat.le_of_ble_eq_true rfl) ⟨Nat.zero_le _, Nat.zero_le _⟩ rfl dX10_copyFrom_38 ?_
  refine V_aload_n (pc := 41) C 1 rfl dX10_copyFrom_41 ?_
  refine V_getR (pc := 42) C e10 rfl inX10 4 (by decide) rfl lf_X10_21 rfl dX10_copyFrom_42 ?_
  refine V_aload_n (pc := 45) C 0 rfl dX10_copyFrom_45 ?_
  refine V_getR (pc := 46) C e25 rfl inX10 4 (by decide) rfl lf_X10_21 rfl dX10_copyFrom_46 ?_
  obtain ⟨M10, r11, hc12, h⟩ := cal_of h
  refine V_callNV (pc := 49) C (c_X11_copyRow l Γ sk hsk fu e14 (by decide) e29 (by decide) (by decide) hc12) cf_X11_copyRow ln_X10_41 ⟨rfl, rfl⟩ ⟨Nat.le_of_ble_eq_true rfl, Nat.le_of_ble_eq_true rfl⟩ rfl (Nat.le_of_ble_eq_true rfl) ⟨Nat.zero_le _, Nat.zero_le _⟩ rfl dX10_copyFrom_49 ?_
  refine V_aload_n (pc := 52) C 1 rfl dX10_copyFrom_52 ?_
  refine V_getR (pc := 53) C e10 rfl inX10 5 (by decide) rfl lf_X10_24 rfl dX10_copyFrom_53 ?_
  refine V_aload_n (pc := 56) C 0 rfl dX10_copyFrom_56 ?_
  refine V_getR (pc := 57) C e25 rfl inX10 5 (by decide) rfl lf_X10_24 rfl dX10_copyFrom_57 ?_
  obtain ⟨M13, r14, hc15, h⟩ := cal_of h
  refine V_callNV (pc := 60) C (c_X11_copyRow l Γ sk hsk fu e15 (by decide) e30 (by decide) (by decide) hc15) cf_X11_copyRow ln_X10_41 ⟨rfl, rfl⟩ ⟨Nat.le_of_ble_eq_true rfl, Nat.le_of_ble_eq_true rfl⟩ rfl (Nat.le_of_ble_eq_true rfl) ⟨Nat.zero_le _, Nat.zero_le _⟩ rfl dX10_copyFrom_60 ?_
  refine V_aload_n (pc := 63) C 1 rfl dX10_copyFrom_63 ?_
  refine V_getR (pc := 64) C e10 rfl inX10 6 (by decide) rfl lf_X10_27 rfl dX10_copyFrom_64 ?_
  refine V_aload_n (pc := 67) C 0 rfl dX10_copyFrom_67 ?_
  refine V_getR (pc := 68) C e25 rfl inX10 6 (by decide) rfl lf_X10_27 rfl dX10_copyFrom_68 ?_
  obtain ⟨M16, r17, hc18, h⟩ := cal_of h
  refine V_callNV (pc := 71) C (c_X11_copyRow l Γ sk hsk fu e16 (by decide) e31 (by decide) (by decide) hc18) cf_X11_copyRow ln_X10_41 ⟨rfl, rfl⟩ ⟨Nat.le_of_ble_eq_true rfl, Nat.le_of_ble_eq_true rfl⟩ rfl (Nat.le_of_ble_eq_true rfl) ⟨Nat.zero_le _, Nat.zero_le _⟩ rfl dX10_copyFrom_71 ?_
  refine V_aload_n (pc := 74) C 1 rfl dX10_copyFrom_74 ?_
  refine V_getR (pc := 75) C e10 rfl inX10 7 (by decide) rfl lf_X10_30 rfl dX10_copyFrom_75 ?_
  refine V_aload_n (pc := 78) C 0 rfl dX10_copyFrom_78 ?_
  refine V_getR (pc := 79) C e25 rfl inX10 7 (by decide) rfl lf_X10_30 rfl dX10_copyFrom_79 ?_
  obtain ⟨M19, r20, hc21, h⟩ := cal_of h
  refine V_callNV (pc := 82) C (c_X11_copyRow l Γ sk hsk fu e17 (by decide) e32 (by decide) (by decide) hc21) cf_X11_copyRow ln_X10_41 ⟨rfl, rfl⟩ ⟨Nat.le_of_ble_eq_true rfl, Nat.le_of_ble_eq_true rfl⟩ rfl (Nat.le_of_ble_eq_true rfl) ⟨Nat.zero_le _, Nat.zero_le _⟩ rfl dX10_copyFrom_82 ?_
  refine V_aload_n (pc := 85) C 1 rfl dX10_copyFrom_85 ?_
  refine V_getR (pc := 86) C e10 rfl inX10 8 (by decide) rfl lf_X10_33 rfl dX10_copyFrom_86 ?_
  refine V_iconst (pc := 89) C dX10_copyFrom_89 ?_
  refine V_aload_n (pc := 90) C 0 rfl dX10_copyFrom_90 ?_
  refine V_getR (pc := 91) C e25 rfl inX10 8 (by decide) rfl lf_X10_33 rfl dX10_copyFrom_91 ?_
  refine V_iconst (pc := 94) C dX10_copyFrom_94 ?_
  refine V_bipush (pc := 95) C dX10_copyFrom_95 rfl ?_
  obtain ⟨M22, r23, hc24, h⟩ := cal_of h
  refine V_callNV (pc := 97) C (c_X11_copyFlags l Γ sk hsk fu e18 (by decide) (by decide) e33 (by decide) (by decide) (by decide) (by decide) hc24) cf_X11_copyFlags ln_X10_45 ⟨rfl, rfl⟩ ⟨Nat.le_of_ble_eq_true rfl, Nat.le_of_ble_eq_true rfl⟩ rfl (Nat.le_of_ble_eq_true rfl) ⟨Nat.zero_le _, Nat.zero_le _⟩ rfl dX10_copyFrom_97 ?_
  exact V_vret (pc := 100) C hr hlk h dX10_copyFrom_100
set_option maxRecDepth 100000 in
set_option maxHeartbeats 4000000 in
theorem c_X8_copyFrom (l : Launch) (Γ : GG) (sk : List SD) (hsk : Ext sk) (fu : Nat) {M M' : Mem}  {r : Int}  (h : f_X8_copyFrom fu M  = some (M', r)) : MetV l yX8_copyFrom cX8_copyFrom 2 ({ frames := 3, cells := 0, slots := 0, locals := 68 } : Room) Γ sk [vr Γ 19, vr Γ 4] M M' := by
  unfold f_X8_copyFrom at h
  refine MetV_of RX8 rfl (by decide) rfl (Nat.le_of_ble_eq_true rfl) rfl ?_
  intro p e s m args below meth c C hr hlk hM
  have e4 := hsk 4 _ (by decide) rfl
  have e19 := hsk 19 _ (by decide) rfl
  have e20 := hsk 20 _ (by decide) rfl
  have e25 := hsk 25 _ (by decide) rfl
  refine V_aload_n (pc := 0) C 0 rfl dX8_copyFrom_0 ?_
  refine V_getR (pc := 1) C e19 rfl inX8 0 (by decide) rfl lf_X8_12 rfl dX8_copyFrom_1 ?_
  refine V_aload_n (pc := 4) C 1 rfl dX8_copyFrom_4 ?_
  refine V_getR (pc := 5) C e4 rfl inX8 0 (by decide) rfl lf_X8_12 rfl dX8_copyFrom_5 ?_
  obtain ⟨M1, r2, hc3, h⟩ := cal_of h
  refine V_callVV (pc := 8) C (c_X3_copyFrom l Γ sk hsk fu hc3) cf_X3_copyFrom lk_X8_25 ⟨rfl, rfl⟩ ⟨Nat.le_of_ble_eq_true rfl, Nat.le_of_ble_eq_true rfl⟩ e20 rfl rfl rfl (Nat.le_of_ble_eq_true rfl) ⟨Nat.zero_le _, Nat.zero_le _⟩ rfl dX8_copyFrom_8 ?_
  refine V_aload_n (pc := 11) C 0 rfl dX8_copyFrom_11 ?_
  refine V_getR (pc := 12) C e19 rfl inX8 1 (by decide) rfl lf_X8_21 rfl dX8_copyFrom_12 ?_
  refine V_aload_n (pc := 15) C 1 rfl dX8_copyFrom_15 ?_
  refine V_getR (pc := 16) C e4 rfl inX8 1 (by decide) rfl lf_X8_21 rfl dX8_copyFrom_16 ?_
  obtain ⟨M4, r5, hc6, h⟩ := cal_of h
  refine V_callVV (pc := 19) C (c_X10_copyFrom l Γ sk hsk fu hc6) cf_X10_copyFrom lk_X8_29 ⟨rfl, rfl⟩ ⟨Nat.le_of_ble_eq_true rfl, Nat.le_of_ble_eq_true rfl⟩ e25 rfl rfl rfl (Nat.le_of_ble_eq_true rfl) ⟨Nat.zero_le _, Nat.zero_le _⟩ rfl dX8_copyFrom_19 ?_
  exact V_vret (pc := 22) C hr hlk h dX8_copyFrom_22
set_option maxRecDepth 100000 in
set_option maxHeartbeats 4000000 in
theorem c_X11_saveState (l : Launch) (Γ : GG) (sk : List SD) (hsk : Ext sk) (fu : Nat) {M M' : Mem}  {r : Int}  (h : f_X11_saveState fu M  = some (M', r)) : MetI l yX11_saveState cX11_saveState 1 .int ({ frames := 4, cells := 0, slots := 0, locals := 89 } : Room) Γ sk [vr Γ 3] M M' r := by
  unfold f_X11_saveState at h
  refine MetI_of RX11 rfl (by decide) rfl (Nat.le_of_ble_eq_true rfl) rfl ?_
  intro p e s m args below meth c C hr hlk hM
  have e3 := hsk 3 _ (by decide) rfl
  have e4 := hsk 4 _ (by decide) rfl
  have e10 := hsk 10 _ (by decide) rfl
  have e19 := hsk 19 _ (by decide) rfl
  refine V_aload_n (pc := 0) C 0 rfl dX11_saveState_0 ?_
  refine V_getR (pc := 1) C e3 rfl inX11 1 (by decide) rfl lf_X11_16 rfl dX11_saveState_1 ?_
  refine V_aload_n (pc := 4) C 0 rfl dX11_saveState_4 ?_
  refine V_getR (pc := 5) C e3 rfl inX11 0 (by decide) rfl lf_X11_10 rfl dX11_saveState_5 ?_
  obtain ⟨M1, r2, hc3, h⟩ := cal_of h
  refine V_callVV (pc := 8) C (c_X8_copyFrom l Γ sk hsk fu hc3) cf_X8_copyFrom lk_X11_324 ⟨rfl, rfl⟩ ⟨Nat.le_of_ble_eq_true rfl, Nat.le_of_ble_eq_true rfl⟩ e19 rfl rfl rfl (Nat.le_of_ble_eq_true rfl) ⟨Nat.zero_le _, Nat.zero_le _⟩ rfl dX11_saveState_8 ?_
  refine V_aload_n (pc := 11) C 0 rfl dX11_saveState_11 ?_
  refine V_iconst (pc := 12) C dX11_saveState_12 ?_
  obtain ⟨g4, h⟩ := grd_of h
  refine V_putZ (pc := 13) C (by decide) e3 rfl inX11 tyX11 tyX11_ok nmX11 2 (by decide) rfl rfl lf_X11_115 rfl g4 rfl dX11_saveState_13 ?_
  refine V_aload_n (pc := 16) C 0 rfl dX11_saveState_16 ?_
  refine V_getR (pc := 17) C e3 rfl inX11 0 (by decide) rfl lf_X11_10 rfl dX11_saveState_17 ?_
  refine V_getR (pc := 20) C e4 rfl inX8 1 (by decide) rfl lf_X11_137 rfl dX11_saveState_20 ?_
  refine V_rng fun hM5 => ?_
  refine V_getI (pc := 23) C e10 rfl inX10 0 (by decide) rfl lf_X11_141 rfl dX11_saveState_23 ?_
  exact V_iret (pc := 26) C hr hlk (hM5 _ _) h dX11_saveState_26
set_option maxRecDepth 100000 in
set_option maxHeartbeats 4000000 in
theorem c_X3_copyFrom_i1 (l : Launch) (Γ : GG) (sk : List SD) (hsk : Ext sk) (fu : Nat) {M M' : Mem}  {r : Int}  (h : f_X3_copyFrom_i1 fu M  = some (M', r)) : MetV l yX3_copyFrom cX3_copyFrom 2 ({ frames := 2, cells := 0, slots := 0, locals := 47 } : Room) Γ sk [vr Γ 5, vr Γ 20] M M' := by
  unfold f_X3_copyFrom_i1 at h
  refine MetV_of RX3 rfl (by decide) rfl (Nat.le_of_ble_eq_true rfl) rfl ?_
  intro p e s m args below meth c C hr hlk hM
  have e5 := hsk 5 _ (by decide) rfl
  have e6 := hsk 6 _ (by decide) rfl
  have e7 := hsk 7 _ (by decide) rfl
  have e8 := hsk 8 _ (by decide) rfl
  have e9 := hsk 9 _ (by decide) rfl
  have e20 := hsk 20 _ (by decide) rfl
  have e21 := hsk 21 _ (by decide) rfl
  have e22 := hsk 22 _ (by decide) rfl
  have e23 := hsk 23 _ (by decide) rfl
  have e24 := hsk 24 _ (by decide) rfl
  refine V_aload_n (pc := 0) C 0 rfl dX3_copyFrom_0 ?_
  refine V_aload_n (pc := 1) C 1 rfl dX3_copyFrom_1 ?_
  refine V_getI (pc := 2) C e20 rfl inX3 0 (by decide) rfl lf_X3_25 rfl dX3_copyFrom_2 ?_
  refine V_putI (pc := 5) C (by decide) e5 rfl inX3 tyX3 tyX3_ok nmX3 0 (by decide) rfl rfl lf_X3_25 rfl (hM _ _) rfl dX3_copyFrom_5 ?_
  refine V_aload_n (pc := 8) C 1 rfl dX3_copyFrom_8 ?_
  refine V_getR (pc := 9) C e20 rfl inX3 1 (by decide) rfl lf_X3_9 rfl dX3_copyFrom_9 ?_
  refine V_aload_n (pc := 12) C 0 rfl dX3_copyFrom_12 ?_
  refine V_getR (pc := 13) C e5 rfl inX3 1 (by decide) rfl lf_X3_9 rfl dX3_copyFrom_13 ?_
  obtain ⟨M1, r2, hc3, h⟩ := cal_of h
  refine V_callNV (pc := 16) C (c_X11_copyRow l Γ sk hsk fu e21 (by decide) e6 (by decide) (by decide) hc3) cf_X11_copyRow ln_X3_29 ⟨rfl, rfl⟩ ⟨Nat.le_of_ble_eq_true rfl, Nat.le_of_ble_eq_true rfl⟩ rfl (Nat.le_of_ble_eq_true rfl) ⟨Nat.zero_le _, Nat.zero_le _⟩ rfl dX3_copyFrom_16 ?_
  refine V_aload_n (pc := 19) C 1 rfl dX3_copyFrom_19 ?_
  refine V_getR (pc := 20) C e20 rfl inX3 2 (by decide) rfl lf_X3_15 rfl dX3_copyFrom_20 ?_
  refine V_aload_n (pc := 23) C 0 rfl dX3_copyFrom_23 ?_
  refine V_getR (pc := 24) C e5 rfl inX3 2 (by decide) rfl lf_X3_15 rfl dX3_copyFrom_24 ?_
  obtain ⟨M4, r5, hc6, h⟩ := cal_of h
  refine V_callNV (pc := 27) C (c_X11_copyRow l Γ sk hsk fu e22 (by decide) e7 (by decide) (by decide) hc6) cf_X11_copyRow ln_X3_29 ⟨rfl, rfl⟩ ⟨Nat.le_of_ble_eq_true rfl, Nat.le_of_ble_eq_true rfl⟩ rfl (Nat.le_of_ble_eq_true rfl) ⟨Nat.zero_le _, Nat.zero_le _⟩ rfl dX3_copyFrom_27 ?_
  refine V_aload_n (pc := 30) C 1 rfl dX3_copyFrom_30 ?_
  refine V_getR (pc := 31) C e20 rfl inX3 3 (by decide) rfl lf_X3_18 rfl dX3_copyFrom_31 ?_
  refine V_aload_n (pc := 34) C 0 rfl dX3_copyFrom_34 ?_
  refine V_getR (pc := 35) C e5 rfl inX3 3 (by decide) rfl lf_X3_18 rfl dX3_copyFrom_35 ?_
  obtain ⟨M7, r8, hc9, h⟩ := cal_of h
  refine V_callNV (pc := 38) C (c_X11_copyRow l Γ sk hsk fu e23 (by decide) e8 (by decide) (by decide) hc9) cf_X11_copyRow ln_X3_29 ⟨rfl, rfl⟩ ⟨Nat.le_of_ble_eq_true rfl, Nat.le_of_ble_eq_true rfl⟩ rfl (Nat.le_of_ble_eq_true rfl) ⟨Nat.zero_le _, Nat.zero_le _⟩ rfl dX3_copyFrom_38 ?_
  refine V_aload_n (pc := 41) C 1 rfl dX3_copyFrom_41 ?_
  refine V_getR (pc := 42) C e20 rfl inX3 4 (by decide) rfl lf_X3_21 rfl dX3_copyFrom_42 ?_
  refine V_iconst (pc := 45) C dX3_copyFrom_45 ?_
  refine V_aload_n (pc := 46) C 0 rfl dX3_copyFrom_46 ?_
  refine V_getR (pc := 47) C e5 rfl inX3 4 (by decide) rfl lf_X3_21 rfl dX3_copyFrom_47 ?_
  refine V_iconst (pc := 50) C dX3_copyFrom_50 ?_
  refine V_sipush (pc := 51) C dX3_copyFrom_51 rfl ?_
  obtain ⟨M10, r11, hc12, h⟩ := cal_of h
  refine V_callNV (pc := 54) C (c_X11_copyFlags l Γ sk hsk fu e24 (by decide) (by decide) e9 (by decide) (by decide) (by decide) (by decide) hc12) cf_X11_copyFlags ln_X3_33 ⟨rfl, rfl⟩ ⟨Nat.le_of_ble_eq_true rfl, Nat.le_of_ble_eq_true rfl⟩ rfl (Nat.le_of_ble_eq_true rfl) ⟨Nat.zero_le _, Nat.zero_le _⟩ rfl dX3_copyFrom_54 ?_
  exact V_vret (pc := 57) C hr hlk h dX3_copyFrom_57
set_option maxRecDepth 100000 in
set_option maxHeartbeats 4000000 in
theorem c_X10_copyFrom_i1 (l : Launch) (Γ : GG) (sk : List SD) (hsk : Ext sk) (fu : Nat) {M M' : Mem}  {r : Int}  (h : f_X10_copyFrom_i1 fu M  = some (M', r)) : MetV l yX10_copyFrom cX10_copyFrom 2 ({ frames := 2, cells := 0, slots := 0, locals := 47 } : Room) Γ sk [vr Γ 10, vr Γ 25] M M' := by
  unfold f_X10_copyFrom_i1 at h
  refine MetV_of RX10 rfl (by decide) rfl (Nat.le_of_ble_eq_true rfl) rfl ?_
  intro p e s m args below meth c C hr hlk hM
  have e10 := hsk 10 _ (by decide) rfl
  have e11 := hsk 11 _ (by decide) rfl
  have e12 := hsk 12 _ (by decide) rfl
  have e13 := hsk 13 _ (by decide) rfl
  have e14 := hsk 14 _ (by decide) rfl
  have e15 := hsk 15 _ (by decide) rfl
  have e16 := hsk 16 _ (by decide) rfl
  have e17 := hsk 17 _ (by decide) rfl
  have e18 := hsk 18 _ (by decide) rfl
  have e25 := hsk 25 _ (by decide) rfl
  have e26 := hsk 26 _ (by decide) rfl
  have e27 := hsk 27 _ (by decide) rfl
  have e28 := hsk 28 _ (by decide) rfl
  have e29 := hsk 29 _ (by decide) rfl
  have e30 := hsk 30 _ (by decide) rfl
  have e31 := hsk 31 _ (by decide) rfl
  have e32 := hsk 32 _ (by decide) rfl
  have e33 := hsk 33 _ (by decide) rfl
  refine V_aload_n (pc := 0) C 0 rfl dX10_copyFrom_0 ?_
  refine V_aload_n (pc := 1) C 1 rfl dX10_copyFrom_1 ?_
  refine V_getI (pc := 2) C e25 rfl inX10 0 (by decide) rfl lf_X10_37 rfl dX10_copyFrom_2 ?_
  refine V_putI (pc := 5) C (by decide) e10 rfl inX10 tyX10 tyX10_ok nmX10 0 (by decide) rfl rfl lf_X10_37 rfl (hM _ _) rfl dX10_copyFrom_5 ?_
  refine V_aload_n (pc := 8) C 1 rfl dX10_copyFrom_8 ?_
  refine V_getR (pc := 9) C e25 rfl inX10 1 (by decide) rfl lf_X10_9 rfl dX10_copyFrom_9 ?_
  refine V_aload_n (pc := 12) C 0 rfl dX10_copyFrom_12 ?_
  refine V_getR (pc := 13) C e10 rfl inX10 1 (by decide) rfl lf_X10_9 rfl dX10_copyFrom_13 ?_
  obtain ⟨M1, r2, hc3, h⟩ := cal_of h
  refine V_callNV (pc := 16) C (c_X11_copyRow l Γ sk hsk fu e26 (by decide) e11 (by decide) (by decide) hc3) cf_X11_copyRow ln_X10_41 ⟨rfl, rfl⟩ ⟨Nat.le_of_ble_eq_true rfl, Nat.le_of_ble_eq_true rfl⟩ rfl (Nat.le_of_ble_eq_true rfl) ⟨Nat.zero_le _, Nat.zero_le _⟩ rfl dX10_copyFrom_16 ?_
  refine V_aload_n (pc := 19) C 1 rfl dX10_copyFrom_19 ?_
  refine V_getR (pc := 20) C e25 rfl inX10 2 (by decide) rfl lf_X10_15 rfl dX10_copyFrom_20 ?_
  refine V_aload_n (pc := 23) C 0 rfl dX10_copyFrom_23 ?_
  refine V_getR (pc := 24) C e10 rfl inX10 2 (by decide) rfl lf_X10_15 rfl dX10_copyFrom_24 ?_
  obtain ⟨M4, r5, hc6, h⟩ := cal_of h
  refine V_callNV (pc := 27) C (c_X11_copyRow l Γ sk hsk fu e27 (by decide) e12 (by decide) (by decide) hc6) cf_X11_copyRow ln_X10_41 ⟨rfl, rfl⟩ ⟨Nat.le_of_ble_eq_true rfl, Nat.le_of_ble_eq_true rfl⟩ rfl (Nat.le_of_ble_eq_true rfl) ⟨Nat.zero_le _, Nat.zero_le _⟩ rfl dX10_copyFrom_27 ?_
  refine V_aload_n (pc := 30) C 1 rfl dX10_copyFrom_30 ?_
  refine V_getR (pc := 31) C e25 rfl inX10 3 (by decide) rfl lf_X10_18 rfl dX10_copyFrom_31 ?_
  refine V_aload_n (pc := 34) C 0 rfl dX10_copyFrom_34 ?_
  refine V_getR (pc := 35) C e10 rfl inX10 3 (by decide) rfl lf_X10_18 rfl dX10_copyFrom_35 ?_
  obtain ⟨M7, r8, hc9, h⟩ := cal_of h
  refine V_callNV (pc := 38) C (c_X11_copyRow l Γ sk hsk fu e28 (by decide) e13 (by decide) (by decide) hc9) cf_X11_copyRow ln_X10_41 ⟨rfl, rfl⟩ ⟨Nat.le_of_ble_eq_true rfl, Nat.le_of_ble_eq_true rfl⟩ rfl (Nat.le_of_ble_eq_true rfl) ⟨Nat.zero_le _, Nat.zero_le _⟩ rfl dX10_copyFrom_38 ?_
  refine V_aload_n (pc := 41) C 1 rfl dX10_copyFrom_41 ?_
  refine V_getR (pc := 42) C e25 rfl inX10 4 (by decide) rfl lf_X10_21 rfl dX10_copyFrom_42 ?_
  refine V_aload_n (pc := 45) C 0 rfl dX10_copyFrom_45 ?_
  refine V_getR (pc := 46) C e10 rfl inX10 4 (by decide) rfl lf_X10_21 rfl dX10_copyFrom_46 ?_
  obtain ⟨M10, r11, hc12, h⟩ := cal_of h
  refine V_callNV (pc := 49) C (c_X11_copyRow l Γ sk hsk fu e29 (by decide) e14 (by decide) (by decide) hc12) cf_X11_copyRow ln_X10_41 ⟨rfl, rfl⟩ ⟨Nat.le_of_ble_eq_true rfl, Nat.le_of_ble_eq_true rfl⟩ rfl (Nat.le_of_ble_eq_true rfl) ⟨Nat.zero_le _, Nat.zero_le _⟩ rfl dX10_copyFrom_49 ?_
  refine V_aload_n (pc := 52) C 1 rfl dX10_copyFrom_52 ?_
  refine V_getR (pc := 53) C e25 rfl inX10 5 (by decide) rfl lf_X10_24 rfl dX10_copyFrom_53 ?_
  refine V_aload_n (pc := 56) C 0 rfl dX10_copyFrom_56 ?_
  refine V_getR (pc := 57) C e10 rfl inX10 5 (by decide) rfl lf_X10_24 rfl dX10_copyFrom_57 ?_
  obtain ⟨M13, r14, hc15, h⟩ := cal_of h
  refine V_callNV (pc := 60) C (c_X11_copyRow l Γ sk hsk fu e30 (by decide) e15 (by decide) (by decide) hc15) cf_X11_copyRow ln_X10_41 ⟨rfl, rfl⟩ ⟨Nat.le_of_ble_eq_true rfl, Nat.le_of_ble_eq_true rfl⟩ rfl (Nat.le_of_ble_eq_true rfl) ⟨Nat.zero_le _, Nat.zero_le _⟩ rfl dX10_copyFrom_60 ?_
  refine V_aload_n (pc := 63) C 1 rfl dX10_copyFrom_63 ?_
  refine V_getR (pc := 64) C e25 rfl inX10 6 (by decide) rfl lf_X10_27 rfl dX10_copyFrom_64 ?_
  refine V_aload_n (pc := 67) C 0 rfl dX10_copyFrom_67 ?_
  refine V_getR (pc := 68) C e10 rfl inX10 6 (by decide) rfl lf_X10_27 rfl dX10_copyFrom_68 ?_
  obtain ⟨M16, r17, hc18, h⟩ := cal_of h
  refine V_callNV (pc := 71) C (c_X11_copyRow l Γ sk hsk fu e31 (by decide) e16 (by decide) (by decide) hc18) cf_X11_copyRow ln_X10_41 ⟨rfl, rfl⟩ ⟨Nat.le_of_ble_eq_true rfl, Nat.le_of_ble_eq_true rfl⟩ rfl (Nat.le_of_ble_eq_true rfl) ⟨Nat.zero_le _, Nat.zero_le _⟩ rfl dX10_copyFrom_71 ?_
  refine V_aload_n (pc := 74) C 1 rfl dX10_copyFrom_74 ?_
  refine V_getR (pc := 75) C e25 rfl inX10 7 (by decide) rfl lf_X10_30 rfl dX10_copyFrom_75 ?_
  refine V_aload_n (pc := 78) C 0 rfl dX10_copyFrom_78 ?_
  refine V_getR (pc := 79) C e10 rfl inX10 7 (by decide) rfl lf_X10_30 rfl dX10_copyFrom_79 ?_
  obtain ⟨M19, r20, hc21, h⟩ := cal_of h
  refine V_callNV (pc := 82) C (c_X11_copyRow l Γ sk hsk fu e32 (by decide) e17 (by decide) (by decide) hc21) cf_X11_copyRow ln_X10_41 ⟨rfl, rfl⟩ ⟨Nat.le_of_ble_eq_true rfl, Nat.le_of_ble_eq_true rfl⟩ rfl (Nat.le_of_ble_eq_true rfl) ⟨Nat.zero_le _, Nat.zero_le _⟩ rfl dX10_copyFrom_82 ?_
  refine V_aload_n (pc := 85) C 1 rfl dX10_copyFrom_85 ?_
  refine V_getR (pc := 86) C e25 rfl inX10 8 (by decide) rfl lf_X10_33 rfl dX10_copyFrom_86 ?_
  refine V_iconst (pc := 89) C dX10_copyFrom_89 ?_
  refine V_aload_n (pc := 90) C 0 rfl dX10_copyFrom_90 ?_
  refine V_getR (pc := 91) C e10 rfl inX10 8 (by decide) rfl lf_X10_33 rfl dX10_copyFrom_91 ?_
  refine V_iconst (pc := 94) C dX10_copyFrom_94 ?_
  refine V_bipush (pc := 95) C dX10_copyFrom_95 rfl ?_
  obtain ⟨M22, r23, hc24, h⟩ := cal_of h
  refine V_callNV (pc := 97) C (c_X11_copyFlags l Γ sk hsk fu e33 (by decide) (by decide) e18 (by decide) (by decide) (by decide) (by decide) hc24) cf_X11_copyFlags ln_X10_45 ⟨rfl, rfl⟩ ⟨Nat.le_of_ble_eq_true rfl, Nat.le_of_ble_eq_true rfl⟩ rfl (Nat.le_of_ble_eq_true rfl) ⟨Nat.zero_le _, Nat.zero_le _⟩ rfl dX10_copyFrom_97 ?_
  exact V_vret (pc := 100) C hr hlk h dX10_copyFrom_100
