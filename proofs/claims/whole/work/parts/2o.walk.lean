set_option maxRecDepth 100000 in
set_option maxHeartbeats 4000000 in
theorem c_X10_copyFrom_i1 (l : Launch) (Γ : GG) (sk : List SD) (hsk : Ext sk) (fu : Nat) {M M' : Mem}  {r : Int}  (h : f_X10_copyFrom_i1 fu M  = some (M', r)) : MetV l yX10_copyFrom cX10_copyFrom 2 ({ frames := 2, cells := 0, slots := 0, locals := 47 } : Room) Γ sk [vr Γ 10, vr Γ 25] M M' := by
  unfold f_X10_copyFrom_i1 at h
  refine MetV_of RX10 rfl (by decide) rfl (Nat.le_of_ble_eq_true rfl) rfl ?_
  intro p e s m args below meth c C hr hlk hM
  have e10 := hsk 10 _ (by decide) rfl
  have e11 := hsk 11 _ (by decide) rfl
  have e12 := hsk 12 _ (by decide) rfl
  have e13 := hsk 13 _ (by decide) rfl
  have e14 := hsk 14 _ (by decide) rfl
  have e15 := hsk 15 _ (by decide) rfl
  have e16 := hsk 16 _ (by decide) rfl
  have e17 := hsk 17 _ (by decide) rfl
  have e18 := hsk 18 _ (by decide) rfl
  have e25 := hsk 25 _ (by decide) rfl
  have e26 := hsk 26 _ (by decide) rfl
  have e27 := hsk 27 _ (by decide) rfl
  have e28 := hsk 28 _ (by decide) rfl
  have e29 := hsk 29 _ (by decide) rfl
  have e30 := hsk 30 _ (by decide) rfl
  have e31 := hsk 31 _ (by decide) rfl
  have e32 := hsk 32 _ (by decide) rfl
  have e33 := hsk 33 _ (by decide) rfl
  refine V_aload_n (pc := 0) C 0 rfl dX10_copyFrom_0 ?_
  refine V_aload_n (pc := 1) C 1 rfl dX10_copyFrom_1 ?_
  refine V_getI (pc := 2) C e25 rfl inX10 0 (by decide) rfl lf_X10_37 rfl dX10_copyFrom_2 ?_
  refine V_putI (pc := 5) C (by decide) e10 rfl inX10 tyX10 tyX10_ok nmX10 0 (by decide) rfl rfl lf_X10_37 rfl (hM _ _) rfl dX10_copyFrom_5 ?_
  refine V_aload_n (pc := 8) C 1 rfl dX10_copyFrom_8 ?_
  refine V_getR (pc := 9) C e25 rfl inX10 1 (by decide) rfl lf_X10_9 rfl dX10_copyFrom_9 ?_
  refine V_aload_n (pc := 12) C 0 rfl dX10_copyFrom_12 ?_
  refine V_getR (pc := 13) C e10 rfl inX10 1 (by decide) rfl lf_X10_9 rfl dX10_copyFrom_13 ?_
  obtain ⟨M1, r2, hc3, h⟩ := cal_of h
  refine V_callNV (pc := 16) C (c_X11_copyRow l Γ sk hsk fu e26 (by decide) e11 (by decide) (by decide) hc3) cf_X11_copyRow ln_X10_41 ⟨rfl, rfl⟩ ⟨Nat.le_of_ble_eq_true rfl, Nat.le_of_ble_eq_true rfl⟩ rfl (Nat.le_of_ble_eq_true rfl) ⟨Nat.zero_le _, Nat.zero_le _⟩ rfl dX10_copyFrom_16 ?_
  refine V_aload_n (pc := 19) C 1 rfl dX10_copyFrom_19 ?_
  refine V_getR (pc := 20) C e25 rfl inX10 2 (by decide) rfl lf_X10_15 rfl dX10_copyFrom_20 ?_
  refine V_aload_n (pc := 23) C 0 rfl dX10_copyFrom_23 ?_
  refine V_getR (pc := 24) C e10 rfl inX10 2 (by decide) rfl lf_X10_15 rfl dX10_copyFrom_24 ?_
  obtain ⟨M4, r5, hc6, h⟩ := cal_of h
  refine V_callNV (pc := 27) C (c_X11_copyRow l Γ sk hsk fu e27 (by decide) e12 (by decide) (by decide) hc6) cf_X11_copyRow ln_X10_41 ⟨rfl, rfl⟩ ⟨Nat.le_of_ble_eq_true rfl, Nat.le_of_ble_eq_true rfl⟩ rfl (Nat.le_of_ble_eq_true rfl) ⟨Nat.zero_le _, Nat.zero_le _⟩ rfl dX10_copyFrom_27 ?_
  refine V_aload_n (pc := 30) C 1 rfl dX10_copyFrom_30 ?_
  refine V_getR (pc := 31) C e25 rfl inX10 3 (by decide) rfl lf_X10_18 rfl dX10_copyFrom_31 ?_
  refine V_aload_n (pc := 34) C 0 rfl dX10_copyFrom_34 ?_
  refine V_getR (pc := 35) C e10 rfl inX10 3 (by decide) rfl lf_X10_18 rfl dX10_copyFrom_35 ?_
  obtain ⟨M7, r8, hc9, h⟩ := cal_of h
  refine V_callNV (pc := 38) C (c_X11_copyRow l Γ sk hsk fu e28 (by decide) e13 (by decide) (by decide) hc9) cf_X11_copyRow ln_X10_41 ⟨rfl, rfl⟩ ⟨Nat.le_of_ble_eq_true rfl, Nat.le_of_ble_eq_true rfl⟩ rfl (Nat.le_of_ble_eq_true rfl) ⟨Nat.zero_le _, Nat.zero_le _⟩ rfl dX10_copyFrom_38 ?_
  refine V_aload_n (pc := 41) C 1 rfl dX10_copyFrom_41 ?_
  refine V_getR (pc := 42) C e25 rfl inX10 4 (by decide) rfl lf_X10_21 rfl dX10_copyFrom_42 ?_
  refine V_aload_n (pc := 45) C 0 rfl dX10_copyFrom_45 ?_
  refine V_getR (pc := 46) C e10 rfl inX10 4 (by decide) rfl lf_X10_21 rfl dX10_copyFrom_46 ?_
  obtain ⟨M10, r11, hc12, h⟩ := cal_of h
  refine V_callNV (pc := 49) C (c_X11_copyRow l Γ sk hsk fu e29 (by decide) e14 (by decide) (by decide) hc12) cf_X11_copyRow ln_X10_41 ⟨rfl, rfl⟩ ⟨Nat.le_of_ble_eq_true rfl, Nat.le_of_ble_eq_true rfl⟩ rfl (Nat.le_of_ble_eq_true rfl) ⟨Nat.zero_le _, Nat.zero_le _⟩ rfl dX10_copyFrom_49 ?_
  refine V_aload_n (pc := 52) C 1 rfl dX10_copyFrom_52 ?_
  refine V_getR (pc := 53) C e25 rfl inX10 5 (by decide) rfl lf_X10_24 rfl dX10_copyFrom_53 ?_
  refine V_aload_n (pc := 56) C 0 rfl dX10_copyFrom_56 ?_
  refine V_getR (pc := 57) C e10 rfl inX10 5 (by decide) rfl lf_X10_24 rfl dX10_copyFrom_57 ?_
  obtain ⟨M13, r14, hc15, h⟩ := cal_of h
  refine V_callNV (pc := 60) C (c_X11_copyRow l Γ sk hsk fu e30 (by decide) e15 (by decide) (by decide) hc15) cf_X11_copyRow ln_X10_41 ⟨rfl, rfl⟩ ⟨Nat.le_of_ble_eq_true rfl, Nat.le_of_ble_eq_true rfl⟩ rfl (Nat.le_of_ble_eq_true rfl) ⟨Nat.zero_le _, Nat.zero_le _⟩ rfl dX10_copyFrom_60 ?_
  refine V_aload_n (pc := 63) C 1 rfl dX10_copyFrom_63 ?_
  refine V_getR (pc := 64) C e25 rfl inX10 6 (by decide) rfl lf_X10_27 rfl dX10_copyFrom_64 ?_
  refine V_aload_n (pc := 67) C 0 rfl dX10_copyFrom_67 ?_
  refine V_getR (pc := 68) C e10 rfl inX10 6 (by decide) rfl lf_X10_27 rfl dX10_copyFrom_68 ?_
  obtain ⟨M16, r17, hc18, h⟩ := cal_of h
  refine V_callNV (pc := 71) C (c_X11_copyRow l Γ sk hsk fu e31 (by decide) e16 (by decide) (by decide) hc18) cf_X11_copyRow ln_X10_41 ⟨rfl, rfl⟩ ⟨Nat.le_of_ble_eq_true rfl, Nat.le_of_ble_eq_true rfl⟩ rfl (Nat.le_of_ble_eq_true rfl) ⟨Nat.zero_le _, Nat.zero_le _⟩ rfl dX10_copyFrom_71 ?_
  refine V_aload_n (pc := 74) C 1 rfl dX10_copyFrom_74 ?_
  refine V_getR (pc := 75) C e25 rfl inX10 7 (by decide) rfl lf_X10_30 rfl dX10_copyFrom_75 ?_
  refine V_aload_n (pc := 78) C 0 rfl dX10_copyFrom_78 ?_
  refine V_getR (pc := 79) C e10 rfl inX10 7 (by decide) rfl lf_X10_30 rfl dX10_copyFrom_79 ?_
  obtain ⟨M19, r20, hc21, h⟩ := cal_of h
  refine V_callNV (pc := 82) C (c_X11_copyRow l Γ sk hsk fu e32 (by decide) e17 (by decide) (by decide) hc21) cf_X11_copyRow ln_X10_41 ⟨rfl, rfl⟩ ⟨Nat.le_of_ble_eq_true rfl, Nat.le_of_ble_eq_true rfl⟩ rfl (Nat.le_of_ble_eq_true rfl) ⟨Nat.zero_le _, Nat.zero_le _⟩ rfl dX10_copyFrom_82 ?_
  refine V_aload_n (pc := 85) C 1 rfl dX10_copyFrom_85 ?_
  refine V_getR (pc := 86) C e25 rfl inX10 8 (by decide) rfl lf_X10_33 rfl dX10_copyFrom_86 ?_
  refine V_iconst (pc := 89) C dX10_copyFrom_89 ?_
  refine V_aload_n (pc := 90) C 0 rfl dX10_copyFrom_90 ?_
  refine V_getR (pc := 91) C e10 rfl inX10 8 (by decide) rfl lf_X10_33 rfl dX10_copyFrom_91 ?_
  refine V_iconst (pc := 94) C dX10_copyFrom_94 ?_
  refine V_bipush (pc := 95) C dX10_copyFrom_95 rfl ?_
  obtain ⟨M22, r23, hc24, h⟩ := cal_of h
  refine V_callNV (pc := 97) C (c_X11_copyFlags l Γ sk hsk fu e33 (by decide) (by decide) e18 (by decide) (by decide) (by decide) (by decide) hc24) cf_X11_copyFlags ln_X10_45 ⟨rfl, rfl⟩ ⟨Nat.le_of_ble_eq_true rfl, Nat.le_of_ble_eq_true rfl⟩ rfl (Nat.le_of_ble_eq_true rfl) ⟨Nat.zero_le _, Nat.zero_le _⟩ rfl dX10_copyFrom_97 ?_
  exact V_vret (pc := 100) C hr hlk h dX10_copyFrom_100
set_option maxRecDepth 100000 in
set_option maxHeartbeats 4000000 in
theorem c_X8_copyFrom_i1 (l : Launch) (Γ : GG) (sk : List SD) (hsk : Ext sk) (fu : Nat) {M M' : Mem}  {r : Int}  (h : f_X8_copyFrom_i1 fu M  = some (M', r)) : MetV l yX8_copyFrom cX8_copyFrom 2 ({ frames := 3, cells := 0, slots := 0, locals := 68 } : Room) Γ sk [vr Γ 4, vr Γ 19] M M' := by
  unfold f_X8_copyFrom_i1 at h
  refine MetV_of RX8 rfl (by decide) rfl (Nat.le_of_ble_eq_true rfl) rfl ?_
  intro p e s m args below meth c C hr hlk hM
  have e4 := hsk 4 _ (by decide) rfl
  have e5 := hsk 5 _ (by decide) rfl
  have e10 := hsk 10 _ (by decide) rfl
  have e19 := hsk 19 _ (by decide) rfl
  refine V_aload_n (pc := 0) C 0 rfl dX8_copyFrom_0 ?_
  refine V_getR (pc := 1) C e4 rfl inX8 0 (by decide) rfl lf_X8_12 rfl dX8_copyFrom_1 ?_
  refine V_aload_n (pc := 4) C 1 rfl dX8_copyFrom_4 ?_
  refine V_getR (pc := 5) C e19 rfl inX8 0 (by decide) rfl lf_X8_12 rfl dX8_copyFrom_5 ?_
  obtain ⟨M1, r2, hc3, h⟩ := cal_of h
  refine V_callVV (pc := 8) C (c_X3_copyFrom_i1 l Γ sk hsk fu hc3) cf_X3_copyFrom lk_X8_25 ⟨rfl, rfl⟩ ⟨Nat.le_of_ble_eq_true rfl, Nat.le_of_ble_eq_true rfl⟩ e5 rfl rfl rfl (Nat.le_of_ble_eq_true rfl) ⟨Nat.zero_le _, Nat.zero_le _⟩ rfl dX8_copyFrom_8 ?_
  refine V_aload_n (pc := 11) C 0 rfl dX8_copyFrom_11 ?_
  refine V_getR (pc := 12) C e4 rfl inX8 1 (by decide) rfl lf_X8_21 rfl dX8_copyFrom_12 ?_
  refine V_aload_n (pc := 15) C 1 rfl dX8_copyFrom_15 ?_
  refine V_getR (pc := 16) C e19 rfl inX8 1 (by decide) rfl lf_X8_21 rfl dX8_copyFrom_16 ?_
  obtain ⟨M4, r5, hc6, h⟩ := cal_of h
  refine V_callVV (pc := 19) C (c_X10_copyFrom_i1 l Γ sk hsk fu hc6) cf_X10_copyFrom lk_X8_29 ⟨rfl, rfl⟩ ⟨Nat.le_of_ble_eq_true rfl, Nat.le_of_ble_eq_true rfl⟩ e10 rfl rfl rfl (Nat.le_of_ble_eq_true rfl) ⟨Nat.zero_le _, Nat.zero_le _⟩ rfl dX8_copyFrom_19 ?_
  exact V_vret (pc := 22) C hr hlk h dX8_copyFrom_22
