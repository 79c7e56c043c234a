set_option maxRecDepth 100000 in
set_option maxHeartbeats 4000000 in
theorem c_X8_copyFrom_i1 (l : Launch) (Γ : GG) (sk : List SD) (hsk : Ext sk) (fu : Nat) {M M' : Mem}  {r : Int}  (h : f_X8_copyFrom_i1 fu M  = some (M', r)) : MetV l yX8_copyFrom cX8_copyFrom 2 ({ frames := 3, cells := 0, slots := 0, locals := 68 } : Room) Γ sk [vr Γ 4, vr Γ 19] M M' := by
  unfold f_X8_copyFrom_i1 at h
  refine MetV_of RX8 rfl (by decide) rfl (Nat.le_of_ble_eq_true rfl) rfl ?_
  intro p e s m args below meth c C hr hlk hM
  have e4 := hsk 4 _ (by decide) rfl
  have e5 := hsk 5 _ (by decide) rfl
  have e10 := hsk 10 _ (by decide) rfl
  have e19 := hsk 19 _ (by decide) rfl
  refine V_aload_n (pc := 0) C 0 rfl dX8_copyFrom_0 ?_
  refine V_getR (pc := 1) C e4 rfl inX8 0 (by decide) rfl lf_X8_12 rfl dX8_copyFrom_1 ?_
  refine V_aload_n (pc := 4) C 1 rfl dX8_copyFrom_4 ?_
  refine V_getR (pc := 5) C e19 rfl inX8 0 (by decide) rfl lf_X8_12 rfl dX8_copyFrom_5 ?_
  obtain ⟨M1, r2, hc3, h⟩ := cal_of h
  refine V_callVV (pc := 8) C (c_X3_copyFrom_i1 l Γ sk hsk fu hc3) cf_X3_copyFrom lk_X8_25 ⟨rfl, rfl⟩ ⟨Nat.le_of_ble_eq_true rfl, Nat.le_of_ble_eq_true rfl⟩ e5 rfl rfl rfl (Nat.le_of_ble_eq_true rfl) ⟨Nat.zero_le _, Nat.zero_le _⟩ rfl dX8_copyFrom_8 ?_
  refine V_aload_n (pc := 11) C 0 rfl dX8_copyFrom_11 ?_
  refine V_getR (pc := 12) C e4 rfl inX8 1 (by decide) rfl lf_X8_21 rfl dX8_copyFrom_12 ?_
  refine V_aload_n (pc := 15) C 1 rfl dX8_copyFrom_15 ?_
  refine V_getR (pc := 16) C e19 rfl inX8 1 (by decide) rfl lf_X8_21 rfl dX8_copyFrom_16 ?_
  obtain ⟨M4, r5, hc6, h⟩ := cal_of h
  refine V_callVV (pc := 19) C (c_X10_copyFrom_i1 l Γ sk hsk fu hc6) cf_X10_copyFrom lk_X8_29 ⟨rfl, rfl⟩ ⟨Nat.le_of_ble_eq_true rfl, Nat.le_of_ble_eq_true rfl⟩ e10 rfl rfl rfl (Nat.le_of_ble_eq_true rfl) ⟨Nat.zero_le _, Nat.zero_le _⟩ rfl dX8_copyFrom_19 ?_
  exact V_vret (pc := 22) C hr hlk h dX8_copyFrom_22
