set_option maxRecDepth 100000 in
set_option maxHeartbeats 4000000 in
theorem c_X11_refuse (l : Launch) (Γ : GG) (sk : List SD) (hsk : Ext sk) (hl9 : l.stackTraces = false) (fu : Nat) {M M' : Mem} {a0 : Int} {o : Nat × Int} (ha0 : rng a0) (h : f_X11_refuse fu M a0 = some (M', o)) : MetXV l yX11_refuse cX11_refuse 1 ({ frames := 6, cells := tc o, slots := ts6 o, locals := 120 } : Room) Γ sk [vi a0] M M' o := by
  unfold f_X11_refuse at h
  refine MetXV_of RX11 rfl (by decide) rfl (Nat.le_of_ble_eq_true rfl) rfl ?_
  intro p e s m args below meth c C hr hlk hex hM
  refine V_iload_n (pc := 0) C 0 rfl dX11_refuse_0 ?_
  by_cases c1_1_1 : a0 = (1 : Int)
  · have h := ite_t h c1_1_1
    refine V_tabIn (pc := 1) C 28 (1 : Int) c1_1_1 ha0 dX11_refuse_1 (by decide) (by decide) rfl (by decide) ?_
    exact V_throwW (pc := 28) C hl9 (q := 7) (j := 0) h (by decide +kernel) lx_X11_335 li_x1 (List.mem_of_getElem? (i := 7) (by decide +kernel) : (RX11, 337, "there is no such version, element or node", 7) ∈ strL) la_X11_339 la_X11_339b la_dec (by decide +kernel) hex hlk ⟨Nat.le_of_ble_eq_true rfl, Nat.le_of_ble_eq_true rfl⟩ ⟨rfl, rfl⟩ dX11_refuse_28 dX11_refuse_31 dX11_refuse_32 dX11_refuse_35 dX11_refuse_38
  have h := ite_f h c1_1_1
  by_cases c1_2_2 : a0 = (2 : Int)
  · have h := ite_t h c1_2_2
    refine V_tabIn (pc := 1) C 39 (2 : Int) c1_2_2 ha0 dX11_refuse_1 (by decide) (by decide) rfl (by decide) ?_
    exact V_throwW (pc := 39) C hl9 (q := 8) (j := 1) h (by decide +kernel) lx_X11_340 li_x2 (List.mem_of_getElem? (i := 8) (by decide +kernel) : (RX11, 342, "the value or size is outside its range", 8) ∈ strL) la_X11_344 la_X11_344b la_dec (by decide +kernel) hex hlk ⟨Nat.le_of_ble_eq_true rfl, Nat.le_of_ble_eq_true rfl⟩ ⟨rfl, rfl⟩ dX11_refuse_39 dX11_refuse_42 dX11_refuse_43 dX11_refuse_46 dX11_refuse_49
  have h := ite_f h c1_2_2
  by_cases c1_3_3 : a0 = (3 : Int)
  · have h := ite_t h c1_3_3
    refine V_tabIn (pc := 1) C 50 (3 : Int) c1_3_3 ha0 dX11_refuse_1 (by decide) (by decide) rfl (by decide) ?_
    exact V_throwW (pc := 50) C hl9 (q := 9) (j := 2) h (by decide +kernel) lx_X11_345 li_x3 (List.mem_of_getElem? (i := 9) (by decide +kernel) : (RX11, 347, "the version is released, or there is no room for another", 9) ∈ strL) la_X11_349 la_X11_349b la_dec (by decide +kernel) hex hlk ⟨Nat.le_of_ble_eq_true rfl, Nat.le_of_ble_eq_true rfl⟩ ⟨rfl, rfl⟩ dX11_refuse_50 dX11_refuse_53 dX11_refuse_54 dX11_refuse_57 dX11_refuse_60
  have h := ite_f h c1_3_3
  refine V_tabOut (pc := 1) C 61 ha0 dX11_refuse_1 (tabout_1_3 c1_1_1 c1_2_2 c1_3_3) (by decide) ?_
  exact V_xvret (pc := 61) C hr hlk h dX11_refuse_61
set_option maxRecDepth 100000 in
set_option maxHeartbeats 4000000 in
theorem c_X11_requireVersion (l : Launch) (Γ : GG) (sk : List SD) (hsk : Ext sk) (hl9 : l.stackTraces = false) (fu : Nat) {M M' : Mem} {a1 : Int} {o : Nat × Int} (ha1 : rng a1) (h : f_X11_requireVersion fu M a1 = some (M', o)) : MetXV l yX11_requireVersion cX11_requireVersion 2 ({ frames := 7, cells := tc o, slots := ts6 o, locals := 140 } : Room) Γ sk [vr Γ 3, vi a1] M M' o := by
  unfold f_X11_requireVersion at h
  refine MetXV_of RX11 rfl (by decide) rfl (Nat.le_of_ble_eq_true rfl) rfl ?_
  intro p e s m args below meth c C hr hlk hex hM
  have e3 := hsk 3 _ (by decide) rfl
  have e4 := hsk 4 _ (by decide) rfl
  have e10 := hsk 10 _ (by decide) rfl
  refine V_aload_n (pc := 0) C 0 rfl dX11_requireVersion_0 ?_
  refine V_getR (pc := 1) C e3 rfl inX11 0 (by decide) rfl lf_X11_10 rfl dX11_requireVersion_1 ?_
  refine V_getR (pc := 4) C e4 rfl inX8 1 (by decide) rfl lf_X11_137 rfl dX11_requireVersion_4 ?_
  refine V_iload_n (pc := 7) C 1 rfl dX11_requireVersion_7 ?_
  obtain ⟨M1, r2, hc3, h⟩ := cal_of h
  refine V_callVI (pc := 8) C (c_X10_has l Γ sk hsk fu ha1 hc3) cf_X10_has lk_X11_350 ⟨rfl, rfl⟩ ⟨Nat.le_of_ble_eq_true rfl, Nat.le_of_ble_eq_true rfl⟩ e10 rfl rfl rfl (Nat.le_of_ble_eq_true rfl) ⟨Nat.zero_le _, Nat.zero_le _⟩ rfl dX11_requireVersion_8 (fun hr2 => ?_)
  refine V_if_eq (pc := 11) C 18 hr2 dX11_requireVersion_11 (by decide) (fun c11_4 => ?_) (fun c11_4 => ?_)
  · have h := ite_t h c11_4
    refine V_iconst (pc := 18) C dX11_requireVersion_18 ?_
    rcases cax_of h with ⟨M5, r6, hc7, h⟩ | ⟨M5, n8, z9, hc7, h⟩
    · refine V_callXS0 (pc := 19) C (c_X11_refuse l Γ sk hsk hl9 fu (by decide) hc7) cf_X11_refuse lk_X11_183 ⟨rfl, rfl⟩ ⟨Nat.le_of_ble_eq_true rfl, Nat.le_of_ble_eq_true rfl⟩ rfl (Nat.le_of_ble_eq_true rfl) ⟨Nat.zero_le _, Nat.zero_le _⟩ rfl dX11_requireVersion_19 ?_
      exact V_xvret (pc := 22) C hr hlk h dX11_requireVersion_22
    · exact V_callXSt (pc := 19) C (c_X11_refuse l Γ sk hsk hl9 fu (by decide) hc7) h hex hlk cf_X11_refuse lk_X11_183 ⟨rfl, rfl⟩ ⟨Nat.le_of_ble_eq_true rfl, Nat.le_of_ble_eq_true rfl⟩ ⟨rfl, rfl⟩ rfl (Nat.le_of_ble_eq_true rfl) rfl dX11_requireVersion_19
  · have h := ite_f h c11_4
    refine V_iconst (pc := 14) C dX11_requireVersion_14 ?_
    refine V_goto (pc := 15) C 19 dX11_requireVersion_15 (by decide) ?_
    rcases cax_of h with ⟨M10, r11, hc12, h⟩ | ⟨M10, n13, z14, hc12, h⟩
    · refine V_callXS0 (pc := 19) C (c_X11_refuse l Γ sk hsk hl9 fu (by decide) hc12) cf_X11_refuse lk_X11_183 ⟨rfl, rfl⟩ ⟨Nat.le_of_ble_eq_true rfl, Nat.le_of_ble_eq_true rfl⟩ rfl (Nat.le_of_ble_eq_true rfl) ⟨Nat.zero_le _, Nat.zero_le _⟩ rfl dX11_requireVersion_19 ?_
      exact V_xvret (pc := 22) C hr hlk h dX11_requireVersion_22
    · exact V_callXSt (pc := 19) C (c_X11_refuse l Γ sk hsk hl9 fu (by decide) hc12) h hex hlk cf_X11_refuse lk_X11_183 ⟨rfl, rfl⟩ ⟨Nat.le_of_ble_eq_true rfl, Nat.le_of_ble_eq_true rfl⟩ ⟨rfl, rfl⟩ rfl (Nat.le_of_ble_eq_true rfl) rfl dX11_requireVersion_19
set_option maxRecDepth 100000 in
set_option maxHeartbeats 4000000 in
theorem c_X11_isReleased (l : Launch) (Γ : GG) (sk : List SD) (hsk : Ext sk) (hl9 : l.stackTraces = false) (fu : Nat) {M M' : Mem} {a1 : Int} {o : Nat × Int} (ha1 : rng a1) (h : f_X11_isReleased fu M a1 = some (M', o)) : MetXI l yX11_isReleased cX11_isReleased 2 .boolean ({ frames := 8, cells := tc o, slots := ts6 o, locals := 161 } : Room) Γ sk [vr Γ 3, vi a1] M M' o := by
  unfold f_X11_isReleased at h
  refine MetXI_of RX11 rfl (by decide) rfl (Nat.le_of_ble_eq_true rfl) rfl ?_
  intro p e s m args below meth c C hr hlk hex hM
  have e3 := hsk 3 _ (by decide) rfl
  have e4 := hsk 4 _ (by decide) rfl
  have e10 := hsk 10 _ (by decide) rfl
  refine V_aload_n (pc := 0) C 0 rfl dX11_isReleased_0 ?_
  refine V_iload_n (pc := 1) C 1 rfl dX11_isReleased_1 ?_
  rcases cax_of h with ⟨M1, r2, hc3, h⟩ | ⟨M1, n4, z5, hc3, h⟩
  · refine V_callXV0 (pc := 2) C (c_X11_requireVersion l Γ sk hsk hl9 fu ha1 hc3) cf_X11_requireVersion lk_X11_148 ⟨rfl, rfl⟩ ⟨Nat.le_of_ble_eq_true rfl, Nat.le_of_ble_eq_true rfl⟩ e3 rfl rfl rfl (Nat.le_of_ble_eq_true rfl) ⟨Nat.zero_le _, Nat.zero_le _⟩ rfl dX11_isReleased_2 ?_
    refine V_aload_n (pc := 5) C 0 rfl dX11_isReleased_5 ?_
    refine V_getR (pc := 6) C e3 rfl inX11 0 (by decide) rfl lf_X11_10 rfl dX11_isReleased_6 ?_
    refine V_getR (pc := 9) C e4 rfl inX8 1 (by decide) rfl lf_X11_137 rfl dX11_isReleased_9 ?_
    refine V_iload_n (pc := 12) C 1 rfl dX11_isReleased_12 ?_
    obtain ⟨M6, r7, hc8, h⟩ := cal_of h
    refine V_callVI (pc := 13) C (c_X10_isLive l Γ sk hsk fu ha1 hc8) cf_X10_isLive lk_X11_151 ⟨rfl, rfl⟩ ⟨Nat.le_of_ble_eq_true rfl, Nat.le_of_ble_eq_true rfl⟩ e10 rfl rfl rfl (Nat.le_of_ble_eq_true rfl) ⟨Nat.zero_le _, Nat.zero_le _⟩ rfl dX11_isReleased_13 (fun hr7 => ?_)
    refine V_if_ne (pc := 16) C 23 hr7 dX11_isReleased_16 (by decide) (fun c16_9 => ?_) (fun c16_9 => ?_)
    · have h := ite_f h c16_9
      refine V_iconst (pc := 23) C dX11_isReleased_23 ?_
      exact V_xzret (pc := 24) C hr hlk (by decide) h dX11_isReleased_24
    · have h := ite_t h c16_9
      refine V_iconst (pc := 19) C dX11_isReleased_19 ?_
      refine V_goto (pc := 20) C 24 dX11_isReleased_20 (by decide) ?_
      exact V_xzret (pc := 24) C hr hlk (by decide) h dX11_isReleased_24
  · exact V_callXVt (pc := 2) C (c_X11_requireVersion l Γ sk hsk hl9 fu ha1 hc3) h hex hlk cf_X11_requireVersion lk_X11_148 ⟨rfl, rfl⟩ ⟨Nat.le_of_ble_eq_true rfl, Nat.le_of_ble_eq_true rfl⟩ ⟨rfl, rfl⟩ e3 rfl rfl rfl (Nat.le_of_ble_eq_true rfl) rfl dX11_isReleased_2
set_option maxRecDepth 100000 in
set_option maxHeartbeats 4000000 in
theorem c_X11_parentOf (l : Launch) (Γ : GG) (sk : List SD) (hsk : Ext sk) (hl9 : l.stackTraces = false) (fu : Nat) {M M' : Mem} {a1 : Int} {o : Nat × Int} (ha1 : rng a1) (h : f_X11_parentOf fu M a1 = some (M', o)) : MetXI l yX11_parentOf cX11_parentOf 2 .int ({ frames := 8, cells := tc o, slots := ts6 o, locals := 161 } : Room) Γ sk [vr Γ 3, vi a1] M M' o := by
  unfold f_X11_parentOf at h
  refine MetXI_of RX11 rfl (by decide) rfl (Nat.le_of_ble_eq_true rfl) rfl ?_
  intro p e s m args below meth c C hr hlk hex hM
  have e3 := hsk 3 _ (by decide) rfl
  have e4 := hsk 4 _ (by decide) rfl
  have e10 := hsk 10 _ (by decide) rfl
  refine V_aload_n (pc := 0) C 0 rfl dX11_parentOf_0 ?_
  refine V_iload_n (pc := 1) C 1 rfl dX11_parentOf_1 ?_
  rcases cax_of h with ⟨M1, r2, hc3, h⟩ | ⟨M1, n4, z5, hc3, h⟩
  · refine V_callXV0 (pc := 2) C (c_X11_requireVersion l Γ sk hsk hl9 fu ha1 hc3) cf_X11_requireVersion lk_X11_148 ⟨rfl, rfl⟩ ⟨Nat.le_of_ble_eq_true rfl, Nat.le_of_ble_eq_true rfl⟩ e3 rfl rfl rfl (Nat.le_of_ble_eq_true rfl) ⟨Nat.zero_le _, Nat.zero_le _⟩ rfl dX11_parentOf_2 ?_
    refine V_aload_n (pc := 5) C 0 rfl dX11_parentOf_5 ?_
    refine V_getR (pc := 6) C e3 rfl inX11 0 (by decide) rfl lf_X11_10 rfl dX11_parentOf_6 ?_
    refine V_getR (pc := 9) C e4 rfl inX8 1 (by decide) rfl lf_X11_137 rfl dX11_parentOf_9 ?_
    refine V_iload_n (pc := 12) C 1 rfl dX11_parentOf_12 ?_
    obtain ⟨M6, r7, hc8, h⟩ := cal_of h
    refine V_callVI (pc := 13) C (c_X10_parentAt l Γ sk hsk fu ha1 hc8) cf_X10_parentAt lk_X11_155 ⟨rfl, rfl⟩ ⟨Nat.le_of_ble_eq_true rfl, Nat.le_of_ble_eq_true rfl⟩ e10 rfl rfl rfl (Nat.le_of_ble_eq_true rfl) ⟨Nat.zero_le _, Nat.zero_le _⟩ rfl dX11_parentOf_13 (fun hr7 => ?_)
    exact V_xiret (pc := 16) C hr hlk hr7 h dX11_parentOf_16
  · exact V_callXVt (pc := 2) C (c_X11_requireVersion l Γ sk hsk hl9 fu ha1 hc3) h hex hlk cf_X11_requireVersion lk_X11_148 ⟨rfl, rfl⟩ ⟨Nat.le_of_ble_eq_true rfl, Nat.le_of_ble_eq_true rfl⟩ ⟨rfl, rfl⟩ e3 rfl rfl rfl (Nat.le_of_ble_eq_true rfl) rfl dX11_parentOf_2
set_option maxRecDepth 100000 in
set_option maxHeartbeats 4000000 in
theorem c_X11_requireReadable (l : Launch) (Γ : GG) (sk : List SD) (hsk : Ext sk) (hl9 : l.stackTraces = false) (fu : Nat) {M M' : Mem} {a1 : Int} {o : Nat × Int} (ha1 : rng a1) (h : f_X11_requireReadable fu M a1 = some (M', o)) : MetXV l yX11_requireReadable cX11_requireReadable 2 ({ frames := 7, cells := tc o, slots := ts6 o, locals := 140 } : Room) Γ sk [vr Γ 3, vi a1] M M' o := by
  unfold f_X11_requireReadable at h
  refine MetXV_of RX11 rfl (by decide) rfl (Nat.le_of_ble_eq_true rfl) rfl ?_
  intro p e s m args below meth c C hr hlk hex hM
  have e3 := hsk 3 _ (by decide) rfl
  have e4 := hsk 4 _ (by decide) rfl
  have e10 := hsk 10 _ (by decide) rfl
  refine V_aload_n (pc := 0) C 0 rfl dX11_requireReadable_0 ?_
  refine V_getR (pc := 1) C e3 rfl inX11 0 (by decide) rfl lf_X11_10 rfl dX11_requireReadable_1 ?_
  refine V_getR (pc := 4) C e4 rfl inX8 1 (by decide) rfl lf_X11_137 rfl dX11_requireReadable_4 ?_
  refine V_iload_n (pc := 7) C 1 rfl dX11_requireReadable_7 ?_
  obtain ⟨M1, r2, hc3, h⟩ := cal_of h
  refine V_callVI (pc := 8) C (c_X10_faultOfReading l Γ sk hsk fu ha1 hc3) cf_X10_faultOfReading lk_X11_296 ⟨rfl, rfl⟩ ⟨Nat.le_of_ble_eq_true rfl, Nat.le_of_ble_eq_true rfl⟩ e10 rfl rfl rfl (Nat.le_of_ble_eq_true rfl) ⟨Nat.zero_le _, Nat.zero_le _⟩ rfl dX11_requireReadable_8 (fun hr2 => ?_)
  rcases cax_of h with ⟨M4, r5, hc6, h⟩ | ⟨M4, n7, z8, hc6, h⟩
  · refine V_callXS0 (pc := 11) C (c_X11_refuse l Γ sk hsk hl9 fu hr2 hc6) cf_X11_refuse lk_X11_183 ⟨rfl, rfl⟩ ⟨Nat.le_of_ble_eq_true rfl, Nat.le_of_ble_eq_true rfl⟩ rfl (Nat.le_of_ble_eq_true rfl) ⟨Nat.zero_le _, Nat.zero_le _⟩ rfl dX11_requireReadable_11 ?_
    exact V_xvret (pc := 14) C hr hlk h dX11_requireReadable_14
  · exact V_callXSt (pc := 11) C (c_X11_refuse l Γ sk hsk hl9 fu hr2 hc6) h hex hlk cf_X11_refuse lk_X11_183 ⟨rfl, rfl⟩ ⟨Nat.le_of_ble_eq_true rfl, Nat.le_of_ble_eq_true rfl⟩ ⟨rfl, rfl⟩ rfl (Nat.le_of_ble_eq_true rfl) rfl dX11_requireReadable_11
set_option maxRecDepth 100000 in
set_option maxHeartbeats 4000000 in
theorem c_X11_size (l : Launch) (Γ : GG) (sk : List SD) (hsk : Ext sk) (hl9 : l.stackTraces = false) (fu : Nat) {M M' : Mem} {a1 : Int} {o : Nat × Int} (ha1 : rng a1) (h : f_X11_size fu M a1 = some (M', o)) : MetXI l yX11_size cX11_size 2 .int ({ frames := 8, cells := tc o, slots := ts6 o, locals := 161 } : Room) Γ sk [vr Γ 3, vi a1] M M' o := by
  unfold f_X11_size at h
  refine MetXI_of RX11 rfl (by decide) rfl (Nat.le_of_ble_eq_true rfl) rfl ?_
  intro p e s m args below meth c C hr hlk hex hM
  have e3 := hsk 3 _ (by decide) rfl
  have e4 := hsk 4 _ (by decide) rfl
  have e10 := hsk 10 _ (by decide) rfl
  refine V_aload_n (pc := 0) C 0 rfl dX11_size_0 ?_
  refine V_iload_n (pc := 1) C 1 rfl dX11_size_1 ?_
  rcases cax_of h with ⟨M1, r2, hc3, h⟩ | ⟨M1, n4, z5, hc3, h⟩
  · refine V_callXV0 (pc := 2) C (c_X11_requireReadable l Γ sk hsk hl9 fu ha1 hc3) cf_X11_requireReadable lk_X11_168 ⟨rfl, rfl⟩ ⟨Nat.le_of_ble_eq_true rfl, Nat.le_of_ble_eq_true rfl⟩ e3 rfl rfl rfl (Nat.le_of_ble_eq_true rfl) ⟨Nat.zero_le _, Nat.zero_le _⟩ rfl dX11_size_2 ?_
    refine V_aload_n (pc := 5) C 0 rfl dX11_size_5 ?_
    refine V_getR (pc := 6) C e3 rfl inX11 0 (by decide) rfl lf_X11_10 rfl dX11_size_6 ?_
    refine V_getR (pc := 9) C e4 rfl inX8 1 (by decide) rfl lf_X11_137 rfl dX11_size_9 ?_
    refine V_iload_n (pc := 12) C 1 rfl dX11_size_12 ?_
    obtain ⟨M6, r7, hc8, h⟩ := cal_of h
    refine V_callVI (pc := 13) C (c_X10_sizeAt l Γ sk hsk fu ha1 hc8) cf_X10_sizeAt lk_X11_171 ⟨rfl, rfl⟩ ⟨Nat.le_of_ble_eq_true rfl, Nat.le_of_ble_eq_true rfl⟩ e10 rfl rfl rfl (Nat.le_of_ble_eq_true rfl) ⟨Nat.zero_le _, Nat.zero_le _⟩ rfl dX11_size_13 (fun hr7 => ?_)
    exact V_xiret (pc := 16) C hr hlk hr7 h dX11_size_16
  · exact V_callXVt (pc := 2) C (c_X11_requireReadable l Γ sk hsk hl9 fu ha1 hc3) h hex hlk cf_X11_requireReadable lk_X11_168 ⟨rfl, rfl⟩ ⟨Nat.le_of_ble_eq_true rfl, Nat.le_of_ble_eq_true rfl⟩ ⟨rfl, rfl⟩ e3 rfl rfl rfl (Nat.le_of_ble_eq_true rfl) rfl dX11_size_2
set_option maxRecDepth 100000 in
set_option maxHeartbeats 4000000 in
theorem c_X11_height (l : Launch) (Γ : GG) (sk : List SD) (hsk : Ext sk) (hl9 : l.stackTraces = false) (fu : Nat) {M M' : Mem} {a1 : Int} {o : Nat × Int} (ha1 : rng a1) (h : f_X11_height fu M a1 = some (M', o)) : MetXI l yX11_height cX11_height 2 .int ({ frames := 8, cells := tc o, slots := ts6 o, locals := 161 } : Room) Γ sk [vr Γ 3, vi a1] M M' o := by
  unfold f_X11_height at h
  refine MetXI_of RX11 rfl (by decide) rfl (Nat.le_of_ble_eq_true rfl) rfl ?_
  intro p e s m args below meth c C hr hlk hex hM
  have e3 := hsk 3 _ (by decide) rfl
  have e4 := hsk 4 _ (by decide) rfl
  refine V_aload_n (pc := 0) C 0 rfl dX11_height_0 ?_
  refine V_iload_n (pc := 1) C 1 rfl dX11_height_1 ?_
  rcases cax_of h with ⟨M1, r2, hc3, h⟩ | ⟨M1, n4, z5, hc3, h⟩
  · refine V_callXV0 (pc := 2) C (c_X11_requireReadable l Γ sk hsk hl9 fu ha1 hc3) cf_X11_requireReadable lk_X11_168 ⟨rfl, rfl⟩ ⟨Nat.le_of_ble_eq_true rfl, Nat.le_of_ble_eq_true rfl⟩ e3 rfl rfl rfl (Nat.le_of_ble_eq_true rfl) ⟨Nat.zero_le _, Nat.zero_le _⟩ rfl dX11_height_2 ?_
    refine V_aload_n (pc := 5) C 0 rfl dX11_height_5 ?_
    refine V_getR (pc := 6) C e3 rfl inX11 0 (by decide) rfl lf_X11_10 rfl dX11_height_6 ?_
    refine V_iload_n (pc := 9) C 1 rfl dX11_height_9 ?_
    obtain ⟨M6, r7, hc8, h⟩ := cal_of h
    refine V_callVI (pc := 10) C (c_X8_heightAt l Γ sk hsk fu ha1 hc8) cf_X8_heightAt lk_X11_174 ⟨rfl, rfl⟩ ⟨Nat.le_of_ble_eq_true rfl, Nat.le_of_ble_eq_true rfl⟩ e4 rfl rfl rfl (Nat.le_of_ble_eq_true rfl) ⟨Nat.zero_le _, Nat.zero_le _⟩ rfl dX11_height_10 (fun hr7 => ?_)
    exact V_xiret (pc := 13) C hr hlk hr7 h dX11_height_13
  · exact V_callXVt (pc := 2) C (c_X11_requireReadable l Γ sk hsk hl9 fu ha1 hc3) h hex hlk cf_X11_requireReadable lk_X11_168 ⟨rfl, rfl⟩ ⟨Nat.le_of_ble_eq_true rfl, Nat.le_of_ble_eq_true rfl⟩ ⟨rfl, rfl⟩ e3 rfl rfl rfl (Nat.le_of_ble_eq_true rfl) rfl dX11_height_2
set_option maxRecDepth 100000 in
set_option maxHeartbeats 4000000 in
theorem c_X11_rootOf (l : Launch) (Γ : GG) (sk : List SD) (hsk : Ext sk) (hl9 : l.stackTraces = false) (fu : Nat) {M M' : Mem} {a1 : Int} {o : Nat × Int} (ha1 : rng a1) (h : f_X11_rootOf fu M a1 = some (M', o)) : MetXI l yX11_rootOf cX11_rootOf 2 .int ({ frames := 8, cells := tc o, slots := ts6 o, locals := 161 } : Room) Γ sk [vr Γ 3, vi a1] M M' o := by
  unfold f_X11_rootOf at h
  refine MetXI_of RX11 rfl (by decide) rfl (Nat.le_of_ble_eq_true rfl) rfl ?_
  intro p e s m args below meth c C hr hlk hex hM
  have e3 := hsk 3 _ (by decide) rfl
  have e4 := hsk 4 _ (by decide) rfl
  have e10 := hsk 10 _ (by decide) rfl
  refine V_aload_n (pc := 0) C 0 rfl dX11_rootOf_0 ?_
  refine V_iload_n (pc := 1) C 1 rfl dX11_rootOf_1 ?_
  rcases cax_of h with ⟨M1, r2, hc3, h⟩ | ⟨M1, n4, z5, hc3, h⟩
  · refine V_callXV0 (pc := 2) C (c_X11_requireReadable l Γ sk hsk hl9 fu ha1 hc3) cf_X11_requireReadable lk_X11_168 ⟨rfl, rfl⟩ ⟨Nat.le_of_ble_eq_true rfl, Nat.le_of_ble_eq_true rfl⟩ e3 rfl rfl rfl (Nat.le_of_ble_eq_true rfl) ⟨Nat.zero_le _, Nat.zero_le _⟩ rfl dX11_rootOf_2 ?_
    refine V_aload_n (pc := 5) C 0 rfl dX11_rootOf_5 ?_
    refine V_getR (pc := 6) C e3 rfl inX11 0 (by decide) rfl lf_X11_10 rfl dX11_rootOf_6 ?_
    refine V_getR (pc := 9) C e4 rfl inX8 1 (by decide) rfl lf_X11_137 rfl dX11_rootOf_9 ?_
    refine V_iload_n (pc := 12) C 1 rfl dX11_rootOf_12 ?_
    obtain ⟨M6, r7, hc8, h⟩ := cal_of h
    refine V_callVI (pc := 13) C (c_X10_rootAt l Γ sk hsk fu ha1 hc8) cf_X10_rootAt lk_X11_177 ⟨rfl, rfl⟩ ⟨Nat.le_of_ble_eq_true rfl, Nat.le_of_ble_eq_true rfl⟩ e10 rfl rfl rfl (Nat.le_of_ble_eq_true rfl) ⟨Nat.zero_le _, Nat.zero_le _⟩ rfl dX11_rootOf_13 (fun hr7 => ?_)
    exact V_xiret (pc := 16) C hr hlk hr7 h dX11_rootOf_16
  · exact V_callXVt (pc := 2) C (c_X11_requireReadable l Γ sk hsk hl9 fu ha1 hc3) h hex hlk cf_X11_requireReadable lk_X11_168 ⟨rfl, rfl⟩ ⟨Nat.le_of_ble_eq_true rfl, Nat.le_of_ble_eq_true rfl⟩ ⟨rfl, rfl⟩ e3 rfl rfl rfl (Nat.le_of_ble_eq_true rfl) rfl dX11_rootOf_2
set_option maxRecDepth 100000 in
set_option maxHeartbeats 4000000 in
theorem c_X11_get (l : Launch) (Γ : GG) (sk : List SD) (hsk : Ext sk) (hl9 : l.stackTraces = false) (fu : Nat) {M M' : Mem} {a1 : Int} {a2 : Int} {o : Nat × Int} (ha1 : rng a1) (ha2 : rng a2) (h : f_X11_get fu M a1 a2 = some (M', o)) : MetXI l yX11_get cX11_get 3 .int ({ frames := 7, cells := tc o, slots := ts6 o, locals := 140 } : Room) Γ sk [vr Γ 3, vi a1, vi a2] M M' o := by
  unfold f_X11_get at h
  refine MetXI_of RX11 rfl (by decide) rfl (Nat.le_of_ble_eq_true rfl) rfl ?_
  intro p e s m args below meth c C hr hlk hex hM
  have e3 := hsk 3 _ (by decide) rfl
  have e4 := hsk 4 _ (by decide) rfl
  have e10 := hsk 10 _ (by decide) rfl
  refine V_aload_n (pc := 0) C 0 rfl dX11_get_0 ?_
  refine V_getR (pc := 1) C e3 rfl inX11 0 (by decide) rfl lf_X11_10 rfl dX11_get_1 ?_
  refine V_getR (pc := 4) C e4 rfl inX8 1 (by decide) rfl lf_X11_137 rfl dX11_get_4 ?_
  refine V_iload_n (pc := 7) C 1 rfl dX11_get_7 ?_
  refine V_iload_n (pc := 8) C 2 rfl dX11_get_8 ?_
  obtain ⟨M1, r2, hc3, h⟩ := cal_of h
  refine V_callVI (pc := 9) C (c_X10_faultOfElement l Γ sk hsk fu ha1 ha2 hc3) cf_X10_faultOfElement lk_X11_180 ⟨rfl, rfl⟩ ⟨Nat.le_of_ble_eq_true rfl, Nat.le_of_ble_eq_true rfl⟩ e10 rfl rfl rfl (Nat.le_of_ble_eq_true rfl) ⟨Nat.zero_le _, Nat.zero_le _⟩ rfl dX11_get_9 (fun hr2 => ?_)
  rcases cax_of h with ⟨M4, r5, hc6, h⟩ | ⟨M4, n7, z8, hc6, h⟩
  · refine V_callXS0 (pc := 12) C (c_X11_refuse l Γ sk hsk hl9 fu hr2 hc6) cf_X11_refuse lk_X11_183 ⟨rfl, rfl⟩ ⟨Nat.le_of_ble_eq_true rfl, Nat.le_of_ble_eq_true rfl⟩ rfl (Nat.le_of_ble_eq_true rfl) ⟨Nat.zero_le _, Nat.zero_le _⟩ rfl dX11_get_12 ?_
    refine V_aload_n (pc := 15) C 0 rfl dX11_get_15 ?_
    refine V_getR (pc := 16) C e3 rfl inX11 0 (by decide) rfl lf_X11_10 rfl dX11_get_16 ?_
    refine V_iload_n (pc := 19) C 1 rfl dX11_get_19 ?_
    refine V_iload_n (pc := 20) C 2 rfl dX11_get_20 ?_
    obtain ⟨M9, r10, hc11, h⟩ := cal_of h
    refine V_callVI (pc := 21) C (c_X8_elementAt l Γ sk hsk fu ha1 ha2 hc11) cf_X8_elementAt lk_X11_186 ⟨rfl, rfl⟩ ⟨Nat.le_of_ble_eq_true rfl, Nat.le_of_ble_eq_true rfl⟩ e4 rfl rfl rfl (Nat.le_of_ble_eq_true rfl) ⟨Nat.zero_le _, Nat.zero_le _⟩ rfl dX11_get_21 (fun hr10 => ?_)
    exact V_xiret (pc := 24) C hr hlk hr10 h dX11_get_24
  · exact V_callXSt (pc := 12) C (c_X11_refuse l Γ sk hsk hl9 fu hr2 hc6) h hex hlk cf_X11_refuse lk_X11_183 ⟨rfl, rfl⟩ ⟨Nat.le_of_ble_eq_true rfl, Nat.le_of_ble_eq_true rfl⟩ ⟨rfl, rfl⟩ rfl (Nat.le_of_ble_eq_true rfl) rfl dX11_get_12
set_option maxRecDepth 100000 in
set_option maxHeartbeats 4000000 in
theorem c_X11_leafOf (l : Launch) (Γ : GG) (sk : List SD) (hsk : Ext sk) (hl9 : l.stackTraces = false) (fu : Nat) {M M' : Mem} {a1 : Int} {a2 : Int} {o : Nat × Int} (ha1 : rng a1) (ha2 : rng a2) (h : f_X11_leafOf fu M a1 a2 = some (M', o)) : MetXI l yX11_leafOf cX11_leafOf 3 .int ({ frames := 7, cells := tc o, slots := ts6 o, locals := 140 } : Room) Γ sk [vr Γ 3, vi a1, vi a2] M M' o := by
  unfold f_X11_leafOf at h
  refine MetXI_of RX11 rfl (by decide) rfl (Nat.le_of_ble_eq_true rfl) rfl ?_
  intro p e s m args below meth c C hr hlk hex hM
  have e3 := hsk 3 _ (by decide) rfl
  have e4 := hsk 4 _ (by decide) rfl
  have e10 := hsk 10 _ (by decide) rfl
  refine V_aload_n (pc := 0) C 0 rfl dX11_leafOf_0 ?_
  refine V_getR (pc := 1) C e3 rfl inX11 0 (by decide) rfl lf_X11_10 rfl dX11_leafOf_1 ?_
  refine V_getR (pc := 4) C e4 rfl inX8 1 (by decide) rfl lf_X11_137 rfl dX11_leafOf_4 ?_
  refine V_iload_n (pc := 7) C 1 rfl dX11_leafOf_7 ?_
  refine V_iload_n (pc := 8) C 2 rfl dX11_leafOf_8 ?_
  obtain ⟨M1, r2, hc3, h⟩ := cal_of h
  refine V_callVI (pc := 9) C (c_X10_faultOfElement l Γ sk hsk fu ha1 ha2 hc3) cf_X10_faultOfElement lk_X11_180 ⟨rfl, rfl⟩ ⟨Nat.le_of_ble_eq_true rfl, Nat.le_of_ble_eq_true rfl⟩ e10 rfl rfl rfl (Nat.le_of_ble_eq_true rfl) ⟨Nat.zero_le _, Nat.zero_le _⟩ rfl dX11_leafOf_9 (fun hr2 => ?_)
  rcases cax_of h with ⟨M4, r5, hc6, h⟩ | ⟨M4, n7, z8, hc6, h⟩
  · refine V_callXS0 (pc := 12) C (c_X11_refuse l Γ sk hsk hl9 fu hr2 hc6) cf_X11_refuse lk_X11_183 ⟨rfl, rfl⟩ ⟨Nat.le_of_ble_eq_true rfl, Nat.le_of_ble_eq_true rfl⟩ rfl (Nat.le_of_ble_eq_true rfl) ⟨Nat.zero_le _, Nat.zero_le _⟩ rfl dX11_leafOf_12 ?_
    refine V_aload_n (pc := 15) C 0 rfl dX11_leafOf_15 ?_
    refine V_getR (pc := 16) C e3 rfl inX11 0 (by decide) rfl lf_X11_10 rfl dX11_leafOf_16 ?_
    refine V_iload_n (pc := 19) C 1 rfl dX11_leafOf_19 ?_
    refine V_iload_n (pc := 20) C 2 rfl dX11_leafOf_20 ?_
    obtain ⟨M9, r10, hc11, h⟩ := cal_of h
    refine V_callVI (pc := 21) C (c_X8_leafAt l Γ sk hsk fu ha1 ha2 hc11) cf_X8_leafAt lk_X11_189 ⟨rfl, rfl⟩ ⟨Nat.le_of_ble_eq_true rfl, Nat.le_of_ble_eq_true rfl⟩ e4 rfl rfl rfl (Nat.le_of_ble_eq_true rfl) ⟨Nat.zero_le _, Nat.zero_le _⟩ rfl dX11_leafOf_21 (fun hr10 => ?_)
    exact V_xiret (pc := 24) C hr hlk hr10 h dX11_leafOf_24
  · exact V_callXSt (pc := 12) C (c_X11_refuse l Γ sk hsk hl9 fu hr2 hc6) h hex hlk cf_X11_refuse lk_X11_183 ⟨rfl, rfl⟩ ⟨Nat.le_of_ble_eq_true rfl, Nat.le_of_ble_eq_true rfl⟩ ⟨rfl, rfl⟩ rfl (Nat.le_of_ble_eq_true rfl) rfl dX11_leafOf_12
set_option maxRecDepth 100000 in
set_option maxHeartbeats 4000000 in
theorem c_X11_sum (l : Launch) (Γ : GG) (sk : List SD) (hsk : Ext sk) (hl9 : l.stackTraces = false) (fu : Nat) {M M' : Mem} {a1 : Int} {o : Nat × Int} (ha1 : rng a1) (h : f_X11_sum fu M a1 = some (M', o)) : MetXI l yX11_sum cX11_sum 2 .int ({ frames := 8, cells := tc o, slots := ts6 o, locals := 161 } : Room) Γ sk [vr Γ 3, vi a1] M M' o := by
  unfold f_X11_sum at h
  refine MetXI_of RX11 rfl (by decide) rfl (Nat.le_of_ble_eq_true rfl) rfl ?_
  intro p e s m args below meth c C hr hlk hex hM
  have e3 := hsk 3 _ (by decide) rfl
  have e4 := hsk 4 _ (by decide) rfl
  refine V_aload_n (pc := 0) C 0 rfl dX11_sum_0 ?_
  refine V_iload_n (pc := 1) C 1 rfl dX11_sum_1 ?_
  rcases cax_of h with ⟨M1, r2, hc3, h⟩ | ⟨M1, n4, z5, hc3, h⟩
  · refine V_callXV0 (pc := 2) C (c_X11_requireReadable l Γ sk hsk hl9 fu ha1 hc3) cf_X11_requireReadable lk_X11_168 ⟨rfl, rfl⟩ ⟨Nat.le_of_ble_eq_true rfl, Nat.le_of_ble_eq_true rfl⟩ e3 rfl rfl rfl (Nat.le_of_ble_eq_true rfl) ⟨Nat.zero_le _, Nat.zero_le _⟩ rfl dX11_sum_2 ?_
    refine V_aload_n (pc := 5) C 0 rfl dX11_sum_5 ?_
    refine V_getR (pc := 6) C e3 rfl inX11 0 (by decide) rfl lf_X11_10 rfl dX11_sum_6 ?_
    refine V_iload_n (pc := 9) C 1 rfl dX11_sum_9 ?_
    obtain ⟨M6, r7, hc8, h⟩ := cal_of h
    refine V_callVI (pc := 10) C (c_X8_addUp l Γ sk hsk fu ha1 hc8) cf_X8_addUp lk_X11_192 ⟨rfl, rfl⟩ ⟨Nat.le_of_ble_eq_true rfl, Nat.le_of_ble_eq_true rfl⟩ e4 rfl rfl rfl (Nat.le_of_ble_eq_true rfl) ⟨Nat.zero_le _, Nat.zero_le _⟩ rfl dX11_sum_10 (fun hr7 => ?_)
    exact V_xiret (pc := 13) C hr hlk hr7 h dX11_sum_13
  · exact V_callXVt (pc := 2) C (c_X11_requireReadable l Γ sk hsk hl9 fu ha1 hc3) h hex hlk cf_X11_requireReadable lk_X11_168 ⟨rfl, rfl⟩ ⟨Nat.le_of_ble_eq_true rfl, Nat.le_of_ble_eq_true rfl⟩ ⟨rfl, rfl⟩ e3 rfl rfl rfl (Nat.le_of_ble_eq_true rfl) rfl dX11_sum_2
set_option maxRecDepth 100000 in
set_option maxHeartbeats 4000000 in
theorem c_X11_nodesCreatedFor (l : Launch) (Γ : GG) (sk : List SD) (hsk : Ext sk) (hl9 : l.stackTraces = false) (fu : Nat) {M M' : Mem} {a1 : Int} {o : Nat × Int} (ha1 : rng a1) (h : f_X11_nodesCreatedFor fu M a1 = some (M', o)) : MetXI l yX11_nodesCreatedFor cX11_nodesCreatedFor 2 .int ({ frames := 8, cells := tc o, slots := ts6 o, locals := 161 } : Room) Γ sk [vr Γ 3, vi a1] M M' o := by
  unfold f_X11_nodesCreatedFor at h
  refine MetXI_of RX11 rfl (by decide) rfl (Nat.le_of_ble_eq_true rfl) rfl ?_
  intro p e s m args below meth c C hr hlk hex hM
  have e3 := hsk 3 _ (by decide) rfl
  have e4 := hsk 4 _ (by decide) rfl
  have e10 := hsk 10 _ (by decide) rfl
  refine V_aload_n (pc := 0) C 0 rfl dX11_nodesCreatedFor_0 ?_
  refine V_iload_n (pc := 1) C 1 rfl dX11_nodesCreatedFor_1 ?_
  rcases cax_of h with ⟨M1, r2, hc3, h⟩ | ⟨M1, n4, z5, hc3, h⟩
  · refine V_callXV0 (pc := 2) C (c_X11_requireVersion l Γ sk hsk hl9 fu ha1 hc3) cf_X11_requireVersion lk_X11_148 ⟨rfl, rfl⟩ ⟨Nat.le_of_ble_eq_true rfl, Nat.le_of_ble_eq_true rfl⟩ e3 rfl rfl rfl (Nat.le_of_ble_eq_true rfl) ⟨Nat.zero_le _, Nat.zero_le _⟩ rfl dX11_nodesCreatedFor_2 ?_
    refine V_aload_n (pc := 5) C 0 rfl dX11_nodesCreatedFor_5 ?_
    refine V_getR (pc := 6) C e3 rfl inX11 0 (by decide) rfl lf_X11_10 rfl dX11_nodesCreatedFor_6 ?_
    refine V_getR (pc := 9) C e4 rfl inX8 1 (by decide) rfl lf_X11_137 rfl dX11_nodesCreatedFor_9 ?_
    refine V_iload_n (pc := 12) C 1 rfl dX11_nodesCreatedFor_12 ?_
    obtain ⟨M6, r7, hc8, h⟩ := cal_of h
    refine V_callVI (pc := 13) C (c_X10_createdForAt l Γ sk hsk fu ha1 hc8) cf_X10_createdForAt lk_X11_213 ⟨rfl, rfl⟩ ⟨Nat.le_of_ble_eq_true rfl, Nat.le_of_ble_eq_true rfl⟩ e10 rfl rfl rfl (Nat.le_of_ble_eq_true rfl) ⟨Nat.zero_le _, Nat.zero_le _⟩ rfl dX11_nodesCreatedFor_13 (fun hr7 => ?_)
    exact V_xiret (pc := 16) C hr hlk hr7 h dX11_nodesCreatedFor_16
  · exact V_callXVt (pc := 2) C (c_X11_requireVersion l Γ sk hsk hl9 fu ha1 hc3) h hex hlk cf_X11_requireVersion lk_X11_148 ⟨rfl, rfl⟩ ⟨Nat.le_of_ble_eq_true rfl, Nat.le_of_ble_eq_true rfl⟩ ⟨rfl, rfl⟩ e3 rfl rfl rfl (Nat.le_of_ble_eq_true rfl) rfl dX11_nodesCreatedFor_2
set_option maxRecDepth 100000 in
set_option maxHeartbeats 4000000 in
theorem c_X11_requireNode (l : Launch) (Γ : GG) (sk : List SD) (hsk : Ext sk) (hl9 : l.stackTraces = false) (fu : Nat) {M M' : Mem} {a1 : Int} {o : Nat × Int} (ha1 : rng a1) (h : f_X11_requireNode fu M a1 = some (M', o)) : MetXV l yX11_requireNode cX11_requireNode 2 ({ frames := 7, cells := tc o, slots := ts6 o, locals := 140 } : Room) Γ sk [vr Γ 3, vi a1] M M' o := by
  unfold f_X11_requireNode at h
  refine MetXV_of RX11 rfl (by decide) rfl (Nat.le_of_ble_eq_true rfl) rfl ?_
  intro p e s m args below meth c C hr hlk hex hM
  have e3 := hsk 3 _ (by decide) rfl
  have e4 := hsk 4 _ (by decide) rfl
  have e5 := hsk 5 _ (by decide) rfl
  refine V_aload_n (pc := 0) C 0 rfl dX11_requireNode_0 ?_
  refine V_getR (pc := 1) C e3 rfl inX11 0 (by decide) rfl lf_X11_10 rfl dX11_requireNode_1 ?_
  refine V_getR (pc := 4) C e4 rfl inX8 0 (by decide) rfl lf_X11_198 rfl dX11_requireNode_4 ?_
  refine V_iload_n (pc := 7) C 1 rfl dX11_requireNode_7 ?_
  obtain ⟨M1, r2, hc3, h⟩ := cal_of h
  refine V_callVI (pc := 8) C (c_X3_isStored l Γ sk hsk fu ha1 hc3) cf_X3_isStored lk_X11_356 ⟨rfl, rfl⟩ ⟨Nat.le_of_ble_eq_true rfl, Nat.le_of_ble_eq_true rfl⟩ e5 rfl rfl rfl (Nat.le_of_ble_eq_true rfl) ⟨Nat.zero_le _, Nat.zero_le _⟩ rfl dX11_requireNode_8 (fun hr2 => ?_)
  refine V_if_eq (pc := 11) C 18 hr2 dX11_requireNode_11 (by decide) (fun c11_4 => ?_) (fun c11_4 => ?_)
  · have h := ite_t h c11_4
    refine V_iconst (pc := 18) C dX11_requireNode_18 ?_
    rcases cax_of h with ⟨M5, r6, hc7, h⟩ | ⟨M5, n8, z9, hc7, h⟩
    · refine V_callXS0 (pc := 19) C (c_X11_refuse l Γ sk hsk hl9 fu (by decide) hc7) cf_X11_refuse lk_X11_183 ⟨rfl, rfl⟩ ⟨Nat.le_of_ble_eq_true rfl, Nat.le_of_ble_eq_true rfl⟩ rfl (Nat.le_of_ble_eq_true rfl) ⟨Nat.zero_le _, Nat.zero_le _⟩ rfl dX11_requireNode_19 ?_
      exact V_xvret (pc := 22) C hr hlk h dX11_requireNode_22
    · exact V_callXSt (pc := 19) C (c_X11_refuse l Γ sk hsk hl9 fu (by decide) hc7) h hex hlk cf_X11_refuse lk_X11_183 ⟨rfl, rfl⟩ ⟨Nat.le_of_ble_eq_true rfl, Nat.le_of_ble_eq_true rfl⟩ ⟨rfl, rfl⟩ rfl (Nat.le_of_ble_eq_true rfl) rfl dX11_requireNode_19
  · have h := ite_f h c11_4
    refine V_iconst (pc := 14) C dX11_requireNode_14 ?_
    refine V_goto (pc := 15) C 19 dX11_requireNode_15 (by decide) ?_
    rcases cax_of h with ⟨M10, r11, hc12, h⟩ | ⟨M10, n13, z14, hc12, h⟩
    · refine V_callXS0 (pc := 19) C (c_X11_refuse l Γ sk hsk hl9 fu (by decide) hc12) cf_X11_refuse lk_X11_183 ⟨rfl, rfl⟩ ⟨Nat.le_of_ble_eq_true rfl, Nat.le_of_ble_eq_true rfl⟩ rfl (Nat.le_of_ble_eq_true rfl) ⟨Nat.zero_le _, Nat.zero_le _⟩ rfl dX11_requireNode_19 ?_
      exact V_xvret (pc := 22) C hr hlk h dX11_requireNode_22
    · exact V_callXSt (pc := 19) C (c_X11_refuse l Γ sk hsk hl9 fu (by decide) hc12) h hex hlk cf_X11_refuse lk_X11_183 ⟨rfl, rfl⟩ ⟨Nat.le_of_ble_eq_true rfl, Nat.le_of_ble_eq_true rfl⟩ ⟨rfl, rfl⟩ rfl (Nat.le_of_ble_eq_true rfl) rfl dX11_requireNode_19
set_option maxRecDepth 100000 in
set_option maxHeartbeats 4000000 in
theorem c_X11_isLeaf (l : Launch) (Γ : GG) (sk : List SD) (hsk : Ext sk) (hl9 : l.stackTraces = false) (fu : Nat) {M M' : Mem} {a1 : Int} {o : Nat × Int} (ha1 : rng a1) (h : f_X11_isLeaf fu M a1 = some (M', o)) : MetXI l yX11_isLeaf cX11_isLeaf 2 .boolean ({ frames := 8, cells := tc o, slots := ts6 o, locals := 161 } : Room) Γ sk [vr Γ 3, vi a1] M M' o := by
  unfold f_X11_isLeaf at h
  refine MetXI_of RX11 rfl (by decide) rfl (Nat.le_of_ble_eq_true rfl) rfl ?_
  intro p e s m args below meth c C hr hlk hex hM
  have e3 := hsk 3 _ (by decide) rfl
  have e4 := hsk 4 _ (by decide) rfl
  have e5 := hsk 5 _ (by decide) rfl
  refine V_aload_n (pc := 0) C 0 rfl dX11_isLeaf_0 ?_
  refine V_iload_n (pc := 1) C 1 rfl dX11_isLeaf_1 ?_
  rcases cax_of h with ⟨M1, r2, hc3, h⟩ | ⟨M1, n4, z5, hc3, h⟩
  · refine V_callXV0 (pc := 2) C (c_X11_requireNode l Γ sk hsk hl9 fu ha1 hc3) cf_X11_requireNode lk_X11_229 ⟨rfl, rfl⟩ ⟨Nat.le_of_ble_eq_true rfl, Nat.le_of_ble_eq_true rfl⟩ e3 rfl rfl rfl (Nat.le_of_ble_eq_true rfl) ⟨Nat.zero_le _, Nat.zero_le _⟩ rfl dX11_isLeaf_2 ?_
    refine V_aload_n (pc := 5) C 0 rfl dX11_isLeaf_5 ?_
    refine V_getR (pc := 6) C e3 rfl inX11 0 (by decide) rfl lf_X11_10 rfl dX11_isLeaf_6 ?_
    refine V_getR (pc := 9) C e4 rfl inX8 0 (by decide) rfl lf_X11_198 rfl dX11_isLeaf_9 ?_
    refine V_iload_n (pc := 12) C 1 rfl dX11_isLeaf_12 ?_
    obtain ⟨M6, r7, hc8, h⟩ := cal_of h
    refine V_callVI (pc := 13) C (c_X3_levelAt l Γ sk hsk fu ha1 hc8) cf_X3_levelAt lk_X11_232 ⟨rfl, rfl⟩ ⟨Nat.le_of_ble_eq_true rfl, Nat.le_of_ble_eq_true rfl⟩ e5 rfl rfl rfl (Nat.le_of_ble_eq_true rfl) ⟨Nat.zero_le _, Nat.zero_le _⟩ rfl dX11_isLeaf_13 (fun hr7 => ?_)
    refine V_iconst (pc := 16) C dX11_isLeaf_16 ?_
    refine V_icmp_ne (pc := 17) C 24 hr7 (by decide) dX11_isLeaf_17 (by decide) (fun c17_9 => ?_) (fun c17_9 => ?_)
    · have h := ite_f h c17_9
      refine V_iconst (pc := 24) C dX11_isLeaf_24 ?_
      exact V_xzret (pc := 25) C hr hlk (by decide) h dX11_isLeaf_25
    · have h := ite_t h c17_9
      refine V_iconst (pc := 20) C dX11_isLeaf_20 ?_
      refine V_goto (pc := 21) C 25 dX11_isLeaf_21 (by decide) ?_
      exact V_xzret (pc := 25) C hr hlk (by decide) h dX11_isLeaf_25
  · exact V_callXVt (pc := 2) C (c_X11_requireNode l Γ sk hsk hl9 fu ha1 hc3) h hex hlk cf_X11_requireNode lk_X11_229 ⟨rfl, rfl⟩ ⟨Nat.le_of_ble_eq_true rfl, Nat.le_of_ble_eq_true rfl⟩ ⟨rfl, rfl⟩ e3 rfl rfl rfl (Nat.le_of_ble_eq_true rfl) rfl dX11_isLeaf_2
set_option maxRecDepth 100000 in
set_option maxHeartbeats 4000000 in
theorem c_X11_entryCount (l : Launch) (Γ : GG) (sk : List SD) (hsk : Ext sk) (hl9 : l.stackTraces = false) (fu : Nat) {M M' : Mem} {a1 : Int} {o : Nat × Int} (ha1 : rng a1) (h : f_X11_entryCount fu M a1 = some (M', o)) : MetXI l yX11_entryCount cX11_entryCount 2 .int ({ frames := 8, cells := tc o, slots := ts6 o, locals := 161 } : Room) Γ sk [vr Γ 3, vi a1] M M' o := by
  unfold f_X11_entryCount at h
  refine MetXI_of RX11 rfl (by decide) rfl (Nat.le_of_ble_eq_true rfl) rfl ?_
  intro p e s m args below meth c C hr hlk hex hM
  have e3 := hsk 3 _ (by decide) rfl
  have e4 := hsk 4 _ (by decide) rfl
  have e5 := hsk 5 _ (by decide) rfl
  refine V_aload_n (pc := 0) C 0 rfl dX11_entryCount_0 ?_
  refine V_iload_n (pc := 1) C 1 rfl dX11_entryCount_1 ?_
  rcases cax_of h with ⟨M1, r2, hc3, h⟩ | ⟨M1, n4, z5, hc3, h⟩
  · refine V_callXV0 (pc := 2) C (c_X11_requireNode l Γ sk hsk hl9 fu ha1 hc3) cf_X11_requireNode lk_X11_229 ⟨rfl, rfl⟩ ⟨Nat.le_of_ble_eq_true rfl, Nat.le_of_ble_eq_true rfl⟩ e3 rfl rfl rfl (Nat.le_of_ble_eq_true rfl) ⟨Nat.zero_le _, Nat.zero_le _⟩ rfl dX11_entryCount_2 ?_
    refine V_aload_n (pc := 5) C 0 rfl dX11_entryCount_5 ?_
    refine V_getR (pc := 6) C e3 rfl inX11 0 (by decide) rfl lf_X11_10 rfl dX11_entryCount_6 ?_
    refine V_getR (pc := 9) C e4 rfl inX8 0 (by decide) rfl lf_X11_198 rfl dX11_entryCount_9 ?_
    refine V_iload_n (pc := 12) C 1 rfl dX11_entryCount_12 ?_
    obtain ⟨M6, r7, hc8, h⟩ := cal_of h
    refine V_callVI (pc := 13) C (c_X3_fillAt l Γ sk hsk fu ha1 hc8) cf_X3_fillAt lk_X11_235 ⟨rfl, rfl⟩ ⟨Nat.le_of_ble_eq_true rfl, Nat.le_of_ble_eq_true rfl⟩ e5 rfl rfl rfl (Nat.le_of_ble_eq_true rfl) ⟨Nat.zero_le _, Nat.zero_le _⟩ rfl dX11_entryCount_13 (fun hr7 => ?_)
    exact V_xiret (pc := 16) C hr hlk hr7 h dX11_entryCount_16
  · exact V_callXVt (pc := 2) C (c_X11_requireNode l Γ sk hsk hl9 fu ha1 hc3) h hex hlk cf_X11_requireNode lk_X11_229 ⟨rfl, rfl⟩ ⟨Nat.le_of_ble_eq_true rfl, Nat.le_of_ble_eq_true rfl⟩ ⟨rfl, rfl⟩ e3 rfl rfl rfl (Nat.le_of_ble_eq_true rfl) rfl dX11_entryCount_2
set_option maxRecDepth 100000 in
set_option maxHeartbeats 4000000 in
theorem c_X11_childOf (l : Launch) (Γ : GG) (sk : List SD) (hsk : Ext sk) (hl9 : l.stackTraces = false) (fu : Nat) {M M' : Mem} {a1 : Int} {a2 : Int} {o : Nat × Int} (ha1 : rng a1) (ha2 : rng a2) (h : f_X11_childOf fu M a1 a2 = some (M', o)) : MetXI l yX11_childOf cX11_childOf 3 .int ({ frames := 8, cells := tc o, slots := ts6 o, locals := 161 } : Room) Γ sk [vr Γ 3, vi a1, vi a2] M M' o := by
  unfold f_X11_childOf at h
  refine MetXI_of RX11 rfl (by decide) rfl (Nat.le_of_ble_eq_true rfl) rfl ?_
  intro p e s m args below meth c C hr hlk hex hM
  have e3 := hsk 3 _ (by decide) rfl
  have e4 := hsk 4 _ (by decide) rfl
  have e5 := hsk 5 _ (by decide) rfl
  refine V_aload_n (pc := 0) C 0 rfl dX11_childOf_0 ?_
  refine V_iload_n (pc := 1) C 1 rfl dX11_childOf_1 ?_
  rcases cax_of h with ⟨M1, r2, hc3, h⟩ | ⟨M1, n4, z5, hc3, h⟩
  · refine V_callXV0 (pc := 2) C (c_X11_requireNode l Γ sk hsk hl9 fu ha1 hc3) cf_X11_requireNode lk_X11_229 ⟨rfl, rfl⟩ ⟨Nat.le_of_ble_eq_true rfl, Nat.le_of_ble_eq_true rfl⟩ e3 rfl rfl rfl (Nat.le_of_ble_eq_true rfl) ⟨Nat.zero_le _, Nat.zero_le _⟩ rfl dX11_childOf_2 ?_
    refine V_aload_n (pc := 5) C 0 rfl dX11_childOf_5 ?_
    refine V_getR (pc := 6) C e3 rfl inX11 0 (by decide) rfl lf_X11_10 rfl dX11_childOf_6 ?_
    refine V_getR (pc := 9) C e4 rfl inX8 0 (by decide) rfl lf_X11_198 rfl dX11_childOf_9 ?_
    refine V_iload_n (pc := 12) C 1 rfl dX11_childOf_12 ?_
    refine V_iload_n (pc := 13) C 2 rfl dX11_childOf_13 ?_
    obtain ⟨M6, r7, hc8, h⟩ := cal_of h
    refine V_callVI (pc := 14) C (c_X3_childAt l Γ sk hsk fu ha1 ha2 hc8) cf_X3_childAt lk_X11_238 ⟨rfl, rfl⟩ ⟨Nat.le_of_ble_eq_true rfl, Nat.le_of_ble_eq_true rfl⟩ e5 rfl rfl rfl (Nat.le_of_ble_eq_true rfl) ⟨Nat.zero_le _, Nat.zero_le _⟩ rfl dX11_childOf_14 (fun hr7 => ?_)
    exact V_xiret (pc := 17) C hr hlk hr7 h dX11_childOf_17
  · exact V_callXVt (pc := 2) C (c_X11_requireNode l Γ sk hsk hl9 fu ha1 hc3) h hex hlk cf_X11_requireNode lk_X11_229 ⟨rfl, rfl⟩ ⟨Nat.le_of_ble_eq_true rfl, Nat.le_of_ble_eq_true rfl⟩ ⟨rfl, rfl⟩ e3 rfl rfl rfl (Nat.le_of_ble_eq_true rfl) rfl dX11_childOf_2
set_option maxRecDepth 100000 in
set_option maxHeartbeats 4000000 in
theorem c_X11_referencesTo (l : Launch) (Γ : GG) (sk : List SD) (hsk : Ext sk) (hl9 : l.stackTraces = false) (fu : Nat) {M M' : Mem} {a1 : Int} {o : Nat × Int} (ha1 : rng a1) (h : f_X11_referencesTo fu M a1 = some (M', o)) : MetXI l yX11_referencesTo cX11_referencesTo 2 .int ({ frames := 8, cells := tc o, slots := ts6 o, locals := 161 } : Room) Γ sk [vr Γ 3, vi a1] M M' o := by
  unfold f_X11_referencesTo at h
  refine MetXI_of RX11 rfl (by decide) rfl (Nat.le_of_ble_eq_true rfl) rfl ?_
  intro p e s m args below meth c C hr hlk hex hM
  have e3 := hsk 3 _ (by decide) rfl
  have e4 := hsk 4 _ (by decide) rfl
  have e5 := hsk 5 _ (by decide) rfl
  have e10 := hsk 10 _ (by decide) rfl
  refine V_aload_n (pc := 0) C 0 rfl dX11_referencesTo_0 ?_
  refine V_iload_n (pc := 1) C 1 rfl dX11_referencesTo_1 ?_
  rcases cax_of h with ⟨M1, r2, hc3, h⟩ | ⟨M1, n4, z5, hc3, h⟩
  · refine V_callXV0 (pc := 2) C (c_X11_requireNode l Γ sk hsk hl9 fu ha1 hc3) cf_X11_requireNode lk_X11_229 ⟨rfl, rfl⟩ ⟨Nat.le_of_ble_eq_true rfl, Nat.le_of_ble_eq_true rfl⟩ e3 rfl rfl rfl (Nat.le_of_ble_eq_true rfl) ⟨Nat.zero_le _, Nat.zero_le _⟩ rfl dX11_referencesTo_2 ?_
    refine V_aload_n (pc := 5) C 0 rfl dX11_referencesTo_5 ?_
    refine V_getR (pc := 6) C e3 rfl inX11 0 (by decide) rfl lf_X11_10 rfl dX11_referencesTo_6 ?_
    refine V_getR (pc := 9) C e4 rfl inX8 1 (by decide) rfl lf_X11_137 rfl dX11_referencesTo_9 ?_
    refine V_iload_n (pc := 12) C 1 rfl dX11_referencesTo_12 ?_
    obtain ⟨M6, r7, hc8, h⟩ := cal_of h
    refine V_callVI (pc := 13) C (c_X10_countLiveRoots l Γ sk hsk fu ha1 hc8) cf_X10_countLiveRoots lk_X11_241 ⟨rfl, rfl⟩ ⟨Nat.le_of_ble_eq_true rfl, Nat.le_of_ble_eq_true rfl⟩ e10 rfl rfl rfl (Nat.le_of_ble_eq_true rfl) ⟨Nat.zero_le _, Nat.zero_le _⟩ rfl dX11_referencesTo_13 (fun hr7 => ?_)
    refine V_aload_n (pc := 16) C 0 rfl dX11_referencesTo_16 ?_
    refine V_getR (pc := 17) C e3 rfl inX11 0 (by decide) rfl lf_X11_10 rfl dX11_referencesTo_17 ?_
    refine V_getR (pc := 20) C e4 rfl inX8 0 (by decide) rfl lf_X11_198 rfl dX11_referencesTo_20 ?_
    refine V_iload_n (pc := 23) C 1 rfl dX11_referencesTo_23 ?_
    obtain ⟨M9, r10, hc11, h⟩ := cal_of h
    refine V_callVI (pc := 24) C (c_X3_countReferrers l Γ sk hsk fu ha1 hc11) cf_X3_countReferrers lk_X11_244 ⟨rfl, rfl⟩ ⟨Nat.le_of_ble_eq_true rfl, Nat.le_of_ble_eq_true rfl⟩ e5 rfl rfl rfl (Nat.le_of_ble_eq_true rfl) ⟨Nat.zero_le _, Nat.zero_le _⟩ rfl dX11_referencesTo_24 (fun hr10 => ?_)
    refine V_iadd (pc := 27) C dX11_referencesTo_27 ?_
    obtain ⟨g12, h⟩ := grd_of h
    exact V_xiret (pc := 28) C hr hlk g12 h dX11_referencesTo_28
  · exact V_callXVt (pc := 2) C (c_X11_requireNode l Γ sk hsk hl9 fu ha1 hc3) h hex hlk cf_X11_requireNode lk_X11_229 ⟨rfl, rfl⟩ ⟨Nat.le_of_ble_eq_true rfl, Nat.le_of_ble_eq_true rfl⟩ ⟨rfl, rfl⟩ e3 rfl rfl rfl (Nat.le_of_ble_eq_true rfl) rfl dX11_referencesTo_2
set_option maxRecDepth 100000 in
set_option maxHeartbeats 4000000 in
theorem c_X11_nodesForSet (l : Launch) (Γ : GG) (sk : List SD) (hsk : Ext sk) (hl9 : l.stackTraces = false) (fu : Nat) {M M' : Mem} {a1 : Int} {a2 : Int} {a3 : Int} {o : Nat × Int} (ha1 : rng a1) (ha2 : rng a2) (ha3 : rng a3) (h : f_X11_nodesForSet fu M a1 a2 a3 = some (M', o)) : MetXI l yX11_nodesForSet cX11_nodesForSet 4 .int ({ frames := 7, cells := tc o, slots := ts6 o, locals := 140 } : Room) Γ sk [vr Γ 3, vi a1, vi a2, vi a3] M M' o := by
  unfold f_X11_nodesForSet at h
  refine MetXI_of RX11 rfl (by decide) rfl (Nat.le_of_ble_eq_true rfl) rfl ?_
  intro p e s m args below meth c C hr hlk hex hM
  have e3 := hsk 3 _ (by decide) rfl
  have e4 := hsk 4 _ (by decide) rfl
  have e10 := hsk 10 _ (by decide) rfl
  refine V_aload_n (pc := 0) C 0 rfl dX11_nodesForSet_0 ?_
  refine V_getR (pc := 1) C e3 rfl inX11 0 (by decide) rfl lf_X11_10 rfl dX11_nodesForSet_1 ?_
  refine V_getR (pc := 4) C e4 rfl inX8 1 (by decide) rfl lf_X11_137 rfl dX11_nodesForSet_4 ?_
  refine V_iload_n (pc := 7) C 1 rfl dX11_nodesForSet_7 ?_
  refine V_iload_n (pc := 8) C 2 rfl dX11_nodesForSet_8 ?_
  refine V_iload_n (pc := 9) C 3 rfl dX11_nodesForSet_9 ?_
  obtain ⟨M1, r2, hc3, h⟩ := cal_of h
  refine V_callVI (pc := 10) C (c_X10_faultOfReplacement l Γ sk hsk fu ha1 ha2 ha3 hc3) cf_X10_faultOfReplacement lk_X11_256 ⟨rfl, rfl⟩ ⟨Nat.le_of_ble_eq_true rfl, Nat.le_of_ble_eq_true rfl⟩ e10 rfl rfl rfl (Nat.le_of_ble_eq_true rfl) ⟨Nat.zero_le _, Nat.zero_le _⟩ rfl dX11_nodesForSet_10 (fun hr2 => ?_)
  rcases cax_of h with ⟨M4, r5, hc6, h⟩ | ⟨M4, n7, z8, hc6, h⟩
  · refine V_callXS0 (pc := 13) C (c_X11_refuse l Γ sk hsk hl9 fu hr2 hc6) cf_X11_refuse lk_X11_183 ⟨rfl, rfl⟩ ⟨Nat.le_of_ble_eq_true rfl, Nat.le_of_ble_eq_true rfl⟩ rfl (Nat.le_of_ble_eq_true rfl) ⟨Nat.zero_le _, Nat.zero_le _⟩ rfl dX11_nodesForSet_13 ?_
    refine V_aload_n (pc := 16) C 0 rfl dX11_nodesForSet_16 ?_
    refine V_getR (pc := 17) C e3 rfl inX11 0 (by decide) rfl lf_X11_10 rfl dX11_nodesForSet_17 ?_
    refine V_iload_n (pc := 20) C 1 rfl dX11_nodesForSet_20 ?_
    refine V_iload_n (pc := 21) C 2 rfl dX11_nodesForSet_21 ?_
    obtain ⟨M9, r10, hc11, h⟩ := cal_of h
    refine V_callVI (pc := 22) C (c_X8_elementAt l Γ sk hsk fu ha1 ha2 hc11) cf_X8_elementAt lk_X11_186 ⟨rfl, rfl⟩ ⟨Nat.le_of_ble_eq_true rfl, Nat.le_of_ble_eq_true rfl⟩ e4 rfl rfl rfl (Nat.le_of_ble_eq_true rfl) ⟨Nat.zero_le _, Nat.zero_le _⟩ rfl dX11_nodesForSet_22 (fun hr10 => ?_)
    refine V_iload_n (pc := 25) C 3 rfl dX11_nodesForSet_25 ?_
    refine V_icmp_ne (pc := 26) C 33 hr10 ha3 dX11_nodesForSet_26 (by decide) (fun c26_12 => ?_) (fun c26_12 => ?_)
    · have h := ite_f h c26_12
      refine V_aload_n (pc := 33) C 0 rfl dX11_nodesForSet_33 ?_
      refine V_getR (pc := 34) C e3 rfl inX11 0 (by decide) rfl lf_X11_10 rfl dX11_nodesForSet_34 ?_
      refine V_iload_n (pc := 37) C 1 rfl dX11_nodesForSet_37 ?_
      obtain ⟨M13, r14, hc15, h⟩ := cal_of h
      refine V_callVI (pc := 38) C (c_X8_heightAt l Γ sk hsk fu ha1 hc15) cf_X8_heightAt lk_X11_174 ⟨rfl, rfl⟩ ⟨Nat.le_of_ble_eq_true rfl, Nat.le_of_ble_eq_true rfl⟩ e4 rfl rfl rfl (Nat.le_of_ble_eq_true rfl) ⟨Nat.zero_le _, Nat.zero_le _⟩ rfl dX11_nodesForSet_38 (fun hr14 => ?_)
      exact V_xiret (pc := 41) C hr hlk hr14 h dX11_nodesForSet_41
    · have h := ite_t h c26_12
      refine V_iconst (pc := 29) C dX11_nodesForSet_29 ?_
      refine V_goto (pc := 30) C 41 dX11_nodesForSet_30 (by decide) ?_
      exact V_xiret (pc := 41) C hr hlk (by decide) h dX11_nodesForSet_41
  · exact V_callXSt (pc := 13) C (c_X11_refuse l Γ sk hsk hl9 fu hr2 hc6) h hex hlk cf_X11_refuse lk_X11_183 ⟨rfl, rfl⟩ ⟨Nat.le_of_ble_eq_true rfl, Nat.le_of_ble_eq_true rfl⟩ ⟨rfl, rfl⟩ rfl (Nat.le_of_ble_eq_true rfl) rfl dX11_nodesForSet_13
set_option maxRecDepth 100000 in
set_option maxHeartbeats 4000000 in
theorem c_X11_nodesForAppend (l : Launch) (Γ : GG) (sk : List SD) (hsk : Ext sk) (hl9 : l.stackTraces = false) (fu : Nat) {M M' : Mem} {a1 : Int} {o : Nat × Int} (ha1 : rng a1) (h : f_X11_nodesForAppend fu M a1 = some (M', o)) : MetXI l yX11_nodesForAppend cX11_nodesForAppend 3 .int ({ frames := 8, cells := tc o, slots := ts6 o, locals := 161 } : Room) Γ sk [vr Γ 3, vi a1] M M' o := by
  unfold f_X11_nodesForAppend at h
  refine MetXI_of RX11 rfl (by decide) rfl (Nat.le_of_ble_eq_true rfl) rfl ?_
  intro p e s m args below meth c C hr hlk hex hM
  have e3 := hsk 3 _ (by decide) rfl
  have e4 := hsk 4 _ (by decide) rfl
  have e10 := hsk 10 _ (by decide) rfl
  refine V_aload_n (pc := 0) C 0 rfl dX11_nodesForAppend_0 ?_
  refine V_iload_n (pc := 1) C 1 rfl dX11_nodesForAppend_1 ?_
  rcases cax_of h with ⟨M1, r2, hc3, h⟩ | ⟨M1, n4, z5, hc3, h⟩
  · refine V_callXV0 (pc := 2) C (c_X11_requireReadable l Γ sk hsk hl9 fu ha1 hc3) cf_X11_requireReadable lk_X11_168 ⟨rfl, rfl⟩ ⟨Nat.le_of_ble_eq_true rfl, Nat.le_of_ble_eq_true rfl⟩ e3 rfl rfl rfl (Nat.le_of_ble_eq_true rfl) ⟨Nat.zero_le _, Nat.zero_le _⟩ rfl dX11_nodesForAppend_2 ?_
    refine V_aload_n (pc := 5) C 0 rfl dX11_nodesForAppend_5 ?_
    refine V_getR (pc := 6) C e3 rfl inX11 0 (by decide) rfl lf_X11_10 rfl dX11_nodesForAppend_6 ?_
    refine V_getR (pc := 9) C e4 rfl inX8 1 (by decide) rfl lf_X11_137 rfl dX11_nodesForAppend_9 ?_
    refine V_iload_n (pc := 12) C 1 rfl dX11_nodesForAppend_12 ?_
    obtain ⟨M6, r7, hc8, h⟩ := cal_of h
    refine V_callVI (pc := 13) C (c_X10_sizeAt l Γ sk hsk fu ha1 hc8) cf_X10_sizeAt lk_X11_171 ⟨rfl, rfl⟩ ⟨Nat.le_of_ble_eq_true rfl, Nat.le_of_ble_eq_true rfl⟩ e10 rfl rfl rfl (Nat.le_of_ble_eq_true rfl) ⟨Nat.zero_le _, Nat.zero_le _⟩ rfl dX11_nodesForAppend_13 (fun hr7 => ?_)
    refine V_iconst (pc := 16) C dX11_nodesForAppend_16 ?_
    refine V_iadd (pc := 17) C dX11_nodesForAppend_17 ?_
    refine V_istore_n (pc := 18) C (L' := [(0, vr Γ 3), (1, vi a1), (2, vi (r7 + (1 : Int)))]) rfl (by decide) dX11_nodesForAppend_18 ?_
    refine V_iload_n (pc := 19) C 2 rfl dX11_nodesForAppend_19 ?_
    refine V_bipush (pc := 20) C dX11_nodesForAppend_20 rfl ?_
    obtain ⟨g9, h⟩ := grd_of h
    refine V_icmp_le (pc := 22) C 29 g9 (by decide) dX11_nodesForAppend_22 (by decide) (fun c22_10 => ?_) (fun c22_10 => ?_)
    · have h := ite_t h c22_10
      refine V_iload_n (pc := 29) C 2 rfl dX11_nodesForAppend_29 ?_
      obtain ⟨M11, r12, hc13, h⟩ := cal_of h
      refine V_callSI (pc := 30) C (c_X11_heightFor l Γ sk hsk fu g9 hc13) cf_X11_heightFor lk_X11_260 ⟨rfl, rfl⟩ ⟨Nat.le_of_ble_eq_true rfl, Nat.le_of_ble_eq_true rfl⟩ rfl (Nat.le_of_ble_eq_true rfl) ⟨Nat.zero_le _, Nat.zero_le _⟩ rfl dX11_nodesForAppend_30 (fun hr12 => ?_)
      exact V_xiret (pc := 33) C hr hlk hr12 h dX11_nodesForAppend_33
    · have h := ite_f h c22_10
      refine V_iconst (pc := 25) C dX11_nodesForAppend_25 ?_
      refine V_goto (pc := 26) C 33 dX11_nodesForAppend_26 (by decide) ?_
      exact V_xiret (pc := 33) C hr hlk (by decide) h dX11_nodesForAppend_33
  · exact V_callXVt (pc := 2) C (c_X11_requireReadable l Γ sk hsk hl9 fu ha1 hc3) h hex hlk cf_X11_requireReadable lk_X11_168 ⟨rfl, rfl⟩ ⟨Nat.le_of_ble_eq_true rfl, Nat.le_of_ble_eq_true rfl⟩ ⟨rfl, rfl⟩ e3 rfl rfl rfl (Nat.le_of_ble_eq_true rfl) rfl dX11_nodesForAppend_2
set_option maxRecDepth 100000 in
set_option maxHeartbeats 4000000 in
theorem c_X11_garbageIfReleased (l : Launch) (Γ : GG) (sk : List SD) (hsk : Ext sk) (hl9 : l.stackTraces = false) (fu : Nat) {M M' : Mem} {a1 : Int} {o : Nat × Int} (ha1 : rng a1) (h : f_X11_garbageIfReleased fu M a1 = some (M', o)) : MetXI l yX11_garbageIfReleased cX11_garbageIfReleased 2 .int ({ frames := 31, cells := tc o, slots := ts6 o, locals := 1014 } : Room) Γ sk [vr Γ 3, vi a1] M M' o := by
  unfold f_X11_garbageIfReleased at h
  refine MetXI_of RX11 rfl (by decide) rfl (Nat.le_of_ble_eq_true rfl) rfl ?_
  intro p e s m args below meth c C hr hlk hex hM
  have e3 := hsk 3 _ (by decide) rfl
  have e34 := hsk 34 _ (by decide) rfl
  refine V_aload_n (pc := 0) C 0 rfl dX11_garbageIfReleased_0 ?_
  refine V_iload_n (pc := 1) C 1 rfl dX11_garbageIfReleased_1 ?_
  rcases cax_of h with ⟨M1, r2, hc3, h⟩ | ⟨M1, n4, z5, hc3, h⟩
  · refine V_callXV0 (pc := 2) C (c_X11_requireReadable l Γ sk hsk hl9 fu ha1 hc3) cf_X11_requireReadable lk_X11_168 ⟨rfl, rfl⟩ ⟨Nat.le_of_ble_eq_true rfl, Nat.le_of_ble_eq_true rfl⟩ e3 rfl rfl rfl (Nat.le_of_ble_eq_true rfl) ⟨Nat.zero_le _, Nat.zero_le _⟩ rfl dX11_garbageIfReleased_2 ?_
    refine V_aload_n (pc := 5) C 0 rfl dX11_garbageIfReleased_5 ?_
    refine V_getR (pc := 6) C e3 rfl inX11 3 (by decide) rfl lf_X11_24 rfl dX11_garbageIfReleased_6 ?_
    refine V_iload_n (pc := 9) C 1 rfl dX11_garbageIfReleased_9 ?_
    obtain ⟨M6, r7, hc8, h⟩ := cal_of h
    refine V_callVI (pc := 10) C (c_X5_countExclusive l Γ sk hsk fu ha1 hc8) cf_X5_countExclusive lk_X11_226 ⟨rfl, rfl⟩ ⟨Nat.le_of_ble_eq_true rfl, Nat.le_of_ble_eq_true rfl⟩ e34 rfl rfl rfl (Nat.le_of_ble_eq_true rfl) ⟨Nat.zero_le _, Nat.zero_le _⟩ rfl dX11_garbageIfReleased_10 (fun hr7 => ?_)
    exact V_xiret (pc := 13) C hr hlk hr7 h dX11_garbageIfReleased_13
  · exact V_callXVt (pc := 2) C (c_X11_requireReadable l Γ sk hsk hl9 fu ha1 hc3) h hex hlk cf_X11_requireReadable lk_X11_168 ⟨rfl, rfl⟩ ⟨Nat.le_of_ble_eq_true rfl, Nat.le_of_ble_eq_true rfl⟩ ⟨rfl, rfl⟩ e3 rfl rfl rfl (Nat.le_of_ble_eq_true rfl) rfl dX11_garbageIfReleased_2
set_option maxRecDepth 100000 in
set_option maxHeartbeats 4000000 in
theorem c_X11_beginChange (l : Launch) (Γ : GG) (sk : List SD) (hsk : Ext sk) (hl9 : l.stackTraces = false) (fu : Nat) {M M' : Mem} {a1 : Int} {o : Nat × Int} (ha1 : rng a1) (h : f_X11_beginChange fu M a1 = some (M', o)) : MetXV l yX11_beginChange cX11_beginChange 2 ({ frames := 7, cells := tc o, slots := ts6 o, locals := 140 } : Room) Γ sk [vr Γ 3, vi a1] M M' o := by
  unfold f_X11_beginChange at h
  refine MetXV_of RX11 rfl (by decide) rfl (Nat.le_of_ble_eq_true rfl) rfl ?_
  intro p e s m args below meth c C hr hlk hex hM
  have e3 := hsk 3 _ (by decide) rfl
  have e38 := hsk 38 _ (by decide) rfl
  refine V_iload_n (pc := 0) C 1 rfl dX11_beginChange_0 ?_
  rcases cax_of h with ⟨M1, r2, hc3, h⟩ | ⟨M1, n4, z5, hc3, h⟩
  · refine V_callXS0 (pc := 1) C (c_X11_refuse l Γ sk hsk hl9 fu ha1 hc3) cf_X11_refuse lk_X11_183 ⟨rfl, rfl⟩ ⟨Nat.le_of_ble_eq_true rfl, Nat.le_of_ble_eq_true rfl⟩ rfl (Nat.le_of_ble_eq_true rfl) ⟨Nat.zero_le _, Nat.zero_le _⟩ rfl dX11_beginChange_1 ?_
    refine V_aload_n (pc := 4) C 0 rfl dX11_beginChange_4 ?_
    refine V_getR (pc := 5) C e3 rfl inX11 5 (by decide) rfl lf_X11_40 rfl dX11_beginChange_5 ?_
    refine V_aload_n (pc := 8) C 0 rfl dX11_beginChange_8 ?_
    refine V_getR (pc := 9) C e3 rfl inX11 0 (by decide) rfl lf_X11_10 rfl dX11_beginChange_9 ?_
    obtain ⟨M6, r7, hc8, h⟩ := cal_of h
    refine V_callVV (pc := 12) C (c_X1_keep l Γ sk hsk fu hc8) cf_X1_keep lk_X11_120 ⟨rfl, rfl⟩ ⟨Nat.le_of_ble_eq_true rfl, Nat.le_of_ble_eq_true rfl⟩ e38 rfl rfl rfl (Nat.le_of_ble_eq_true rfl) ⟨Nat.zero_le _, Nat.zero_le _⟩ rfl dX11_beginChange_12 ?_
    exact V_xvret (pc := 15) C hr hlk h dX11_beginChange_15
  · exact V_callXSt (pc := 1) C (c_X11_refuse l Γ sk hsk hl9 fu ha1 hc3) h hex hlk cf_X11_refuse lk_X11_183 ⟨rfl, rfl⟩ ⟨Nat.le_of_ble_eq_true rfl, Nat.le_of_ble_eq_true rfl⟩ ⟨rfl, rfl⟩ rfl (Nat.le_of_ble_eq_true rfl) rfl dX11_beginChange_1
set_option maxRecDepth 100000 in
set_option maxHeartbeats 4000000 in
theorem c_X11_set (l : Launch) (Γ : GG) (sk : List SD) (hsk : Ext sk) (hl9 : l.stackTraces = false) (fu : Nat) {M M' : Mem} {a1 : Int} {a2 : Int} {a3 : Int} {o : Nat × Int} (ha1 : rng a1) (ha2 : rng a2) (ha3 : rng a3) (h : f_X11_set fu M a1 a2 a3 = some (M', o)) : MetXI l yX11_set cX11_set 4 .int ({ frames := 38, cells := tc o, slots := ts6 o, locals := 1311 } : Room) Γ sk [vr Γ 3, vi a1, vi a2, vi a3] M M' o := by
  unfold f_X11_set at h
  refine MetXI_of RX11 rfl (by decide) rfl (Nat.le_of_ble_eq_true rfl) rfl ?_
  intro p e s m args below meth c C hr hlk hex hM
  have e3 := hsk 3 _ (by decide) rfl
  have e4 := hsk 4 _ (by decide) rfl
  have e10 := hsk 10 _ (by decide) rfl
  refine V_aload_n (pc := 0) C 0 rfl dX11_set_0 ?_
  refine V_aload_n (pc := 1) C 0 rfl dX11_set_1 ?_
  refine V_getR (pc := 2) C e3 rfl inX11 0 (by decide) rfl lf_X11_10 rfl dX11_set_2 ?_
  refine V_getR (pc := 5) C e4 rfl inX8 1 (by decide) rfl lf_X11_137 rfl dX11_set_5 ?_
  refine V_iload_n (pc := 8) C 1 rfl dX11_set_8 ?_
  refine V_iload_n (pc := 9) C 2 rfl dX11_set_9 ?_
  refine V_iload_n (pc := 10) C 3 rfl dX11_set_10 ?_
  obtain ⟨M1, r2, hc3, h⟩ := cal_of h
  refine V_callVI (pc := 11) C (c_X10_faultOfSet l Γ sk hsk fu ha1 ha2 ha3 hc3) cf_X10_faultOfSet lk_X11_275 ⟨rfl, rfl⟩ ⟨Nat.le_of_ble_eq_true rfl, Nat.le_of_ble_eq_true rfl⟩ e10 rfl rfl rfl (Nat.le_of_ble_eq_true rfl) ⟨Nat.zero_le _, Nat.zero_le _⟩ rfl dX11_set_11 (fun hr2 => ?_)
  rcases cax_of h with ⟨M4, r5, hc6, h⟩ | ⟨M4, n7, z8, hc6, h⟩
  · refine V_callXV0 (pc := 14) C (c_X11_beginChange l Γ sk hsk hl9 fu hr2 hc6) cf_X11_beginChange lk_X11_278 ⟨rfl, rfl⟩ ⟨Nat.le_of_ble_eq_true rfl, Nat.le_of_ble_eq_true rfl⟩ e3 rfl rfl rfl (Nat.le_of_ble_eq_true rfl) ⟨Nat.zero_le _, Nat.zero_le _⟩ rfl dX11_set_14 ?_
    refine V_aload_n (pc := 17) C 0 rfl dX11_set_17 ?_
    refine V_getR (pc := 18) C e3 rfl inX11 0 (by decide) rfl lf_X11_10 rfl dX11_set_18 ?_
    refine V_iload_n (pc := 21) C 1 rfl dX11_set_21 ?_
    refine V_iload_n (pc := 22) C 2 rfl dX11_set_22 ?_
    refine V_iload_n (pc := 23) C 3 rfl dX11_set_23 ?_
    obtain ⟨M9, r10, hc11, h⟩ := cal_of h
    refine V_callVI (pc := 24) C (c_X8_makeWithElement l Γ sk hsk fu ha1 ha2 ha3 hc11) cf_X8_makeWithElement lk_X11_281 ⟨rfl, rfl⟩ ⟨Nat.le_of_ble_eq_true rfl, Nat.le_of_ble_eq_true rfl⟩ e4 rfl rfl rfl (Nat.le_of_ble_eq_true rfl) ⟨Nat.zero_le _, Nat.zero_le _⟩ rfl dX11_set_24 (fun hr10 => ?_)
    exact V_xiret (pc := 27) C hr hlk hr10 h dX11_set_27
  · exact V_callXVt (pc := 14) C (c_X11_beginChange l Γ sk hsk hl9 fu hr2 hc6) h hex hlk cf_X11_beginChange lk_X11_278 ⟨rfl, rfl⟩ ⟨Nat.le_of_ble_eq_true rfl, Nat.le_of_ble_eq_true rfl⟩ ⟨rfl, rfl⟩ e3 rfl rfl rfl (Nat.le_of_ble_eq_true rfl) rfl dX11_set_14
set_option maxRecDepth 100000 in
set_option maxHeartbeats 4000000 in
theorem c_X11_append (l : Launch) (Γ : GG) (sk : List SD) (hsk : Ext sk) (hl9 : l.stackTraces = false) (fu : Nat) {M M' : Mem} {a1 : Int} {a2 : Int} {o : Nat × Int} (ha1 : rng a1) (ha2 : rng a2) (h : f_X11_append fu M a1 a2 = some (M', o)) : MetXI l yX11_append cX11_append 3 .int ({ frames := 38, cells := tc o, slots := ts6 o, locals := 1313 } : Room) Γ sk [vr Γ 3, vi a1, vi a2] M M' o := by
  unfold f_X11_append at h
  refine MetXI_of RX11 rfl (by decide) rfl (Nat.le_of_ble_eq_true rfl) rfl ?_
  intro p e s m args below meth c C hr hlk hex hM
  have e3 := hsk 3 _ (by decide) rfl
  have e4 := hsk 4 _ (by decide) rfl
  have e10 := hsk 10 _ (by decide) rfl
  refine V_aload_n (pc := 0) C 0 rfl dX11_append_0 ?_
  refine V_aload_n (pc := 1) C 0 rfl dX11_append_1 ?_
  refine V_getR (pc := 2) C e3 rfl inX11 0 (by decide) rfl lf_X11_10 rfl dX11_append_2 ?_
  refine V_getR (pc := 5) C e4 rfl inX8 1 (by decide) rfl lf_X11_137 rfl dX11_append_5 ?_
  refine V_iload_n (pc := 8) C 1 rfl dX11_append_8 ?_
  refine V_iload_n (pc := 9) C 2 rfl dX11_append_9 ?_
  obtain ⟨M1, r2, hc3, h⟩ := cal_of h
  refine V_callVI (pc := 10) C (c_X10_faultOfAppend l Γ sk hsk fu ha1 ha2 hc3) cf_X10_faultOfAppend lk_X11_284 ⟨rfl, rfl⟩ ⟨Nat.le_of_ble_eq_true rfl, Nat.le_of_ble_eq_true rfl⟩ e10 rfl rfl rfl (Nat.le_of_ble_eq_true rfl) ⟨Nat.zero_le _, Nat.zero_le _⟩ rfl dX11_append_10 (fun hr2 => ?_)
  rcases cax_of h with ⟨M4, r5, hc6, h⟩ | ⟨M4, n7, z8, hc6, h⟩
  · refine V_callXV0 (pc := 13) C (c_X11_beginChange l Γ sk hsk hl9 fu hr2 hc6) cf_X11_beginChange lk_X11_278 ⟨rfl, rfl⟩ ⟨Nat.le_of_ble_eq_true rfl, Nat.le_of_ble_eq_true rfl⟩ e3 rfl rfl rfl (Nat.le_of_ble_eq_true rfl) ⟨Nat.zero_le _, Nat.zero_le _⟩ rfl dX11_append_13 ?_
    refine V_aload_n (pc := 16) C 0 rfl dX11_append_16 ?_
    refine V_getR (pc := 17) C e3 rfl inX11 0 (by decide) rfl lf_X11_10 rfl dX11_append_17 ?_
    refine V_iload_n (pc := 20) C 1 rfl dX11_append_20 ?_
    refine V_iload_n (pc := 21) C 2 rfl dX11_append_21 ?_
    obtain ⟨M9, r10, hc11, h⟩ := cal_of h
    refine V_callVI (pc := 22) C (c_X8_makeLonger l Γ sk hsk fu ha1 ha2 hc11) cf_X8_makeLonger lk_X11_287 ⟨rfl, rfl⟩ ⟨Nat.le_of_ble_eq_true rfl, Nat.le_of_ble_eq_true rfl⟩ e4 rfl rfl rfl (Nat.le_of_ble_eq_true rfl) ⟨Nat.zero_le _, Nat.zero_le _⟩ rfl dX11_append_22 (fun hr10 => ?_)
    exact V_xiret (pc := 25) C hr hlk hr10 h dX11_append_25
  · exact V_callXVt (pc := 13) C (c_X11_beginChange l Γ sk hsk hl9 fu hr2 hc6) h hex hlk cf_X11_beginChange lk_X11_278 ⟨rfl, rfl⟩ ⟨Nat.le_of_ble_eq_true rfl, Nat.le_of_ble_eq_true rfl⟩ ⟨rfl, rfl⟩ e3 rfl rfl rfl (Nat.le_of_ble_eq_true rfl) rfl dX11_append_13
set_option maxRecDepth 100000 in
set_option maxHeartbeats 4000000 in
theorem c_X11_truncate (l : Launch) (Γ : GG) (sk : List SD) (hsk : Ext sk) (hl9 : l.stackTraces = false) (fu : Nat) {M M' : Mem} {a1 : Int} {a2 : Int} {o : Nat × Int} (ha1 : rng a1) (ha2 : rng a2) (h : f_X11_truncate fu M a1 a2 = some (M', o)) : MetXI l yX11_truncate cX11_truncate 3 .int ({ frames := 38, cells := tc o, slots := ts6 o, locals := 1309 } : Room) Γ sk [vr Γ 3, vi a1, vi a2] M M' o := by
  unfold f_X11_truncate at h
  refine MetXI_of RX11 rfl (by decide) rfl (Nat.le_of_ble_eq_true rfl) rfl ?_
  intro p e s m args below meth c C hr hlk hex hM
  have e3 := hsk 3 _ (by decide) rfl
  have e4 := hsk 4 _ (by decide) rfl
  have e10 := hsk 10 _ (by decide) rfl
  refine V_aload_n (pc := 0) C 0 rfl dX11_truncate_0 ?_
  refine V_aload_n (pc := 1) C 0 rfl dX11_truncate_1 ?_
  refine V_getR (pc := 2) C e3 rfl inX11 0 (by decide) rfl lf_X11_10 rfl dX11_truncate_2 ?_
  refine V_getR (pc := 5) C e4 rfl inX8 1 (by decide) rfl lf_X11_137 rfl dX11_truncate_5 ?_
  refine V_iload_n (pc := 8) C 1 rfl dX11_truncate_8 ?_
  refine V_iload_n (pc := 9) C 2 rfl dX11_truncate_9 ?_
  obtain ⟨M1, r2, hc3, h⟩ := cal_of h
  refine V_callVI (pc := 10) C (c_X10_faultOfTruncate l Γ sk hsk fu ha1 ha2 hc3) cf_X10_faultOfTruncate lk_X11_290 ⟨rfl, rfl⟩ ⟨Nat.le_of_ble_eq_true rfl, Nat.le_of_ble_eq_true rfl⟩ e10 rfl rfl rfl (Nat.le_of_ble_eq_true rfl) ⟨Nat.zero_le _, Nat.zero_le _⟩ rfl dX11_truncate_10 (fun hr2 => ?_)
  rcases cax_of h with ⟨M4, r5, hc6, h⟩ | ⟨M4, n7, z8, hc6, h⟩
  · refine V_callXV0 (pc := 13) C (c_X11_beginChange l Γ sk hsk hl9 fu hr2 hc6) cf_X11_beginChange lk_X11_278 ⟨rfl, rfl⟩ ⟨Nat.le_of_ble_eq_true rfl, Nat.le_of_ble_eq_true rfl⟩ e3 rfl rfl rfl (Nat.le_of_ble_eq_true rfl) ⟨Nat.zero_le _, Nat.zero_le _⟩ rfl dX11_truncate_13 ?_
    refine V_aload_n (pc := 16) C 0 rfl dX11_truncate_16 ?_
    refine V_getR (pc := 17) C e3 rfl inX11 0 (by decide) rfl lf_X11_10 rfl dX11_truncate_17 ?_
    refine V_iload_n (pc := 20) C 1 rfl dX11_truncate_20 ?_
    refine V_iload_n (pc := 21) C 2 rfl dX11_truncate_21 ?_
    obtain ⟨M9, r10, hc11, h⟩ := cal_of h
    refine V_callVI (pc := 22) C (c_X8_makeShorter l Γ sk hsk fu ha1 ha2 hc11) cf_X8_makeShorter lk_X11_293 ⟨rfl, rfl⟩ ⟨Nat.le_of_ble_eq_true rfl, Nat.le_of_ble_eq_true rfl⟩ e4 rfl rfl rfl (Nat.le_of_ble_eq_true rfl) ⟨Nat.zero_le _, Nat.zero_le _⟩ rfl dX11_truncate_22 (fun hr10 => ?_)
    exact V_xiret (pc := 25) C hr hlk hr10 h dX11_truncate_25
  · exact V_callXVt (pc := 13) C (c_X11_beginChange l Γ sk hsk hl9 fu hr2 hc6) h hex hlk cf_X11_beginChange lk_X11_278 ⟨rfl, rfl⟩ ⟨Nat.le_of_ble_eq_true rfl, Nat.le_of_ble_eq_true rfl⟩ ⟨rfl, rfl⟩ e3 rfl rfl rfl (Nat.le_of_ble_eq_true rfl) rfl dX11_truncate_13
set_option maxRecDepth 100000 in
set_option maxHeartbeats 4000000 in
theorem c_X11_release (l : Launch) (Γ : GG) (sk : List SD) (hsk : Ext sk) (hl9 : l.stackTraces = false) (fu : Nat) {M M' : Mem} {a1 : Int} {o : Nat × Int} (ha1 : rng a1) (h : f_X11_release fu M a1 = some (M', o)) : MetXI l yX11_release cX11_release 2 .int ({ frames := 30, cells := tc o, slots := ts6 o, locals := 992 } : Room) Γ sk [vr Γ 3, vi a1] M M' o := by
  unfold f_X11_release at h
  refine MetXI_of RX11 rfl (by decide) rfl (Nat.le_of_ble_eq_true rfl) rfl ?_
  intro p e s m args below meth c C hr hlk hex hM
  have e3 := hsk 3 _ (by decide) rfl
  have e4 := hsk 4 _ (by decide) rfl
  have e10 := hsk 10 _ (by decide) rfl
  have e34 := hsk 34 _ (by decide) rfl
  refine V_aload_n (pc := 0) C 0 rfl dX11_release_0 ?_
  refine V_aload_n (pc := 1) C 0 rfl dX11_release_1 ?_
  refine V_getR (pc := 2) C e3 rfl inX11 0 (by decide) rfl lf_X11_10 rfl dX11_release_2 ?_
  refine V_getR (pc := 5) C e4 rfl inX8 1 (by decide) rfl lf_X11_137 rfl dX11_release_5 ?_
  refine V_iload_n (pc := 8) C 1 rfl dX11_release_8 ?_
  obtain ⟨M1, r2, hc3, h⟩ := cal_of h
  refine V_callVI (pc := 9) C (c_X10_faultOfReading l Γ sk hsk fu ha1 hc3) cf_X10_faultOfReading lk_X11_296 ⟨rfl, rfl⟩ ⟨Nat.le_of_ble_eq_true rfl, Nat.le_of_ble_eq_true rfl⟩ e10 rfl rfl rfl (Nat.le_of_ble_eq_true rfl) ⟨Nat.zero_le _, Nat.zero_le _⟩ rfl dX11_release_9 (fun hr2 => ?_)
  rcases cax_of h with ⟨M4, r5, hc6, h⟩ | ⟨M4, n7, z8, hc6, h⟩
  · refine V_callXV0 (pc := 12) C (c_X11_beginChange l Γ sk hsk hl9 fu hr2 hc6) cf_X11_beginChange lk_X11_278 ⟨rfl, rfl⟩ ⟨Nat.le_of_ble_eq_true rfl, Nat.le_of_ble_eq_true rfl⟩ e3 rfl rfl rfl (Nat.le_of_ble_eq_true rfl) ⟨Nat.zero_le _, Nat.zero_le _⟩ rfl dX11_release_12 ?_
    refine V_aload_n (pc := 15) C 0 rfl dX11_release_15 ?_
    refine V_getR (pc := 16) C e3 rfl inX11 0 (by decide) rfl lf_X11_10 rfl dX11_release_16 ?_
    refine V_getR (pc := 19) C e4 rfl inX8 1 (by decide) rfl lf_X11_137 rfl dX11_release_19 ?_
    refine V_iload_n (pc := 22) C 1 rfl dX11_release_22 ?_
    obtain ⟨M9, r10, hc11, h⟩ := cal_of h
    refine V_callVV (pc := 23) C (c_X10_drop l Γ sk hsk fu ha1 hc11) cf_X10_drop lk_X11_299 ⟨rfl, rfl⟩ ⟨Nat.le_of_ble_eq_true rfl, Nat.le_of_ble_eq_true rfl⟩ e10 rfl rfl rfl (Nat.le_of_ble_eq_true rfl) ⟨Nat.zero_le _, Nat.zero_le _⟩ rfl dX11_release_23 ?_
    refine V_aload_n (pc := 26) C 0 rfl dX11_release_26 ?_
    refine V_getR (pc := 27) C e3 rfl inX11 3 (by decide) rfl lf_X11_24 rfl dX11_release_27 ?_
    obtain ⟨M12, r13, hc14, h⟩ := cal_of h
    refine V_callVI (pc := 30) C (c_X5_countGarbage l Γ sk hsk fu hc14) cf_X5_countGarbage lk_X11_210 ⟨rfl, rfl⟩ ⟨Nat.le_of_ble_eq_true rfl, Nat.le_of_ble_eq_true rfl⟩ e34 rfl rfl rfl (Nat.le_of_ble_eq_true rfl) ⟨Nat.zero_le _, Nat.zero_le _⟩ rfl dX11_release_30 (fun hr13 => ?_)
    exact V_xiret (pc := 33) C hr hlk hr13 h dX11_release_33
  · exact V_callXVt (pc := 12) C (c_X11_beginChange l Γ sk hsk hl9 fu hr2 hc6) h hex hlk cf_X11_beginChange lk_X11_278 ⟨rfl, rfl⟩ ⟨Nat.le_of_ble_eq_true rfl, Nat.le_of_ble_eq_true rfl⟩ ⟨rfl, rfl⟩ e3 rfl rfl rfl (Nat.le_of_ble_eq_true rfl) rfl dX11_release_12
set_option maxRecDepth 100000 in
set_option maxHeartbeats 4000000 in
theorem c_X11_collect (l : Launch) (Γ : GG) (sk : List SD) (hsk : Ext sk) (hl9 : l.stackTraces = false) (fu : Nat) {M M' : Mem}  {o : Nat × Int}  (h : f_X11_collect fu M  = some (M', o)) : MetXI l yX11_collect cX11_collect 1 .int ({ frames := 30, cells := tc o, slots := ts6 o, locals := 994 } : Room) Γ sk [vr Γ 3] M M' o := by
  unfold f_X11_collect at h
  refine MetXI_of RX11 rfl (by decide) rfl (Nat.le_of_ble_eq_true rfl) rfl ?_
  intro p e s m args below meth c C hr hlk hex hM
  have e3 := hsk 3 _ (by decide) rfl
  have e34 := hsk 34 _ (by decide) rfl
  refine V_aload_n (pc := 0) C 0 rfl dX11_collect_0 ?_
  refine V_iconst (pc := 1) C dX11_collect_1 ?_
  rcases cax_of h with ⟨M1, r2, hc3, h⟩ | ⟨M1, n4, z5, hc3, h⟩
  · refine V_callXV0 (pc := 2) C (c_X11_beginChange l Γ sk hsk hl9 fu (by decide) hc3) cf_X11_beginChange lk_X11_278 ⟨rfl, rfl⟩ ⟨Nat.le_of_ble_eq_true rfl, Nat.le_of_ble_eq_true rfl⟩ e3 rfl rfl rfl (Nat.le_of_ble_eq_true rfl) ⟨Nat.zero_le _, Nat.zero_le _⟩ rfl dX11_collect_2 ?_
    refine V_aload_n (pc := 5) C 0 rfl dX11_collect_5 ?_
    refine V_getR (pc := 6) C e3 rfl inX11 3 (by decide) rfl lf_X11_24 rfl dX11_collect_6 ?_
    obtain ⟨M6, r7, hc8, h⟩ := cal_of h
    refine V_callVI (pc := 9) C (c_X5_removeGarbage l Γ sk hsk fu hc8) cf_X5_removeGarbage lk_X11_302 ⟨rfl, rfl⟩ ⟨Nat.le_of_ble_eq_true rfl, Nat.le_of_ble_eq_true rfl⟩ e34 rfl rfl rfl (Nat.le_of_ble_eq_true rfl) ⟨Nat.zero_le _, Nat.zero_le _⟩ rfl dX11_collect_9 (fun hr7 => ?_)
    exact V_xiret (pc := 12) C hr hlk hr7 h dX11_collect_12
  · exact V_callXVt (pc := 2) C (c_X11_beginChange l Γ sk hsk hl9 fu (by decide) hc3) h hex hlk cf_X11_beginChange lk_X11_278 ⟨rfl, rfl⟩ ⟨Nat.le_of_ble_eq_true rfl, Nat.le_of_ble_eq_true rfl⟩ ⟨rfl, rfl⟩ e3 rfl rfl rfl (Nat.le_of_ble_eq_true rfl) rfl dX11_collect_2
