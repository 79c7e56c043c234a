set_option maxRecDepth 100000 in
set_option maxHeartbeats 4000000 in
theorem c_X7_parse (l : Launch) (Γ : GG) (sk : List SD) (hsk : Ext sk) (fu : Nat) {M M' : Mem}  {r : Int}  (h : f_X7_parse fu M  = some (M', r)) : MetI l yX7_parse cX7_parse 3 .boolean ({ frames := 16, cells := 0, slots := 0, locals := 483 } : Room) Γ sk [vr Γ 46] M M' r := by
  unfold f_X7_parse at h
  refine MetI_of RX7 rfl (by decide) rfl (Nat.le_of_ble_eq_true rfl) rfl ?_
  intro p e s m args below meth c C hr hlk hM
  have e45 := hsk 45 _ (by decide) rfl
  have e46 := hsk 46 _ (by decide) rfl
  have JP79 : ∀ {M : Mem}, f_X7_parse_J79 fu M = some (M', r) → VV p l e ({ frames := 16, cells := 0, slots := 0, locals := 483 } : Room) s m args below meth c (MQ below (PostI Γ sk M' r s.heap.size) args s 0 0 (Fr Γ sk s.heap.size)) 3 Γ sk M 0 0 79 [(0, vr Γ 46)] [] := by
    intro M h
    unfold f_X7_parse_J79 at h
    refine V_aload_n (pc := 79) C 0 rfl dX7_parse_79 ?_
    refine V_rng fun hM7 => ?_
    refine V_getI (pc := 80) C e46 rfl inX7 1 (by decide) rfl lf_X7_23 rfl dX7_parse_80 ?_
    refine V_if_eq (pc := 83) C 97 (hM7 _ _) dX7_parse_83 (by decide) (fun c83_8 => ?_) (fun c83_8 => ?_)
    · have h := ite_t h c83_8
      refine V_iconst (pc := 97) C dX7_parse_97 ?_
      refine V_goto (pc := 98) C 102 dX7_parse_98 (by decide) ?_
      exact V_zret (pc := 102) C hr hlk (by decide) h dX7_parse_102
    · have h := ite_f h c83_8
      refine V_aload_n (pc := 86) C 0 rfl dX7_parse_86 ?_
      refine V_getR (pc := 87) C e46 rfl inX7 0 (by decide) rfl lf_X7_15 rfl dX7_parse_87 ?_
      refine V_iconst (pc := 90) C dX7_parse_90 ?_
      obtain ⟨M9, r10, hc11, h⟩ := cal_of h
      refine V_callVI (pc := 91) C (c_X9_fail l Γ sk hsk fu (by decide) hc11) cf_X9_fail lk_X7_46 ⟨rfl, rfl⟩ ⟨Nat.le_of_ble_eq_true rfl, Nat.le_of_ble_eq_true rfl⟩ e45 rfl rfl rfl (Nat.le_of_ble_eq_true rfl) ⟨Nat.zero_le _, Nat.zero_le _⟩ rfl dX7_parse_91 (fun hr10 => ?_)
      refine V_if_eq (pc := 94) C 101 hr10 dX7_parse_94 (by decide) (fun c94_12 => ?_) (fun c94_12 => ?_)
      · have h := ite_t h c94_12
        refine V_iconst (pc := 101) C dX7_parse_101 ?_
        exact V_zret (pc := 102) C hr hlk (by decide) h dX7_parse_102
      · have h := ite_f h c94_12
        refine V_iconst (pc := 97) C dX7_parse_97 ?_
        refine V_goto (pc := 98) C 102 dX7_parse_98 (by decide) ?_
        exact V_zret (pc := 102) C hr hlk (by decide) h dX7_parse_102
  have JP59 : ∀ (k24 : Int → Mem → Option (Mem × Int)) (_ : ∀ (x1 : Int) (M : Mem), rng x1 → k24 x1 M = some (M', r) → VV p l e ({ frames := 16, cells := 0, slots := 0, locals := 483 } : Room) s m args below meth c (MQ below (PostI Γ sk M' r s.heap.size) args s 0 0 (Fr Γ sk s.heap.size)) 3 Γ sk M 0 0 24 [(0, vr Γ 46), (1, vi x1)] []) {x1 : Int} {y0 : Int} {M : Mem}, rng x1 → rng y0 → f_X7_parse_J59 fu k24 x1 y0 M = some (M', r) → VV p l e ({ frames := 16, cells := 0, slots := 0, locals := 483 } : Room) s m args below meth c (MQ below (PostI Γ sk M' r s.heap.size) args s 0 0 (Fr Γ sk s.heap.size)) 3 Γ sk M 0 0 59 [(0, vr Γ 46), (1, vi x1)] [vi y0] := by
    intro k24 hkk24 x1 y0 M hx1 hy0 h
    unfold f_X7_parse_J59 at h
    refine V_istore_n (pc := 59) C (L' := [(0, vr Γ 46), (1, vi x1), (2, vi y0)]) rfl (by decide) dX7_parse_59 ?_
    refine V_iload_n (pc := 60) C 2 rfl dX7_parse_60 ?_
    refine V_if_eq (pc := 61) C 73 hy0 dX7_parse_61 (by decide) (fun c61_22 => ?_) (fun c61_22 => ?_)
    · have h := ite_t h c61_22
      refine V_iinc (pc := 73) C (L' := [(0, vr Γ 46), (1, vi (x1 + (1 : Int))), (2, vi y0)]) 1 rfl rfl (by decide) dX7_parse_73 ?_
      refine V_goto (pc := 76) C 24 dX7_parse_76 (by decide) ?_
      obtain ⟨g23, h⟩ := grd_of h
      refine V_sub (L' := [(0, vr Γ 46), (1, vi (x1 + (1 : Int)))]) [0, 1] rfl (by decide) ?_
      exact hkk24 _ _ g23 h
    · have h := ite_f h c61_22
      refine V_aload_n (pc := 64) C 0 rfl dX7_parse_64 ?_
      refine V_getR (pc := 65) C e46 rfl inX7 0 (by decide) rfl lf_X7_15 rfl dX7_parse_65 ?_
      refine V_iload_n (pc := 68) C 2 rfl dX7_parse_68 ?_
      obtain ⟨M24, r25, hc26, h⟩ := cal_of h
      refine V_callVI (pc := 69) C (c_X9_fail l Γ sk hsk fu hy0 hc26) cf_X9_fail lk_X7_46 ⟨rfl, rfl⟩ ⟨Nat.le_of_ble_eq_true rfl, Nat.le_of_ble_eq_true rfl⟩ e45 rfl rfl rfl (Nat.le_of_ble_eq_true rfl) ⟨Nat.zero_le _, Nat.zero_le _⟩ rfl dX7_parse_69 (fun hr25 => ?_)
      obtain ⟨g27, h⟩ := grd_of h
      exact V_zret (pc := 72) C hr hlk g27 h dX7_parse_72
  have LP24 : ∀ (n : Nat) {x1 : Int} {M : Mem}, rng x1 → f_X7_parse_L24 fu n x1 M = some (M', r) → VV p l e ({ frames := 16, cells := 0, slots := 0, locals := 483 } : Room) s m args below meth c (MQ below (PostI Γ sk M' r s.heap.size) args s 0 0 (Fr Γ sk s.heap.size)) 3 Γ sk M 0 0 24 [(0, vr Γ 46), (1, vi x1)] [] := by
    intro n
    induction n with
    | zero =>
      intro x1 M hx1 h
      cases h
    | succ n ih =>
      intro x1 M hx1 h
      rw [f_X7_parse_L24] at h
      refine V_iload_n (pc := 24) C 1 rfl dX7_parse_24 ?_
      refine V_sipush (pc := 25) C dX7_parse_25 rfl ?_
      refine V_icmp_gt (pc := 28) C 79 hx1 (by decide) dX7_parse_28 (by decide) (fun c28_6 => ?_) (fun c28_6 => ?_)
      · have h := ite_t h c28_6
        refine V_sub (L' := [(0, vr Γ 46)]) [0] rfl (by decide) ?_
        exact JP79 h
      · have h := ite_f h c28_6
        refine V_aload_n (pc := 31) C 0 rfl dX7_parse_31 ?_
        refine V_getR (pc := 32) C e46 rfl inX7 0 (by decide) rfl lf_X7_15 rfl dX7_parse_32 ?_
        obtain ⟨M13, r14, hc15, h⟩ := cal_of h
        refine V_callVI (pc := 35) C (c_X9_advance l Γ sk hsk fu hc15) cf_X9_advance lk_X7_35 ⟨rfl, rfl⟩ ⟨Nat.le_of_ble_eq_true rfl, Nat.le_of_ble_eq_true rfl⟩ e45 rfl rfl rfl (Nat.le_of_ble_eq_true rfl) ⟨Nat.zero_le _, Nat.zero_le _⟩ rfl dX7_parse_35 (fun hr14 => ?_)
        refine V_if_eq (pc := 38) C 79 hr14 dX7_parse_38 (by decide) (fun c38_16 => ?_) (fun c38_16 => ?_)
        · have h := ite_t h c38_16
          refine V_sub (L' := [(0, vr Γ 46)]) [0] rfl (by decide) ?_
          exact JP79 h
        · have h := ite_f h c38_16
          refine V_aload_n (pc := 41) C 0 rfl dX7_parse_41 ?_
          refine V_rng fun hM17 => ?_
          refine V_getI (pc := 42) C e46 rfl inX7 1 (by decide) rfl lf_X7_23 rfl dX7_parse_42 ?_
          refine V_if_eq (pc := 45) C 55 (hM17 _ _) dX7_parse_45 (by decide) (fun c45_18 => ?_) (fun c45_18 => ?_)
          · have h := ite_t h c45_18
            refine V_aload_n (pc := 55) C 0 rfl dX7_parse_55 ?_
            obtain ⟨M19, r20, hc21, h⟩ := cal_of h
            refine V_callVI (pc := 56) C (c_X7_open l Γ sk hsk fu hc21) cf_X7_open lk_X7_43 ⟨rfl, rfl⟩ ⟨Nat.le_of_ble_eq_true rfl, Nat.le_of_ble_eq_true rfl⟩ e46 rfl rfl rfl (Nat.le_of_ble_eq_true rfl) ⟨Nat.zero_le _, Nat.zero_le _⟩ rfl dX7_parse_56 (fun hr20 => ?_)
            refine V_sub (L' := [(0, vr Γ 46), (1, vi x1)]) [0, 1] rfl (by decide) ?_
            exact JP59 _ (fun _ _ hz0 hz => ih hz0 hz) hx1 hr20 h
          · have h := ite_f h c45_18
            refine V_aload_n (pc := 48) C 0 rfl dX7_parse_48 ?_
            obtain ⟨M28, r29, hc30, h⟩ := cal_of h
            refine V_callVI (pc := 49) C (c_X7_accept l Γ sk hsk fu hc30) cf_X7_accept lk_X7_39 ⟨rfl, rfl⟩ ⟨Nat.le_of_ble_eq_true rfl, Nat.le_of_ble_eq_true rfl⟩ e46 rfl rfl rfl (Nat.le_of_ble_eq_true rfl) ⟨Nat.zero_le _, Nat.zero_le _⟩ rfl dX7_parse_49 (fun hr29 => ?_)
            refine V_goto (pc := 52) C 59 dX7_parse_52 (by decide) ?_
            refine V_sub (L' := [(0, vr Γ 46), (1, vi x1)]) [0, 1] rfl (by decide) ?_
            exact JP59 _ (fun _ _ hz0 hz => ih hz0 hz) hx1 hr29 h
  skip
  refine V_aload_n (pc := 0) C 0 rfl dX7_parse_0 ?_
  refine V_iconst (pc := 1) C dX7_parse_1 ?_
  refine V_putI (pc := 2) C (by decide) e46 rfl inX7 tyX7 tyX7_ok nmX7 4 (by decide) rfl rfl lf_X7_19 rfl (by decide) rfl dX7_parse_2 ?_
  refine V_aload_n (pc := 5) C 0 rfl dX7_parse_5 ?_
  refine V_iconst (pc := 6) C dX7_parse_6 ?_
  obtain ⟨g1, h⟩ := grd_of h
  refine V_putZ (pc := 7) C (by decide) e46 rfl inX7 tyX7 tyX7_ok nmX7 1 (by decide) rfl rfl lf_X7_23 rfl g1 rfl dX7_parse_7 ?_
  refine V_aload_n (pc := 10) C 0 rfl dX7_parse_10 ?_
  refine V_iconst (pc := 11) C dX7_parse_11 ?_
  obtain ⟨g2, h⟩ := grd_of h
  refine V_putZ (pc := 12) C (by decide) e46 rfl inX7 tyX7 tyX7_ok nmX7 2 (by decide) rfl rfl lf_X7_27 rfl g2 rfl dX7_parse_12 ?_
  refine V_aload_n (pc := 15) C 0 rfl dX7_parse_15 ?_
  refine V_getR (pc := 16) C e46 rfl inX7 0 (by decide) rfl lf_X7_15 rfl dX7_parse_16 ?_
  obtain ⟨M3, r4, hc5, h⟩ := cal_of h
  refine V_callVV (pc := 19) C (c_X9_begin l Γ sk hsk fu hc5) cf_X9_begin lk_X7_30 ⟨rfl, rfl⟩ ⟨Nat.le_of_ble_eq_true rfl, Nat.le_of_ble_eq_true rfl⟩ e45 rfl rfl rfl (Nat.le_of_ble_eq_true rfl) ⟨Nat.zero_le _, Nat.zero_le _⟩ rfl dX7_parse_19 ?_
  refine V_iconst (pc := 22) C dX7_parse_22 ?_
  refine V_istore_n (pc := 23) C (L' := [(0, vr Γ 46), (1, vi (0 : Int))]) rfl (by decide) dX7_parse_23 ?_
  refine V_sub (L' := [(0, vr Γ 46), (1, vi (0 : Int))]) [0, 1] rfl (by decide) ?_
  exact LP24 fu  (by decide) h
set_option maxRecDepth 100000 in
set_option maxHeartbeats 4000000 in
theorem c_X11_appendInput (l : Launch) (Γ : GG) (sk : List SD) (hsk : Ext sk) (fu : Nat) {M M' : Mem} {a1 : Int} {a2 : Int} {a3 : Int} {a4 : Int} {a5 : Int} {r : Int} (ha1 : rng a1) (ha2 : rng a2) (ha3 : rng a3) (ha4 : rng a4) (ha5 : rng a5) (h : f_X11_appendInput fu M a1 a2 a3 a4 a5 = some (M', r)) : MetI l yX11_appendInput cX11_appendInput 6 .int ({ frames := 3, cells := 0, slots := 0, locals := 64 } : Room) Γ sk [vr Γ 3, vi a1, vi a2, vi a3, vi a4, vi a5] M M' r := by
  unfold f_X11_appendInput at h
  refine MetI_of RX11 rfl (by decide) rfl (Nat.le_of_ble_eq_true rfl) rfl ?_
  intro p e s m args below meth c C hr hlk hM
  have e3 := hsk 3 _ (by decide) rfl
  have e43 := hsk 43 _ (by decide) rfl
  refine V_aload_n (pc := 0) C 0 rfl dX11_appendInput_0 ?_
  refine V_getR (pc := 1) C e3 rfl inX11 6 (by decide) rfl lf_X11_47 rfl dX11_appendInput_1 ?_
  obtain ⟨M1, r2, hc3, h⟩ := cal_of h
  refine V_callVI (pc := 4) C (c_X2_hasRoomForBlock l Γ sk hsk fu hc3) cf_X2_hasRoomForBlock lk_X11_91 ⟨rfl, rfl⟩ ⟨Nat.le_of_ble_eq_true rfl, Nat.le_of_ble_eq_true rfl⟩ e43 rfl rfl rfl (Nat.le_of_ble_eq_true rfl) ⟨Nat.zero_le _, Nat.zero_le _⟩ rfl dX11_appendInput_4 (fun hr2 => ?_)
  refine V_if_ne (pc := 7) C 12 hr2 dX11_appendInput_7 (by decide) (fun c7_4 => ?_) (fun c7_4 => ?_)
  · have h := ite_f h c7_4
    refine V_aload_n (pc := 12) C 0 rfl dX11_appendInput_12 ?_
    refine V_getR (pc := 13) C e3 rfl inX11 6 (by decide) rfl lf_X11_47 rfl dX11_appendInput_13 ?_
    refine V_iload_n (pc := 16) C 1 rfl dX11_appendInput_16 ?_
    obtain ⟨M5, r6, hc7, h⟩ := cal_of h
    refine V_callVV (pc := 17) C (c_X2_addWord l Γ sk hsk fu ha1 hc7) cf_X2_addWord lk_X11_95 ⟨rfl, rfl⟩ ⟨Nat.le_of_ble_eq_true rfl, Nat.le_of_ble_eq_true rfl⟩ e43 rfl rfl rfl (Nat.le_of_ble_eq_true rfl) ⟨Nat.zero_le _, Nat.zero_le _⟩ rfl dX11_appendInput_17 ?_
    refine V_aload_n (pc := 20) C 0 rfl dX11_appendInput_20 ?_
    refine V_getR (pc := 21) C e3 rfl inX11 6 (by decide) rfl lf_X11_47 rfl dX11_appendInput_21 ?_
    refine V_iload_n (pc := 24) C 2 rfl dX11_appendInput_24 ?_
    obtain ⟨M8, r9, hc10, h⟩ := cal_of h
    refine V_callVV (pc := 25) C (c_X2_addWord l Γ sk hsk fu ha2 hc10) cf_X2_addWord lk_X11_95 ⟨rfl, rfl⟩ ⟨Nat.le_of_ble_eq_true rfl, Nat.le_of_ble_eq_true rfl⟩ e43 rfl rfl rfl (Nat.le_of_ble_eq_true rfl) ⟨Nat.zero_le _, Nat.zero_le _⟩ rfl dX11_appendInput_25 ?_
    refine V_aload_n (pc := 28) C 0 rfl dX11_appendInput_28 ?_
    refine V_getR (pc := 29) C e3 rfl inX11 6 (by decide) rfl lf_X11_47 rfl dX11_appendInput_29 ?_
    refine V_iload_n (pc := 32) C 3 rfl dX11_appendInput_32 ?_
    obtain ⟨M11, r12, hc13, h⟩ := cal_of h
    refine V_callVV (pc := 33) C (c_X2_addWord l Γ sk hsk fu ha3 hc13) cf_X2_addWord lk_X11_95 ⟨rfl, rfl⟩ ⟨Nat.le_of_ble_eq_true rfl, Nat.le_of_ble_eq_true rfl⟩ e43 rfl rfl rfl (Nat.le_of_ble_eq_true rfl) ⟨Nat.zero_le _, Nat.zero_le _⟩ rfl dX11_appendInput_33 ?_
    refine V_aload_n (pc := 36) C 0 rfl dX11_appendInput_36 ?_
    refine V_getR (pc := 37) C e3 rfl inX11 6 (by decide) rfl lf_X11_47 rfl dX11_appendInput_37 ?_
    refine V_iload (pc := 40) C 4 rfl dX11_appendInput_40 ?_
    obtain ⟨M14, r15, hc16, h⟩ := cal_of h
    refine V_callVV (pc := 42) C (c_X2_addWord l Γ sk hsk fu ha4 hc16) cf_X2_addWord lk_X11_95 ⟨rfl, rfl⟩ ⟨Nat.le_of_ble_eq_true rfl, Nat.le_of_ble_eq_true rfl⟩ e43 rfl rfl rfl (Nat.le_of_ble_eq_true rfl) ⟨Nat.zero_le _, Nat.zero_le _⟩ rfl dX11_appendInput_42 ?_
    refine V_aload_n (pc := 45) C 0 rfl dX11_appendInput_45 ?_
    refine V_getR (pc := 46) C e3 rfl inX11 6 (by decide) rfl lf_X11_47 rfl dX11_appendInput_46 ?_
    refine V_iload (pc := 49) C 5 rfl dX11_appendInput_49 ?_
    obtain ⟨M17, r18, hc19, h⟩ := cal_of h
    refine V_callVV (pc := 51) C (c_X2_addWord l Γ sk hsk fu ha5 hc19) cf_X2_addWord lk_X11_95 ⟨rfl, rfl⟩ ⟨Nat.le_of_ble_eq_true rfl, Nat.le_of_ble_eq_true rfl⟩ e43 rfl rfl rfl (Nat.le_of_ble_eq_true rfl) ⟨Nat.zero_le _, Nat.zero_le _⟩ rfl dX11_appendInput_51 ?_
    refine V_aload_n (pc := 54) C 0 rfl dX11_appendInput_54 ?_
    refine V_getR (pc := 55) C e3 rfl inX11 6 (by decide) rfl lf_X11_47 rfl dX11_appendInput_55 ?_
    refine V_rng fun hM20 => ?_
    refine V_getI (pc := 58) C e43 rfl inX2 0 (by decide) rfl lf_X11_99 rfl dX11_appendInput_58 ?_
    exact V_iret (pc := 61) C hr hlk (hM20 _ _) h dX11_appendInput_61
  · have h := ite_t h c7_4
    refine V_iconst (pc := 10) C dX11_appendInput_10 ?_
    exact V_iret (pc := 11) C hr hlk (by decide) h dX11_appendInput_11
set_option maxRecDepth 100000 in
set_option maxHeartbeats 4000000 in
theorem c_X11_truncateInput (l : Launch) (Γ : GG) (sk : List SD) (hsk : Ext sk) (fu : Nat) {M M' : Mem} {a1 : Int} {r : Int} (ha1 : rng a1) (h : f_X11_truncateInput fu M a1 = some (M', r)) : MetI l yX11_truncateInput cX11_truncateInput 2 .boolean ({ frames := 0, cells := 0, slots := 0, locals := 0 } : Room) Γ sk [vr Γ 3, vi a1] M M' r := by
  unfold f_X11_truncateInput at h
  refine MetI_of RX11 rfl (by decide) rfl (Nat.le_of_ble_eq_true rfl) rfl ?_
  intro p e s m args below meth c C hr hlk hM
  have e3 := hsk 3 _ (by decide) rfl
  have e43 := hsk 43 _ (by decide) rfl
  refine V_iload_n (pc := 0) C 1 rfl dX11_truncateInput_0 ?_
  refine V_if_lt (pc := 1) C 15 ha1 dX11_truncateInput_1 (by decide) (fun c1_1 => ?_) (fun c1_1 => ?_)
  · have h := ite_t h c1_1
    refine V_iconst (pc := 15) C dX11_truncateInput_15 ?_
    exact V_zret (pc := 16) C hr hlk (by decide) h dX11_truncateInput_16
  · have h := ite_f h c1_1
    refine V_iload_n (pc := 4) C 1 rfl dX11_truncateInput_4 ?_
    refine V_aload_n (pc := 5) C 0 rfl dX11_truncateInput_5 ?_
    refine V_getR (pc := 6) C e3 rfl inX11 6 (by decide) rfl lf_X11_47 rfl dX11_truncateInput_6 ?_
    refine V_getI (pc := 9) C e43 rfl inX2 0 (by decide) rfl lf_X11_99 rfl dX11_truncateInput_9 ?_
    refine V_icmp_le (pc := 12) C 17 ha1 (hM _ _) dX11_truncateInput_12 (by decide) (fun c12_2 => ?_) (fun c12_2 => ?_)
    · have h := ite_t h c12_2
      refine V_aload_n (pc := 17) C 0 rfl dX11_truncateInput_17 ?_
      refine V_getR (pc := 18) C e3 rfl inX11 6 (by decide) rfl lf_X11_47 rfl dX11_truncateInput_18 ?_
      refine V_iload_n (pc := 21) C 1 rfl dX11_truncateInput_21 ?_
      refine V_putI (pc := 22) C (by decide) e43 rfl inX2 tyX2 tyX2_ok nmX2 0 (by decide) rfl rfl lf_X11_99 rfl ha1 rfl dX11_truncateInput_22 ?_
      refine V_iconst (pc := 25) C dX11_truncateInput_25 ?_
      exact V_zret (pc := 26) C hr hlk (by decide) h dX11_truncateInput_26
    · have h := ite_f h c12_2
      refine V_iconst (pc := 15) C dX11_truncateInput_15 ?_
      exact V_zret (pc := 16) C hr hlk (by decide) h dX11_truncateInput_16
set_option maxRecDepth 100000 in
set_option maxHeartbeats 4000000 in
theorem c_X11_loadSetup (l : Launch) (Γ : GG) (sk : List SD) (hsk : Ext sk) (fu : Nat) {M M' : Mem}  {r : Int}  (h : f_X11_loadSetup fu M  = some (M', r)) : MetI l yX11_loadSetup cX11_loadSetup 2 .int ({ frames := 17, cells := 0, slots := 0, locals := 505 } : Room) Γ sk [vr Γ 3] M M' r := by
  unfold f_X11_loadSetup at h
  refine MetI_of RX11 rfl (by decide) rfl (Nat.le_of_ble_eq_true rfl) rfl ?_
  intro p e s m args below meth c C hr hlk hM
  have e3 := hsk 3 _ (by decide) rfl
  have e4 := hsk 4 _ (by decide) rfl
  have e38 := hsk 38 _ (by decide) rfl
  have e43 := hsk 43 _ (by decide) rfl
  have e46 := hsk 46 _ (by decide) rfl
  have e47 := hsk 47 _ (by decide) rfl
  refine V_aload_n (pc := 0) C 0 rfl dX11_loadSetup_0 ?_
  refine V_getR (pc := 1) C e3 rfl inX11 8 (by decide) rfl lf_X11_65 rfl dX11_loadSetup_1 ?_
  obtain ⟨M1, r2, hc3, h⟩ := cal_of h
  refine V_callVI (pc := 4) C (c_X7_parse l Γ sk hsk fu hc3) cf_X7_parse lk_X11_103 ⟨rfl, rfl⟩ ⟨Nat.le_of_ble_eq_true rfl, Nat.le_of_ble_eq_true rfl⟩ e46 rfl rfl rfl (Nat.le_of_ble_eq_true rfl) ⟨Nat.zero_le _, Nat.zero_le _⟩ rfl dX11_loadSetup_4 (fun hr2 => ?_)
  refine V_istore_n (pc := 7) C (L' := [(0, vr Γ 3), (1, vi r2)]) rfl (by decide) dX11_loadSetup_7 ?_
  refine V_aload_n (pc := 8) C 0 rfl dX11_loadSetup_8 ?_
  refine V_getR (pc := 9) C e3 rfl inX11 6 (by decide) rfl lf_X11_47 rfl dX11_loadSetup_9 ?_
  refine V_iconst (pc := 12) C dX11_loadSetup_12 ?_
  refine V_putI (pc := 13) C (by decide) e43 rfl inX2 tyX2 tyX2_ok nmX2 0 (by decide) rfl rfl lf_X11_99 rfl (by decide) rfl dX11_loadSetup_13 ?_
  refine V_iload_n (pc := 16) C 1 rfl dX11_loadSetup_16 ?_
  refine V_if_ne (pc := 17) C 22 hr2 dX11_loadSetup_17 (by decide) (fun c17_4 => ?_) (fun c17_4 => ?_)
  · have h := ite_f h c17_4
    refine V_aload_n (pc := 22) C 0 rfl dX11_loadSetup_22 ?_
    refine V_getR (pc := 23) C e3 rfl inX11 0 (by decide) rfl lf_X11_10 rfl dX11_loadSetup_23 ?_
    refine V_aload_n (pc := 26) C 0 rfl dX11_loadSetup_26 ?_
    refine V_getR (pc := 27) C e3 rfl inX11 8 (by decide) rfl lf_X11_65 rfl dX11_loadSetup_27 ?_
    refine V_getR (pc := 30) C e46 rfl inX7 3 (by decide) rfl lf_X11_106 rfl dX11_loadSetup_30 ?_
    refine V_aload_n (pc := 33) C 0 rfl dX11_loadSetup_33 ?_
    refine V_getR (pc := 34) C e3 rfl inX11 8 (by decide) rfl lf_X11_65 rfl dX11_loadSetup_34 ?_
    refine V_rng fun hM5 => ?_
    refine V_getI (pc := 37) C e46 rfl inX7 4 (by decide) rfl lf_X11_109 rfl dX11_loadSetup_37 ?_
    obtain ⟨M6, r7, hc8, h⟩ := cal_of h
    refine V_callVV (pc := 40) C (c_X8_begin l Γ sk hsk fu e47 (by decide) (hM5 _ _) hc8) cf_X8_begin lk_X11_87 ⟨rfl, rfl⟩ ⟨Nat.le_of_ble_eq_true rfl, Nat.le_of_ble_eq_true rfl⟩ e4 rfl rfl rfl (Nat.le_of_ble_eq_true rfl) ⟨Nat.zero_le _, Nat.zero_le _⟩ rfl dX11_loadSetup_40 ?_
    refine V_aload_n (pc := 43) C 0 rfl dX11_loadSetup_43 ?_
    refine V_getR (pc := 44) C e3 rfl inX11 5 (by decide) rfl lf_X11_40 rfl dX11_loadSetup_44 ?_
    obtain ⟨M9, r10, hc11, h⟩ := cal_of h
    refine V_callVV (pc := 47) C (c_X1_forget l Γ sk hsk fu hc11) cf_X1_forget lk_X11_112 ⟨rfl, rfl⟩ ⟨Nat.le_of_ble_eq_true rfl, Nat.le_of_ble_eq_true rfl⟩ e38 rfl rfl rfl (Nat.le_of_ble_eq_true rfl) ⟨Nat.zero_le _, Nat.zero_le _⟩ rfl dX11_loadSetup_47 ?_
    refine V_aload_n (pc := 50) C 0 rfl dX11_loadSetup_50 ?_
    refine V_iconst (pc := 51) C dX11_loadSetup_51 ?_
    obtain ⟨g12, h⟩ := grd_of h
    refine V_putZ (pc := 52) C (by decide) e3 rfl inX11 tyX11 tyX11_ok nmX11 2 (by decide) rfl rfl lf_X11_115 rfl g12 rfl dX11_loadSetup_52 ?_
    refine V_aload_n (pc := 55) C 0 rfl dX11_loadSetup_55 ?_
    refine V_getR (pc := 56) C e3 rfl inX11 8 (by decide) rfl lf_X11_65 rfl dX11_loadSetup_56 ?_
    refine V_rng fun hM13 => ?_
    refine V_getI (pc := 59) C e46 rfl inX7 4 (by decide) rfl lf_X11_109 rfl dX11_loadSetup_59 ?_
    exact V_iret (pc := 62) C hr hlk (hM13 _ _) h dX11_loadSetup_62
  · have h := ite_t h c17_4
    refine V_iconst (pc := 20) C dX11_loadSetup_20 ?_
    exact V_iret (pc := 21) C hr hlk (by decide) h dX11_loadSetup_21
set_option maxRecDepth 100000 in
set_option maxHeartbeats 4000000 in
theorem c_X11_versionCount (l : Launch) (Γ : GG) (sk : List SD) (hsk : Ext sk) (fu : Nat) {M M' : Mem}  {r : Int}  (h : f_X11_versionCount fu M  = some (M', r)) : MetI l yX11_versionCount cX11_versionCount 1 .int ({ frames := 0, cells := 0, slots := 0, locals := 0 } : Room) Γ sk [vr Γ 3] M M' r := by
  unfold f_X11_versionCount at h
  refine MetI_of RX11 rfl (by decide) rfl (Nat.le_of_ble_eq_true rfl) rfl ?_
  intro p e s m args below meth c C hr hlk hM
  have e3 := hsk 3 _ (by decide) rfl
  have e4 := hsk 4 _ (by decide) rfl
  have e10 := hsk 10 _ (by decide) rfl
  refine V_aload_n (pc := 0) C 0 rfl dX11_versionCount_0 ?_
  refine V_getR (pc := 1) C e3 rfl inX11 0 (by decide) rfl lf_X11_10 rfl dX11_versionCount_1 ?_
  refine V_getR (pc := 4) C e4 rfl inX8 1 (by decide) rfl lf_X11_137 rfl dX11_versionCount_4 ?_
  refine V_getI (pc := 7) C e10 rfl inX10 0 (by decide) rfl lf_X11_141 rfl dX11_versionCount_7 ?_
  exact V_iret (pc := 10) C hr hlk (hM _ _) h dX11_versionCount_10
set_option maxRecDepth 100000 in
set_option maxHeartbeats 4000000 in
theorem c_X11_storedNodes (l : Launch) (Γ : GG) (sk : List SD) (hsk : Ext sk) (fu : Nat) {M M' : Mem}  {r : Int}  (h : f_X11_storedNodes fu M  = some (M', r)) : MetI l yX11_storedNodes cX11_storedNodes 1 .int ({ frames := 3, cells := 0, slots := 0, locals := 64 } : Room) Γ sk [vr Γ 3] M M' r := by
  unfold f_X11_storedNodes at h
  refine MetI_of RX11 rfl (by decide) rfl (Nat.le_of_ble_eq_true rfl) rfl ?_
  intro p e s m args below meth c C hr hlk hM
  have e3 := hsk 3 _ (by decide) rfl
  have e4 := hsk 4 _ (by decide) rfl
  have e5 := hsk 5 _ (by decide) rfl
  refine V_aload_n (pc := 0) C 0 rfl dX11_storedNodes_0 ?_
  refine V_getR (pc := 1) C e3 rfl inX11 0 (by decide) rfl lf_X11_10 rfl dX11_storedNodes_1 ?_
  refine V_getR (pc := 4) C e4 rfl inX8 0 (by decide) rfl lf_X11_198 rfl dX11_storedNodes_4 ?_
  obtain ⟨M1, r2, hc3, h⟩ := cal_of h
  refine V_callVI (pc := 7) C (c_X3_countStored l Γ sk hsk fu hc3) cf_X3_countStored lk_X11_207 ⟨rfl, rfl⟩ ⟨Nat.le_of_ble_eq_true rfl, Nat.le_of_ble_eq_true rfl⟩ e5 rfl rfl rfl (Nat.le_of_ble_eq_true rfl) ⟨Nat.zero_le _, Nat.zero_le _⟩ rfl dX11_storedNodes_7 (fun hr2 => ?_)
  exact V_iret (pc := 10) C hr hlk hr2 h dX11_storedNodes_10
set_option maxRecDepth 100000 in
set_option maxHeartbeats 4000000 in
theorem c_X11_garbageNodes (l : Launch) (Γ : GG) (sk : List SD) (hsk : Ext sk) (fu : Nat) {M M' : Mem}  {r : Int}  (h : f_X11_garbageNodes fu M  = some (M', r)) : MetI l yX11_garbageNodes cX11_garbageNodes 1 .int ({ frames := 30, cells := 0, slots := 0, locals := 992 } : Room) Γ sk [vr Γ 3] M M' r := by
  unfold f_X11_garbageNodes at h
  refine MetI_of RX11 rfl (by decide) rfl (Nat.le_of_ble_eq_true rfl) rfl ?_
  intro p e s m args below meth c C hr hlk hM
  have e3 := hsk 3 _ (by decide) rfl
  have e34 := hsk 34 _ (by decide) rfl
  refine V_aload_n (pc := 0) C 0 rfl dX11_garbageNodes_0 ?_
  refine V_getR (pc := 1) C e3 rfl inX11 3 (by decide) rfl lf_X11_24 rfl dX11_garbageNodes_1 ?_
  obtain ⟨M1, r2, hc3, h⟩ := cal_of h
  refine V_callVI (pc := 4) C (c_X5_countGarbage l Γ sk hsk fu hc3) cf_X5_countGarbage lk_X11_210 ⟨rfl, rfl⟩ ⟨Nat.le_of_ble_eq_true rfl, Nat.le_of_ble_eq_true rfl⟩ e34 rfl rfl rfl (Nat.le_of_ble_eq_true rfl) ⟨Nat.zero_le _, Nat.zero_le _⟩ rfl dX11_garbageNodes_4 (fun hr2 => ?_)
  exact V_iret (pc := 7) C hr hlk hr2 h dX11_garbageNodes_7
set_option maxRecDepth 100000 in
set_option maxHeartbeats 4000000 in
theorem c_X11_isConsistent (l : Launch) (Γ : GG) (sk : List SD) (hsk : Ext sk) (fu : Nat) {M M' : Mem}  {r : Int}  (h : f_X11_isConsistent fu M  = some (M', r)) : MetI l yX11_isConsistent cX11_isConsistent 1 .boolean ({ frames := 31, cells := 0, slots := 0, locals := 1014 } : Room) Γ sk [vr Γ 3] M M' r := by
  unfold f_X11_isConsistent at h
  refine MetI_of RX11 rfl (by decide) rfl (Nat.le_of_ble_eq_true rfl) rfl ?_
  intro p e s m args below meth c C hr hlk hM
  have e3 := hsk 3 _ (by decide) rfl
  have e36 := hsk 36 _ (by decide) rfl
  refine V_aload_n (pc := 0) C 0 rfl dX11_isConsistent_0 ?_
  refine V_getR (pc := 1) C e3 rfl inX11 4 (by decide) rfl lf_X11_33 rfl dX11_isConsistent_1 ?_
  obtain ⟨M1, r2, hc3, h⟩ := cal_of h
  refine V_callVI (pc := 4) C (c_X0_passes l Γ sk hsk fu hc3) cf_X0_passes lk_X11_272 ⟨rfl, rfl⟩ ⟨Nat.le_of_ble_eq_true rfl, Nat.le_of_ble_eq_true rfl⟩ e36 rfl rfl rfl (Nat.le_of_ble_eq_true rfl) ⟨Nat.zero_le _, Nat.zero_le _⟩ rfl dX11_isConsistent_4 (fun hr2 => ?_)
  obtain ⟨g4, h⟩ := grd_of h
  exact V_zret (pc := 7) C hr hlk g4 h dX11_isConsistent_7
