set_option maxRecDepth 100000 in
set_option maxHeartbeats 4000000 in
theorem c_X6_parse (l : Launch) (Γ : GG) (sk : List SD) (hsk : Ext sk) (fu : Nat) {M M' : Mem}  {r : Int}  (h : f_X6_parse fu M  = some (M', r)) : MetI l yX6_parse cX6_parse 3 .boolean ({ frames := 16, cells := 0, slots := 0, locals := 483 } : Room) Γ sk [vr Γ 48] M M' r := by
  unfold f_X6_parse at h
  refine MetI_of RX6 rfl (by decide) rfl (Nat.le_of_ble_eq_true rfl) rfl ?_
  intro p e s m args below meth c C hr hlk hM
  have e45 := hsk 45 _ (by decide) rfl
  have e48 := hsk 48 _ (by decide) rfl
  have JP79 : ∀ {M : Mem}, f_X6_parse_J79 fu M = some (M', r) → VV p l e ({ frames := 16, cells := 0, slots := 0, locals := 483 } : Room) s m args below meth c (MQ below (PostI Γ sk M' r s.heap.size) args s 0 0 (Fr Γ sk s.heap.size)) 3 Γ sk M 0 0 79 [(0, vr Γ 48)] [] := by
    intro M h
    unfold f_X6_parse_J79 at h
    refine V_aload_n (pc := 79) C 0 rfl dX6_parse_79 ?_
    refine V_rng fun hM7 => ?_
    refine V_getI (pc := 80) C e48 rfl inX6 2 (by decide) rfl lf_X6_27 rfl dX6_parse_80 ?_
    refine V_if_eq (pc := 83) C 97 (hM7 _ _) dX6_parse_83 (by decide) (fun c83_8 => ?_) (fun c83_8 => ?_)
    · have h := ite_t h c83_8
      refine V_iconst (pc := 97) C dX6_parse_97 ?_
      refine V_goto (pc := 98) C 102 dX6_parse_98 (by decide) ?_
      exact V_zret (pc := 102) C hr hlk (by decide) h dX6_parse_102
    · have h := ite_f h c83_8
      refine V_aload_n (pc := 86) C 0 rfl dX6_parse_86 ?_
      refine V_getR (pc := 87) C e48 rfl inX6 0 (by decide) rfl lf_X6_15 rfl dX6_parse_87 ?_
      refine V_iconst (pc := 90) C dX6_parse_90 ?_
      obtain ⟨M9, r10, hc11, h⟩ := cal_of h
      refine V_callVI (pc := 91) C (c_X9_fail l Γ sk hsk fu (by decide) hc11) cf_X9_fail lk_X6_50 ⟨rfl, rfl⟩ ⟨Nat.le_of_ble_eq_true rfl, Nat.le_of_ble_eq_true rfl⟩ e45 rfl rfl rfl (Nat.le_of_ble_eq_true rfl) ⟨Nat.zero_le _, Nat.zero_le _⟩ rfl dX6_parse_91 (fun hr10 => ?_)
      refine V_if_eq (pc := 94) C 101 hr10 dX6_parse_94 (by decide) (fun c94_12 => ?_) (fun c94_12 => ?_)
      · have h := ite_t h c94_12
        refine V_iconst (pc := 101) C dX6_parse_101 ?_
        exact V_zret (pc := 102) C hr hlk (by decide) h dX6_parse_102
      · have h := ite_f h c94_12
        refine V_iconst (pc := 97) C dX6_parse_97 ?_
        refine V_goto (pc := 98) C 102 dX6_parse_98 (by decide) ?_
        exact V_zret (pc := 102) C hr hlk (by decide) h dX6_parse_102
  have JP59 : ∀ (k24 : Int → Mem → Option (Mem × Int)) (_ : ∀ (x1 : Int) (M : Mem), rng x1 → k24 x1 M = some (M', r) → VV p l e ({ frames := 16, cells := 0, slots := 0, locals := 483 } : Room) s m args below meth c (MQ below (PostI Γ sk M' r s.heap.size) args s 0 0 (Fr Γ sk s.heap.size)) 3 Γ sk M 0 0 24 [(0, vr Γ 48), (1, vi x1)] []) {x1 : Int} {y0 : Int} {M : Mem}, rng x1 → rng y0 → f_X6_parse_J59 fu k24 x1 y0 M = some (M', r) → VV p l e ({ frames := 16, cells := 0, slots := 0, locals := 483 } : Room) s m args below meth c (MQ below (PostI Γ sk M' r s.heap.size) args s 0 0 (Fr Γ sk s.heap.size)) 3 Γ sk M 0 0 59 [(0, vr Γ 48), (1, vi x1)] [vi y0] := by
    intro k24 hkk24 x1 y0 M hx1 hy0 h
    unfold f_X6_parse_J59 at h
    refine V_istore_n (pc := 59) C (L' := [(0, vr Γ 48), (1, vi x1), (2, vi y0)]) rfl (by decide) dX6_parse_59 ?_
    refine V_iload_n (pc := 60) C 2 rfl dX6_parse_60 ?_
    refine V_if_eq (pc := 61) C 73 hy0 dX6_parse_61 (by decide) (fun c61_22 => ?_) (fun c61_22 => ?_)
    · have h := ite_t h c61_22
      refine V_iinc (pc := 73) C (L' := [(0, vr Γ 48), (1, vi (x1 + (1 : Int))), (2, vi y0)]) 1 rfl rfl (by decide) dX6_parse_73 ?_
      refine V_goto (pc := 76) C 24 dX6_parse_76 (by decide) ?_
      obtain ⟨g23, h⟩ := grd_of h
      refine V_sub (L' := [(0, vr Γ 48), (1, vi (x1 + (1 : Int)))]) [0, 1] rfl (by decide) ?_
      exact hkk24 _ _ g23 h
    · have h := ite_f h c61_22
      refine V_aload_n (pc := 64) C 0 rfl dX6_parse_64 ?_
      refine V_getR (pc := 65) C e48 rfl inX6 0 (by decide) rfl lf_X6_15 rfl dX6_parse_65 ?_
      refine V_iload_n (pc := 68) C 2 rfl dX6_parse_68 ?_
      obtain ⟨M24, r25, hc26, h⟩ := cal_of h
      refine V_callVI (pc := 69) C (c_X9_fail l Γ sk hsk fu hy0 hc26) cf_X9_fail lk_X6_50 ⟨rfl, rfl⟩ ⟨Nat.le_of_ble_eq_true rfl, Nat.le_of_ble_eq_true rfl⟩ e45 rfl rfl rfl (Nat.le_of_ble_eq_true rfl) ⟨Nat.zero_le _, Nat.zero_le _⟩ rfl dX6_parse_69 (fun hr25 => ?_)
      obtain ⟨g27, h⟩ := grd_of h
      exact V_zret (pc := 72) C hr hlk g27 h dX6_parse_72
  have LP24 : ∀ (n : Nat) {x1 : Int} {M : Mem}, rng x1 → f_X6_parse_L24 fu n x1 M = some (M', r) → VV p l e ({ frames := 16, cells := 0, slots := 0, locals := 483 } : Room) s m args below meth c (MQ below (PostI Γ sk M' r s.heap.size) args s 0 0 (Fr Γ sk s.heap.size)) 3 Γ sk M 0 0 24 [(0, vr Γ 48), (1, vi x1)] [] := by
    intro n
    induction n with
    | zero =>
      intro x1 M hx1 h
      cases h
    | succ n ih =>
      intro x1 M hx1 h
      rw [f_X6_parse_L24] at h
      refine V_iload_n (pc := 24) C 1 rfl dX6_parse_24 ?_
      refine V_sipush (pc := 25) C dX6_parse_25 rfl ?_
      refine V_icmp_gt (pc := 28) C 79 hx1 (by decide) dX6_parse_28 (by decide) (fun c28_6 => ?_) (fun c28_6 => ?_)
      · have h := ite_t h c28_6
        refine V_sub (L' := [(0, vr Γ 48)]) [0] rfl (by decide) ?_
        exact JP79 h
      · have h := ite_f h c28_6
        refine V_aload_n (pc := 31) C 0 rfl dX6_parse_31 ?_
        refine V_getR (pc := 32) C e48 rfl inX6 0 (by decide) rfl lf_X6_15 rfl dX6_parse_32 ?_
        obtain ⟨M13, r14, hc15, h⟩ := cal_of h
        refine V_callVI (pc := 35) C (c_X9_advance l Γ sk hsk fu hc15) cf_X9_advance lk_X6_39 ⟨rfl, rfl⟩ ⟨Nat.le_of_ble_eq_true rfl, Nat.le_of_ble_eq_true rfl⟩ e45 rfl rfl rfl (Nat.le_of_ble_eq_true rfl) ⟨Nat.zero_le _, Nat.zero_le _⟩ rfl dX6_parse_35 (fun hr14 => ?_)
        refine V_if_eq (pc := 38) C 79 hr14 dX6_parse_38 (by decide) (fun c38_16 => ?_) (fun c38_16 => ?_)
        · have h := ite_t h c38_16
          refine V_sub (L' := [(0, vr Γ 48)]) [0] rfl (by decide) ?_
          exact JP79 h
        · have h := ite_f h c38_16
          refine V_aload_n (pc := 41) C 0 rfl dX6_parse_41 ?_
          refine V_rng fun hM17 => ?_
          refine V_getI (pc := 42) C e48 rfl inX6 2 (by decide) rfl lf_X6_27 rfl dX6_parse_42 ?_
          refine V_if_eq (pc := 45) C 55 (hM17 _ _) dX6_parse_45 (by decide) (fun c45_18 => ?_) (fun c45_18 => ?_)
          · have h := ite_t h c45_18
            refine V_aload_n (pc := 55) C 0 rfl dX6_parse_55 ?_
            obtain ⟨M19, r20, hc21, h⟩ := cal_of h
            refine V_callVI (pc := 56) C (c_X6_open l Γ sk hsk fu hc21) cf_X6_open lk_X6_47 ⟨rfl, rfl⟩ ⟨Nat.le_of_ble_eq_true rfl, Nat.le_of_ble_eq_true rfl⟩ e48 rfl rfl rfl (Nat.le_of_ble_eq_true rfl) ⟨Nat.zero_le _, Nat.zero_le _⟩ rfl dX6_parse_56 (fun hr20 => ?_)
            refine V_sub (L' := [(0, vr Γ 48), (1, vi x1)]) [0, 1] rfl (by decide) ?_
            exact JP59 _ (fun _ _ hz0 hz => ih hz0 hz) hx1 hr20 h
          · have h := ite_f h c45_18
            refine V_aload_n (pc := 48) C 0 rfl dX6_parse_48 ?_
            obtain ⟨M28, r29, hc30, h⟩ := cal_of h
            refine V_callVI (pc := 49) C (c_X6_accept l Γ sk hsk fu hc30) cf_X6_accept lk_X6_43 ⟨rfl, rfl⟩ ⟨Nat.le_of_ble_eq_true rfl, Nat.le_of_ble_eq_true rfl⟩ e48 rfl rfl rfl (Nat.le_of_ble_eq_true rfl) ⟨Nat.zero_le _, Nat.zero_le _⟩ rfl dX6_parse_49 (fun hr29 => ?_)
            refine V_goto (pc := 52) C 59 dX6_parse_52 (by decide) ?_
            refine V_sub (L' := [(0, vr Γ 48), (1, vi x1)]) [0, 1] rfl (by decide) ?_
            exact JP59 _ (fun _ _ hz0 hz => ih hz0 hz) hx1 hr29 h
  skip
  refine V_aload_n (pc := 0) C 0 rfl dX6_parse_0 ?_
  refine V_iconst (pc := 1) C dX6_parse_1 ?_
  refine V_putI (pc := 2) C (by decide) e48 rfl inX6 tyX6 tyX6_ok nmX6 5 (by decide) rfl rfl lf_X6_23 rfl (by decide) rfl dX6_parse_2 ?_
  refine V_aload_n (pc := 5) C 0 rfl dX6_parse_5 ?_
  refine V_iconst (pc := 6) C dX6_parse_6 ?_
  obtain ⟨g1, h⟩ := grd_of h
  refine V_putZ (pc := 7) C (by decide) e48 rfl inX6 tyX6 tyX6_ok nmX6 2 (by decide) rfl rfl lf_X6_27 rfl g1 rfl dX6_parse_7 ?_
  refine V_aload_n (pc := 10) C 0 rfl dX6_parse_10 ?_
  refine V_iconst (pc := 11) C dX6_parse_11 ?_
  obtain ⟨g2, h⟩ := grd_of h
  refine V_putZ (pc := 12) C (by decide) e48 rfl inX6 tyX6 tyX6_ok nmX6 3 (by decide) rfl rfl lf_X6_31 rfl g2 rfl dX6_parse_12 ?_
  refine V_aload_n (pc := 15) C 0 rfl dX6_parse_15 ?_
  refine V_getR (pc := 16) C e48 rfl inX6 0 (by decide) rfl lf_X6_15 rfl dX6_parse_16 ?_
  obtain ⟨M3, r4, hc5, h⟩ := cal_of h
  refine V_callVV (pc := 19) C (c_X9_begin l Γ sk hsk fu hc5) cf_X9_begin lk_X6_34 ⟨rfl, rfl⟩ ⟨Nat.le_of_ble_eq_true rfl, Nat.le_of_ble_eq_true rfl⟩ e45 rfl rfl rfl (Nat.le_of_ble_eq_true rfl) ⟨Nat.zero_le _, Nat.zero_le _⟩ rfl dX6_parse_19 ?_
  refine V_iconst (pc := 22) C dX6_parse_22 ?_
  refine V_istore_n (pc := 23) C (L' := [(0, vr Γ 48), (1, vi (0 : Int))]) rfl (by decide) dX6_parse_23 ?_
  refine V_sub (L' := [(0, vr Γ 48), (1, vi (0 : Int))]) [0, 1] rfl (by decide) ?_
  exact LP24 fu  (by decide) h
set_option maxRecDepth 100000 in
set_option maxHeartbeats 4000000 in
theorem c_X4_byteAt (l : Launch) (Γ : GG) (sk : List SD) (hsk : Ext sk) (fu : Nat) {M M' : Mem} {a1 : Int} {r : Int} (ha1 : rng a1) (h : f_X4_byteAt fu M a1 = some (M', r)) : MetI l yX4_byteAt cX4_byteAt 2 .int ({ frames := 1, cells := 0, slots := 0, locals := 21 } : Room) Γ sk [vr Γ 50, vi a1] M M' r := by
  unfold f_X4_byteAt at h
  refine MetI_of RX4 rfl (by decide) rfl (Nat.le_of_ble_eq_true rfl) rfl ?_
  intro p e s m args below meth c C hr hlk hM
  have e50 := hsk 50 _ (by decide) rfl
  have e51 := hsk 51 _ (by decide) rfl
  refine V_iload_n (pc := 0) C 1 rfl dX4_byteAt_0 ?_
  refine V_aload_n (pc := 1) C 0 rfl dX4_byteAt_1 ?_
  refine V_getI (pc := 2) C e50 rfl inX4 0 (by decide) rfl lf_X4_15 rfl dX4_byteAt_2 ?_
  refine V_icmp_ge (pc := 5) C 19 ha1 (hM _ _) dX4_byteAt_5 (by decide) (fun c5_1 => ?_) (fun c5_1 => ?_)
  · have h := ite_t h c5_1
    refine V_iconst (pc := 19) C dX4_byteAt_19 ?_
    exact V_iret (pc := 20) C hr hlk (by decide) h dX4_byteAt_20
  · have h := ite_f h c5_1
    refine V_aload_n (pc := 8) C 0 rfl dX4_byteAt_8 ?_
    refine V_getR (pc := 9) C e50 rfl inX4 1 (by decide) rfl lf_X4_9 rfl dX4_byteAt_9 ?_
    refine V_iload_n (pc := 12) C 1 rfl dX4_byteAt_12 ?_
    obtain ⟨M2, r3, hc4, h⟩ := cal_of h
    refine V_callNI (pc := 13) C (c_X11_at l Γ sk hsk fu e51 (by decide) ha1 hc4) cf_X11_at ln_X4_19 ⟨rfl, rfl⟩ ⟨Nat.le_of_ble_eq_true rfl, Nat.le_of_ble_eq_true rfl⟩ rfl (Nat.le_of_ble_eq_true rfl) ⟨Nat.zero_le _, Nat.zero_le _⟩ rfl dX4_byteAt_13 (fun hr3 => ?_)
    refine V_goto (pc := 16) C 20 dX4_byteAt_16 (by decide) ?_
    exact V_iret (pc := 20) C hr hlk hr3 h dX4_byteAt_20
set_option maxRecDepth 100000 in
set_option maxHeartbeats 4000000 in
theorem c_X4_addByte (l : Launch) (Γ : GG) (sk : List SD) (hsk : Ext sk) (fu : Nat) {M M' : Mem} {a1 : Int} {r : Int} (ha1 : rng a1) (h : f_X4_addByte fu M a1 = some (M', r)) : MetV l yX4_addByte cX4_addByte 2 ({ frames := 1, cells := 0, slots := 0, locals := 22 } : Room) Γ sk [vr Γ 50, vi a1] M M' := by
  unfold f_X4_addByte at h
  refine MetV_of RX4 rfl (by decide) rfl (Nat.le_of_ble_eq_true rfl) rfl ?_
  intro p e s m args below meth c C hr hlk hM
  have e50 := hsk 50 _ (by decide) rfl
  have e51 := hsk 51 _ (by decide) rfl
  refine V_aload_n (pc := 0) C 0 rfl dX4_addByte_0 ?_
  refine V_getR (pc := 1) C e50 rfl inX4 1 (by decide) rfl lf_X4_9 rfl dX4_addByte_1 ?_
  refine V_aload_n (pc := 4) C 0 rfl dX4_addByte_4 ?_
  refine V_getI (pc := 5) C e50 rfl inX4 0 (by decide) rfl lf_X4_15 rfl dX4_addByte_5 ?_
  refine V_iload_n (pc := 8) C 1 rfl dX4_addByte_8 ?_
  obtain ⟨M1, r2, hc3, h⟩ := cal_of h
  refine V_callNV (pc := 9) C (c_X11_put l Γ sk hsk fu e51 (by decide) (by decide) (hM _ _) ha1 hc3) cf_X11_put ln_X4_54 ⟨rfl, rfl⟩ ⟨Nat.le_of_ble_eq_true rfl, Nat.le_of_ble_eq_true rfl⟩ rfl (Nat.le_of_ble_eq_true rfl) ⟨Nat.zero_le _, Nat.zero_le _⟩ rfl dX4_addByte_9 ?_
  refine V_aload_n (pc := 12) C 0 rfl dX4_addByte_12 ?_
  refine V_dup (pc := 13) C rfl dX4_addByte_13 ?_
  refine V_rng fun hM4 => ?_
  refine V_getI (pc := 14) C e50 rfl inX4 0 (by decide) rfl lf_X4_15 rfl dX4_addByte_14 ?_
  refine V_iconst (pc := 17) C dX4_addByte_17 ?_
  refine V_iadd (pc := 18) C dX4_addByte_18 ?_
  obtain ⟨g5, h⟩ := grd_of h
  refine V_putI (pc := 19) C (by decide) e50 rfl inX4 tyX4 tyX4_ok nmX4 0 (by decide) rfl rfl lf_X4_15 rfl g5 rfl dX4_addByte_19 ?_
  exact V_vret (pc := 22) C hr hlk h dX4_addByte_22
set_option maxRecDepth 100000 in
set_option maxHeartbeats 4000000 in
theorem c_X4_addNumber (l : Launch) (Γ : GG) (sk : List SD) (hsk : Ext sk) (fu : Nat) {M M' : Mem} {a1 : Int} {r : Int} (ha1 : rng a1) (h : f_X4_addNumber fu M a1 = some (M', r)) : MetV l yX4_addNumber cX4_addNumber 3 ({ frames := 2, cells := 0, slots := 0, locals := 43 } : Room) Γ sk [vr Γ 50, vi a1] M M' := by
  unfold f_X4_addNumber at h
  refine MetV_of RX4 rfl (by decide) rfl (Nat.le_of_ble_eq_true rfl) rfl ?_
  intro p e s m args below meth c C hr hlk hM
  have e50 := hsk 50 _ (by decide) rfl
  have JP52 : ∀ {x2 : Int} {M : Mem}, rng x2 → f_X4_addNumber_J52 fu x2 M = some (M', r) → VV p l e ({ frames := 2, cells := 0, slots := 0, locals := 43 } : Room) s m args below meth c (MQ below (PostV Γ sk M' s.heap.size) args s 0 0 (Fr Γ sk s.heap.size)) 3 Γ sk M 0 0 52 [(0, vr Γ 50), (2, vi x2)] [] := by
    intro x2 M hx2 h
    unfold f_X4_addNumber_J52 at h
    refine V_aload_n (pc := 52) C 0 rfl dX4_addNumber_52 ?_
    refine V_bipush (pc := 53) C dX4_addNumber_53 rfl ?_
    refine V_iload_n (pc := 55) C 1 rfl dX4_addNumber_55 ?_
    refine V_bipush (pc := 56) C dX4_addNumber_56 rfl ?_
    obtain ⟨g5, h⟩ := grd_of h
    refine V_irem (pc := 58) C g5 dX4_addNumber_58 ?_
    refine V_iadd (pc := 59) C dX4_addNumber_59 ?_
    obtain ⟨g6, h⟩ := grd_of h
    obtain ⟨M7, r8, hc9, h⟩ := cal_of h
    refine V_callVV (pc := 60) C (c_X4_addByte l Γ sk hsk fu g6 hc9) cf_X4_addByte lk_X4_23 ⟨rfl, rfl⟩ ⟨Nat.le_of_ble_eq_true rfl, Nat.le_of_ble_eq_true rfl⟩ e50 rfl rfl rfl (Nat.le_of_ble_eq_true rfl) ⟨Nat.zero_le _, Nat.zero_le _⟩ rfl dX4_addNumber_60 ?_
    exact V_vret (pc := 63) C hr hlk h dX4_addNumber_63
  have JP32 : ∀ {x2 : Int} {M : Mem}, rng x2 → f_X4_addNumber_J32 fu x2 M = some (M', r) → VV p l e ({ frames := 2, cells := 0, slots := 0, locals := 43 } : Room) s m args below meth c (MQ below (PostV Γ sk M' s.heap.size) args s 0 0 (Fr Γ sk s.heap.size)) 3 Γ sk M 0 0 32 [(0, vr Γ 50), (2, vi x2)] [] := by
    intro x2 M hx2 h
    unfold f_X4_addNumber_J32 at h
    refine V_iload_n (pc := 32) C 1 rfl dX4_addNumber_32 ?_
    refine V_bipush (pc := 33) C dX4_addNumber_33 rfl ?_
    refine V_icmp_lt (pc := 35) C 52 hx2 (by decide) dX4_addNumber_35 (by decide) (fun c35_4 => ?_) (fun c35_4 => ?_)
    · have h := ite_t h c35_4
      refine V_sub (L' := [(0, vr Γ 50), (2, vi x2)]) [0, 1] rfl (by decide) ?_
      exact JP52 hx2 h
    · have h := ite_f h c35_4
      refine V_aload_n (pc := 38) C 0 rfl dX4_addNumber_38 ?_
      refine V_bipush (pc := 39) C dX4_addNumber_39 rfl ?_
      refine V_iload_n (pc := 41) C 1 rfl dX4_addNumber_41 ?_
      refine V_bipush (pc := 42) C dX4_addNumber_42 rfl ?_
      obtain ⟨g10, h⟩ := grd_of h
      refine V_idiv (pc := 44) C g10 dX4_addNumber_44 ?_
      refine V_bipush (pc := 45) C dX4_addNumber_45 rfl ?_
      obtain ⟨g11, h⟩ := grd_of h
      refine V_irem (pc := 47) C g11 dX4_addNumber_47 ?_
      refine V_iadd (pc := 48) C dX4_addNumber_48 ?_
      obtain ⟨g12, h⟩ := grd_of h
      obtain ⟨M13, r14, hc15, h⟩ := cal_of h
      refine V_callVV (pc := 49) C (c_X4_addByte l Γ sk hsk fu g12 hc15) cf_X4_addByte lk_X4_23 ⟨rfl, rfl⟩ ⟨Nat.le_of_ble_eq_true rfl, Nat.le_of_ble_eq_true rfl⟩ e50 rfl rfl rfl (Nat.le_of_ble_eq_true rfl) ⟨Nat.zero_le _, Nat.zero_le _⟩ rfl dX4_addNumber_49 ?_
      refine V_sub (L' := [(0, vr Γ 50), (2, vi x2)]) [0, 1] rfl (by decide) ?_
      exact JP52 hx2 h
  have JP10 : ∀ {x1 : Int} {M : Mem}, rng x1 → f_X4_addNumber_J10 fu x1 M = some (M', r) → VV p l e ({ frames := 2, cells := 0, slots := 0, locals := 43 } : Room) s m args below meth c (MQ below (PostV Γ sk M' s.heap.size) args s 0 0 (Fr Γ sk s.heap.size)) 3 Γ sk M 0 0 10 [(0, vr Γ 50), (1, vi x1)] [] := by
    intro x1 M hx1 h
    unfold f_X4_addNumber_J10 at h
    refine V_iload_n (pc := 10) C 1 rfl dX4_addNumber_10 ?_
    refine V_abs (pc := 11) C lk_X4_49 math_abs hx1 ⟨Nat.le_of_ble_eq_true rfl, Nat.le_of_ble_eq_true rfl⟩ ⟨Nat.zero_le _, Nat.zero_le _⟩ (Nat.le_of_ble_eq_true rfl) dX4_addNumber_11 ?_
    refine V_istore_n (pc := 14) C (L' := [(0, vr Γ 50), (1, vi x1), (2, vi (iabs x1))]) rfl (by decide) dX4_addNumber_14 ?_
    refine V_iload_n (pc := 15) C 2 rfl dX4_addNumber_15 ?_
    refine V_bipush (pc := 16) C dX4_addNumber_16 rfl ?_
    obtain ⟨g2, h⟩ := grd_of h
    refine V_icmp_lt (pc := 18) C 32 g2 (by decide) dX4_addNumber_18 (by decide) (fun c18_3 => ?_) (fun c18_3 => ?_)
    · have h := ite_t h c18_3
      refine V_sub (L' := [(0, vr Γ 50), (2, vi (iabs x1))]) [0, 2] rfl (by decide) ?_
      exact JP32 g2 h
    · have h := ite_f h c18_3
      refine V_aload_n (pc := 21) C 0 rfl dX4_addNumber_21 ?_
      refine V_bipush (pc := 22) C dX4_addNumber_22 rfl ?_
      refine V_iload_n (pc := 24) C 2 rfl dX4_addNumber_24 ?_
      refine V_bipush (pc := 25) C dX4_addNumber_25 rfl ?_
      obtain ⟨g16, h⟩ := grd_of h
      refine V_idiv (pc := 27) C g16 dX4_addNumber_27 ?_
      refine V_iadd (pc := 28) C dX4_addNumber_28 ?_
      obtain ⟨g17, h⟩ := grd_of h
      obtain ⟨M18, r19, hc20, h⟩ := cal_of h
      refine V_callVV (pc := 29) C (c_X4_addByte l Γ sk hsk fu g17 hc20) cf_X4_addByte lk_X4_23 ⟨rfl, rfl⟩ ⟨Nat.le_of_ble_eq_true rfl, Nat.le_of_ble_eq_true rfl⟩ e50 rfl rfl rfl (Nat.le_of_ble_eq_true rfl) ⟨Nat.zero_le _, Nat.zero_le _⟩ rfl dX4_addNumber_29 ?_
      refine V_sub (L' := [(0, vr Γ 50), (2, vi (iabs x1))]) [0, 2] rfl (by decide) ?_
      exact JP32 g2 h
  skip
  refine V_iload_n (pc := 0) C 1 rfl dX4_addNumber_0 ?_
  refine V_if_ge (pc := 1) C 10 ha1 dX4_addNumber_1 (by decide) (fun c1_1 => ?_) (fun c1_1 => ?_)
  · have h := ite_t h c1_1
    refine V_sub (L' := [(0, vr Γ 50), (1, vi a1)]) [0, 1] rfl (by decide) ?_
    exact JP10 ha1 h
  · have h := ite_f h c1_1
    refine V_aload_n (pc := 4) C 0 rfl dX4_addNumber_4 ?_
    refine V_bipush (pc := 5) C dX4_addNumber_5 rfl ?_
    obtain ⟨M21, r22, hc23, h⟩ := cal_of h
    refine V_callVV (pc := 7) C (c_X4_addByte l Γ sk hsk fu (by decide) hc23) cf_X4_addByte lk_X4_23 ⟨rfl, rfl⟩ ⟨Nat.le_of_ble_eq_true rfl, Nat.le_of_ble_eq_true rfl⟩ e50 rfl rfl rfl (Nat.le_of_ble_eq_true rfl) ⟨Nat.zero_le _, Nat.zero_le _⟩ rfl dX4_addNumber_7 ?_
    refine V_sub (L' := [(0, vr Γ 50), (1, vi a1)]) [0, 1] rfl (by decide) ?_
    exact JP10 ha1 h
set_option maxRecDepth 100000 in
set_option maxHeartbeats 4000000 in
theorem c_X4_write (l : Launch) (Γ : GG) (sk : List SD) (hsk : Ext sk) (fu : Nat) {M M' : Mem} {a2 : Int} {r : Int} (ha2 : rng a2) (h : f_X4_write fu M a2 = some (M', r)) : MetV l yX4_write cX4_write 4 ({ frames := 5, cells := 0, slots := 0, locals := 109 } : Room) Γ sk [vr Γ 50, vr Γ 4, vi a2] M M' := by
  unfold f_X4_write at h
  refine MetV_of RX4 rfl (by decide) rfl (Nat.le_of_ble_eq_true rfl) rfl ?_
  intro p e s m args below meth c C hr hlk hM
  have e4 := hsk 4 _ (by decide) rfl
  have e10 := hsk 10 _ (by decide) rfl
  have e50 := hsk 50 _ (by decide) rfl
  have JP48 : ∀ (k13 : Int → Int → Mem → Option (Mem × Int)) (_ : ∀ (x2 : Int) (x3 : Int) (M : Mem), rng x2 → rng x3 → k13 x2 x3 M = some (M', r) → VV p l e ({ frames := 5, cells := 0, slots := 0, locals := 109 } : Room) s m args below meth c (MQ below (PostV Γ sk M' s.heap.size) args s 0 0 (Fr Γ sk s.heap.size)) 4 Γ sk M 0 0 13 [(0, vr Γ 50), (1, vr Γ 4), (2, vi x2), (3, vi x3)] []) {x2 : Int} {x3 : Int} {M : Mem}, rng x2 → rng x3 → f_X4_write_J48 fu k13 x2 x3 M = some (M', r) → VV p l e ({ frames := 5, cells := 0, slots := 0, locals := 109 } : Room) s m args below meth c (MQ below (PostV Γ sk M' s.heap.size) args s 0 0 (Fr Γ sk s.heap.size)) 4 Γ sk M 0 0 48 [(0, vr Γ 50), (1, vr Γ 4), (2, vi x2), (3, vi x3)] [] := by
    intro k13 hkk13 x2 x3 M hx2 hx3 h
    unfold f_X4_write_J48 at h
    refine V_aload_n (pc := 48) C 0 rfl dX4_write_48 ?_
    refine V_aload_n (pc := 49) C 1 rfl dX4_write_49 ?_
    refine V_iload_n (pc := 50) C 2 rfl dX4_write_50 ?_
    refine V_iload_n (pc := 51) C 3 rfl dX4_write_51 ?_
    obtain ⟨M12, r13, hc14, h⟩ := cal_of h
    refine V_callVI (pc := 52) C (c_X8_elementAt l Γ sk hsk fu hx2 hx3 hc14) cf_X8_elementAt lk_X4_43 ⟨rfl, rfl⟩ ⟨Nat.le_of_ble_eq_true rfl, Nat.le_of_ble_eq_true rfl⟩ e4 rfl rfl rfl (Nat.le_of_ble_eq_true rfl) ⟨Nat.zero_le _, Nat.zero_le _⟩ rfl dX4_write_52 (fun hr13 => ?_)
    obtain ⟨M15, r16, hc17, h⟩ := cal_of h
    refine V_callVV (pc := 55) C (c_X4_addNumber l Γ sk hsk fu hr13 hc17) cf_X4_addNumber lk_X4_46 ⟨rfl, rfl⟩ ⟨Nat.le_of_ble_eq_true rfl, Nat.le_of_ble_eq_true rfl⟩ e50 rfl rfl rfl (Nat.le_of_ble_eq_true rfl) ⟨Nat.zero_le _, Nat.zero_le _⟩ rfl dX4_write_55 ?_
    refine V_iinc (pc := 58) C (L' := [(0, vr Γ 50), (1, vr Γ 4), (2, vi x2), (3, vi (x3 + (1 : Int)))]) 3 rfl rfl (by decide) dX4_write_58 ?_
    refine V_goto (pc := 61) C 13 dX4_write_61 (by decide) ?_
    obtain ⟨g18, h⟩ := grd_of h
    refine V_sub (L' := [(0, vr Γ 50), (1, vr Γ 4), (2, vi x2), (3, vi (x3 + (1 : Int)))]) [0, 1, 2, 3] rfl (by decide) ?_
    exact hkk13 _ _ _ hx2 g18 h
  have JP45 : ∀ (k13 : Int → Int → Mem → Option (Mem × Int)) (_ : ∀ (x2 : Int) (x3 : Int) (M : Mem), rng x2 → rng x3 → k13 x2 x3 M = some (M', r) → VV p l e ({ frames := 5, cells := 0, slots := 0, locals := 109 } : Room) s m args below meth c (MQ below (PostV Γ sk M' s.heap.size) args s 0 0 (Fr Γ sk s.heap.size)) 4 Γ sk M 0 0 13 [(0, vr Γ 50), (1, vr Γ 4), (2, vi x2), (3, vi x3)] []) {x2 : Int} {x3 : Int} {y1 : Int} {M : Mem}, rng x2 → rng x3 → rng y1 → f_X4_write_J45 fu k13 x2 x3 y1 M = some (M', r) → VV p l e ({ frames := 5, cells := 0, slots := 0, locals := 109 } : Room) s m args below meth c (MQ below (PostV Γ sk M' s.heap.size) args s 0 0 (Fr Γ sk s.heap.size)) 4 Γ sk M 0 0 45 [(0, vr Γ 50), (1, vr Γ 4), (2, vi x2), (3, vi x3)] [vi y1, vr Γ 50] := by
    intro k13 hkk13 x2 x3 y1 M hx2 hx3 hy1 h
    unfold f_X4_write_J45 at h
    obtain ⟨M23, r24, hc25, h⟩ := cal_of h
    refine V_callVV (pc := 45) C (c_X4_addByte l Γ sk hsk fu hy1 hc25) cf_X4_addByte lk_X4_23 ⟨rfl, rfl⟩ ⟨Nat.le_of_ble_eq_true rfl, Nat.le_of_ble_eq_true rfl⟩ e50 rfl rfl rfl (Nat.le_of_ble_eq_true rfl) ⟨Nat.zero_le _, Nat.zero_le _⟩ rfl dX4_write_45 ?_
    refine V_sub (L' := [(0, vr Γ 50), (1, vr Γ 4), (2, vi x2), (3, vi x3)]) [0, 1, 2, 3] rfl (by decide) ?_
    exact JP48 _ (fun _ _ _ hz0 hz1 hz => hkk13 _ _ _ hz0 hz1 hz) hx2 hx3 h
  have LP13 : ∀ (n : Nat) {x2 : Int} {x3 : Int} {M : Mem}, rng x2 → rng x3 → f_X4_write_L13 fu n x2 x3 M = some (M', r) → VV p l e ({ frames := 5, cells := 0, slots := 0, locals := 109 } : Room) s m args below meth c (MQ below (PostV Γ sk M' s.heap.size) args s 0 0 (Fr Γ sk s.heap.size)) 4 Γ sk M 0 0 13 [(0, vr Γ 50), (1, vr Γ 4), (2, vi x2), (3, vi x3)] [] := by
    intro n
    induction n with
    | zero =>
      intro x2 x3 M hx2 hx3 h
      cases h
    | succ n ih =>
      intro x2 x3 M hx2 hx3 h
      rw [f_X4_write_L13] at h
      refine V_iload_n (pc := 13) C 3 rfl dX4_write_13 ?_
      refine V_aload_n (pc := 14) C 1 rfl dX4_write_14 ?_
      refine V_getR (pc := 15) C e4 rfl inX8 1 (by decide) rfl lf_X4_27 rfl dX4_write_15 ?_
      refine V_iload_n (pc := 18) C 2 rfl dX4_write_18 ?_
      obtain ⟨M4, r5, hc6, h⟩ := cal_of h
      refine V_callVI (pc := 19) C (c_X10_sizeAt l Γ sk hsk fu hx2 hc6) cf_X10_sizeAt lk_X4_33 ⟨rfl, rfl⟩ ⟨Nat.le_of_ble_eq_true rfl, Nat.le_of_ble_eq_true rfl⟩ e10 rfl rfl rfl (Nat.le_of_ble_eq_true rfl) ⟨Nat.zero_le _, Nat.zero_le _⟩ rfl dX4_write_19 (fun hr5 => ?_)
      refine V_icmp_ge (pc := 22) C 64 hx3 hr5 dX4_write_22 (by decide) (fun c22_7 => ?_) (fun c22_7 => ?_)
      · have h := ite_t h c22_7
        refine V_aload_n (pc := 64) C 0 rfl dX4_write_64 ?_
        refine V_bipush (pc := 65) C dX4_write_65 rfl ?_
        obtain ⟨M8, r9, hc10, h⟩ := cal_of h
        refine V_callVV (pc := 67) C (c_X4_addByte l Γ sk hsk fu (by decide) hc10) cf_X4_addByte lk_X4_23 ⟨rfl, rfl⟩ ⟨Nat.le_of_ble_eq_true rfl, Nat.le_of_ble_eq_true rfl⟩ e50 rfl rfl rfl (Nat.le_of_ble_eq_true rfl) ⟨Nat.zero_le _, Nat.zero_le _⟩ rfl dX4_write_67 ?_
        exact V_vret (pc := 70) C hr hlk h dX4_write_70
      · have h := ite_f h c22_7
        refine V_iload_n (pc := 25) C 3 rfl dX4_write_25 ?_
        refine V_if_le (pc := 26) C 48 hx3 dX4_write_26 (by decide) (fun c26_11 => ?_) (fun c26_11 => ?_)
        · have h := ite_t h c26_11
          refine V_sub (L' := [(0, vr Γ 50), (1, vr Γ 4), (2, vi x2), (3, vi x3)]) [0, 1, 2, 3] rfl (by decide) ?_
          exact JP48 _ (fun _ _ _ hz0 hz1 hz => ih hz0 hz1 hz) hx2 hx3 h
        · have h := ite_f h c26_11
          refine V_aload_n (pc := 29) C 0 rfl dX4_write_29 ?_
          refine V_iconst (pc := 30) C dX4_write_30 ?_
          refine V_iload_n (pc := 31) C 3 rfl dX4_write_31 ?_
          obtain ⟨M19, r20, hc21, h⟩ := cal_of h
          refine V_callNI (pc := 32) C (c_X11_positionIn l Γ sk hsk fu (by decide) hx3 hc21) cf_X11_positionIn ln_X4_39 ⟨rfl, rfl⟩ ⟨Nat.le_of_ble_eq_true rfl, Nat.le_of_ble_eq_true rfl⟩ rfl (Nat.le_of_ble_eq_true rfl) ⟨Nat.zero_le _, Nat.zero_le _⟩ rfl dX4_write_32 (fun hr20 => ?_)
          refine V_if_ne (pc := 35) C 43 hr20 dX4_write_35 (by decide) (fun c35_22 => ?_) (fun c35_22 => ?_)
          · have h := ite_f h c35_22
            refine V_bipush (pc := 43) C dX4_write_43 rfl ?_
            refine V_sub (L' := [(0, vr Γ 50), (1, vr Γ 4), (2, vi x2), (3, vi x3)]) [0, 1, 2, 3] rfl (by decide) ?_
            exact JP45 _ (fun _ _ _ hz0 hz1 hz => ih hz0 hz1 hz) hx2 hx3 (by decide) h
          · have h := ite_t h c35_22
            refine V_bipush (pc := 38) C dX4_write_38 rfl ?_
            refine V_goto (pc := 40) C 45 dX4_write_40 (by decide) ?_
            refine V_sub (L' := [(0, vr Γ 50), (1, vr Γ 4), (2, vi x2), (3, vi x3)]) [0, 1, 2, 3] rfl (by decide) ?_
            exact JP45 _ (fun _ _ _ hz0 hz1 hz => ih hz0 hz1 hz) hx2 hx3 (by decide) h
  skip
  refine V_aload_n (pc := 0) C 0 rfl dX4_write_0 ?_
  refine V_iconst (pc := 1) C dX4_write_1 ?_
  refine V_putI (pc := 2) C (by decide) e50 rfl inX4 tyX4 tyX4_ok nmX4 0 (by decide) rfl rfl lf_X4_15 rfl (by decide) rfl dX4_write_2 ?_
  refine V_aload_n (pc := 5) C 0 rfl dX4_write_5 ?_
  refine V_bipush (pc := 6) C dX4_write_6 rfl ?_
  obtain ⟨M1, r2, hc3, h⟩ := cal_of h
  refine V_callVV (pc := 8) C (c_X4_addByte l Γ sk hsk fu (by decide) hc3) cf_X4_addByte lk_X4_23 ⟨rfl, rfl⟩ ⟨Nat.le_of_ble_eq_true rfl, Nat.le_of_ble_eq_true rfl⟩ e50 rfl rfl rfl (Nat.le_of_ble_eq_true rfl) ⟨Nat.zero_le _, Nat.zero_le _⟩ rfl dX4_write_8 ?_
  refine V_iconst (pc := 11) C dX4_write_11 ?_
  refine V_istore_n (pc := 12) C (L' := [(0, vr Γ 50), (1, vr Γ 4), (2, vi a2), (3, vi (0 : Int))]) rfl (by decide) dX4_write_12 ?_
  refine V_sub (L' := [(0, vr Γ 50), (1, vr Γ 4), (2, vi a2), (3, vi (0 : Int))]) [0, 1, 2, 3] rfl (by decide) ?_
  exact LP13 fu  ha2 (by decide) h
set_option maxRecDepth 100000 in
set_option maxHeartbeats 4000000 in
theorem c_X12_thrown (l : Launch) (Γ : GG) (sk : List SD) (hsk : ExtM sk) (fu : Nat) {M M' : Mem}  {r : Int}  (h : f_X12_thrown fu M  = some (M', r)) : MetI l yX12_thrown cX12_thrown 1 .int ({ frames := 0, cells := 0, slots := 0, locals := 0 } : Room) Γ sk [vr Γ 52] M M' r := by
  unfold f_X12_thrown at h
  refine MetI_of RX12 rfl (by decide) rfl (Nat.le_of_ble_eq_true rfl) rfl ?_
  intro p e s m args below meth c C hr hlk hM
  have e52 := hsk 52 _ (by decide) rfl
  refine V_aload_n (pc := 0) C 0 rfl dX12_thrown_0 ?_
  refine V_getI (pc := 1) C e52 rfl inX12 6 (by decide) rfl lf_X12_58 rfl dX12_thrown_1 ?_
  exact V_iret (pc := 4) C hr hlk (hM _ _) h dX12_thrown_4
set_option maxRecDepth 100000 in
set_option maxHeartbeats 4000000 in
theorem c_X12_one (l : Launch) (Γ : GG) (sk : List SD) (hsk : ExtM sk) (fu : Nat) {M M' : Mem} {a0 : Int} {r : Int} (ha0 : rng a0) (h : f_X12_one fu M a0 = some (M', r)) : MetI l yX12_one cX12_one 1 .int ({ frames := 0, cells := 0, slots := 0, locals := 0 } : Room) Γ sk [vi a0] M M' r := by
  unfold f_X12_one at h
  refine MetI_of RX12 rfl (by decide) rfl (Nat.le_of_ble_eq_true rfl) rfl ?_
  intro p e s m args below meth c C hr hlk hM
  refine V_iload_n (pc := 0) C 0 rfl dX12_one_0 ?_
  refine V_if_eq (pc := 1) C 8 ha0 dX12_one_1 (by decide) (fun c1_1 => ?_) (fun c1_1 => ?_)
  · have h := ite_t h c1_1
    refine V_iconst (pc := 8) C dX12_one_8 ?_
    exact V_iret (pc := 9) C hr hlk (by decide) h dX12_one_9
  · have h := ite_f h c1_1
    refine V_iconst (pc := 4) C dX12_one_4 ?_
    refine V_goto (pc := 5) C 9 dX12_one_5 (by decide) ?_
    exact V_iret (pc := 9) C hr hlk (by decide) h dX12_one_9
set_option maxRecDepth 100000 in
set_option maxHeartbeats 4000000 in
theorem c_X12_check (l : Launch) (Γ : GG) (sk : List SD) (hsk : ExtM sk) (fu : Nat) {M M' : Mem} {a1 : Int} {a2 : Int} {a3 : Int} {r : Int} (ha1 : rng a1) (ha2 : rng a2) (ha3 : rng a3) (h : f_X12_check fu M a1 a2 a3 = some (M', r)) : MetI l yX12_check cX12_check 4 .boolean ({ frames := 0, cells := 0, slots := 0, locals := 0 } : Room) Γ sk [vr Γ 52, vi a1, vi a2, vi a3] M M' r := by
  unfold f_X12_check at h
  refine MetI_of RX12 rfl (by decide) rfl (Nat.le_of_ble_eq_true rfl) rfl ?_
  intro p e s m args below meth c C hr hlk hM
  have e52 := hsk 52 _ (by decide) rfl
  have JP26 : ∀ {y1 : Int} {M : Mem}, rng y1 → f_X12_check_J26 fu y1 M = some (M', r) → VV p l e ({ frames := 0, cells := 0, slots := 0, locals := 0 } : Room) s m args below meth c (MQ below (PostI Γ sk M' r s.heap.size) args s 0 0 (Fr Γ sk s.heap.size)) 4 Γ sk M 0 0 26 [(0, vr Γ 52)] [vi y1, vr Γ 52] := by
    intro y1 M hy1 h
    unfold f_X12_check_J26 at h
    refine V_putI (pc := 26) C (by decide) e52 rfl inX12 tyX12 tyX12_ok nmX12 6 (by decide) rfl rfl lf_X12_58 rfl hy1 rfl dX12_check_26 ?_
    refine V_aload_n (pc := 29) C 0 rfl dX12_check_29 ?_
    refine V_rng fun hM4 => ?_
    refine V_getI (pc := 30) C e52 rfl inX12 6 (by decide) rfl lf_X12_58 rfl dX12_check_30 ?_
    refine V_if_ne (pc := 33) C 40 (hM4 _ _) dX12_check_33 (by decide) (fun c33_5 => ?_) (fun c33_5 => ?_)
    · have h := ite_f h c33_5
      refine V_iconst (pc := 40) C dX12_check_40 ?_
      exact V_zret (pc := 41) C hr hlk (by decide) h dX12_check_41
    · have h := ite_t h c33_5
      refine V_iconst (pc := 36) C dX12_check_36 ?_
      refine V_goto (pc := 37) C 41 dX12_check_37 (by decide) ?_
      exact V_zret (pc := 41) C hr hlk (by decide) h dX12_check_41
  skip
  refine V_aload_n (pc := 0) C 0 rfl dX12_check_0 ?_
  refine V_iload_n (pc := 1) C 1 rfl dX12_check_1 ?_
  refine V_if_ne (pc := 2) C 9 ha1 dX12_check_2 (by decide) (fun c2_1 => ?_) (fun c2_1 => ?_)
  · have h := ite_f h c2_1
    refine V_iload_n (pc := 9) C 2 rfl dX12_check_9 ?_
    refine V_if_ne (pc := 10) C 17 ha2 dX12_check_10 (by decide) (fun c10_2 => ?_) (fun c10_2 => ?_)
    · have h := ite_f h c10_2
      refine V_iload_n (pc := 17) C 3 rfl dX12_check_17 ?_
      refine V_if_ne (pc := 18) C 25 ha3 dX12_check_18 (by decide) (fun c18_3 => ?_) (fun c18_3 => ?_)
      · have h := ite_f h c18_3
        refine V_iconst (pc := 25) C dX12_check_25 ?_
        refine V_sub (L' := [(0, vr Γ 52)]) [0] rfl (by decide) ?_
        exact JP26 (by decide) h
      · have h := ite_t h c18_3
        refine V_iconst (pc := 21) C dX12_check_21 ?_
        refine V_goto (pc := 22) C 26 dX12_check_22 (by decide) ?_
        refine V_sub (L' := [(0, vr Γ 52)]) [0] rfl (by decide) ?_
        exact JP26 (by decide) h
    · have h := ite_t h c10_2
      refine V_iconst (pc := 13) C dX12_check_13 ?_
      refine V_goto (pc := 14) C 26 dX12_check_14 (by decide) ?_
      refine V_sub (L' := [(0, vr Γ 52)]) [0] rfl (by decide) ?_
      exact JP26 (by decide) h
  · have h := ite_t h c2_1
    refine V_iconst (pc := 5) C dX12_check_5 ?_
    refine V_goto (pc := 6) C 26 dX12_check_6 (by decide) ?_
    refine V_sub (L' := [(0, vr Γ 52)]) [0] rfl (by decide) ?_
    exact JP26 (by decide) h
set_option maxRecDepth 100000 in
set_option maxHeartbeats 4000000 in
theorem c_X12_v (l : Launch) (Γ : GG) (sk : List SD) (hsk : ExtM sk) (fu : Nat) {M M' : Mem} {a0 : Int} {r : Int} (ha0 : rng a0) (h : f_X12_v fu M a0 = some (M', r)) : MetI l yX12_v cX12_v 1 .int ({ frames := 0, cells := 0, slots := 0, locals := 0 } : Room) Γ sk [vi a0] M M' r := by
  unfold f_X12_v at h
  refine MetI_of RX12 rfl (by decide) rfl (Nat.le_of_ble_eq_true rfl) rfl ?_
  intro p e s m args below meth c C hr hlk hM
  refine V_bipush (pc := 0) C dX12_v_0 rfl ?_
  refine V_bipush (pc := 2) C dX12_v_2 rfl ?_
  refine V_iload_n (pc := 4) C 0 rfl dX12_v_4 ?_
  refine V_imul (pc := 5) C dX12_v_5 ?_
  refine V_iadd (pc := 6) C dX12_v_6 ?_
  obtain ⟨g1, h⟩ := grd_of h
  exact V_iret (pc := 7) C hr hlk g1 h dX12_v_7
set_option maxRecDepth 100000 in
set_option maxHeartbeats 4000000 in
theorem c_X12_e (l : Launch) (Γ : GG) (sk : List SD) (hsk : ExtM sk) (fu : Nat) {M M' : Mem} {a0 : Int} {r : Int} (ha0 : rng a0) (h : f_X12_e fu M a0 = some (M', r)) : MetI l yX12_e cX12_e 1 .int ({ frames := 0, cells := 0, slots := 0, locals := 0 } : Room) Γ sk [vi a0] M M' r := by
  unfold f_X12_e at h
  refine MetI_of RX12 rfl (by decide) rfl (Nat.le_of_ble_eq_true rfl) rfl ?_
  intro p e s m args below meth c C hr hlk hM
  refine V_sipush (pc := 0) C dX12_e_0 rfl ?_
  refine V_bipush (pc := 3) C dX12_e_3 rfl ?_
  refine V_iload_n (pc := 5) C 0 rfl dX12_e_5 ?_
  refine V_imul (pc := 6) C dX12_e_6 ?_
  refine V_iadd (pc := 7) C dX12_e_7 ?_
  obtain ⟨g1, h⟩ := grd_of h
  exact V_iret (pc := 8) C hr hlk g1 h dX12_e_8
set_option maxRecDepth 100000 in
set_option maxHeartbeats 4000000 in
theorem c_X12_n (l : Launch) (Γ : GG) (sk : List SD) (hsk : ExtM sk) (fu : Nat) {M M' : Mem} {a0 : Int} {r : Int} (ha0 : rng a0) (h : f_X12_n fu M a0 = some (M', r)) : MetI l yX12_n cX12_n 1 .int ({ frames := 0, cells := 0, slots := 0, locals := 0 } : Room) Γ sk [vi a0] M M' r := by
  unfold f_X12_n at h
  refine MetI_of RX12 rfl (by decide) rfl (Nat.le_of_ble_eq_true rfl) rfl ?_
  intro p e s m args below meth c C hr hlk hM
  refine V_sipush (pc := 0) C dX12_n_0 rfl ?_
  refine V_bipush (pc := 3) C dX12_n_3 rfl ?_
  refine V_iload_n (pc := 5) C 0 rfl dX12_n_5 ?_
  refine V_imul (pc := 6) C dX12_n_6 ?_
  refine V_iadd (pc := 7) C dX12_n_7 ?_
  obtain ⟨g1, h⟩ := grd_of h
  exact V_iret (pc := 8) C hr hlk g1 h dX12_n_8
set_option maxRecDepth 100000 in
set_option maxHeartbeats 4000000 in
theorem c_X12_clear (l : Launch) (Γ : GG) (sk : List SD) (hsk : ExtM sk) (fu : Nat) {M M' : Mem}  {r : Int}  (h : f_X12_clear fu M  = some (M', r)) : MetV l yX12_clear cX12_clear 2 ({ frames := 0, cells := 0, slots := 0, locals := 0 } : Room) Γ sk [vr Γ 52] M M' := by
  unfold f_X12_clear at h
  refine MetV_of RX12 rfl (by decide) rfl (Nat.le_of_ble_eq_true rfl) rfl ?_
  intro p e s m args below meth c C hr hlk hM
  have e52 := hsk 52 _ (by decide) rfl
  have e53 := hsk 53 _ (by decide) rfl
  have LP2 : ∀ (n : Nat) {x1 : Int} {M : Mem}, rng x1 → f_X12_clear_L2 fu n x1 M = some (M', r) → VV p l e ({ frames := 0, cells := 0, slots := 0, locals := 0 } : Room) s m args below meth c (MQ below (PostV Γ sk M' s.heap.size) args s 0 0 (Fr Γ sk s.heap.size)) 2 Γ sk M 0 0 2 [(0, vr Γ 52), (1, vi x1)] [] := by
    intro n
    induction n with
    | zero =>
      intro x1 M hx1 h
      cases h
    | succ n ih =>
      intro x1 M hx1 h
      rw [f_X12_clear_L2] at h
      refine V_iload_n (pc := 2) C 1 rfl dX12_clear_2 ?_
      refine V_sipush (pc := 3) C dX12_clear_3 rfl ?_
      refine V_icmp_ge (pc := 6) C 22 hx1 (by decide) dX12_clear_6 (by decide) (fun c6_1 => ?_) (fun c6_1 => ?_)
      · have h := ite_t h c6_1
        exact V_vret (pc := 22) C hr hlk h dX12_clear_22
      · have h := ite_f h c6_1
        refine V_aload_n (pc := 9) C 0 rfl dX12_clear_9 ?_
        refine V_getR (pc := 10) C e52 rfl inX12 0 (by decide) rfl lf_X12_9 rfl dX12_clear_10 ?_
        refine V_iload_n (pc := 13) C 1 rfl dX12_clear_13 ?_
        refine V_iconst (pc := 14) C dX12_clear_14 ?_
        obtain ⟨g2, h⟩ := grd_of h
        refine V_iast (pc := 15) C (by decide) e53 g2 hx1 (by decide) dX12_clear_15 ?_
        refine V_iinc (pc := 16) C (L' := [(0, vr Γ 52), (1, vi (x1 + (1 : Int)))]) 1 rfl rfl (by decide) dX12_clear_16 ?_
        refine V_goto (pc := 19) C 2 dX12_clear_19 (by decide) ?_
        obtain ⟨g3, h⟩ := grd_of h
        refine V_sub (L' := [(0, vr Γ 52), (1, vi (x1 + (1 : Int)))]) [0, 1] rfl (by decide) ?_
        exact ih g3 h
  skip
  refine V_iconst (pc := 0) C dX12_clear_0 ?_
  refine V_istore_n (pc := 1) C (L' := [(0, vr Γ 52), (1, vi (0 : Int))]) rfl (by decide) dX12_clear_1 ?_
  refine V_sub (L' := [(0, vr Γ 52), (1, vi (0 : Int))]) [0, 1] rfl (by decide) ?_
  exact LP2 fu  (by decide) h
set_option maxRecDepth 100000 in
set_option maxHeartbeats 4000000 in
theorem c_X12_copyTo (l : Launch) (Γ : GG) (sk : List SD) (hsk : ExtM sk) (fu : Nat) {M M' : Mem} {k1 : Nat} {n1 : Nat} {r : Int} (hk1 : sk[k1]? = some (.inl (0, n1))) (hn1 : n1 ≤ 2147483647) (hm1 : 3 ≤ k1) (h : f_X12_copyTo fu M k1 n1 = some (M', r)) : MetV l yX12_copyTo cX12_copyTo 3 ({ frames := 0, cells := 0, slots := 0, locals := 0 } : Room) Γ sk [vr Γ 52, vr Γ k1] M M' := by
  unfold f_X12_copyTo at h
  refine MetV_of RX12 rfl (by decide) rfl (Nat.le_of_ble_eq_true rfl) rfl ?_
  intro p e s m args below meth c C hr hlk hM
  have e52 := hsk 52 _ (by decide) rfl
  have e53 := hsk 53 _ (by decide) rfl
  have LP2 : ∀ (n : Nat) {x2 : Int} {M : Mem}, rng x2 → f_X12_copyTo_L2 fu k1 n1 n x2 M = some (M', r) → VV p l e ({ frames := 0, cells := 0, slots := 0, locals := 0 } : Room) s m args below meth c (MQ below (PostV Γ sk M' s.heap.size) args s 0 0 (Fr Γ sk s.heap.size)) 3 Γ sk M 0 0 2 [(0, vr Γ 52), (1, vr Γ k1), (2, vi x2)] [] := by
    intro n
    induction n with
    | zero =>
      intro x2 M hx2 h
      cases h
    | succ n ih =>
      intro x2 M hx2 h
      rw [f_X12_copyTo_L2] at h
      refine V_iload_n (pc := 2) C 2 rfl dX12_copyTo_2 ?_
      refine V_sipush (pc := 3) C dX12_copyTo_3 rfl ?_
      refine V_icmp_ge (pc := 6) C 24 hx2 (by decide) dX12_copyTo_6 (by decide) (fun c6_1 => ?_) (fun c6_1 => ?_)
      · have h := ite_t h c6_1
        exact V_vret (pc := 24) C hr hlk h dX12_copyTo_24
      · have h := ite_f h c6_1
        refine V_aload_n (pc := 9) C 1 rfl dX12_copyTo_9 ?_
        refine V_iload_n (pc := 10) C 2 rfl dX12_copyTo_10 ?_
        refine V_aload_n (pc := 11) C 0 rfl dX12_copyTo_11 ?_
        refine V_getR (pc := 12) C e52 rfl inX12 0 (by decide) rfl lf_X12_9 rfl dX12_copyTo_12 ?_
        refine V_iload_n (pc := 15) C 2 rfl dX12_copyTo_15 ?_
        refine V_rng fun hM2 => ?_
        obtain ⟨g3, h⟩ := grd_of h
        refine V_iald (pc := 16) C e53 g3 hx2 dX12_copyTo_16 ?_
        obtain ⟨g4, h⟩ := grd_of h
        refine V_iast (pc := 17) C hm1 hk1 g4 hx2 (hM2 _ _) dX12_copyTo_17 ?_
        refine V_iinc (pc := 18) C (L' := [(0, vr Γ 52), (1, vr Γ k1), (2, vi (x2 + (1 : Int)))]) 2 rfl rfl (by decide) dX12_copyTo_18 ?_
        refine V_goto (pc := 21) C 2 dX12_copyTo_21 (by decide) ?_
        obtain ⟨g5, h⟩ := grd_of h
        refine V_sub (L' := [(0, vr Γ 52), (1, vr Γ k1), (2, vi (x2 + (1 : Int)))]) [0, 1, 2] rfl (by decide) ?_
        exact ih g5 h
  skip
  refine V_iconst (pc := 0) C dX12_copyTo_0 ?_
  refine V_istore_n (pc := 1) C (L' := [(0, vr Γ 52), (1, vr Γ k1), (2, vi (0 : Int))]) rfl (by decide) dX12_copyTo_1 ?_
  refine V_sub (L' := [(0, vr Γ 52), (1, vr Γ k1), (2, vi (0 : Int))]) [0, 1, 2] rfl (by decide) ?_
  exact LP2 fu  (by decide) h
set_option maxRecDepth 100000 in
set_option maxHeartbeats 4000000 in
theorem c_X12_remember (l : Launch) (Γ : GG) (sk : List SD) (hsk : ExtM sk) (fu : Nat) {M M' : Mem}  {r : Int}  (h : f_X12_remember fu M  = some (M', r)) : MetV l yX12_remember cX12_remember 2 ({ frames := 0, cells := 0, slots := 0, locals := 0 } : Room) Γ sk [vr Γ 52] M M' := by
  unfold f_X12_remember at h
  refine MetV_of RX12 rfl (by decide) rfl (Nat.le_of_ble_eq_true rfl) rfl ?_
  intro p e s m args below meth c C hr hlk hM
  have e52 := hsk 52 _ (by decide) rfl
  have e53 := hsk 53 _ (by decide) rfl
  have e56 := hsk 56 _ (by decide) rfl
  have LP53 : ∀ (n : Nat) {x1 : Int} {M : Mem}, rng x1 → f_X12_remember_L53 fu n x1 M = some (M', r) → VV p l e ({ frames := 0, cells := 0, slots := 0, locals := 0 } : Room) s m args below meth c (MQ below (PostV Γ sk M' s.heap.size) args s 0 0 (Fr Γ sk s.heap.size)) 2 Γ sk M 0 0 53 [(0, vr Γ 52), (1, vi x1)] [] := by
    intro n
    induction n with
    | zero =>
      intro x1 M hx1 h
      cases h
    | succ n ih =>
      intro x1 M hx1 h
      rw [f_X12_remember_L53] at h
      refine V_iload_n (pc := 53) C 1 rfl dX12_remember_53 ?_
      refine V_sipush (pc := 54) C dX12_remember_54 rfl ?_
      refine V_icmp_ge (pc := 57) C 87 hx1 (by decide) dX12_remember_57 (by decide) (fun c57_2 => ?_) (fun c57_2 => ?_)
      · have h := ite_t h c57_2
        refine V_aload_n (pc := 87) C 0 rfl dX12_remember_87 ?_
        refine V_dup (pc := 88) C rfl dX12_remember_88 ?_
        refine V_rng fun hM3 => ?_
        refine V_getI (pc := 89) C e52 rfl inX12 4 (by decide) rfl lf_X12_61 rfl dX12_remember_89 ?_
        refine V_iconst (pc := 92) C dX12_remember_92 ?_
        refine V_iadd (pc := 93) C dX12_remember_93 ?_
        obtain ⟨g4, h⟩ := grd_of h
        refine V_putI (pc := 94) C (by decide) e52 rfl inX12 tyX12 tyX12_ok nmX12 4 (by decide) rfl rfl lf_X12_61 rfl g4 rfl dX12_remember_94 ?_
        exact V_vret (pc := 97) C hr hlk h dX12_remember_97
      · have h := ite_f h c57_2
        refine V_aload_n (pc := 60) C 0 rfl dX12_remember_60 ?_
        refine V_getR (pc := 61) C e52 rfl inX12 3 (by decide) rfl lf_X12_20 rfl dX12_remember_61 ?_
        refine V_sipush (pc := 64) C dX12_remember_64 rfl ?_
        refine V_aload_n (pc := 67) C 0 rfl dX12_remember_67 ?_
        refine V_rng fun hM5 => ?_
        refine V_getI (pc := 68) C e52 rfl inX12 4 (by decide) rfl lf_X12_61 rfl dX12_remember_68 ?_
        refine V_imul (pc := 71) C dX12_remember_71 ?_
        refine V_iload_n (pc := 72) C 1 rfl dX12_remember_72 ?_
        refine V_iadd (pc := 73) C dX12_remember_73 ?_
        refine V_aload_n (pc := 74) C 0 rfl dX12_remember_74 ?_
        refine V_getR (pc := 75) C e52 rfl inX12 0 (by decide) rfl lf_X12_9 rfl dX12_remember_75 ?_
        refine V_iload_n (pc := 78) C 1 rfl dX12_remember_78 ?_
        obtain ⟨g6, h⟩ := grd_of h
        refine V_iald (pc := 79) C e53 g6 hx1 dX12_remember_79 ?_
        obtain ⟨g7, h⟩ := grd_of h
        obtain ⟨g8, h⟩ := grd_of h
        refine V_iast (pc := 80) C (by decide) e56 g8 g7 (hM5 _ _) dX12_remember_80 ?_
        refine V_iinc (pc := 81) C (L' := [(0, vr Γ 52), (1, vi (x1 + (1 : Int)))]) 1 rfl rfl (by decide) dX12_remember_81 ?_
        refine V_goto (pc := 84) C 53 dX12_remember_84 (by decide) ?_
        obtain ⟨g9, h⟩ := grd_of h
        refine V_sub (L' := [(0, vr Γ 52), (1, vi (x1 + (1 : Int)))]) [0, 1] rfl (by decide) ?_
        exact ih g9 h
  have JP51 : ∀ {M : Mem}, f_X12_remember_J51 fu M = some (M', r) → VV p l e ({ frames := 0, cells := 0, slots := 0, locals := 0 } : Room) s m args below meth c (MQ below (PostV Γ sk M' s.heap.size) args s 0 0 (Fr Γ sk s.heap.size)) 2 Γ sk M 0 0 51 [(0, vr Γ 52)] [] := by
    intro M h
    unfold f_X12_remember_J51 at h
    refine V_iconst (pc := 51) C dX12_remember_51 ?_
    refine V_istore_n (pc := 52) C (L' := [(0, vr Γ 52), (1, vi (0 : Int))]) rfl (by decide) dX12_remember_52 ?_
    refine V_sub (L' := [(0, vr Γ 52), (1, vi (0 : Int))]) [0, 1] rfl (by decide) ?_
    exact LP53 fu  (by decide) h
  have LP13 : ∀ (n : Nat) {x1 : Int} {M : Mem}, rng x1 → f_X12_remember_L13 fu n x1 M = some (M', r) → VV p l e ({ frames := 0, cells := 0, slots := 0, locals := 0 } : Room) s m args below meth c (MQ below (PostV Γ sk M' s.heap.size) args s 0 0 (Fr Γ sk s.heap.size)) 2 Γ sk M 0 0 13 [(0, vr Γ 52), (1, vi x1)] [] := by
    intro n
    induction n with
    | zero =>
      intro x1 M hx1 h
      cases h
    | succ n ih =>
      intro x1 M hx1 h
      rw [f_X12_remember_L13] at h
      refine V_iload_n (pc := 13) C 1 rfl dX12_remember_13 ?_
      refine V_ldc (pc := 14) C (n := 33680) lc_X12_19 rfl dX12_remember_14 ?_
      refine V_icmp_ge (pc := 16) C 41 hx1 (by decide) dX12_remember_16 (by decide) (fun c16_10 => ?_) (fun c16_10 => ?_)
      · have h := ite_t h c16_10
        refine V_aload_n (pc := 41) C 0 rfl dX12_remember_41 ?_
        refine V_dup (pc := 42) C rfl dX12_remember_42 ?_
        refine V_rng fun hM11 => ?_
        refine V_getI (pc := 43) C e52 rfl inX12 4 (by decide) rfl lf_X12_61 rfl dX12_remember_43 ?_
        refine V_iconst (pc := 46) C dX12_remember_46 ?_
        refine V_isub (pc := 47) C dX12_remember_47 ?_
        obtain ⟨g12, h⟩ := grd_of h
        refine V_putI (pc := 48) C (by decide) e52 rfl inX12 tyX12 tyX12_ok nmX12 4 (by decide) rfl rfl lf_X12_61 rfl g12 rfl dX12_remember_48 ?_
        refine V_sub (L' := [(0, vr Γ 52)]) [0] rfl (by decide) ?_
        exact JP51 h
      · have h := ite_f h c16_10
        refine V_aload_n (pc := 19) C 0 rfl dX12_remember_19 ?_
        refine V_getR (pc := 20) C e52 rfl inX12 3 (by decide) rfl lf_X12_20 rfl dX12_remember_20 ?_
        refine V_iload_n (pc := 23) C 1 rfl dX12_remember_23 ?_
        refine V_sipush (pc := 24) C dX12_remember_24 rfl ?_
        refine V_isub (pc := 27) C dX12_remember_27 ?_
        refine V_aload_n (pc := 28) C 0 rfl dX12_remember_28 ?_
        refine V_getR (pc := 29) C e52 rfl inX12 3 (by decide) rfl lf_X12_20 rfl dX12_remember_29 ?_
        refine V_iload_n (pc := 32) C 1 rfl dX12_remember_32 ?_
        refine V_rng fun hM13 => ?_
        obtain ⟨g14, h⟩ := grd_of h
        refine V_iald (pc := 33) C e56 g14 hx1 dX12_remember_33 ?_
        obtain ⟨g15, h⟩ := grd_of h
        obtain ⟨g16, h⟩ := grd_of h
        refine V_iast (pc := 34) C (by decide) e56 g16 g15 (hM13 _ _) dX12_remember_34 ?_
        refine V_iinc (pc := 35) C (L' := [(0, vr Γ 52), (1, vi (x1 + (1 : Int)))]) 1 rfl rfl (by decide) dX12_remember_35 ?_
        refine V_goto (pc := 38) C 13 dX12_remember_38 (by decide) ?_
        obtain ⟨g17, h⟩ := grd_of h
        refine V_sub (L' := [(0, vr Γ 52), (1, vi (x1 + (1 : Int)))]) [0, 1] rfl (by decide) ?_
        exact ih g17 h
  skip
  refine V_aload_n (pc := 0) C 0 rfl dX12_remember_0 ?_
  refine V_getI (pc := 1) C e52 rfl inX12 4 (by decide) rfl lf_X12_61 rfl dX12_remember_1 ?_
  refine V_bipush (pc := 4) C dX12_remember_4 rfl ?_
  refine V_icmp_ne (pc := 6) C 51 (hM _ _) (by decide) dX12_remember_6 (by decide) (fun c6_1 => ?_) (fun c6_1 => ?_)
  · have h := ite_f h c6_1
    refine V_sub (L' := [(0, vr Γ 52)]) [0] rfl (by decide) ?_
    exact JP51 h
  · have h := ite_t h c6_1
    refine V_sipush (pc := 9) C dX12_remember_9 rfl ?_
    refine V_istore_n (pc := 12) C (L' := [(0, vr Γ 52), (1, vi (4210 : Int))]) rfl (by decide) dX12_remember_12 ?_
    refine V_sub (L' := [(0, vr Γ 52), (1, vi (4210 : Int))]) [0, 1] rfl (by decide) ?_
    exact LP13 fu  (by decide) h
set_option maxRecDepth 100000 in
set_option maxHeartbeats 4000000 in
theorem c_X12_span (l : Launch) (Γ : GG) (sk : List SD) (hsk : ExtM sk) (fu : Nat) {M M' : Mem} {a0 : Int} {r : Int} (ha0 : rng a0) (h : f_X12_span fu M a0 = some (M', r)) : MetI l yX12_span cX12_span 3 .int ({ frames := 0, cells := 0, slots := 0, locals := 0 } : Room) Γ sk [vi a0] M M' r := by
  unfold f_X12_span at h
  refine MetI_of RX12 rfl (by decide) rfl (Nat.le_of_ble_eq_true rfl) rfl ?_
  intro p e s m args below meth c C hr hlk hM
  have LP4 : ∀ (n : Nat) {x0 : Int} {x1 : Int} {x2 : Int} {M : Mem}, rng x0 → rng x1 → rng x2 → f_X12_span_L4 fu n x0 x1 x2 M = some (M', r) → VV p l e ({ frames := 0, cells := 0, slots := 0, locals := 0 } : Room) s m args below meth c (MQ below (PostI Γ sk M' r s.heap.size) args s 0 0 (Fr Γ sk s.heap.size)) 3 Γ sk M 0 0 4 [(0, vi x0), (1, vi x1), (2, vi x2)] [] := by
    intro n
    induction n with
    | zero =>
      intro x0 x1 x2 M hx0 hx1 hx2 h
      cases h
    | succ n ih =>
      intro x0 x1 x2 M hx0 hx1 hx2 h
      rw [f_X12_span_L4] at h
      refine V_iload_n (pc := 4) C 2 rfl dX12_span_4 ?_
      refine V_iload_n (pc := 5) C 0 rfl dX12_span_5 ?_
      refine V_icmp_ge (pc := 6) C 19 hx2 hx0 dX12_span_6 (by decide) (fun c6_1 => ?_) (fun c6_1 => ?_)
      · have h := ite_t h c6_1
        refine V_iload_n (pc := 19) C 1 rfl dX12_span_19 ?_
        exact V_iret (pc := 20) C hr hlk hx1 h dX12_span_20
      · have h := ite_f h c6_1
        refine V_iload_n (pc := 9) C 1 rfl dX12_span_9 ?_
        refine V_iconst (pc := 10) C dX12_span_10 ?_
        refine V_imul (pc := 11) C dX12_span_11 ?_
        refine V_istore_n (pc := 12) C (L' := [(0, vi x0), (1, vi (x1 * (4 : Int))), (2, vi x2)]) rfl (by decide) dX12_span_12 ?_
        refine V_iinc (pc := 13) C (L' := [(0, vi x0), (1, vi (x1 * (4 : Int))), (2, vi (x2 + (1 : Int)))]) 2 rfl rfl (by decide) dX12_span_13 ?_
        refine V_goto (pc := 16) C 4 dX12_span_16 (by decide) ?_
        obtain ⟨g2, h⟩ := grd_of h
        obtain ⟨g3, h⟩ := grd_of h
        refine V_sub (L' := [(0, vi x0), (1, vi (x1 * (4 : Int))), (2, vi (x2 + (1 : Int)))]) [0, 1, 2] rfl (by decide) ?_
        exact ih hx0 g2 g3 h
  skip
  refine V_iconst (pc := 0) C dX12_span_0 ?_
  refine V_istore_n (pc := 1) C (L' := [(0, vi a0), (1, vi (1 : Int))]) rfl (by decide) dX12_span_1 ?_
  refine V_iconst (pc := 2) C dX12_span_2 ?_
  refine V_istore_n (pc := 3) C (L' := [(0, vi a0), (1, vi (1 : Int)), (2, vi (0 : Int))]) rfl (by decide) dX12_span_3 ?_
  refine V_sub (L' := [(0, vi a0), (1, vi (1 : Int)), (2, vi (0 : Int))]) [0, 1, 2] rfl (by decide) ?_
  exact LP4 fu  ha0 (by decide) (by decide) h
set_option maxRecDepth 100000 in
set_option maxHeartbeats 4000000 in
theorem c_X12_heightFor (l : Launch) (Γ : GG) (sk : List SD) (hsk : ExtM sk) (fu : Nat) {M M' : Mem} {a0 : Int} {r : Int} (ha0 : rng a0) (h : f_X12_heightFor fu M a0 = some (M', r)) : MetI l yX12_heightFor cX12_heightFor 2 .int ({ frames := 1, cells := 0, slots := 0, locals := 22 } : Room) Γ sk [vi a0] M M' r := by
  unfold f_X12_heightFor at h
  refine MetI_of RX12 rfl (by decide) rfl (Nat.le_of_ble_eq_true rfl) rfl ?_
  intro p e s m args below meth c C hr hlk hM
  have LP8 : ∀ (n : Nat) {x0 : Int} {x1 : Int} {M : Mem}, rng x0 → rng x1 → f_X12_heightFor_L8 fu n x0 x1 M = some (M', r) → VV p l e ({ frames := 1, cells := 0, slots := 0, locals := 22 } : Room) s m args below meth c (MQ below (PostI Γ sk M' r s.heap.size) args s 0 0 (Fr Γ sk s.heap.size)) 2 Γ sk M 0 0 8 [(0, vi x0), (1, vi x1)] [] := by
    intro n
    induction n with
    | zero =>
      intro x0 x1 M hx0 hx1 h
      cases h
    | succ n ih =>
      intro x0 x1 M hx0 hx1 h
      rw [f_X12_heightFor_L8] at h
      refine V_iload_n (pc := 8) C 1 rfl dX12_heightFor_8 ?_
      obtain ⟨M2, r3, hc4, h⟩ := cal_of h
      refine V_callSI (pc := 9) C (c_X12_span l Γ sk hsk fu hx1 hc4) cf_X12_span lk_X12_64 ⟨rfl, rfl⟩ ⟨Nat.le_of_ble_eq_true rfl, Nat.le_of_ble_eq_true rfl⟩ rfl (Nat.le_of_ble_eq_true rfl) ⟨Nat.zero_le _, Nat.zero_le _⟩ rfl dX12_heightFor_9 (fun hr3 => ?_)
      refine V_iload_n (pc := 12) C 0 rfl dX12_heightFor_12 ?_
      refine V_icmp_ge (pc := 13) C 22 hr3 hx0 dX12_heightFor_13 (by decide) (fun c13_5 => ?_) (fun c13_5 => ?_)
      · have h := ite_t h c13_5
        refine V_iload_n (pc := 22) C 1 rfl dX12_heightFor_22 ?_
        exact V_iret (pc := 23) C hr hlk hx1 h dX12_heightFor_23
      · have h := ite_f h c13_5
        refine V_iinc (pc := 16) C (L' := [(0, vi x0), (1, vi (x1 + (1 : Int)))]) 1 rfl rfl (by decide) dX12_heightFor_16 ?_
        refine V_goto (pc := 19) C 8 dX12_heightFor_19 (by decide) ?_
        obtain ⟨g6, h⟩ := grd_of h
        refine V_sub (L' := [(0, vi x0), (1, vi (x1 + (1 : Int)))]) [0, 1] rfl (by decide) ?_
        exact ih hx0 g6 h
  skip
  refine V_iload_n (pc := 0) C 0 rfl dX12_heightFor_0 ?_
  refine V_if_ne (pc := 1) C 6 ha0 dX12_heightFor_1 (by decide) (fun c1_1 => ?_) (fun c1_1 => ?_)
  · have h := ite_f h c1_1
    refine V_iconst (pc := 6) C dX12_heightFor_6 ?_
    refine V_istore_n (pc := 7) C (L' := [(0, vi a0), (1, vi (1 : Int))]) rfl (by decide) dX12_heightFor_7 ?_
    refine V_sub (L' := [(0, vi a0), (1, vi (1 : Int))]) [0, 1] rfl (by decide) ?_
    exact LP8 fu  ha0 (by decide) h
  · have h := ite_t h c1_1
    refine V_iconst (pc := 4) C dX12_heightFor_4 ?_
    exact V_iret (pc := 5) C hr hlk (by decide) h dX12_heightFor_5
