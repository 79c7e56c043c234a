set_option maxRecDepth 100000 in
set_option maxHeartbeats 4000000 in
theorem c_X9_advance (l : Launch) (Γ : GG) (sk : List SD) (hsk : Ext sk) (fu : Nat) {M M' : Mem}  {r : Int}  (h : f_X9_advance fu M  = some (M', r)) : MetI l yX9_advance cX9_advance 2 .boolean ({ frames := 15, cells := 0, slots := 0, locals := 462 } : Room) Γ sk [vr Γ 45] M M' r := by
  unfold f_X9_advance at h
  refine MetI_of RX9 rfl (by decide) rfl (Nat.le_of_ble_eq_true rfl) rfl ?_
  intro p e s m args below meth c C hr hlk hM
  have e43 := hsk 43 _ (by decide) rfl
  have e45 := hsk 45 _ (by decide) rfl
  have JP122 : ∀ {x1 : Int} {M : Mem}, rng x1 → f_X9_advance_J122 fu x1 M = some (M', r) → VV p l e ({ frames := 15, cells := 0, slots := 0, locals := 462 } : Room) s m args below meth c (MQ below (PostI Γ sk M' r s.heap.size) args s 0 0 (Fr Γ sk s.heap.size)) 2 Γ sk M 0 0 122 [(1, vi x1)] [] := by
    intro x1 M hx1 h
    unfold f_X9_advance_J122 at h
    refine V_iload_n (pc := 122) C 0 rfl dX9_advance_122 ?_
    refine V_iconst (pc := 123) C dX9_advance_123 ?_
    refine V_icmp_eq (pc := 124) C 131 hx1 (by decide) dX9_advance_124 (by decide) (fun c124_19 => ?_) (fun c124_19 => ?_)
    · have h := ite_t h c124_19
      refine V_iconst (pc := 131) C dX9_advance_131 ?_
      exact V_zret (pc := 132) C hr hlk (by decide) h dX9_advance_132
    · have h := ite_f h c124_19
      refine V_iconst (pc := 127) C dX9_advance_127 ?_
      refine V_goto (pc := 128) C 132 dX9_advance_128 (by decide) ?_
      exact V_zret (pc := 132) C hr hlk (by decide) h dX9_advance_132
  have JP109 : ∀ {x1 : Int} {y1 : Int} {M : Mem}, rng x1 → rng y1 → f_X9_advance_J109 fu x1 y1 M = some (M', r) → VV p l e ({ frames := 15, cells := 0, slots := 0, locals := 462 } : Room) s m args below meth c (MQ below (PostI Γ sk M' r s.heap.size) args s 0 0 (Fr Γ sk s.heap.size)) 2 Γ sk M 0 0 109 [(0, vr Γ 45), (1, vi x1)] [vi y1, vr Γ 45] := by
    intro x1 y1 M hx1 hy1 h
    unfold f_X9_advance_J109 at h
    refine V_putI (pc := 109) C (by decide) e45 rfl inX9 tyX9 tyX9_ok nmX9 3 (by decide) rfl rfl lf_X9_56 rfl hy1 rfl dX9_advance_109 ?_
    refine V_aload_n (pc := 112) C 0 rfl dX9_advance_112 ?_
    refine V_dup (pc := 113) C rfl dX9_advance_113 ?_
    refine V_rng fun hM17 => ?_
    refine V_getI (pc := 114) C e45 rfl inX9 1 (by decide) rfl lf_X9_22 rfl dX9_advance_114 ?_
    refine V_iconst (pc := 117) C dX9_advance_117 ?_
    refine V_iadd (pc := 118) C dX9_advance_118 ?_
    obtain ⟨g18, h⟩ := grd_of h
    refine V_putI (pc := 119) C (by decide) e45 rfl inX9 tyX9 tyX9_ok nmX9 1 (by decide) rfl rfl lf_X9_22 rfl g18 rfl dX9_advance_119 ?_
    refine V_sub (L' := [(1, vi x1)]) [1] rfl (by decide) ?_
    exact JP122 hx1 h
  have JP44 : ∀ {M : Mem}, f_X9_advance_J44 fu M = some (M', r) → VV p l e ({ frames := 15, cells := 0, slots := 0, locals := 462 } : Room) s m args below meth c (MQ below (PostI Γ sk M' r s.heap.size) args s 0 0 (Fr Γ sk s.heap.size)) 2 Γ sk M 0 0 44 [(0, vr Γ 45)] [] := by
    intro M h
    unfold f_X9_advance_J44 at h
    refine V_aload_n (pc := 44) C 0 rfl dX9_advance_44 ?_
    refine V_aload_n (pc := 45) C 0 rfl dX9_advance_45 ?_
    refine V_rng fun hM3 => ?_
    refine V_getI (pc := 46) C e45 rfl inX9 1 (by decide) rfl lf_X9_22 rfl dX9_advance_46 ?_
    refine V_putI (pc := 49) C (by decide) e45 rfl inX9 tyX9 tyX9_ok nmX9 2 (by decide) rfl rfl lf_X9_25 rfl (hM3 _ _) rfl dX9_advance_49 ?_
    refine V_aload_n (pc := 52) C 0 rfl dX9_advance_52 ?_
    refine V_iconst (pc := 53) C dX9_advance_53 ?_
    refine V_putI (pc := 54) C (by decide) e45 rfl inX9 tyX9 tyX9_ok nmX9 4 (by decide) rfl rfl lf_X9_41 rfl (by decide) rfl dX9_advance_54 ?_
    refine V_aload_n (pc := 57) C 0 rfl dX9_advance_57 ?_
    refine V_getR (pc := 58) C e45 rfl inX9 0 (by decide) rfl lf_X9_18 rfl dX9_advance_58 ?_
    refine V_aload_n (pc := 61) C 0 rfl dX9_advance_61 ?_
    refine V_rng fun hM4 => ?_
    refine V_getI (pc := 62) C e45 rfl inX9 1 (by decide) rfl lf_X9_22 rfl dX9_advance_62 ?_
    obtain ⟨M5, r6, hc7, h⟩ := cal_of h
    refine V_callVI (pc := 65) C (c_X2_byteAt l Γ sk hsk fu (hM4 _ _) hc7) cf_X2_byteAt lk_X9_33 ⟨rfl, rfl⟩ ⟨Nat.le_of_ble_eq_true rfl, Nat.le_of_ble_eq_true rfl⟩ e43 rfl rfl rfl (Nat.le_of_ble_eq_true rfl) ⟨Nat.zero_le _, Nat.zero_le _⟩ rfl dX9_advance_65 (fun hr6 => ?_)
    refine V_istore_n (pc := 68) C (L' := [(0, vr Γ 45), (1, vi r6)]) rfl (by decide) dX9_advance_68 ?_
    refine V_iload_n (pc := 69) C 1 rfl dX9_advance_69 ?_
    obtain ⟨M8, r9, hc10, h⟩ := cal_of h
    refine V_callSI (pc := 70) C (c_X9_isLetter l Γ sk hsk fu hr6 hc10) cf_X9_isLetter lk_X9_44 ⟨rfl, rfl⟩ ⟨Nat.le_of_ble_eq_true rfl, Nat.le_of_ble_eq_true rfl⟩ rfl (Nat.le_of_ble_eq_true rfl) ⟨Nat.zero_le _, Nat.zero_le _⟩ rfl dX9_advance_70 (fun hr9 => ?_)
    refine V_if_eq (pc := 73) C 83 hr9 dX9_advance_73 (by decide) (fun c73_11 => ?_) (fun c73_11 => ?_)
    · have h := ite_t h c73_11
      refine V_iload_n (pc := 83) C 1 rfl dX9_advance_83 ?_
      obtain ⟨M12, r13, hc14, h⟩ := cal_of h
      refine V_callSI (pc := 84) C (c_X9_isDigit l Γ sk hsk fu hr6 hc14) cf_X9_isDigit lk_X9_50 ⟨rfl, rfl⟩ ⟨Nat.le_of_ble_eq_true rfl, Nat.le_of_ble_eq_true rfl⟩ rfl (Nat.le_of_ble_eq_true rfl) ⟨Nat.zero_le _, Nat.zero_le _⟩ rfl dX9_advance_84 (fun hr13 => ?_)
      refine V_if_eq (pc := 87) C 97 hr13 dX9_advance_87 (by decide) (fun c87_15 => ?_) (fun c87_15 => ?_)
      · have h := ite_t h c87_15
        refine V_aload_n (pc := 97) C 0 rfl dX9_advance_97 ?_
        refine V_iload_n (pc := 98) C 1 rfl dX9_advance_98 ?_
        refine V_bipush (pc := 99) C dX9_advance_99 rfl ?_
        refine V_icmp_ne (pc := 101) C 108 hr6 (by decide) dX9_advance_101 (by decide) (fun c101_16 => ?_) (fun c101_16 => ?_)
        · have h := ite_f h c101_16
          refine V_iconst (pc := 108) C dX9_advance_108 ?_
          refine V_sub (L' := [(0, vr Γ 45), (1, vi r6)]) [0, 1] rfl (by decide) ?_
          exact JP109 hr6 (by decide) h
        · have h := ite_t h c101_16
          refine V_iconst (pc := 104) C dX9_advance_104 ?_
          refine V_goto (pc := 105) C 109 dX9_advance_105 (by decide) ?_
          refine V_sub (L' := [(0, vr Γ 45), (1, vi r6)]) [0, 1] rfl (by decide) ?_
          exact JP109 hr6 (by decide) h
      · have h := ite_f h c87_15
        refine V_aload_n (pc := 90) C 0 rfl dX9_advance_90 ?_
        obtain ⟨M20, r21, hc22, h⟩ := cal_of h
        refine V_callVV (pc := 91) C (c_X9_readNumber l Γ sk hsk fu hc22) cf_X9_readNumber lk_X9_53 ⟨rfl, rfl⟩ ⟨Nat.le_of_ble_eq_true rfl, Nat.le_of_ble_eq_true rfl⟩ e45 rfl rfl rfl (Nat.le_of_ble_eq_true rfl) ⟨Nat.zero_le _, Nat.zero_le _⟩ rfl dX9_advance_91 ?_
        refine V_goto (pc := 94) C 122 dX9_advance_94 (by decide) ?_
        refine V_sub (L' := [(1, vi r6)]) [1] rfl (by decide) ?_
        exact JP122 hr6 h
    · have h := ite_f h c73_11
      refine V_aload_n (pc := 76) C 0 rfl dX9_advance_76 ?_
      obtain ⟨M23, r24, hc25, h⟩ := cal_of h
      refine V_callVV (pc := 77) C (c_X9_readWord l Γ sk hsk fu hc25) cf_X9_readWord lk_X9_47 ⟨rfl, rfl⟩ ⟨Nat.le_of_ble_eq_true rfl, Nat.le_of_ble_eq_true rfl⟩ e45 rfl rfl rfl (Nat.le_of_ble_eq_true rfl) ⟨Nat.zero_le _, Nat.zero_le _⟩ rfl dX9_advance_77 ?_
      refine V_goto (pc := 80) C 122 dX9_advance_80 (by decide) ?_
      refine V_sub (L' := [(1, vi r6)]) [1] rfl (by decide) ?_
      exact JP122 hr6 h
  have LP0 : ∀ (n : Nat) {M : Mem}, f_X9_advance_L0 fu n M = some (M', r) → VV p l e ({ frames := 15, cells := 0, slots := 0, locals := 462 } : Room) s m args below meth c (MQ below (PostI Γ sk M' r s.heap.size) args s 0 0 (Fr Γ sk s.heap.size)) 2 Γ sk M 0 0 0 [(0, vr Γ 45)] [] := by
    intro n
    induction n with
    | zero =>
      intro M h
      cases h
    | succ n ih =>
      intro M h
      rw [f_X9_advance_L0] at h
      refine V_aload_n (pc := 0) C 0 rfl dX9_advance_0 ?_
      refine V_rng fun hM1 => ?_
      refine V_getI (pc := 1) C e45 rfl inX9 1 (by decide) rfl lf_X9_22 rfl dX9_advance_1 ?_
      refine V_aload_n (pc := 4) C 0 rfl dX9_advance_4 ?_
      refine V_getR (pc := 5) C e45 rfl inX9 0 (by decide) rfl lf_X9_18 rfl dX9_advance_5 ?_
      refine V_getI (pc := 8) C e43 rfl inX2 0 (by decide) rfl lf_X9_28 rfl dX9_advance_8 ?_
      refine V_icmp_ge (pc := 11) C 44 (hM1 _ _) (hM1 _ _) dX9_advance_11 (by decide) (fun c11_2 => ?_) (fun c11_2 => ?_)
      · have h := ite_t h c11_2
        refine V_sub (L' := [(0, vr Γ 45)]) [0] rfl (by decide) ?_
        exact JP44 h
      · have h := ite_f h c11_2
        refine V_aload_n (pc := 14) C 0 rfl dX9_advance_14 ?_
        refine V_getR (pc := 15) C e45 rfl inX9 0 (by decide) rfl lf_X9_18 rfl dX9_advance_15 ?_
        refine V_aload_n (pc := 18) C 0 rfl dX9_advance_18 ?_
        refine V_getI (pc := 19) C e45 rfl inX9 1 (by decide) rfl lf_X9_22 rfl dX9_advance_19 ?_
        obtain ⟨M26, r27, hc28, h⟩ := cal_of h
        refine V_callVI (pc := 22) C (c_X2_byteAt l Γ sk hsk fu (hM1 _ _) hc28) cf_X2_byteAt lk_X9_33 ⟨rfl, rfl⟩ ⟨Nat.le_of_ble_eq_true rfl, Nat.le_of_ble_eq_true rfl⟩ e43 rfl rfl rfl (Nat.le_of_ble_eq_true rfl) ⟨Nat.zero_le _, Nat.zero_le _⟩ rfl dX9_advance_22 (fun hr27 => ?_)
        obtain ⟨M29, r30, hc31, h⟩ := cal_of h
        refine V_callSI (pc := 25) C (c_X9_isBlank l Γ sk hsk fu hr27 hc31) cf_X9_isBlank lk_X9_37 ⟨rfl, rfl⟩ ⟨Nat.le_of_ble_eq_true rfl, Nat.le_of_ble_eq_true rfl⟩ rfl (Nat.le_of_ble_eq_true rfl) ⟨Nat.zero_le _, Nat.zero_le _⟩ rfl dX9_advance_25 (fun hr30 => ?_)
        refine V_if_eq (pc := 28) C 44 hr30 dX9_advance_28 (by decide) (fun c28_32 => ?_) (fun c28_32 => ?_)
        · have h := ite_t h c28_32
          refine V_sub (L' := [(0, vr Γ 45)]) [0] rfl (by decide) ?_
          exact JP44 h
        · have h := ite_f h c28_32
          refine V_aload_n (pc := 31) C 0 rfl dX9_advance_31 ?_
          refine V_dup (pc := 32) C rfl dX9_advance_32 ?_
          refine V_rng fun hM33 => ?_
          refine V_getI (pc := 33) C e45 rfl inX9 1 (by decide) rfl lf_X9_22 rfl dX9_advance_33 ?_
          refine V_iconst (pc := 36) C dX9_advance_36 ?_
          refine V_iadd (pc := 37) C dX9_advance_37 ?_
          obtain ⟨g34, h⟩ := grd_of h
          refine V_putI (pc := 38) C (by decide) e45 rfl inX9 tyX9 tyX9_ok nmX9 1 (by decide) rfl rfl lf_X9_22 rfl g34 rfl dX9_advance_38 ?_
          refine V_goto (pc := 41) C 0 dX9_advance_41 (by decide) ?_
          refine V_sub (L' := [(0, vr Γ 45)]) [0] rfl (by decide) ?_
          exact ih h
  skip
  refine V_sub (L' := [(0, vr Γ 45)]) [0] rfl (by decide) ?_
  exact LP0 fu  h
set_option maxRecDepth 100000 in
set_option maxHeartbeats 4000000 in
theorem c_X7_open (l : Launch) (Γ : GG) (sk : List SD) (hsk : Ext sk) (fu : Nat) {M M' : Mem}  {r : Int}  (h : f_X7_open fu M  = some (M', r)) : MetI l yX7_open cX7_open 1 .int ({ frames := 0, cells := 0, slots := 0, locals := 0 } : Room) Γ sk [vr Γ 46] M M' r := by
  unfold f_X7_open at h
  refine MetI_of RX7 rfl (by decide) rfl (Nat.le_of_ble_eq_true rfl) rfl ?_
  intro p e s m args below meth c C hr hlk hM
  have e45 := hsk 45 _ (by decide) rfl
  have e46 := hsk 46 _ (by decide) rfl
  refine V_aload_n (pc := 0) C 0 rfl dX7_open_0 ?_
  refine V_iconst (pc := 1) C dX7_open_1 ?_
  obtain ⟨g1, h⟩ := grd_of h
  refine V_putZ (pc := 2) C (by decide) e46 rfl inX7 tyX7 tyX7_ok nmX7 1 (by decide) rfl rfl lf_X7_23 rfl g1 rfl dX7_open_2 ?_
  refine V_aload_n (pc := 5) C 0 rfl dX7_open_5 ?_
  refine V_getR (pc := 6) C e46 rfl inX7 0 (by decide) rfl lf_X7_15 rfl dX7_open_6 ?_
  refine V_rng fun hM2 => ?_
  refine V_getI (pc := 9) C e45 rfl inX9 4 (by decide) rfl lf_X7_50 rfl dX7_open_9 ?_
  refine V_iconst (pc := 12) C dX7_open_12 ?_
  refine V_icmp_ne (pc := 13) C 20 (hM2 _ _) (by decide) dX7_open_13 (by decide) (fun c13_3 => ?_) (fun c13_3 => ?_)
  · have h := ite_f h c13_3
    refine V_iconst (pc := 20) C dX7_open_20 ?_
    exact V_iret (pc := 21) C hr hlk (by decide) h dX7_open_21
  · have h := ite_t h c13_3
    refine V_iconst (pc := 16) C dX7_open_16 ?_
    refine V_goto (pc := 17) C 21 dX7_open_17 (by decide) ?_
    exact V_iret (pc := 21) C hr hlk (by decide) h dX7_open_21
set_option maxRecDepth 100000 in
set_option maxHeartbeats 4000000 in
theorem c_X7_keep (l : Launch) (Γ : GG) (sk : List SD) (hsk : Ext sk) (fu : Nat) {M M' : Mem} {a1 : Int} {r : Int} (ha1 : rng a1) (h : f_X7_keep fu M a1 = some (M', r)) : MetI l yX7_keep cX7_keep 2 .int ({ frames := 1, cells := 0, slots := 0, locals := 22 } : Room) Γ sk [vr Γ 46, vi a1] M M' r := by
  unfold f_X7_keep at h
  refine MetI_of RX7 rfl (by decide) rfl (Nat.le_of_ble_eq_true rfl) rfl ?_
  intro p e s m args below meth c C hr hlk hM
  have e46 := hsk 46 _ (by decide) rfl
  have e47 := hsk 47 _ (by decide) rfl
  refine V_aload_n (pc := 0) C 0 rfl dX7_keep_0 ?_
  refine V_getR (pc := 1) C e46 rfl inX7 3 (by decide) rfl lf_X7_9 rfl dX7_keep_1 ?_
  refine V_aload_n (pc := 4) C 0 rfl dX7_keep_4 ?_
  refine V_getI (pc := 5) C e46 rfl inX7 4 (by decide) rfl lf_X7_19 rfl dX7_keep_5 ?_
  refine V_iload_n (pc := 8) C 1 rfl dX7_keep_8 ?_
  obtain ⟨M1, r2, hc3, h⟩ := cal_of h
  refine V_callNV (pc := 9) C (c_X11_put l Γ sk hsk fu e47 (by decide) (by decide) (hM _ _) ha1 hc3) cf_X11_put ln_X7_63 ⟨rfl, rfl⟩ ⟨Nat.le_of_ble_eq_true rfl, Nat.le_of_ble_eq_true rfl⟩ rfl (Nat.le_of_ble_eq_true rfl) ⟨Nat.zero_le _, Nat.zero_le _⟩ rfl dX7_keep_9 ?_
  refine V_aload_n (pc := 12) C 0 rfl dX7_keep_12 ?_
  refine V_dup (pc := 13) C rfl dX7_keep_13 ?_
  refine V_rng fun hM4 => ?_
  refine V_getI (pc := 14) C e46 rfl inX7 4 (by decide) rfl lf_X7_19 rfl dX7_keep_14 ?_
  refine V_iconst (pc := 17) C dX7_keep_17 ?_
  refine V_iadd (pc := 18) C dX7_keep_18 ?_
  obtain ⟨g5, h⟩ := grd_of h
  refine V_putI (pc := 19) C (by decide) e46 rfl inX7 tyX7 tyX7_ok nmX7 4 (by decide) rfl rfl lf_X7_19 rfl g5 rfl dX7_keep_19 ?_
  refine V_aload_n (pc := 22) C 0 rfl dX7_keep_22 ?_
  refine V_iconst (pc := 23) C dX7_keep_23 ?_
  obtain ⟨g6, h⟩ := grd_of h
  refine V_putZ (pc := 24) C (by decide) e46 rfl inX7 tyX7 tyX7_ok nmX7 2 (by decide) rfl rfl lf_X7_27 rfl g6 rfl dX7_keep_24 ?_
  refine V_iconst (pc := 27) C dX7_keep_27 ?_
  exact V_iret (pc := 28) C hr hlk (by decide) h dX7_keep_28
set_option maxRecDepth 100000 in
set_option maxHeartbeats 4000000 in
theorem c_X7_accept (l : Launch) (Γ : GG) (sk : List SD) (hsk : Ext sk) (fu : Nat) {M M' : Mem}  {r : Int}  (h : f_X7_accept fu M  = some (M', r)) : MetI l yX7_accept cX7_accept 1 .int ({ frames := 2, cells := 0, slots := 0, locals := 43 } : Room) Γ sk [vr Γ 46] M M' r := by
  unfold f_X7_accept at h
  refine MetI_of RX7 rfl (by decide) rfl (Nat.le_of_ble_eq_true rfl) rfl ?_
  intro p e s m args below meth c C hr hlk hM
  have e45 := hsk 45 _ (by decide) rfl
  have e46 := hsk 46 _ (by decide) rfl
  have JP105 : ∀ {y1 : Int} {M : Mem}, rng y1 → f_X7_accept_J105 fu y1 M = some (M', r) → VV p l e ({ frames := 2, cells := 0, slots := 0, locals := 43 } : Room) s m args below meth c (MQ below (PostI Γ sk M' r s.heap.size) args s 0 0 (Fr Γ sk s.heap.size)) 1 Γ sk M 0 0 105 [(0, vr Γ 46)] [vi y1, vr Γ 46] := by
    intro y1 M hy1 h
    unfold f_X7_accept_J105 at h
    obtain ⟨g7, h⟩ := grd_of h
    refine V_putZ (pc := 105) C (by decide) e46 rfl inX7 tyX7 tyX7_ok nmX7 2 (by decide) rfl rfl lf_X7_27 rfl g7 rfl dX7_accept_105 ?_
    refine V_aload_n (pc := 108) C 0 rfl dX7_accept_108 ?_
    refine V_rng fun hM8 => ?_
    refine V_getI (pc := 109) C e46 rfl inX7 2 (by decide) rfl lf_X7_27 rfl dX7_accept_109 ?_
    refine V_if_eq (pc := 112) C 119 (hM8 _ _) dX7_accept_112 (by decide) (fun c112_9 => ?_) (fun c112_9 => ?_)
    · have h := ite_t h c112_9
      refine V_aload_n (pc := 119) C 0 rfl dX7_accept_119 ?_
      refine V_aload_n (pc := 120) C 0 rfl dX7_accept_120 ?_
      refine V_getR (pc := 121) C e46 rfl inX7 0 (by decide) rfl lf_X7_15 rfl dX7_accept_121 ?_
      refine V_getI (pc := 124) C e45 rfl inX9 5 (by decide) rfl lf_X7_56 rfl dX7_accept_124 ?_
      obtain ⟨M10, r11, hc12, h⟩ := cal_of h
      refine V_callVI (pc := 127) C (c_X7_keep l Γ sk hsk fu (hM8 _ _) hc12) cf_X7_keep lk_X7_59 ⟨rfl, rfl⟩ ⟨Nat.le_of_ble_eq_true rfl, Nat.le_of_ble_eq_true rfl⟩ e46 rfl rfl rfl (Nat.le_of_ble_eq_true rfl) ⟨Nat.zero_le _, Nat.zero_le _⟩ rfl dX7_accept_127 (fun hr11 => ?_)
      exact V_iret (pc := 130) C hr hlk hr11 h dX7_accept_130
    · have h := ite_f h c112_9
      refine V_iconst (pc := 115) C dX7_accept_115 ?_
      refine V_goto (pc := 116) C 130 dX7_accept_116 (by decide) ?_
      exact V_iret (pc := 130) C hr hlk (by decide) h dX7_accept_130
  have JP77 : ∀ {M : Mem}, f_X7_accept_J77 fu M = some (M', r) → VV p l e ({ frames := 2, cells := 0, slots := 0, locals := 43 } : Room) s m args below meth c (MQ below (PostI Γ sk M' r s.heap.size) args s 0 0 (Fr Γ sk s.heap.size)) 1 Γ sk M 0 0 77 [(0, vr Γ 46)] [] := by
    intro M h
    unfold f_X7_accept_J77 at h
    refine V_aload_n (pc := 77) C 0 rfl dX7_accept_77 ?_
    refine V_rng fun hM4 => ?_
    refine V_getI (pc := 78) C e46 rfl inX7 4 (by decide) rfl lf_X7_19 rfl dX7_accept_78 ?_
    refine V_bipush (pc := 81) C dX7_accept_81 rfl ?_
    refine V_icmp_lt (pc := 83) C 88 (hM4 _ _) (by decide) dX7_accept_83 (by decide) (fun c83_5 => ?_) (fun c83_5 => ?_)
    · have h := ite_t h c83_5
      refine V_aload_n (pc := 88) C 0 rfl dX7_accept_88 ?_
      refine V_aload_n (pc := 89) C 0 rfl dX7_accept_89 ?_
      refine V_getR (pc := 90) C e46 rfl inX7 0 (by decide) rfl lf_X7_15 rfl dX7_accept_90 ?_
      refine V_getI (pc := 93) C e45 rfl inX9 4 (by decide) rfl lf_X7_50 rfl dX7_accept_93 ?_
      refine V_iconst (pc := 96) C dX7_accept_96 ?_
      refine V_icmp_ne (pc := 97) C 104 (hM4 _ _) (by decide) dX7_accept_97 (by decide) (fun c97_6 => ?_) (fun c97_6 => ?_)
      · have h := ite_f h c97_6
        refine V_iconst (pc := 104) C dX7_accept_104 ?_
        refine V_sub (L' := [(0, vr Γ 46)]) [0] rfl (by decide) ?_
        exact JP105 (by decide) h
      · have h := ite_t h c97_6
        refine V_iconst (pc := 100) C dX7_accept_100 ?_
        refine V_goto (pc := 101) C 105 dX7_accept_101 (by decide) ?_
        refine V_sub (L' := [(0, vr Γ 46)]) [0] rfl (by decide) ?_
        exact JP105 (by decide) h
    · have h := ite_f h c83_5
      refine V_iconst (pc := 86) C dX7_accept_86 ?_
      exact V_iret (pc := 87) C hr hlk (by decide) h dX7_accept_87
  skip
  refine V_aload_n (pc := 0) C 0 rfl dX7_accept_0 ?_
  refine V_getI (pc := 1) C e46 rfl inX7 2 (by decide) rfl lf_X7_27 rfl dX7_accept_1 ?_
  refine V_if_eq (pc := 4) C 35 (hM _ _) dX7_accept_4 (by decide) (fun c4_1 => ?_) (fun c4_1 => ?_)
  · have h := ite_t h c4_1
    refine V_aload_n (pc := 35) C 0 rfl dX7_accept_35 ?_
    refine V_getR (pc := 36) C e46 rfl inX7 0 (by decide) rfl lf_X7_15 rfl dX7_accept_36 ?_
    refine V_getI (pc := 39) C e45 rfl inX9 3 (by decide) rfl lf_X7_53 rfl dX7_accept_39 ?_
    refine V_iconst (pc := 42) C dX7_accept_42 ?_
    refine V_icmp_ne (pc := 43) C 53 (hM _ _) (by decide) dX7_accept_43 (by decide) (fun c43_2 => ?_) (fun c43_2 => ?_)
    · have h := ite_f h c43_2
      refine V_aload_n (pc := 53) C 0 rfl dX7_accept_53 ?_
      refine V_getR (pc := 54) C e46 rfl inX7 0 (by decide) rfl lf_X7_15 rfl dX7_accept_54 ?_
      refine V_getI (pc := 57) C e45 rfl inX9 3 (by decide) rfl lf_X7_53 rfl dX7_accept_57 ?_
      refine V_iconst (pc := 60) C dX7_accept_60 ?_
      refine V_icmp_eq (pc := 61) C 77 (hM _ _) (by decide) dX7_accept_61 (by decide) (fun c61_3 => ?_) (fun c61_3 => ?_)
      · have h := ite_t h c61_3
        refine V_sub (L' := [(0, vr Γ 46)]) [0] rfl (by decide) ?_
        exact JP77 h
      · have h := ite_f h c61_3
        refine V_aload_n (pc := 64) C 0 rfl dX7_accept_64 ?_
        refine V_getR (pc := 65) C e46 rfl inX7 0 (by decide) rfl lf_X7_15 rfl dX7_accept_65 ?_
        refine V_getI (pc := 68) C e45 rfl inX9 4 (by decide) rfl lf_X7_50 rfl dX7_accept_68 ?_
        refine V_iconst (pc := 71) C dX7_accept_71 ?_
        refine V_icmp_eq (pc := 72) C 77 (hM _ _) (by decide) dX7_accept_72 (by decide) (fun c72_13 => ?_) (fun c72_13 => ?_)
        · have h := ite_t h c72_13
          refine V_sub (L' := [(0, vr Γ 46)]) [0] rfl (by decide) ?_
          exact JP77 h
        · have h := ite_f h c72_13
          refine V_iconst (pc := 75) C dX7_accept_75 ?_
          exact V_iret (pc := 76) C hr hlk (by decide) h dX7_accept_76
    · have h := ite_t h c43_2
      refine V_aload_n (pc := 46) C 0 rfl dX7_accept_46 ?_
      refine V_iconst (pc := 47) C dX7_accept_47 ?_
      obtain ⟨g14, h⟩ := grd_of h
      refine V_putZ (pc := 48) C (by decide) e46 rfl inX7 tyX7 tyX7_ok nmX7 1 (by decide) rfl rfl lf_X7_23 rfl g14 rfl dX7_accept_48 ?_
      refine V_iconst (pc := 51) C dX7_accept_51 ?_
      exact V_iret (pc := 52) C hr hlk (by decide) h dX7_accept_52
  · have h := ite_f h c4_1
    refine V_aload_n (pc := 7) C 0 rfl dX7_accept_7 ?_
    refine V_getR (pc := 8) C e46 rfl inX7 0 (by decide) rfl lf_X7_15 rfl dX7_accept_8 ?_
    refine V_getI (pc := 11) C e45 rfl inX9 3 (by decide) rfl lf_X7_53 rfl dX7_accept_11 ?_
    refine V_iconst (pc := 14) C dX7_accept_14 ?_
    refine V_icmp_ne (pc := 15) C 33 (hM _ _) (by decide) dX7_accept_15 (by decide) (fun c15_15 => ?_) (fun c15_15 => ?_)
    · have h := ite_f h c15_15
      refine V_iconst (pc := 33) C dX7_accept_33 ?_
      exact V_iret (pc := 34) C hr hlk (by decide) h dX7_accept_34
    · have h := ite_t h c15_15
      refine V_aload_n (pc := 18) C 0 rfl dX7_accept_18 ?_
      refine V_aload_n (pc := 19) C 0 rfl dX7_accept_19 ?_
      refine V_getR (pc := 20) C e46 rfl inX7 0 (by decide) rfl lf_X7_15 rfl dX7_accept_20 ?_
      refine V_getI (pc := 23) C e45 rfl inX9 5 (by decide) rfl lf_X7_56 rfl dX7_accept_23 ?_
      refine V_ineg (pc := 26) C dX7_accept_26 ?_
      obtain ⟨g16, h⟩ := grd_of h
      obtain ⟨M17, r18, hc19, h⟩ := cal_of h
      refine V_callVI (pc := 27) C (c_X7_keep l Γ sk hsk fu g16 hc19) cf_X7_keep lk_X7_59 ⟨rfl, rfl⟩ ⟨Nat.le_of_ble_eq_true rfl, Nat.le_of_ble_eq_true rfl⟩ e46 rfl rfl rfl (Nat.le_of_ble_eq_true rfl) ⟨Nat.zero_le _, Nat.zero_le _⟩ rfl dX7_accept_27 (fun hr18 => ?_)
      refine V_goto (pc := 30) C 34 dX7_accept_30 (by decide) ?_
      exact V_iret (pc := 34) C hr hlk hr18 h dX7_accept_34
set_option maxRecDepth 100000 in
set_option maxHeartbeats 4000000 in
theorem c_X7_parse (l : Launch) (Γ : GG) (sk : List SD) (hsk : Ext sk) (fu : Nat) {M M' : Mem}  {r : Int}  (h : f_X7_parse fu M  = some (M', r)) : MetI l yX7_parse cX7_parse 3 .boolean ({ frames := 16, cells := 0, slots := 0, locals := 483 } : Room) Γ sk [vr Γ 46] M M' r := by
  unfold f_X7_parse at h
  refine MetI_of RX7 rfl (by decide) rfl (Nat.le_of_ble_eq_true rfl) rfl ?_
  intro p e s m args below meth c C hr hlk hM
  have e45 := hsk 45 _ (by decide) rfl
  have e46 := hsk 46 _ (by decide) rfl
  have JP79 : ∀ {M : Mem}, f_X7_parse_J79 fu M = some (M', r) → VV p l e ({ frames := 16, cells := 0, slots := 0, locals := 483 } : Room) s m args below meth c (MQ below (PostI Γ sk M' r s.heap.size) args s 0 0 (Fr Γ sk s.heap.size)) 3 Γ sk M 0 0 79 [(0, vr Γ 46)] [] := by
    intro M h
    unfold f_X7_parse_J79 at h
    refine V_aload_n (pc := 79) C 0 rfl dX7_parse_79 ?_
    refine V_rng fun hM7 => ?_
    refine V_getI (pc := 80) C e46 rfl inX7 1 (by decide) rfl lf_X7_23 rfl dX7_parse_80 ?_
    refine V_if_eq (pc := 83) C 97 (hM7 _ _) dX7_parse_83 (by decide) (fun c83_8 => ?_) (fun c83_8 => ?_)
    · have h := ite_t h c83_8
      refine V_iconst (pc := 97) C dX7_parse_97 ?_
      refine V_goto (pc := 98) C 102 dX7_parse_98 (by decide) ?_
      exact V_zret (pc := 102) C hr hlk (by decide) h dX7_parse_102
    · have h := ite_f h c83_8
      refine V_aload_n (pc := 86) C 0 rfl dX7_parse_86 ?_
      refine V_getR (pc := 87) C e46 rfl inX7 0 (by decide) rfl lf_X7_15 rfl dX7_parse_87 ?_
      refine V_iconst (pc := 90) C dX7_parse_90 ?_
      obtain ⟨M9, r10, hc11, h⟩ := cal_of h
      refine V_callVI (pc := 91) C (c_X9_fail l Γ sk hsk fu (by decide) hc11) cf_X9_fail lk_X7_46 ⟨rfl, rfl⟩ ⟨Nat.le_of_ble_eq_true rfl, Nat.le_of_ble_eq_true rfl⟩ e45 rfl rfl rfl (Nat.le_of_ble_eq_true rfl) ⟨Nat.zero_le _, Nat.zero_le _⟩ rfl dX7_parse_91 (fun hr10 => ?_)
      refine V_if_eq (pc := 94) C 101 hr10 dX7_parse_94 (by decide) (fun c94_12 => ?_) (fun c94_12 => ?_)
      · have h := ite_t h c94_12
        refine V_iconst (pc := 101) C dX7_parse_101 ?_
        exact V_zret (pc := 102) C hr hlk (by decide) h dX7_parse_102
      · have h := ite_f h c94_12
        refine V_iconst (pc := 97) C dX7_parse_97 ?_
        refine V_goto (pc := 98) C 102 dX7_parse_98 (by decide) ?_
        exact V_zret (pc := 102) C hr hlk (by decide) h dX7_parse_102
  have JP59 : ∀ (k24 : Int → Mem → Option (Mem × Int)) (_ : ∀ (x1 : Int) (M : Mem), rng x1 → k24 x1 M = some (M', r) → VV p l e ({ frames := 16, cells := 0, slots := 0, locals := 483 } : Room) s m args below meth c (MQ below (PostI Γ sk M' r s.heap.size) args s 0 0 (Fr Γ sk s.heap.size)) 3 Γ sk M 0 0 24 [(0, vr Γ 46), (1, vi x1)] []) {x1 : Int} {y0 : Int} {M : Mem}, rng x1 → rng y0 → f_X7_parse_J59 fu k24 x1 y0 M = some (M', r) → VV p l e ({ frames := 16, cells := 0, slots := 0, locals := 483 } : Room) s m args below meth c (MQ below (PostI Γ sk M' r s.heap.size) args s 0 0 (Fr Γ sk s.heap.size)) 3 Γ sk M 0 0 59 [(0, vr Γ 46), (1, vi x1)] [vi y0] := by
    intro k24 hkk24 x1 y0 M hx1 hy0 h
    unfold f_X7_parse_J59 at h
    refine V_istore_n (pc := 59) C (L' := [(0, vr Γ 46), (1, vi x1), (2, vi y0)]) rfl (by decide) dX7_parse_59 ?_
    refine V_iload_n (pc := 60) C 2 rfl dX7_parse_60 ?_
    refine V_if_eq (pc := 61) C 73 hy0 dX7_parse_61 (by decide) (fun c61_22 => ?_) (fun c61_22 => ?_)
    · have h := ite_t h c61_22
      refine V_iinc (pc := 73) C (L' := [(0, vr Γ 46), (1, vi (x1 + (1 : Int))), (2, vi y0)]) 1 rfl rfl (by decide) dX7_parse_73 ?_
      refine V_goto (pc := 76) C 24 dX7_parse_76 (by decide) ?_
      obtain ⟨g23, h⟩ := grd_of h
      refine V_sub (L' := [(0, vr Γ 46), (1, vi (x1 + (1 : Int)))]) [0, 1] rfl (by decide) ?_
      exact hkk24 _ _ g23 h
    · have h := ite_f h c61_22
      refine V_aload_n (pc := 64) C 0 rfl dX7_parse_64 ?_
      refine V_getR (pc := 65) C e46 rfl inX7 0 (by decide) rfl lf_X7_15 rfl dX7_parse_65 ?_
      refine V_iload_n (pc := 68) C 2 rfl dX7_parse_68 ?_
      obtain ⟨M24, r25, hc26, h⟩ := cal_of h
      refine V_callVI (pc := 69) C (c_X9_fail l Γ sk hsk fu hy0 hc26) cf_X9_fail lk_X7_46 ⟨rfl, rfl⟩ ⟨Nat.le_of_ble_eq_true rfl, Nat.le_of_ble_eq_true rfl⟩ e45 rfl rfl rfl (Nat.le_of_ble_eq_true rfl) ⟨Nat.zero_le _, Nat.zero_le _⟩ rfl dX7_parse_69 (fun hr25 => ?_)
      obtain ⟨g27, h⟩ := grd_of h
      exact V_zret (pc := 72) C hr hlk g27 h dX7_parse_72
  have LP24 : ∀ (n : Nat) {x1 : Int} {M : Mem}, rng x1 → f_X7_parse_L24 fu n x1 M = some (M', r) → VV p l e ({ frames := 16, cells := 0, slots := 0, locals := 483 } : Room) s m args below meth c (MQ below (PostI Γ sk M' r s.heap.size) args s 0 0 (Fr Γ sk s.heap.size)) 3 Γ sk M 0 0 24 [(0, vr Γ 46), (1, vi x1)] [] := by
    intro n
    induction n with
    | zero =>
      intro x1 M hx1 h
      cases h
    | succ n ih =>
      intro x1 M hx1 h
      rw [f_X7_parse_L24] at h
      refine V_iload_n (pc := 24) C 1 rfl dX7_parse_24 ?_
      refine V_sipush (pc := 25) C dX7_parse_25 rfl ?_
      refine V_icmp_gt (pc := 28) C 79 hx1 (by decide) dX7_parse_28 (by decide) (fun c28_6 => ?_) (fun c28_6 => ?_)
      · have h := ite_t h c28_6
        refine V_sub (L' := [(0, vr Γ 46)]) [0] rfl (by decide) ?_
        exact JP79 h
      · have h := ite_f h c28_6
        refine V_aload_n (pc := 31) C 0 rfl dX7_parse_31 ?_
        refine V_getR (pc := 32) C e46 rfl inX7 0 (by decide) rfl lf_X7_15 rfl dX7_parse_32 ?_
        obtain ⟨M13, r14, hc15, h⟩ := cal_of h
        refine V_callVI (pc := 35) C (c_X9_advance l Γ sk hsk fu hc15) cf_X9_advance lk_X7_35 ⟨rfl, rfl⟩ ⟨Nat.le_of_ble_eq_true rfl, Nat.le_of_ble_eq_true rfl⟩ e45 rfl rfl rfl (Nat.le_of_ble_eq_true rfl) ⟨Nat.zero_le _, Nat.zero_le _⟩ rfl dX7_parse_35 (fun hr14 => ?_)
        refine V_if_eq (pc := 38) C 79 hr14 dX7_parse_38 (by decide) (fun c38_16 => ?_) (fun c38_16 => ?_)
        · have h := ite_t h c38_16
          refine V_sub (L' := [(0, vr Γ 46)]) [0] rfl (by decide) ?_
          exact JP79 h
        · have h := ite_f h c38_16
          refine V_aload_n (pc := 41) C 0 rfl dX7_parse_41 ?_
          refine V_rng fun hM17 => ?_
          refine V_getI (pc := 42) C e46 rfl inX7 1 (by decide) rfl lf_X7_23 rfl dX7_parse_42 ?_
          refine V_if_eq (pc := 45) C 55 (hM17 _ _) dX7_parse_45 (by decide) (fun c45_18 => ?_) (fun c45_18 => ?_)
          · have h := ite_t h c45_18
            refine V_aload_n (pc := 55) C 0 rfl dX7_parse_55 ?_
            obtain ⟨M19, r20, hc21, h⟩ := cal_of h
            refine V_callVI (pc := 56) C (c_X7_open l Γ sk hsk fu hc21) cf_X7_open lk_X7_43 ⟨rfl, rfl⟩ ⟨Nat.le_of_ble_eq_true rfl, Nat.le_of_ble_eq_true rfl⟩ e46 rfl rfl rfl (Nat.le_of_ble_eq_true rfl) ⟨Nat.zero_le _, Nat.zero_le _⟩ rfl dX7_parse_56 (fun hr20 => ?_)
            refine V_sub (L' := [(0, vr Γ 46), (1, vi x1)]) [0, 1] rfl (by decide) ?_
            exact JP59 _ (fun _ _ hz0 hz => ih hz0 hz) hx1 hr20 h
          · have h := ite_f h c45_18
            refine V_aload_n (pc := 48) C 0 rfl dX7_parse_48 ?_
            obtain ⟨M28, r29, hc30, h⟩ := cal_of h
            refine V_callVI (pc := 49) C (c_X7_accept l Γ sk hsk fu hc30) cf_X7_accept lk_X7_39 ⟨rfl, rfl⟩ ⟨Nat.le_of_ble_eq_true rfl, Nat.le_of_ble_eq_true rfl⟩ e46 rfl rfl rfl (Nat.le_of_ble_eq_true rfl) ⟨Nat.zero_le _, Nat.zero_le _⟩ rfl dX7_parse_49 (fun hr29 => ?_)
            refine V_goto (pc := 52) C 59 dX7_parse_52 (by decide) ?_
            refine V_sub (L' := [(0, vr Γ 46), (1, vi x1)]) [0, 1] rfl (by decide) ?_
            exact JP59 _ (fun _ _ hz0 hz => ih hz0 hz) hx1 hr29 h
  skip
  refine V_aload_n (pc := 0) C 0 rfl dX7_parse_0 ?_
  refine V_iconst (pc := 1) C dX7_parse_1 ?_
  refine V_putI (pc := 2) C (by decide) e46 rfl inX7 tyX7 tyX7_ok nmX7 4 (by decide) rfl rfl lf_X7_19 rfl (by decide) rfl dX7_parse_2 ?_
  refine V_aload_n (pc := 5) C 0 rfl dX7_parse_5 ?_
  refine V_iconst (pc := 6) C dX7_parse_6 ?_
  obtain ⟨g1, h⟩ := grd_of h
  refine V_putZ (pc := 7) C (by decide) e46 rfl inX7 tyX7 tyX7_ok nmX7 1 (by decide) rfl rfl lf_X7_23 rfl g1 rfl dX7_parse_7 ?_
  refine V_aload_n (pc := 10) C 0 rfl dX7_parse_10 ?_
  refine V_iconst (pc := 11) C dX7_parse_11 ?_
  obtain ⟨g2, h⟩ := grd_of h
  refine V_putZ (pc := 12) C (by decide) e46 rfl inX7 tyX7 tyX7_ok nmX7 2 (by decide) rfl rfl lf_X7_27 rfl g2 rfl dX7_parse_12 ?_
  refine V_aload_n (pc := 15) C 0 rfl dX7_parse_15 ?_
  refine V_getR (pc := 16) C e46 rfl inX7 0 (by decide) rfl lf_X7_15 rfl dX7_parse_16 ?_
  obtain ⟨M3, r4, hc5, h⟩ := cal_of h
  refine V_callVV (pc := 19) C (c_X9_begin l Γ sk hsk fu hc5) cf_X9_begin lk_X7_30 ⟨rfl, rfl⟩ ⟨Nat.le_of_ble_eq_true rfl, Nat.le_of_ble_eq_true rfl⟩ e45 rfl rfl rfl (Nat.le_of_ble_eq_true rfl) ⟨Nat.zero_le _, Nat.zero_le _⟩ rfl dX7_parse_19 ?_
  refine V_iconst (pc := 22) C dX7_parse_22 ?_
  refine V_istore_n (pc := 23) C (L' := [(0, vr Γ 46), (1, vi (0 : Int))]) rfl (by decide) dX7_parse_23 ?_
  refine V_sub (L' := [(0, vr Γ 46), (1, vi (0 : Int))]) [0, 1] rfl (by decide) ?_
  exact LP24 fu  (by decide) h
set_option maxRecDepth 100000 in
set_option maxHeartbeats 4000000 in
theorem c_X6_wordOf (l : Launch) (Γ : GG) (sk : List SD) (hsk : Ext sk) (fu : Nat) {M M' : Mem} {a1 : Int} {r : Int} (ha1 : rng a1) (h : f_X6_wordOf fu M a1 = some (M', r)) : MetI l yX6_wordOf cX6_wordOf 2 .int ({ frames := 1, cells := 0, slots := 0, locals := 21 } : Room) Γ sk [vr Γ 48, vi a1] M M' r := by
  unfold f_X6_wordOf at h
  refine MetI_of RX6 rfl (by decide) rfl (Nat.le_of_ble_eq_true rfl) rfl ?_
  intro p e s m args below meth c C hr hlk hM
  have e48 := hsk 48 _ (by decide) rfl
  have e49 := hsk 49 _ (by decide) rfl
  refine V_aload_n (pc := 0) C 0 rfl dX6_wordOf_0 ?_
  refine V_getR (pc := 1) C e48 rfl inX6 1 (by decide) rfl lf_X6_11 rfl dX6_wordOf_1 ?_
  refine V_iload_n (pc := 4) C 1 rfl dX6_wordOf_4 ?_
  refine V_iconst (pc := 5) C dX6_wordOf_5 ?_
  refine V_imul (pc := 6) C dX6_wordOf_6 ?_
  obtain ⟨g1, h⟩ := grd_of h
  obtain ⟨M2, r3, hc4, h⟩ := cal_of h
  refine V_callNI (pc := 7) C (c_X11_at l Γ sk hsk fu e49 (by decide) g1 hc4) cf_X11_at ln_X6_19 ⟨rfl, rfl⟩ ⟨Nat.le_of_ble_eq_true rfl, Nat.le_of_ble_eq_true rfl⟩ rfl (Nat.le_of_ble_eq_true rfl) ⟨Nat.zero_le _, Nat.zero_le _⟩ rfl dX6_wordOf_7 (fun hr3 => ?_)
  exact V_iret (pc := 10) C hr hlk hr3 h dX6_wordOf_10
set_option maxRecDepth 100000 in
set_option maxHeartbeats 4000000 in
theorem c_X6_argumentOf (l : Launch) (Γ : GG) (sk : List SD) (hsk : Ext sk) (fu : Nat) {M M' : Mem} {a1 : Int} {a2 : Int} {r : Int} (ha1 : rng a1) (ha2 : rng a2) (h : f_X6_argumentOf fu M a1 a2 = some (M', r)) : MetI l yX6_argumentOf cX6_argumentOf 3 .int ({ frames := 1, cells := 0, slots := 0, locals := 21 } : Room) Γ sk [vr Γ 48, vi a1, vi a2] M M' r := by
  unfold f_X6_argumentOf at h
  refine MetI_of RX6 rfl (by decide) rfl (Nat.le_of_ble_eq_true rfl) rfl ?_
  intro p e s m args below meth c C hr hlk hM
  have e48 := hsk 48 _ (by decide) rfl
  have e49 := hsk 49 _ (by decide) rfl
  refine V_aload_n (pc := 0) C 0 rfl dX6_argumentOf_0 ?_
  refine V_getR (pc := 1) C e48 rfl inX6 1 (by decide) rfl lf_X6_11 rfl dX6_argumentOf_1 ?_
  refine V_iload_n (pc := 4) C 1 rfl dX6_argumentOf_4 ?_
  refine V_iconst (pc := 5) C dX6_argumentOf_5 ?_
  refine V_imul (pc := 6) C dX6_argumentOf_6 ?_
  refine V_iconst (pc := 7) C dX6_argumentOf_7 ?_
  refine V_iadd (pc := 8) C dX6_argumentOf_8 ?_
  refine V_iload_n (pc := 9) C 2 rfl dX6_argumentOf_9 ?_
  refine V_iadd (pc := 10) C dX6_argumentOf_10 ?_
  obtain ⟨g1, h⟩ := grd_of h
  obtain ⟨M2, r3, hc4, h⟩ := cal_of h
  refine V_callNI (pc := 11) C (c_X11_at l Γ sk hsk fu e49 (by decide) g1 hc4) cf_X11_at ln_X6_19 ⟨rfl, rfl⟩ ⟨Nat.le_of_ble_eq_true rfl, Nat.le_of_ble_eq_true rfl⟩ rfl (Nat.le_of_ble_eq_true rfl) ⟨Nat.zero_le _, Nat.zero_le _⟩ rfl dX6_argumentOf_11 (fun hr3 => ?_)
  exact V_iret (pc := 14) C hr hlk hr3 h dX6_argumentOf_14
set_option maxRecDepth 100000 in
set_option maxHeartbeats 4000000 in
theorem c_X6_open (l : Launch) (Γ : GG) (sk : List SD) (hsk : Ext sk) (fu : Nat) {M M' : Mem}  {r : Int}  (h : f_X6_open fu M  = some (M', r)) : MetI l yX6_open cX6_open 1 .int ({ frames := 1, cells := 0, slots := 0, locals := 22 } : Room) Γ sk [vr Γ 48] M M' r := by
  unfold f_X6_open at h
  refine MetI_of RX6 rfl (by decide) rfl (Nat.le_of_ble_eq_true rfl) rfl ?_
  intro p e s m args below meth c C hr hlk hM
  have e45 := hsk 45 _ (by decide) rfl
  have e48 := hsk 48 _ (by decide) rfl
  have e49 := hsk 49 _ (by decide) rfl
  refine V_aload_n (pc := 0) C 0 rfl dX6_open_0 ?_
  refine V_getR (pc := 1) C e48 rfl inX6 0 (by decide) rfl lf_X6_15 rfl dX6_open_1 ?_
  refine V_getI (pc := 4) C e45 rfl inX9 4 (by decide) rfl lf_X6_54 rfl dX6_open_4 ?_
  refine V_iconst (pc := 7) C dX6_open_7 ?_
  refine V_icmp_ge (pc := 8) C 13 (hM _ _) (by decide) dX6_open_8 (by decide) (fun c8_1 => ?_) (fun c8_1 => ?_)
  · have h := ite_t h c8_1
    refine V_aload_n (pc := 13) C 0 rfl dX6_open_13 ?_
    refine V_getI (pc := 14) C e48 rfl inX6 5 (by decide) rfl lf_X6_23 rfl dX6_open_14 ?_
    refine V_bipush (pc := 17) C dX6_open_17 rfl ?_
    refine V_icmp_lt (pc := 19) C 24 (hM _ _) (by decide) dX6_open_19 (by decide) (fun c19_2 => ?_) (fun c19_2 => ?_)
    · have h := ite_t h c19_2
      refine V_aload_n (pc := 24) C 0 rfl dX6_open_24 ?_
      refine V_getR (pc := 25) C e48 rfl inX6 1 (by decide) rfl lf_X6_11 rfl dX6_open_25 ?_
      refine V_aload_n (pc := 28) C 0 rfl dX6_open_28 ?_
      refine V_getI (pc := 29) C e48 rfl inX6 5 (by decide) rfl lf_X6_23 rfl dX6_open_29 ?_
      refine V_iconst (pc := 32) C dX6_open_32 ?_
      refine V_imul (pc := 33) C dX6_open_33 ?_
      refine V_aload_n (pc := 34) C 0 rfl dX6_open_34 ?_
      refine V_getR (pc := 35) C e48 rfl inX6 0 (by decide) rfl lf_X6_15 rfl dX6_open_35 ?_
      refine V_getI (pc := 38) C e45 rfl inX9 4 (by decide) rfl lf_X6_54 rfl dX6_open_38 ?_
      obtain ⟨g3, h⟩ := grd_of h
      obtain ⟨M4, r5, hc6, h⟩ := cal_of h
      refine V_callNV (pc := 41) C (c_X11_put l Γ sk hsk fu e49 (by decide) (by decide) g3 (hM _ _) hc6) cf_X11_put ln_X6_57 ⟨rfl, rfl⟩ ⟨Nat.le_of_ble_eq_true rfl, Nat.le_of_ble_eq_true rfl⟩ rfl (Nat.le_of_ble_eq_true rfl) ⟨Nat.zero_le _, Nat.zero_le _⟩ rfl dX6_open_41 ?_
      refine V_aload_n (pc := 44) C 0 rfl dX6_open_44 ?_
      refine V_iconst (pc := 45) C dX6_open_45 ?_
      obtain ⟨g7, h⟩ := grd_of h
      refine V_putZ (pc := 46) C (by decide) e48 rfl inX6 tyX6 tyX6_ok nmX6 2 (by decide) rfl rfl lf_X6_27 rfl g7 rfl dX6_open_46 ?_
      refine V_aload_n (pc := 49) C 0 rfl dX6_open_49 ?_
      refine V_iconst (pc := 50) C dX6_open_50 ?_
      refine V_putI (pc := 51) C (by decide) e48 rfl inX6 tyX6 tyX6_ok nmX6 4 (by decide) rfl rfl lf_X6_61 rfl (by decide) rfl dX6_open_51 ?_
      refine V_iconst (pc := 54) C dX6_open_54 ?_
      exact V_iret (pc := 55) C hr hlk (by decide) h dX6_open_55
    · have h := ite_f h c19_2
      refine V_iconst (pc := 22) C dX6_open_22 ?_
      exact V_iret (pc := 23) C hr hlk (by decide) h dX6_open_23
  · have h := ite_f h c8_1
    refine V_iconst (pc := 11) C dX6_open_11 ?_
    exact V_iret (pc := 12) C hr hlk (by decide) h dX6_open_12
set_option maxRecDepth 100000 in
set_option maxHeartbeats 4000000 in
theorem c_X6_greatestArgument (l : Launch) (Γ : GG) (sk : List SD) (hsk : Ext sk) (fu : Nat) {M M' : Mem}  {r : Int}  (h : f_X6_greatestArgument fu M  = some (M', r)) : MetI l yX6_greatestArgument cX6_greatestArgument 1 .int ({ frames := 2, cells := 0, slots := 0, locals := 42 } : Room) Γ sk [vr Γ 48] M M' r := by
  unfold f_X6_greatestArgument at h
  refine MetI_of RX6 rfl (by decide) rfl (Nat.le_of_ble_eq_true rfl) rfl ?_
  intro p e s m args below meth c C hr hlk hM
  have e1 := hsk 1 _ (by decide) rfl
  have e48 := hsk 48 _ (by decide) rfl
  refine V_aload_n (pc := 0) C 0 rfl dX6_greatestArgument_0 ?_
  refine V_getI (pc := 1) C e48 rfl inX6 4 (by decide) rfl lf_X6_61 rfl dX6_greatestArgument_1 ?_
  refine V_iconst (pc := 4) C dX6_greatestArgument_4 ?_
  refine V_icmp_lt (pc := 5) C 10 (hM _ _) (by decide) dX6_greatestArgument_5 (by decide) (fun c5_1 => ?_) (fun c5_1 => ?_)
  · have h := ite_t h c5_1
    refine V_gets (pc := 10) C C.2.2.2.2.2.2.2.2.2.1 lf_X6_80 dX6_greatestArgument_10 ?_
    refine V_aload_n (pc := 13) C 0 rfl dX6_greatestArgument_13 ?_
    refine V_aload_n (pc := 14) C 0 rfl dX6_greatestArgument_14 ?_
    refine V_getI (pc := 15) C e48 rfl inX6 5 (by decide) rfl lf_X6_23 rfl dX6_greatestArgument_15 ?_
    obtain ⟨M2, r3, hc4, h⟩ := cal_of h
    refine V_callVI (pc := 18) C (c_X6_wordOf l Γ sk hsk fu (hM _ _) hc4) cf_X6_wordOf lk_X6_83 ⟨rfl, rfl⟩ ⟨Nat.le_of_ble_eq_true rfl, Nat.le_of_ble_eq_true rfl⟩ e48 rfl rfl rfl (Nat.le_of_ble_eq_true rfl) ⟨Nat.zero_le _, Nat.zero_le _⟩ rfl dX6_greatestArgument_18 (fun hr3 => ?_)
    refine V_iconst (pc := 21) C dX6_greatestArgument_21 ?_
    refine V_isub (pc := 22) C dX6_greatestArgument_22 ?_
    refine V_iconst (pc := 23) C dX6_greatestArgument_23 ?_
    refine V_imul (pc := 24) C dX6_greatestArgument_24 ?_
    refine V_aload_n (pc := 25) C 0 rfl dX6_greatestArgument_25 ?_
    refine V_rng fun hM5 => ?_
    refine V_getI (pc := 26) C e48 rfl inX6 4 (by decide) rfl lf_X6_61 rfl dX6_greatestArgument_26 ?_
    refine V_iadd (pc := 29) C dX6_greatestArgument_29 ?_
    obtain ⟨g6, h⟩ := grd_of h
    obtain ⟨M7, r8, hc9, h⟩ := cal_of h
    refine V_callNI (pc := 30) C (c_X11_at l Γ sk hsk fu e1 (by decide) g6 hc9) cf_X11_at ln_X6_19 ⟨rfl, rfl⟩ ⟨Nat.le_of_ble_eq_true rfl, Nat.le_of_ble_eq_true rfl⟩ rfl (Nat.le_of_ble_eq_true rfl) ⟨Nat.zero_le _, Nat.zero_le _⟩ rfl dX6_greatestArgument_30 (fun hr8 => ?_)
    exact V_iret (pc := 33) C hr hlk hr8 h dX6_greatestArgument_33
  · have h := ite_f h c5_1
    refine V_iconst (pc := 8) C dX6_greatestArgument_8 ?_
    exact V_iret (pc := 9) C hr hlk (by decide) h dX6_greatestArgument_9
set_option maxRecDepth 100000 in
set_option maxHeartbeats 4000000 in
theorem c_X6_keep (l : Launch) (Γ : GG) (sk : List SD) (hsk : Ext sk) (fu : Nat) {M M' : Mem} {a1 : Int} {r : Int} (ha1 : rng a1) (h : f_X6_keep fu M a1 = some (M', r)) : MetI l yX6_keep cX6_keep 2 .int ({ frames := 1, cells := 0, slots := 0, locals := 22 } : Room) Γ sk [vr Γ 48, vi a1] M M' r := by
  unfold f_X6_keep at h
  refine MetI_of RX6 rfl (by decide) rfl (Nat.le_of_ble_eq_true rfl) rfl ?_
  intro p e s m args below meth c C hr hlk hM
  have e48 := hsk 48 _ (by decide) rfl
  have e49 := hsk 49 _ (by decide) rfl
  have JP30 : ∀ {y1 : Int} {y2 : Int} {M : Mem}, rng y1 → rng y2 → f_X6_keep_J30 fu y1 y2 M = some (M', r) → VV p l e ({ frames := 1, cells := 0, slots := 0, locals := 22 } : Room) s m args below meth c (MQ below (PostI Γ sk M' r s.heap.size) args s 0 0 (Fr Γ sk s.heap.size)) 2 Γ sk M 0 0 30 [(0, vr Γ 48)] [vi y2, vi y1, vr Γ 49] := by
    intro y1 y2 M hy1 hy2 h
    unfold f_X6_keep_J30 at h
    obtain ⟨M2, r3, hc4, h⟩ := cal_of h
    refine V_callNV (pc := 30) C (c_X11_put l Γ sk hsk fu e49 (by decide) (by decide) hy1 hy2 hc4) cf_X11_put ln_X6_57 ⟨rfl, rfl⟩ ⟨Nat.le_of_ble_eq_true rfl, Nat.le_of_ble_eq_true rfl⟩ rfl (Nat.le_of_ble_eq_true rfl) ⟨Nat.zero_le _, Nat.zero_le _⟩ rfl dX6_keep_30 ?_
    refine V_aload_n (pc := 33) C 0 rfl dX6_keep_33 ?_
    refine V_dup (pc := 34) C rfl dX6_keep_34 ?_
    refine V_rng fun hM5 => ?_
    refine V_getI (pc := 35) C e48 rfl inX6 4 (by decide) rfl lf_X6_61 rfl dX6_keep_35 ?_
    refine V_iconst (pc := 38) C dX6_keep_38 ?_
    refine V_iadd (pc := 39) C dX6_keep_39 ?_
    obtain ⟨g6, h⟩ := grd_of h
    refine V_putI (pc := 40) C (by decide) e48 rfl inX6 tyX6 tyX6_ok nmX6 4 (by decide) rfl rfl lf_X6_61 rfl g6 rfl dX6_keep_40 ?_
    refine V_aload_n (pc := 43) C 0 rfl dX6_keep_43 ?_
    refine V_iconst (pc := 44) C dX6_keep_44 ?_
    obtain ⟨g7, h⟩ := grd_of h
    refine V_putZ (pc := 45) C (by decide) e48 rfl inX6 tyX6 tyX6_ok nmX6 3 (by decide) rfl rfl lf_X6_31 rfl g7 rfl dX6_keep_45 ?_
    refine V_iconst (pc := 48) C dX6_keep_48 ?_
    exact V_iret (pc := 49) C hr hlk (by decide) h dX6_keep_49
  skip
  refine V_aload_n (pc := 0) C 0 rfl dX6_keep_0 ?_
  refine V_getR (pc := 1) C e48 rfl inX6 1 (by decide) rfl lf_X6_11 rfl dX6_keep_1 ?_
  refine V_aload_n (pc := 4) C 0 rfl dX6_keep_4 ?_
  refine V_getI (pc := 5) C e48 rfl inX6 5 (by decide) rfl lf_X6_23 rfl dX6_keep_5 ?_
  refine V_iconst (pc := 8) C dX6_keep_8 ?_
  refine V_imul (pc := 9) C dX6_keep_9 ?_
  refine V_iconst (pc := 10) C dX6_keep_10 ?_
  refine V_iadd (pc := 11) C dX6_keep_11 ?_
  refine V_aload_n (pc := 12) C 0 rfl dX6_keep_12 ?_
  refine V_getI (pc := 13) C e48 rfl inX6 4 (by decide) rfl lf_X6_61 rfl dX6_keep_13 ?_
  refine V_iadd (pc := 16) C dX6_keep_16 ?_
  refine V_aload_n (pc := 17) C 0 rfl dX6_keep_17 ?_
  refine V_getI (pc := 18) C e48 rfl inX6 3 (by decide) rfl lf_X6_31 rfl dX6_keep_18 ?_
  refine V_if_eq (pc := 21) C 29 (hM _ _) dX6_keep_21 (by decide) (fun c21_1 => ?_) (fun c21_1 => ?_)
  · have h := ite_t h c21_1
    refine V_iload_n (pc := 29) C 1 rfl dX6_keep_29 ?_
    obtain ⟨g8, h⟩ := grd_of h
    refine V_sub (L' := [(0, vr Γ 48)]) [0] rfl (by decide) ?_
    exact JP30 g8 ha1 h
  · have h := ite_f h c21_1
    refine V_iload_n (pc := 24) C 1 rfl dX6_keep_24 ?_
    refine V_ineg (pc := 25) C dX6_keep_25 ?_
    refine V_goto (pc := 26) C 30 dX6_keep_26 (by decide) ?_
    obtain ⟨g9, h⟩ := grd_of h
    obtain ⟨g10, h⟩ := grd_of h
    refine V_sub (L' := [(0, vr Γ 48)]) [0] rfl (by decide) ?_
    exact JP30 g9 g10 h
set_option maxRecDepth 100000 in
set_option maxHeartbeats 4000000 in
theorem c_X6_close (l : Launch) (Γ : GG) (sk : List SD) (hsk : Ext sk) (fu : Nat) {M M' : Mem}  {r : Int}  (h : f_X6_close fu M  = some (M', r)) : MetI l yX6_close cX6_close 1 .int ({ frames := 0, cells := 0, slots := 0, locals := 0 } : Room) Γ sk [vr Γ 48] M M' r := by
  unfold f_X6_close at h
  refine MetI_of RX6 rfl (by decide) rfl (Nat.le_of_ble_eq_true rfl) rfl ?_
  intro p e s m args below meth c C hr hlk hM
  have e45 := hsk 45 _ (by decide) rfl
  have e48 := hsk 48 _ (by decide) rfl
  refine V_aload_n (pc := 0) C 0 rfl dX6_close_0 ?_
  refine V_getR (pc := 1) C e48 rfl inX6 0 (by decide) rfl lf_X6_15 rfl dX6_close_1 ?_
  refine V_getI (pc := 4) C e45 rfl inX9 3 (by decide) rfl lf_X6_70 rfl dX6_close_4 ?_
  refine V_iconst (pc := 7) C dX6_close_7 ?_
  refine V_icmp_eq (pc := 8) C 13 (hM _ _) (by decide) dX6_close_8 (by decide) (fun c8_1 => ?_) (fun c8_1 => ?_)
  · have h := ite_t h c8_1
    refine V_aload_n (pc := 13) C 0 rfl dX6_close_13 ?_
    refine V_iconst (pc := 14) C dX6_close_14 ?_
    obtain ⟨g2, h⟩ := grd_of h
    refine V_putZ (pc := 15) C (by decide) e48 rfl inX6 tyX6 tyX6_ok nmX6 2 (by decide) rfl rfl lf_X6_27 rfl g2 rfl dX6_close_15 ?_
    refine V_aload_n (pc := 18) C 0 rfl dX6_close_18 ?_
    refine V_dup (pc := 19) C rfl dX6_close_19 ?_
    refine V_rng fun hM3 => ?_
    refine V_getI (pc := 20) C e48 rfl inX6 5 (by decide) rfl lf_X6_23 rfl dX6_close_20 ?_
    refine V_iconst (pc := 23) C dX6_close_23 ?_
    refine V_iadd (pc := 24) C dX6_close_24 ?_
    obtain ⟨g4, h⟩ := grd_of h
    refine V_putI (pc := 25) C (by decide) e48 rfl inX6 tyX6 tyX6_ok nmX6 5 (by decide) rfl rfl lf_X6_23 rfl g4 rfl dX6_close_25 ?_
    refine V_iconst (pc := 28) C dX6_close_28 ?_
    exact V_iret (pc := 29) C hr hlk (by decide) h dX6_close_29
  · have h := ite_f h c8_1
    refine V_iconst (pc := 11) C dX6_close_11 ?_
    exact V_iret (pc := 12) C hr hlk (by decide) h dX6_close_12
set_option maxRecDepth 100000 in
set_option maxHeartbeats 4000000 in
theorem c_X6_accept (l : Launch) (Γ : GG) (sk : List SD) (hsk : Ext sk) (fu : Nat) {M M' : Mem}  {r : Int}  (h : f_X6_accept fu M  = some (M', r)) : MetI l yX6_accept cX6_accept 2 .int ({ frames := 3, cells := 0, slots := 0, locals := 62 } : Room) Γ sk [vr Γ 48] M M' r := by
  unfold f_X6_accept at h
  refine MetI_of RX6 rfl (by decide) rfl (Nat.le_of_ble_eq_true rfl) rfl ?_
  intro p e s m args below meth c C hr hlk hM
  have e45 := hsk 45 _ (by decide) rfl
  have e48 := hsk 48 _ (by decide) rfl
  have JP47 : ∀ {x1 : Int} {M : Mem}, rng x1 → f_X6_accept_J47 fu x1 M = some (M', r) → VV p l e ({ frames := 3, cells := 0, slots := 0, locals := 62 } : Room) s m args below meth c (MQ below (PostI Γ sk M' r s.heap.size) args s 0 0 (Fr Γ sk s.heap.size)) 2 Γ sk M 0 0 47 [(0, vr Γ 48), (1, vi x1)] [] := by
    intro x1 M hx1 h
    unfold f_X6_accept_J47 at h
    refine V_aload_n (pc := 47) C 0 rfl dX6_accept_47 ?_
    refine V_getR (pc := 48) C e48 rfl inX6 0 (by decide) rfl lf_X6_15 rfl dX6_accept_48 ?_
    refine V_rng fun hM6 => ?_
    refine V_getI (pc := 51) C e45 rfl inX9 3 (by decide) rfl lf_X6_70 rfl dX6_accept_51 ?_
    refine V_iconst (pc := 54) C dX6_accept_54 ?_
    refine V_icmp_eq (pc := 55) C 60 (hM6 _ _) (by decide) dX6_accept_55 (by decide) (fun c55_7 => ?_) (fun c55_7 => ?_)
    · have h := ite_t h c55_7
      refine V_aload_n (pc := 60) C 0 rfl dX6_accept_60 ?_
      refine V_getR (pc := 61) C e48 rfl inX6 0 (by decide) rfl lf_X6_15 rfl dX6_accept_61 ?_
      refine V_getI (pc := 64) C e45 rfl inX9 5 (by decide) rfl lf_X6_73 rfl dX6_accept_64 ?_
      refine V_iload_n (pc := 67) C 1 rfl dX6_accept_67 ?_
      refine V_icmp_le (pc := 68) C 75 (hM6 _ _) hx1 dX6_accept_68 (by decide) (fun c68_8 => ?_) (fun c68_8 => ?_)
      · have h := ite_t h c68_8
        refine V_aload_n (pc := 75) C 0 rfl dX6_accept_75 ?_
        refine V_aload_n (pc := 76) C 0 rfl dX6_accept_76 ?_
        refine V_getR (pc := 77) C e48 rfl inX6 0 (by decide) rfl lf_X6_15 rfl dX6_accept_77 ?_
        refine V_getI (pc := 80) C e45 rfl inX9 5 (by decide) rfl lf_X6_73 rfl dX6_accept_80 ?_
        obtain ⟨M9, r10, hc11, h⟩ := cal_of h
        refine V_callVI (pc := 83) C (c_X6_keep l Γ sk hsk fu (hM6 _ _) hc11) cf_X6_keep lk_X6_76 ⟨rfl, rfl⟩ ⟨Nat.le_of_ble_eq_true rfl, Nat.le_of_ble_eq_true rfl⟩ e48 rfl rfl rfl (Nat.le_of_ble_eq_true rfl) ⟨Nat.zero_le _, Nat.zero_le _⟩ rfl dX6_accept_83 (fun hr10 => ?_)
        exact V_iret (pc := 86) C hr hlk hr10 h dX6_accept_86
      · have h := ite_f h c68_8
        refine V_iconst (pc := 71) C dX6_accept_71 ?_
        refine V_goto (pc := 72) C 86 dX6_accept_72 (by decide) ?_
        exact V_iret (pc := 86) C hr hlk (by decide) h dX6_accept_86
    · have h := ite_f h c55_7
      refine V_iconst (pc := 58) C dX6_accept_58 ?_
      exact V_iret (pc := 59) C hr hlk (by decide) h dX6_accept_59
  skip
  refine V_aload_n (pc := 0) C 0 rfl dX6_accept_0 ?_
  obtain ⟨M1, r2, hc3, h⟩ := cal_of h
  refine V_callVI (pc := 1) C (c_X6_greatestArgument l Γ sk hsk fu hc3) cf_X6_greatestArgument lk_X6_64 ⟨rfl, rfl⟩ ⟨Nat.le_of_ble_eq_true rfl, Nat.le_of_ble_eq_true rfl⟩ e48 rfl rfl rfl (Nat.le_of_ble_eq_true rfl) ⟨Nat.zero_le _, Nat.zero_le _⟩ rfl dX6_accept_1 (fun hr2 => ?_)
  refine V_istore_n (pc := 4) C (L' := [(0, vr Γ 48), (1, vi r2)]) rfl (by decide) dX6_accept_4 ?_
  refine V_iload_n (pc := 5) C 1 rfl dX6_accept_5 ?_
  refine V_iconst (pc := 6) C dX6_accept_6 ?_
  refine V_icmp_ne (pc := 7) C 15 hr2 (by decide) dX6_accept_7 (by decide) (fun c7_4 => ?_) (fun c7_4 => ?_)
  · have h := ite_f h c7_4
    refine V_iload_n (pc := 15) C 1 rfl dX6_accept_15 ?_
    refine V_sipush (pc := 16) C dX6_accept_16 rfl ?_
    refine V_icmp_ne (pc := 19) C 47 hr2 (by decide) dX6_accept_19 (by decide) (fun c19_5 => ?_) (fun c19_5 => ?_)
    · have h := ite_f h c19_5
      refine V_sub (L' := [(0, vr Γ 48), (1, vi r2)]) [0, 1] rfl (by decide) ?_
      exact JP47 hr2 h
    · have h := ite_t h c19_5
      refine V_aload_n (pc := 22) C 0 rfl dX6_accept_22 ?_
      refine V_getR (pc := 23) C e48 rfl inX6 0 (by decide) rfl lf_X6_15 rfl dX6_accept_23 ?_
      refine V_rng fun hM12 => ?_
      refine V_getI (pc := 26) C e45 rfl inX9 4 (by decide) rfl lf_X6_54 rfl dX6_accept_26 ?_
      refine V_iconst (pc := 29) C dX6_accept_29 ?_
      refine V_icmp_ne (pc := 30) C 47 (hM12 _ _) (by decide) dX6_accept_30 (by decide) (fun c30_13 => ?_) (fun c30_13 => ?_)
      · have h := ite_f h c30_13
        refine V_sub (L' := [(0, vr Γ 48), (1, vi r2)]) [0, 1] rfl (by decide) ?_
        exact JP47 hr2 h
      · have h := ite_t h c30_13
        refine V_aload_n (pc := 33) C 0 rfl dX6_accept_33 ?_
        refine V_getI (pc := 34) C e48 rfl inX6 3 (by decide) rfl lf_X6_31 rfl dX6_accept_34 ?_
        refine V_if_ne (pc := 37) C 47 (hM12 _ _) dX6_accept_37 (by decide) (fun c37_14 => ?_) (fun c37_14 => ?_)
        · have h := ite_f h c37_14
          refine V_sub (L' := [(0, vr Γ 48), (1, vi r2)]) [0, 1] rfl (by decide) ?_
          exact JP47 hr2 h
        · have h := ite_t h c37_14
          refine V_aload_n (pc := 40) C 0 rfl dX6_accept_40 ?_
          refine V_iconst (pc := 41) C dX6_accept_41 ?_
          obtain ⟨g15, h⟩ := grd_of h
          refine V_putZ (pc := 42) C (by decide) e48 rfl inX6 tyX6 tyX6_ok nmX6 3 (by decide) rfl rfl lf_X6_31 rfl g15 rfl dX6_accept_42 ?_
          refine V_iconst (pc := 45) C dX6_accept_45 ?_
          exact V_iret (pc := 46) C hr hlk (by decide) h dX6_accept_46
  · have h := ite_t h c7_4
    refine V_aload_n (pc := 10) C 0 rfl dX6_accept_10 ?_
    obtain ⟨M16, r17, hc18, h⟩ := cal_of h
    refine V_callVI (pc := 11) C (c_X6_close l Γ sk hsk fu hc18) cf_X6_close lk_X6_67 ⟨rfl, rfl⟩ ⟨Nat.le_of_ble_eq_true rfl, Nat.le_of_ble_eq_true rfl⟩ e48 rfl rfl rfl (Nat.le_of_ble_eq_true rfl) ⟨Nat.zero_le _, Nat.zero_le _⟩ rfl dX6_accept_11 (fun hr17 => ?_)
    exact V_iret (pc := 14) C hr hlk hr17 h dX6_accept_14
