set_option maxRecDepth 100000 in
set_option maxHeartbeats 4000000 in
theorem c_X10_faultOfReplacement (l : Launch) (Γ : GG) (sk : List SD) (hsk : Ext sk) (fu : Nat) {M M' : Mem} {a1 : Int} {a2 : Int} {a3 : Int} {r : Int} (ha1 : rng a1) (ha2 : rng a2) (ha3 : rng a3) (h : f_X10_faultOfReplacement fu M a1 a2 a3 = some (M', r)) : MetI l yX10_faultOfReplacement cX10_faultOfReplacement 5 .int ({ frames := 4, cells := 0, slots := 0, locals := 86 } : Room) Γ sk [vr Γ 10, vi a1, vi a2, vi a3] M M' r := by
  unfold f_X10_faultOfReplacement at h
  refine MetI_of RX10 rfl (by decide) rfl (Nat.le_of_ble_eq_true rfl) rfl ?_
  intro p e s m args below meth c C hr hlk hM
  have e10 := hsk 10 _ (by decide) rfl
  refine V_aload_n (pc := 0) C 0 rfl dX10_faultOfReplacement_0 ?_
  refine V_iload_n (pc := 1) C 1 rfl dX10_faultOfReplacement_1 ?_
  refine V_iload_n (pc := 2) C 2 rfl dX10_faultOfReplacement_2 ?_
  obtain ⟨M1, r2, hc3, h⟩ := cal_of h
  refine V_callVI (pc := 3) C (c_X10_faultOfElement l Γ sk hsk fu ha1 ha2 hc3) cf_X10_faultOfElement lk_X10_92 ⟨rfl, rfl⟩ ⟨Nat.le_of_ble_eq_true rfl, Nat.le_of_ble_eq_true rfl⟩ e10 rfl rfl rfl (Nat.le_of_ble_eq_true rfl) ⟨Nat.zero_le _, Nat.zero_le _⟩ rfl dX10_faultOfReplacement_3 (fun hr2 => ?_)
  refine V_istore (pc := 6) C (L' := [(0, vr Γ 10), (1, vi a1), (2, vi a2), (3, vi a3), (4, vi r2)]) rfl (by decide) dX10_faultOfReplacement_6 ?_
  refine V_iload (pc := 8) C 4 rfl dX10_faultOfReplacement_8 ?_
  refine V_iconst (pc := 10) C dX10_faultOfReplacement_10 ?_
  refine V_icmp_eq (pc := 11) C 23 hr2 (by decide) dX10_faultOfReplacement_11 (by decide) (fun c11_4 => ?_) (fun c11_4 => ?_)
  · have h := ite_t h c11_4
    refine V_iload (pc := 23) C 4 rfl dX10_faultOfReplacement_23 ?_
    exact V_iret (pc := 25) C hr hlk hr2 h dX10_faultOfReplacement_25
  · have h := ite_f h c11_4
    refine V_iload_n (pc := 14) C 3 rfl dX10_faultOfReplacement_14 ?_
    obtain ⟨M5, r6, hc7, h⟩ := cal_of h
    refine V_callNI (pc := 15) C (c_X11_isElementValue l Γ sk hsk fu ha3 hc7) cf_X11_isElementValue ln_X10_96 ⟨rfl, rfl⟩ ⟨Nat.le_of_ble_eq_true rfl, Nat.le_of_ble_eq_true rfl⟩ rfl (Nat.le_of_ble_eq_true rfl) ⟨Nat.zero_le _, Nat.zero_le _⟩ rfl dX10_faultOfReplacement_15 (fun hr6 => ?_)
    refine V_if_ne (pc := 18) C 23 hr6 dX10_faultOfReplacement_18 (by decide) (fun c18_8 => ?_) (fun c18_8 => ?_)
    · have h := ite_f h c18_8
      refine V_iload (pc := 23) C 4 rfl dX10_faultOfReplacement_23 ?_
      exact V_iret (pc := 25) C hr hlk hr2 h dX10_faultOfReplacement_25
    · have h := ite_t h c18_8
      refine V_iconst (pc := 21) C dX10_faultOfReplacement_21 ?_
      exact V_iret (pc := 22) C hr hlk (by decide) h dX10_faultOfReplacement_22
set_option maxRecDepth 100000 in
set_option maxHeartbeats 4000000 in
theorem c_X10_faultOfSet (l : Launch) (Γ : GG) (sk : List SD) (hsk : Ext sk) (fu : Nat) {M M' : Mem} {a1 : Int} {a2 : Int} {a3 : Int} {r : Int} (ha1 : rng a1) (ha2 : rng a2) (ha3 : rng a3) (h : f_X10_faultOfSet fu M a1 a2 a3 = some (M', r)) : MetI l yX10_faultOfSet cX10_faultOfSet 5 .int ({ frames := 5, cells := 0, slots := 0, locals := 110 } : Room) Γ sk [vr Γ 10, vi a1, vi a2, vi a3] M M' r := by
  unfold f_X10_faultOfSet at h
  refine MetI_of RX10 rfl (by decide) rfl (Nat.le_of_ble_eq_true rfl) rfl ?_
  intro p e s m args below meth c C hr hlk hM
  have e10 := hsk 10 _ (by decide) rfl
  refine V_aload_n (pc := 0) C 0 rfl dX10_faultOfSet_0 ?_
  refine V_iload_n (pc := 1) C 1 rfl dX10_faultOfSet_1 ?_
  refine V_iload_n (pc := 2) C 2 rfl dX10_faultOfSet_2 ?_
  refine V_iload_n (pc := 3) C 3 rfl dX10_faultOfSet_3 ?_
  obtain ⟨M1, r2, hc3, h⟩ := cal_of h
  refine V_callVI (pc := 4) C (c_X10_faultOfReplacement l Γ sk hsk fu ha1 ha2 ha3 hc3) cf_X10_faultOfReplacement lk_X10_99 ⟨rfl, rfl⟩ ⟨Nat.le_of_ble_eq_true rfl, Nat.le_of_ble_eq_true rfl⟩ e10 rfl rfl rfl (Nat.le_of_ble_eq_true rfl) ⟨Nat.zero_le _, Nat.zero_le _⟩ rfl dX10_faultOfSet_4 (fun hr2 => ?_)
  refine V_istore (pc := 7) C (L' := [(0, vr Γ 10), (1, vi a1), (2, vi a2), (3, vi a3), (4, vi r2)]) rfl (by decide) dX10_faultOfSet_7 ?_
  refine V_iload (pc := 9) C 4 rfl dX10_faultOfSet_9 ?_
  refine V_if_ne (pc := 11) C 25 hr2 dX10_faultOfSet_11 (by decide) (fun c11_4 => ?_) (fun c11_4 => ?_)
  · have h := ite_f h c11_4
    refine V_iload (pc := 25) C 4 rfl dX10_faultOfSet_25 ?_
    exact V_iret (pc := 27) C hr hlk hr2 h dX10_faultOfSet_27
  · have h := ite_t h c11_4
    refine V_aload_n (pc := 14) C 0 rfl dX10_faultOfSet_14 ?_
    obtain ⟨M5, r6, hc7, h⟩ := cal_of h
    refine V_callVI (pc := 15) C (c_X10_isFull l Γ sk hsk fu hc7) cf_X10_isFull lk_X10_103 ⟨rfl, rfl⟩ ⟨Nat.le_of_ble_eq_true rfl, Nat.le_of_ble_eq_true rfl⟩ e10 rfl rfl rfl (Nat.le_of_ble_eq_true rfl) ⟨Nat.zero_le _, Nat.zero_le _⟩ rfl dX10_faultOfSet_15 (fun hr6 => ?_)
    refine V_if_eq (pc := 18) C 25 hr6 dX10_faultOfSet_18 (by decide) (fun c18_8 => ?_) (fun c18_8 => ?_)
    · have h := ite_t h c18_8
      refine V_iload (pc := 25) C 4 rfl dX10_faultOfSet_25 ?_
      exact V_iret (pc := 27) C hr hlk hr2 h dX10_faultOfSet_27
    · have h := ite_f h c18_8
      refine V_iconst (pc := 21) C dX10_faultOfSet_21 ?_
      refine V_goto (pc := 22) C 27 dX10_faultOfSet_22 (by decide) ?_
      exact V_iret (pc := 27) C hr hlk (by decide) h dX10_faultOfSet_27
set_option maxRecDepth 100000 in
set_option maxHeartbeats 4000000 in
theorem c_X10_faultOfAppend (l : Launch) (Γ : GG) (sk : List SD) (hsk : Ext sk) (fu : Nat) {M M' : Mem} {a1 : Int} {a2 : Int} {r : Int} (ha1 : rng a1) (ha2 : rng a2) (h : f_X10_faultOfAppend fu M a1 a2 = some (M', r)) : MetI l yX10_faultOfAppend cX10_faultOfAppend 3 .int ({ frames := 2, cells := 0, slots := 0, locals := 42 } : Room) Γ sk [vr Γ 10, vi a1, vi a2] M M' r := by
  unfold f_X10_faultOfAppend at h
  refine MetI_of RX10 rfl (by decide) rfl (Nat.le_of_ble_eq_true rfl) rfl ?_
  intro p e s m args below meth c C hr hlk hM
  have e10 := hsk 10 _ (by decide) rfl
  refine V_aload_n (pc := 0) C 0 rfl dX10_faultOfAppend_0 ?_
  refine V_iload_n (pc := 1) C 1 rfl dX10_faultOfAppend_1 ?_
  obtain ⟨M1, r2, hc3, h⟩ := cal_of h
  refine V_callVI (pc := 2) C (c_X10_has l Γ sk hsk fu ha1 hc3) cf_X10_has lk_X10_61 ⟨rfl, rfl⟩ ⟨Nat.le_of_ble_eq_true rfl, Nat.le_of_ble_eq_true rfl⟩ e10 rfl rfl rfl (Nat.le_of_ble_eq_true rfl) ⟨Nat.zero_le _, Nat.zero_le _⟩ rfl dX10_faultOfAppend_2 (fun hr2 => ?_)
  refine V_if_ne (pc := 5) C 10 hr2 dX10_faultOfAppend_5 (by decide) (fun c5_4 => ?_) (fun c5_4 => ?_)
  · have h := ite_f h c5_4
    refine V_iload_n (pc := 10) C 2 rfl dX10_faultOfAppend_10 ?_
    obtain ⟨M5, r6, hc7, h⟩ := cal_of h
    refine V_callNI (pc := 11) C (c_X11_isElementValue l Γ sk hsk fu ha2 hc7) cf_X11_isElementValue ln_X10_96 ⟨rfl, rfl⟩ ⟨Nat.le_of_ble_eq_true rfl, Nat.le_of_ble_eq_true rfl⟩ rfl (Nat.le_of_ble_eq_true rfl) ⟨Nat.zero_le _, Nat.zero_le _⟩ rfl dX10_faultOfAppend_11 (fun hr6 => ?_)
    refine V_if_ne (pc := 14) C 19 hr6 dX10_faultOfAppend_14 (by decide) (fun c14_8 => ?_) (fun c14_8 => ?_)
    · have h := ite_f h c14_8
      refine V_aload_n (pc := 19) C 0 rfl dX10_faultOfAppend_19 ?_
      refine V_iload_n (pc := 20) C 1 rfl dX10_faultOfAppend_20 ?_
      obtain ⟨M9, r10, hc11, h⟩ := cal_of h
      refine V_callVI (pc := 21) C (c_X10_isLive l Γ sk hsk fu ha1 hc11) cf_X10_isLive lk_X10_73 ⟨rfl, rfl⟩ ⟨Nat.le_of_ble_eq_true rfl, Nat.le_of_ble_eq_true rfl⟩ e10 rfl rfl rfl (Nat.le_of_ble_eq_true rfl) ⟨Nat.zero_le _, Nat.zero_le _⟩ rfl dX10_faultOfAppend_21 (fun hr10 => ?_)
      refine V_if_eq (pc := 24) C 44 hr10 dX10_faultOfAppend_24 (by decide) (fun c24_12 => ?_) (fun c24_12 => ?_)
      · have h := ite_t h c24_12
        refine V_iconst (pc := 44) C dX10_faultOfAppend_44 ?_
        refine V_goto (pc := 45) C 49 dX10_faultOfAppend_45 (by decide) ?_
        exact V_iret (pc := 49) C hr hlk (by decide) h dX10_faultOfAppend_49
      · have h := ite_f h c24_12
        refine V_aload_n (pc := 27) C 0 rfl dX10_faultOfAppend_27 ?_
        refine V_iload_n (pc := 28) C 1 rfl dX10_faultOfAppend_28 ?_
        obtain ⟨M13, r14, hc15, h⟩ := cal_of h
        refine V_callVI (pc := 29) C (c_X10_sizeAt l Γ sk hsk fu ha1 hc15) cf_X10_sizeAt lk_X10_83 ⟨rfl, rfl⟩ ⟨Nat.le_of_ble_eq_true rfl, Nat.le_of_ble_eq_true rfl⟩ e10 rfl rfl rfl (Nat.le_of_ble_eq_true rfl) ⟨Nat.zero_le _, Nat.zero_le _⟩ rfl dX10_faultOfAppend_29 (fun hr14 => ?_)
        refine V_bipush (pc := 32) C dX10_faultOfAppend_32 rfl ?_
        refine V_icmp_ge (pc := 34) C 44 hr14 (by decide) dX10_faultOfAppend_34 (by decide) (fun c34_16 => ?_) (fun c34_16 => ?_)
        · have h := ite_t h c34_16
          refine V_iconst (pc := 44) C dX10_faultOfAppend_44 ?_
          refine V_goto (pc := 45) C 49 dX10_faultOfAppend_45 (by decide) ?_
          exact V_iret (pc := 49) C hr hlk (by decide) h dX10_faultOfAppend_49
        · have h := ite_f h c34_16
          refine V_aload_n (pc := 37) C 0 rfl dX10_faultOfAppend_37 ?_
          obtain ⟨M17, r18, hc19, h⟩ := cal_of h
          refine V_callVI (pc := 38) C (c_X10_isFull l Γ sk hsk fu hc19) cf_X10_isFull lk_X10_103 ⟨rfl, rfl⟩ ⟨Nat.le_of_ble_eq_true rfl, Nat.le_of_ble_eq_true rfl⟩ e10 rfl rfl rfl (Nat.le_of_ble_eq_true rfl) ⟨Nat.zero_le _, Nat.zero_le _⟩ rfl dX10_faultOfAppend_38 (fun hr18 => ?_)
          refine V_if_eq (pc := 41) C 48 hr18 dX10_faultOfAppend_41 (by decide) (fun c41_20 => ?_) (fun c41_20 => ?_)
          · have h := ite_t h c41_20
            refine V_iconst (pc := 48) C dX10_faultOfAppend_48 ?_
            exact V_iret (pc := 49) C hr hlk (by decide) h dX10_faultOfAppend_49
          · have h := ite_f h c41_20
            refine V_iconst (pc := 44) C dX10_faultOfAppend_44 ?_
            refine V_goto (pc := 45) C 49 dX10_faultOfAppend_45 (by decide) ?_
            exact V_iret (pc := 49) C hr hlk (by decide) h dX10_faultOfAppend_49
    · have h := ite_t h c14_8
      refine V_iconst (pc := 17) C dX10_faultOfAppend_17 ?_
      exact V_iret (pc := 18) C hr hlk (by decide) h dX10_faultOfAppend_18
  · have h := ite_t h c5_4
    refine V_iconst (pc := 8) C dX10_faultOfAppend_8 ?_
    exact V_iret (pc := 9) C hr hlk (by decide) h dX10_faultOfAppend_9
set_option maxRecDepth 100000 in
set_option maxHeartbeats 4000000 in
theorem c_X10_faultOfTruncate (l : Launch) (Γ : GG) (sk : List SD) (hsk : Ext sk) (fu : Nat) {M M' : Mem} {a1 : Int} {a2 : Int} {r : Int} (ha1 : rng a1) (ha2 : rng a2) (h : f_X10_faultOfTruncate fu M a1 a2 = some (M', r)) : MetI l yX10_faultOfTruncate cX10_faultOfTruncate 3 .int ({ frames := 2, cells := 0, slots := 0, locals := 42 } : Room) Γ sk [vr Γ 10, vi a1, vi a2] M M' r := by
  unfold f_X10_faultOfTruncate at h
  refine MetI_of RX10 rfl (by decide) rfl (Nat.le_of_ble_eq_true rfl) rfl ?_
  intro p e s m args below meth c C hr hlk hM
  have e10 := hsk 10 _ (by decide) rfl
  have JP33 : ∀ {x1 : Int} {M : Mem}, rng x1 → f_X10_faultOfTruncate_J33 fu x1 M = some (M', r) → VV p l e ({ frames := 2, cells := 0, slots := 0, locals := 42 } : Room) s m args below meth c (MQ below (PostI Γ sk M' r s.heap.size) args s 0 0 (Fr Γ sk s.heap.size)) 3 Γ sk M 0 0 33 [(0, vr Γ 10), (1, vi x1)] [] := by
    intro x1 M hx1 h
    unfold f_X10_faultOfTruncate_J33 at h
    refine V_aload_n (pc := 33) C 0 rfl dX10_faultOfTruncate_33 ?_
    refine V_iload_n (pc := 34) C 1 rfl dX10_faultOfTruncate_34 ?_
    obtain ⟨M10, r11, hc12, h⟩ := cal_of h
    refine V_callVI (pc := 35) C (c_X10_isLive l Γ sk hsk fu hx1 hc12) cf_X10_isLive lk_X10_73 ⟨rfl, rfl⟩ ⟨Nat.le_of_ble_eq_true rfl, Nat.le_of_ble_eq_true rfl⟩ e10 rfl rfl rfl (Nat.le_of_ble_eq_true rfl) ⟨Nat.zero_le _, Nat.zero_le _⟩ rfl dX10_faultOfTruncate_35 (fun hr11 => ?_)
    refine V_if_eq (pc := 38) C 48 hr11 dX10_faultOfTruncate_38 (by decide) (fun c38_13 => ?_) (fun c38_13 => ?_)
    · have h := ite_t h c38_13
      refine V_iconst (pc := 48) C dX10_faultOfTruncate_48 ?_
      refine V_goto (pc := 49) C 53 dX10_faultOfTruncate_49 (by decide) ?_
      exact V_iret (pc := 53) C hr hlk (by decide) h dX10_faultOfTruncate_53
    · have h := ite_f h c38_13
      refine V_aload_n (pc := 41) C 0 rfl dX10_faultOfTruncate_41 ?_
      obtain ⟨M14, r15, hc16, h⟩ := cal_of h
      refine V_callVI (pc := 42) C (c_X10_isFull l Γ sk hsk fu hc16) cf_X10_isFull lk_X10_103 ⟨rfl, rfl⟩ ⟨Nat.le_of_ble_eq_true rfl, Nat.le_of_ble_eq_true rfl⟩ e10 rfl rfl rfl (Nat.le_of_ble_eq_true rfl) ⟨Nat.zero_le _, Nat.zero_le _⟩ rfl dX10_faultOfTruncate_42 (fun hr15 => ?_)
      refine V_if_eq (pc := 45) C 52 hr15 dX10_faultOfTruncate_45 (by decide) (fun c45_17 => ?_) (fun c45_17 => ?_)
      · have h := ite_t h c45_17
        refine V_iconst (pc := 52) C dX10_faultOfTruncate_52 ?_
        exact V_iret (pc := 53) C hr hlk (by decide) h dX10_faultOfTruncate_53
      · have h := ite_f h c45_17
        refine V_iconst (pc := 48) C dX10_faultOfTruncate_48 ?_
        refine V_goto (pc := 49) C 53 dX10_faultOfTruncate_49 (by decide) ?_
        exact V_iret (pc := 53) C hr hlk (by decide) h dX10_faultOfTruncate_53
  skip
  refine V_aload_n (pc := 0) C 0 rfl dX10_faultOfTruncate_0 ?_
  refine V_iload_n (pc := 1) C 1 rfl dX10_faultOfTruncate_1 ?_
  obtain ⟨M1, r2, hc3, h⟩ := cal_of h
  refine V_callVI (pc := 2) C (c_X10_has l Γ sk hsk fu ha1 hc3) cf_X10_has lk_X10_61 ⟨rfl, rfl⟩ ⟨Nat.le_of_ble_eq_true rfl, Nat.le_of_ble_eq_true rfl⟩ e10 rfl rfl rfl (Nat.le_of_ble_eq_true rfl) ⟨Nat.zero_le _, Nat.zero_le _⟩ rfl dX10_faultOfTruncate_2 (fun hr2 => ?_)
  refine V_if_ne (pc := 5) C 10 hr2 dX10_faultOfTruncate_5 (by decide) (fun c5_4 => ?_) (fun c5_4 => ?_)
  · have h := ite_f h c5_4
    refine V_iload_n (pc := 10) C 2 rfl dX10_faultOfTruncate_10 ?_
    refine V_if_lt (pc := 11) C 31 ha2 dX10_faultOfTruncate_11 (by decide) (fun c11_5 => ?_) (fun c11_5 => ?_)
    · have h := ite_t h c11_5
      refine V_iconst (pc := 31) C dX10_faultOfTruncate_31 ?_
      exact V_iret (pc := 32) C hr hlk (by decide) h dX10_faultOfTruncate_32
    · have h := ite_f h c11_5
      refine V_aload_n (pc := 14) C 0 rfl dX10_faultOfTruncate_14 ?_
      refine V_iload_n (pc := 15) C 1 rfl dX10_faultOfTruncate_15 ?_
      obtain ⟨M6, r7, hc8, h⟩ := cal_of h
      refine V_callVI (pc := 16) C (c_X10_isLive l Γ sk hsk fu ha1 hc8) cf_X10_isLive lk_X10_73 ⟨rfl, rfl⟩ ⟨Nat.le_of_ble_eq_true rfl, Nat.le_of_ble_eq_true rfl⟩ e10 rfl rfl rfl (Nat.le_of_ble_eq_true rfl) ⟨Nat.zero_le _, Nat.zero_le _⟩ rfl dX10_faultOfTruncate_16 (fun hr7 => ?_)
      refine V_if_eq (pc := 19) C 33 hr7 dX10_faultOfTruncate_19 (by decide) (fun c19_9 => ?_) (fun c19_9 => ?_)
      · have h := ite_t h c19_9
        refine V_sub (L' := [(0, vr Γ 10), (1, vi a1)]) [0, 1] rfl (by decide) ?_
        exact JP33 ha1 h
      · have h := ite_f h c19_9
        refine V_iload_n (pc := 22) C 2 rfl dX10_faultOfTruncate_22 ?_
        refine V_aload_n (pc := 23) C 0 rfl dX10_faultOfTruncate_23 ?_
        refine V_iload_n (pc := 24) C 1 rfl dX10_faultOfTruncate_24 ?_
        obtain ⟨M18, r19, hc20, h⟩ := cal_of h
        refine V_callVI (pc := 25) C (c_X10_sizeAt l Γ sk hsk fu ha1 hc20) cf_X10_sizeAt lk_X10_83 ⟨rfl, rfl⟩ ⟨Nat.le_of_ble_eq_true rfl, Nat.le_of_ble_eq_true rfl⟩ e10 rfl rfl rfl (Nat.le_of_ble_eq_true rfl) ⟨Nat.zero_le _, Nat.zero_le _⟩ rfl dX10_faultOfTruncate_25 (fun hr19 => ?_)
        refine V_icmp_le (pc := 28) C 33 ha2 hr19 dX10_faultOfTruncate_28 (by decide) (fun c28_21 => ?_) (fun c28_21 => ?_)
        · have h := ite_t h c28_21
          refine V_sub (L' := [(0, vr Γ 10), (1, vi a1)]) [0, 1] rfl (by decide) ?_
          exact JP33 ha1 h
        · have h := ite_f h c28_21
          refine V_iconst (pc := 31) C dX10_faultOfTruncate_31 ?_
          exact V_iret (pc := 32) C hr hlk (by decide) h dX10_faultOfTruncate_32
  · have h := ite_t h c5_4
    refine V_iconst (pc := 8) C dX10_faultOfTruncate_8 ?_
    exact V_iret (pc := 9) C hr hlk (by decide) h dX10_faultOfTruncate_9
set_option maxRecDepth 100000 in
set_option maxHeartbeats 4000000 in
theorem c_X11_positionIn (l : Launch) (Γ : GG) (sk : List SD) (hsk : Ext sk) (fu : Nat) {M M' : Mem} {a0 : Int} {a1 : Int} {r : Int} (ha0 : rng a0) (ha1 : rng a1) (h : f_X11_positionIn fu M a0 a1 = some (M', r)) : MetI l yX11_positionIn cX11_positionIn 2 .int ({ frames := 0, cells := 0, slots := 0, locals := 0 } : Room) Γ sk [vi a0, vi a1] M M' r := by
  unfold f_X11_positionIn at h
  refine MetI_of RX11 rfl (by decide) rfl (Nat.le_of_ble_eq_true rfl) rfl ?_
  intro p e s m args below meth c C hr hlk hM
  refine V_iload_n (pc := 0) C 1 rfl dX11_positionIn_0 ?_
  refine V_iconst (pc := 1) C dX11_positionIn_1 ?_
  refine V_iload_n (pc := 2) C 0 rfl dX11_positionIn_2 ?_
  refine V_iconst (pc := 3) C dX11_positionIn_3 ?_
  refine V_isub (pc := 4) C dX11_positionIn_4 ?_
  refine V_imul (pc := 5) C dX11_positionIn_5 ?_
  obtain ⟨g1, h⟩ := grd_of h
  refine V_ishr (pc := 6) C (y := (2 : Int) * (a0 - (1 : Int))) ha1 g1 dX11_positionIn_6 ?_
  refine V_iconst (pc := 7) C dX11_positionIn_7 ?_
  refine V_iand (pc := 8) C (z := (a1 / (2 ^ ((2 : Int) * (a0 - (1 : Int)) : Int).toNat : Nat)) % 4) 2 (by decide) (by decide) rfl dX11_positionIn_8 ?_
  obtain ⟨g2, h⟩ := grd_of h
  exact V_iret (pc := 9) C hr hlk g2 h dX11_positionIn_9
set_option maxRecDepth 100000 in
set_option maxHeartbeats 4000000 in
theorem c_X8_addLeaves (l : Launch) (Γ : GG) (sk : List SD) (hsk : Ext sk) (fu : Nat) {M M' : Mem} {k1 : Nat} {n1 : Nat} {a2 : Int} {r : Int} (hk1 : sk[k1]? = some (.inl (0, n1))) (hn1 : n1 ≤ 2147483647) (ha2 : rng a2) (h : f_X8_addLeaves fu M k1 n1 a2 = some (M', r)) : MetV l yX8_addLeaves cX8_addLeaves 6 ({ frames := 2, cells := 0, slots := 0, locals := 53 } : Room) Γ sk [vr Γ 4, vr Γ k1, vi a2] M M' := by
  unfold f_X8_addLeaves at h
  refine MetV_of RX8 rfl (by decide) rfl (Nat.le_of_ble_eq_true rfl) rfl ?_
  intro p e s m args below meth c C hr hlk hM
  have e4 := hsk 4 _ (by decide) rfl
  have e5 := hsk 5 _ (by decide) rfl
  have JP33 : ∀ (k5 : Int → Int → Int → Mem → Option (Mem × Int)) (_ : ∀ (x2 : Int) (x3 : Int) (x4 : Int) (M : Mem), rng x2 → rng x3 → rng x4 → k5 x2 x3 x4 M = some (M', r) → VV p l e ({ frames := 2, cells := 0, slots := 0, locals := 53 } : Room) s m args below meth c (MQ below (PostV Γ sk M' s.heap.size) args s 0 0 (Fr Γ sk s.heap.size)) 6 Γ sk M 0 0 5 [(0, vr Γ 4), (1, vr Γ k1), (2, vi x2), (3, vi x3), (4, vi x4)] []) {x2 : Int} {x3 : Int} {x4 : Int} {x5 : Int} {M : Mem}, rng x2 → rng x3 → rng x4 → rng x5 → f_X8_addLeaves_J33 fu k1 n1 k5 x2 x3 x4 x5 M = some (M', r) → VV p l e ({ frames := 2, cells := 0, slots := 0, locals := 53 } : Room) s m args below meth c (MQ below (PostV Γ sk M' s.heap.size) args s 0 0 (Fr Γ sk s.heap.size)) 6 Γ sk M 0 0 33 [(0, vr Γ 4), (1, vr Γ k1), (2, vi x2), (3, vi x3), (4, vi x4), (5, vi x5)] [] := by
    intro k5 hkk5 x2 x3 x4 x5 M hx2 hx3 hx4 hx5 h
    unfold f_X8_addLeaves_J33 at h
    refine V_aload_n (pc := 33) C 0 rfl dX8_addLeaves_33 ?_
    refine V_getR (pc := 34) C e4 rfl inX8 0 (by decide) rfl lf_X8_12 rfl dX8_addLeaves_34 ?_
    refine V_iload_n (pc := 37) C 3 rfl dX8_addLeaves_37 ?_
    refine V_iload (pc := 38) C 5 rfl dX8_addLeaves_38 ?_
    refine V_aload_n (pc := 40) C 1 rfl dX8_addLeaves_40 ?_
    refine V_iload (pc := 41) C 4 rfl dX8_addLeaves_41 ?_
    obtain ⟨M6, r7, hc8, h⟩ := cal_of h
    refine V_callNI (pc := 43) C (c_X11_at l Γ sk hsk fu hk1 hn1 hx4 hc8) cf_X11_at ln_X8_59 ⟨rfl, rfl⟩ ⟨Nat.le_of_ble_eq_true rfl, Nat.le_of_ble_eq_true rfl⟩ rfl (Nat.le_of_ble_eq_true rfl) ⟨Nat.zero_le _, Nat.zero_le _⟩ rfl dX8_addLeaves_43 (fun hr7 => ?_)
    obtain ⟨M9, r10, hc11, h⟩ := cal_of h
    refine V_callVV (pc := 46) C (c_X3_place l Γ sk hsk fu hx3 hx5 hr7 hc11) cf_X3_place lk_X8_63 ⟨rfl, rfl⟩ ⟨Nat.le_of_ble_eq_true rfl, Nat.le_of_ble_eq_true rfl⟩ e5 rfl rfl rfl (Nat.le_of_ble_eq_true rfl) ⟨Nat.zero_le _, Nat.zero_le _⟩ rfl dX8_addLeaves_46 ?_
    refine V_iinc (pc := 49) C (L' := [(0, vr Γ 4), (1, vr Γ k1), (2, vi x2), (3, vi x3), (4, vi (x4 + (1 : Int))), (5, vi x5)]) 4 rfl rfl (by decide) dX8_addLeaves_49 ?_
    refine V_goto (pc := 52) C 5 dX8_addLeaves_52 (by decide) ?_
    obtain ⟨g12, h⟩ := grd_of h
    refine V_sub (L' := [(0, vr Γ 4), (1, vr Γ k1), (2, vi x2), (3, vi x3), (4, vi (x4 + (1 : Int)))]) [0, 1, 2, 3, 4] rfl (by decide) ?_
    exact hkk5 _ _ _ _ hx2 hx3 g12 h
  have LP5 : ∀ (n : Nat) {x2 : Int} {x3 : Int} {x4 : Int} {M : Mem}, rng x2 → rng x3 → rng x4 → f_X8_addLeaves_L5 fu k1 n1 n x2 x3 x4 M = some (M', r) → VV p l e ({ frames := 2, cells := 0, slots := 0, locals := 53 } : Room) s m args below meth c (MQ below (PostV Γ sk M' s.heap.size) args s 0 0 (Fr Γ sk s.heap.size)) 6 Γ sk M 0 0 5 [(0, vr Γ 4), (1, vr Γ k1), (2, vi x2), (3, vi x3), (4, vi x4)] [] := by
    intro n
    induction n with
    | zero =>
      intro x2 x3 x4 M hx2 hx3 hx4 h
      cases h
    | succ n ih =>
      intro x2 x3 x4 M hx2 hx3 hx4 h
      rw [f_X8_addLeaves_L5] at h
      refine V_iload (pc := 5) C 4 rfl dX8_addLeaves_5 ?_
      refine V_iload_n (pc := 7) C 2 rfl dX8_addLeaves_7 ?_
      refine V_icmp_ge (pc := 8) C 55 hx4 hx2 dX8_addLeaves_8 (by decide) (fun c8_1 => ?_) (fun c8_1 => ?_)
      · have h := ite_t h c8_1
        exact V_vret (pc := 55) C hr hlk h dX8_addLeaves_55
      · have h := ite_f h c8_1
        refine V_iconst (pc := 11) C dX8_addLeaves_11 ?_
        refine V_iload (pc := 12) C 4 rfl dX8_addLeaves_12 ?_
        obtain ⟨M2, r3, hc4, h⟩ := cal_of h
        refine V_callNI (pc := 14) C (c_X11_positionIn l Γ sk hsk fu (by decide) hx4 hc4) cf_X11_positionIn ln_X8_52 ⟨rfl, rfl⟩ ⟨Nat.le_of_ble_eq_true rfl, Nat.le_of_ble_eq_true rfl⟩ rfl (Nat.le_of_ble_eq_true rfl) ⟨Nat.zero_le _, Nat.zero_le _⟩ rfl dX8_addLeaves_14 (fun hr3 => ?_)
        refine V_istore (pc := 17) C (L' := [(0, vr Γ 4), (1, vr Γ k1), (2, vi x2), (3, vi x3), (4, vi x4), (5, vi r3)]) rfl (by decide) dX8_addLeaves_17 ?_
        refine V_iload (pc := 19) C 5 rfl dX8_addLeaves_19 ?_
        refine V_if_ne (pc := 21) C 33 hr3 dX8_addLeaves_21 (by decide) (fun c21_5 => ?_) (fun c21_5 => ?_)
        · have h := ite_f h c21_5
          refine V_sub (L' := [(0, vr Γ 4), (1, vr Γ k1), (2, vi x2), (3, vi x3), (4, vi x4), (5, vi r3)]) [0, 1, 2, 3, 4, 5] rfl (by decide) ?_
          exact JP33 _ (fun _ _ _ _ hz0 hz1 hz2 hz => ih hz0 hz1 hz2 hz) hx2 hx3 hx4 hr3 h
        · have h := ite_t h c21_5
          refine V_aload_n (pc := 24) C 0 rfl dX8_addLeaves_24 ?_
          refine V_getR (pc := 25) C e4 rfl inX8 0 (by decide) rfl lf_X8_12 rfl dX8_addLeaves_25 ?_
          refine V_iconst (pc := 28) C dX8_addLeaves_28 ?_
          obtain ⟨M13, r14, hc15, h⟩ := cal_of h
          refine V_callVI (pc := 29) C (c_X3_add l Γ sk hsk fu (by decide) hc15) cf_X3_add lk_X8_56 ⟨rfl, rfl⟩ ⟨Nat.le_of_ble_eq_true rfl, Nat.le_of_ble_eq_true rfl⟩ e5 rfl rfl rfl (Nat.le_of_ble_eq_true rfl) ⟨Nat.zero_le _, Nat.zero_le _⟩ rfl dX8_addLeaves_29 (fun hr14 => ?_)
          refine V_istore_n (pc := 32) C (L' := [(0, vr Γ 4), (1, vr Γ k1), (2, vi x2), (3, vi r14), (4, vi x4), (5, vi r3)]) rfl (by decide) dX8_addLeaves_32 ?_
          refine V_sub (L' := [(0, vr Γ 4), (1, vr Γ k1), (2, vi x2), (3, vi r14), (4, vi x4), (5, vi r3)]) [0, 1, 2, 3, 4, 5] rfl (by decide) ?_
          exact JP33 _ (fun _ _ _ _ hz0 hz1 hz2 hz => ih hz0 hz1 hz2 hz) hx2 hr14 hx4 hr3 h
  skip
  refine V_iconst (pc := 0) C dX8_addLeaves_0 ?_
  refine V_istore_n (pc := 1) C (L' := [(0, vr Γ 4), (1, vr Γ k1), (2, vi a2), (3, vi (-1 : Int))]) rfl (by decide) dX8_addLeaves_1 ?_
  refine V_iconst (pc := 2) C dX8_addLeaves_2 ?_
  refine V_istore (pc := 3) C (L' := [(0, vr Γ 4), (1, vr Γ k1), (2, vi a2), (3, vi (-1 : Int)), (4, vi (0 : Int))]) rfl (by decide) dX8_addLeaves_3 ?_
  refine V_sub (L' := [(0, vr Γ 4), (1, vr Γ k1), (2, vi a2), (3, vi (-1 : Int)), (4, vi (0 : Int))]) [0, 1, 2, 3, 4] rfl (by decide) ?_
  exact LP5 fu  ha2 (by decide) (by decide) h
set_option maxRecDepth 100000 in
set_option maxHeartbeats 4000000 in
theorem c_X11_capacity (l : Launch) (Γ : GG) (sk : List SD) (hsk : Ext sk) (fu : Nat) {M M' : Mem} {a0 : Int} {r : Int} (ha0 : rng a0) (h : f_X11_capacity fu M a0 = some (M', r)) : MetI l yX11_capacity cX11_capacity 1 .int ({ frames := 0, cells := 0, slots := 0, locals := 0 } : Room) Γ sk [vi a0] M M' r := by
  unfold f_X11_capacity at h
  refine MetI_of RX11 rfl (by decide) rfl (Nat.le_of_ble_eq_true rfl) rfl ?_
  intro p e s m args below meth c C hr hlk hM
  refine V_iconst (pc := 0) C dX11_capacity_0 ?_
  refine V_iconst (pc := 1) C dX11_capacity_1 ?_
  refine V_iload_n (pc := 2) C 0 rfl dX11_capacity_2 ?_
  refine V_imul (pc := 3) C dX11_capacity_3 ?_
  obtain ⟨g1, h⟩ := grd_of h
  have g1r : rng ((1 : Int) * (2 ^ ((2 : Int) * a0 : Int).toNat : Nat)) := shl_rng g1
  refine V_ishl (pc := 4) C g1 dX11_capacity_4 ?_
  exact V_iret (pc := 5) C hr hlk g1r h dX11_capacity_5
set_option maxRecDepth 100000 in
set_option maxHeartbeats 4000000 in
theorem c_X11_heightFor (l : Launch) (Γ : GG) (sk : List SD) (hsk : Ext sk) (fu : Nat) {M M' : Mem} {a0 : Int} {r : Int} (ha0 : rng a0) (h : f_X11_heightFor fu M a0 = some (M', r)) : MetI l yX11_heightFor cX11_heightFor 1 .int ({ frames := 1, cells := 0, slots := 0, locals := 20 } : Room) Γ sk [vi a0] M M' r := by
  unfold f_X11_heightFor at h
  refine MetI_of RX11 rfl (by decide) rfl (Nat.le_of_ble_eq_true rfl) rfl ?_
  intro p e s m args below meth c C hr hlk hM
  refine V_iload_n (pc := 0) C 0 rfl dX11_heightFor_0 ?_
  refine V_if_gt (pc := 1) C 6 ha0 dX11_heightFor_1 (by decide) (fun c1_1 => ?_) (fun c1_1 => ?_)
  · have h := ite_t h c1_1
    refine V_iload_n (pc := 6) C 0 rfl dX11_heightFor_6 ?_
    refine V_iconst (pc := 7) C dX11_heightFor_7 ?_
    obtain ⟨M2, r3, hc4, h⟩ := cal_of h
    refine V_callSI (pc := 8) C (c_X11_capacity l Γ sk hsk fu (by decide) hc4) cf_X11_capacity lk_X11_359 ⟨rfl, rfl⟩ ⟨Nat.le_of_ble_eq_true rfl, Nat.le_of_ble_eq_true rfl⟩ rfl (Nat.le_of_ble_eq_true rfl) ⟨Nat.zero_le _, Nat.zero_le _⟩ rfl dX11_heightFor_8 (fun hr3 => ?_)
    refine V_icmp_gt (pc := 11) C 16 ha0 hr3 dX11_heightFor_11 (by decide) (fun c11_5 => ?_) (fun c11_5 => ?_)
    · have h := ite_t h c11_5
      refine V_iload_n (pc := 16) C 0 rfl dX11_heightFor_16 ?_
      refine V_iconst (pc := 17) C dX11_heightFor_17 ?_
      obtain ⟨M6, r7, hc8, h⟩ := cal_of h
      refine V_callSI (pc := 18) C (c_X11_capacity l Γ sk hsk fu (by decide) hc8) cf_X11_capacity lk_X11_359 ⟨rfl, rfl⟩ ⟨Nat.le_of_ble_eq_true rfl, Nat.le_of_ble_eq_true rfl⟩ rfl (Nat.le_of_ble_eq_true rfl) ⟨Nat.zero_le _, Nat.zero_le _⟩ rfl dX11_heightFor_18 (fun hr7 => ?_)
      refine V_icmp_gt (pc := 21) C 28 ha0 hr7 dX11_heightFor_21 (by decide) (fun c21_9 => ?_) (fun c21_9 => ?_)
      · have h := ite_t h c21_9
        refine V_iconst (pc := 28) C dX11_heightFor_28 ?_
        exact V_iret (pc := 29) C hr hlk (by decide) h dX11_heightFor_29
      · have h := ite_f h c21_9
        refine V_iconst (pc := 24) C dX11_heightFor_24 ?_
        refine V_goto (pc := 25) C 29 dX11_heightFor_25 (by decide) ?_
        exact V_iret (pc := 29) C hr hlk (by decide) h dX11_heightFor_29
    · have h := ite_f h c11_5
      refine V_iconst (pc := 14) C dX11_heightFor_14 ?_
      exact V_iret (pc := 15) C hr hlk (by decide) h dX11_heightFor_15
  · have h := ite_f h c1_1
    refine V_iconst (pc := 4) C dX11_heightFor_4 ?_
    exact V_iret (pc := 5) C hr hlk (by decide) h dX11_heightFor_5
set_option maxRecDepth 100000 in
set_option maxHeartbeats 4000000 in
theorem c_X8_addParents (l : Launch) (Γ : GG) (sk : List SD) (hsk : Ext sk) (fu : Nat) {M M' : Mem} {a1 : Int} {a2 : Int} {a3 : Int} {r : Int} (ha1 : rng a1) (ha2 : rng a2) (ha3 : rng a3) (h : f_X8_addParents fu M a1 a2 a3 = some (M', r)) : MetV l yX8_addParents cX8_addParents 7 ({ frames := 2, cells := 0, slots := 0, locals := 53 } : Room) Γ sk [vr Γ 4, vi a1, vi a2, vi a3] M M' := by
  unfold f_X8_addParents at h
  refine MetV_of RX8 rfl (by decide) rfl (Nat.le_of_ble_eq_true rfl) rfl ?_
  intro p e s m args below meth c C hr hlk hM
  have e4 := hsk 4 _ (by decide) rfl
  have e5 := hsk 5 _ (by decide) rfl
  have JP37 : ∀ (k6 : Int → Int → Int → Int → Int → Mem → Option (Mem × Int)) (_ : ∀ (x1 : Int) (x2 : Int) (x3 : Int) (x4 : Int) (x5 : Int) (M : Mem), rng x1 → rng x2 → rng x3 → rng x4 → rng x5 → k6 x1 x2 x3 x4 x5 M = some (M', r) → VV p l e ({ frames := 2, cells := 0, slots := 0, locals := 53 } : Room) s m args below meth c (MQ below (PostV Γ sk M' s.heap.size) args s 0 0 (Fr Γ sk s.heap.size)) 7 Γ sk M 0 0 6 [(0, vr Γ 4), (1, vi x1), (2, vi x2), (3, vi x3), (4, vi x4), (5, vi x5)] []) {x1 : Int} {x2 : Int} {x3 : Int} {x4 : Int} {x5 : Int} {x6 : Int} {M : Mem}, rng x1 → rng x2 → rng x3 → rng x4 → rng x5 → rng x6 → f_X8_addParents_J37 fu k6 x1 x2 x3 x4 x5 x6 M = some (M', r) → VV p l e ({ frames := 2, cells := 0, slots := 0, locals := 53 } : Room) s m args below meth c (MQ below (PostV Γ sk M' s.heap.size) args s 0 0 (Fr Γ sk s.heap.size)) 7 Γ sk M 0 0 37 [(0, vr Γ 4), (1, vi x1), (2, vi x2), (3, vi x3), (4, vi x4), (5, vi x5), (6, vi x6)] [] := by
    intro k6 hkk6 x1 x2 x3 x4 x5 x6 M hx1 hx2 hx3 hx4 hx5 hx6 h
    unfold f_X8_addParents_J37 at h
    refine V_aload_n (pc := 37) C 0 rfl dX8_addParents_37 ?_
    refine V_getR (pc := 38) C e4 rfl inX8 0 (by decide) rfl lf_X8_12 rfl dX8_addParents_38 ?_
    refine V_iload (pc := 41) C 4 rfl dX8_addParents_41 ?_
    refine V_iload (pc := 43) C 6 rfl dX8_addParents_43 ?_
    refine V_iload (pc := 45) C 5 rfl dX8_addParents_45 ?_
    obtain ⟨M7, r8, hc9, h⟩ := cal_of h
    refine V_callVV (pc := 47) C (c_X3_place l Γ sk hsk fu hx4 hx6 hx5 hc9) cf_X3_place lk_X8_63 ⟨rfl, rfl⟩ ⟨Nat.le_of_ble_eq_true rfl, Nat.le_of_ble_eq_true rfl⟩ e5 rfl rfl rfl (Nat.le_of_ble_eq_true rfl) ⟨Nat.zero_le _, Nat.zero_le _⟩ rfl dX8_addParents_47 ?_
    refine V_iinc (pc := 50) C (L' := [(0, vr Γ 4), (1, vi x1), (2, vi x2), (3, vi x3), (4, vi x4), (5, vi (x5 + (1 : Int))), (6, vi x6)]) 5 rfl rfl (by decide) dX8_addParents_50 ?_
    refine V_goto (pc := 53) C 6 dX8_addParents_53 (by decide) ?_
    obtain ⟨g10, h⟩ := grd_of h
    refine V_sub (L' := [(0, vr Γ 4), (1, vi x1), (2, vi x2), (3, vi x3), (4, vi x4), (5, vi (x5 + (1 : Int)))]) [0, 1, 2, 3, 4, 5] rfl (by decide) ?_
    exact hkk6 _ _ _ _ _ _ hx1 hx2 hx3 hx4 g10 h
  have LP6 : ∀ (n : Nat) {x1 : Int} {x2 : Int} {x3 : Int} {x4 : Int} {x5 : Int} {M : Mem}, rng x1 → rng x2 → rng x3 → rng x4 → rng x5 → f_X8_addParents_L6 fu n x1 x2 x3 x4 x5 M = some (M', r) → VV p l e ({ frames := 2, cells := 0, slots := 0, locals := 53 } : Room) s m args below meth c (MQ below (PostV Γ sk M' s.heap.size) args s 0 0 (Fr Γ sk s.heap.size)) 7 Γ sk M 0 0 6 [(0, vr Γ 4), (1, vi x1), (2, vi x2), (3, vi x3), (4, vi x4), (5, vi x5)] [] := by
    intro n
    induction n with
    | zero =>
      intro x1 x2 x3 x4 x5 M hx1 hx2 hx3 hx4 hx5 h
      cases h
    | succ n ih =>
      intro x1 x2 x3 x4 x5 M hx1 hx2 hx3 hx4 hx5 h
      rw [f_X8_addParents_L6] at h
      refine V_iload (pc := 6) C 5 rfl dX8_addParents_6 ?_
      refine V_iload_n (pc := 8) C 3 rfl dX8_addParents_8 ?_
      refine V_icmp_ge (pc := 9) C 56 hx5 hx3 dX8_addParents_9 (by decide) (fun c9_1 => ?_) (fun c9_1 => ?_)
      · have h := ite_t h c9_1
        exact V_vret (pc := 56) C hr hlk h dX8_addParents_56
      · have h := ite_f h c9_1
        refine V_iconst (pc := 12) C dX8_addParents_12 ?_
        refine V_iload (pc := 13) C 5 rfl dX8_addParents_13 ?_
        refine V_iload_n (pc := 15) C 2 rfl dX8_addParents_15 ?_
        refine V_isub (pc := 16) C dX8_addParents_16 ?_
        obtain ⟨g2, h⟩ := grd_of h
        obtain ⟨M3, r4, hc5, h⟩ := cal_of h
        refine V_callNI (pc := 17) C (c_X11_positionIn l Γ sk hsk fu (by decide) g2 hc5) cf_X11_positionIn ln_X8_52 ⟨rfl, rfl⟩ ⟨Nat.le_of_ble_eq_true rfl, Nat.le_of_ble_eq_true rfl⟩ rfl (Nat.le_of_ble_eq_true rfl) ⟨Nat.zero_le _, Nat.zero_le _⟩ rfl dX8_addParents_17 (fun hr4 => ?_)
        refine V_istore (pc := 20) C (L' := [(0, vr Γ 4), (1, vi x1), (2, vi x2), (3, vi x3), (4, vi x4), (5, vi x5), (6, vi r4)]) rfl (by decide) dX8_addParents_20 ?_
        refine V_iload (pc := 22) C 6 rfl dX8_addParents_22 ?_
        refine V_if_ne (pc := 24) C 37 hr4 dX8_addParents_24 (by decide) (fun c24_6 => ?_) (fun c24_6 => ?_)
        · have h := ite_f h c24_6
          refine V_sub (L' := [(0, vr Γ 4), (1, vi x1), (2, vi x2), (3, vi x3), (4, vi x4), (5, vi x5), (6, vi r4)]) [0, 1, 2, 3, 4, 5, 6] rfl (by decide) ?_
          exact JP37 _ (fun _ _ _ _ _ _ hz0 hz1 hz2 hz3 hz4 hz => ih hz0 hz1 hz2 hz3 hz4 hz) hx1 hx2 hx3 hx4 hx5 hr4 h
        · have h := ite_t h c24_6
          refine V_aload_n (pc := 27) C 0 rfl dX8_addParents_27 ?_
          refine V_getR (pc := 28) C e4 rfl inX8 0 (by decide) rfl lf_X8_12 rfl dX8_addParents_28 ?_
          refine V_iload_n (pc := 31) C 1 rfl dX8_addParents_31 ?_
          obtain ⟨M11, r12, hc13, h⟩ := cal_of h
          refine V_callVI (pc := 32) C (c_X3_add l Γ sk hsk fu hx1 hc13) cf_X3_add lk_X8_56 ⟨rfl, rfl⟩ ⟨Nat.le_of_ble_eq_true rfl, Nat.le_of_ble_eq_true rfl⟩ e5 rfl rfl rfl (Nat.le_of_ble_eq_true rfl) ⟨Nat.zero_le _, Nat.zero_le _⟩ rfl dX8_addParents_32 (fun hr12 => ?_)
          refine V_istore (pc := 35) C (L' := [(0, vr Γ 4), (1, vi x1), (2, vi x2), (3, vi x3), (4, vi r12), (5, vi x5), (6, vi r4)]) rfl (by decide) dX8_addParents_35 ?_
          refine V_sub (L' := [(0, vr Γ 4), (1, vi x1), (2, vi x2), (3, vi x3), (4, vi r12), (5, vi x5), (6, vi r4)]) [0, 1, 2, 3, 4, 5, 6] rfl (by decide) ?_
          exact JP37 _ (fun _ _ _ _ _ _ hz0 hz1 hz2 hz3 hz4 hz => ih hz0 hz1 hz2 hz3 hz4 hz) hx1 hx2 hx3 hr12 hx5 hr4 h
  skip
  refine V_iconst (pc := 0) C dX8_addParents_0 ?_
  refine V_istore (pc := 1) C (L' := [(0, vr Γ 4), (1, vi a1), (2, vi a2), (3, vi a3), (4, vi (-1 : Int))]) rfl (by decide) dX8_addParents_1 ?_
  refine V_iload_n (pc := 3) C 2 rfl dX8_addParents_3 ?_
  refine V_istore (pc := 4) C (L' := [(0, vr Γ 4), (1, vi a1), (2, vi a2), (3, vi a3), (4, vi (-1 : Int)), (5, vi a2)]) rfl (by decide) dX8_addParents_4 ?_
  refine V_sub (L' := [(0, vr Γ 4), (1, vi a1), (2, vi a2), (3, vi a3), (4, vi (-1 : Int)), (5, vi a2)]) [0, 1, 2, 3, 4, 5] rfl (by decide) ?_
  exact LP6 fu  ha1 ha2 ha3 (by decide) ha2 h
set_option maxRecDepth 100000 in
set_option maxHeartbeats 4000000 in
theorem c_X8_begin (l : Launch) (Γ : GG) (sk : List SD) (hsk : Ext sk) (fu : Nat) {M M' : Mem} {k1 : Nat} {n1 : Nat} {a2 : Int} {r : Int} (hk1 : sk[k1]? = some (.inl (0, n1))) (hn1 : n1 ≤ 2147483647) (ha2 : rng a2) (h : f_X8_begin fu M k1 n1 a2 = some (M', r)) : MetV l yX8_begin cX8_begin 6 ({ frames := 3, cells := 0, slots := 0, locals := 79 } : Room) Γ sk [vr Γ 4, vr Γ k1, vi a2] M M' := by
  unfold f_X8_begin at h
  refine MetV_of RX8 rfl (by decide) rfl (Nat.le_of_ble_eq_true rfl) rfl ?_
  intro p e s m args below meth c C hr hlk hM
  have e4 := hsk 4 _ (by decide) rfl
  have e5 := hsk 5 _ (by decide) rfl
  have e10 := hsk 10 _ (by decide) rfl
  have JP72 : ∀ {x2 : Int} {y0 : Int} {M : Mem}, rng x2 → rng y0 → f_X8_begin_J72 fu k1 n1 x2 y0 M = some (M', r) → VV p l e ({ frames := 3, cells := 0, slots := 0, locals := 79 } : Room) s m args below meth c (MQ below (PostV Γ sk M' s.heap.size) args s 0 0 (Fr Γ sk s.heap.size)) 6 Γ sk M 0 0 72 [(0, vr Γ 4), (1, vr Γ k1), (2, vi x2)] [vi y0] := by
    intro x2 y0 M hx2 hy0 h
    unfold f_X8_begin_J72 at h
    refine V_istore (pc := 72) C (L' := [(0, vr Γ 4), (1, vr Γ k1), (2, vi x2), (4, vi y0)]) rfl (by decide) dX8_begin_72 ?_
    refine V_aload_n (pc := 74) C 0 rfl dX8_begin_74 ?_
    refine V_getR (pc := 75) C e4 rfl inX8 1 (by decide) rfl lf_X8_21 rfl dX8_begin_75 ?_
    refine V_aload_n (pc := 78) C 1 rfl dX8_begin_78 ?_
    refine V_iload_n (pc := 79) C 2 rfl dX8_begin_79 ?_
    refine V_iload (pc := 80) C 3 rfl dX8_begin_80 ?_
    refine V_aload_n (pc := 82) C 0 rfl dX8_begin_82 ?_
    refine V_getR (pc := 83) C e4 rfl inX8 0 (by decide) rfl lf_X8_12 rfl dX8_begin_83 ?_
    refine V_rng fun hM10 => ?_
    refine V_getI (pc := 86) C e5 rfl inX3 0 (by decide) rfl lf_X8_32 rfl dX8_begin_86 ?_
    obtain ⟨M11, r12, hc13, h⟩ := cal_of h
    refine V_callVV (pc := 89) C (c_X10_begin l Γ sk hsk fu hk1 hn1 hx2 hy0 (hM10 _ _) hc13) cf_X10_begin lk_X8_48 ⟨rfl, rfl⟩ ⟨Nat.le_of_ble_eq_true rfl, Nat.le_of_ble_eq_true rfl⟩ e10 rfl rfl rfl (Nat.le_of_ble_eq_true rfl) ⟨Nat.zero_le _, Nat.zero_le _⟩ rfl dX8_begin_89 ?_
    exact V_vret (pc := 92) C hr hlk h dX8_begin_92
  have LP19 : ∀ (n : Nat) {x2 : Int} {x3 : Int} {x4 : Int} {M : Mem}, rng x2 → rng x3 → rng x4 → f_X8_begin_L19 fu k1 n1 n x2 x3 x4 M = some (M', r) → VV p l e ({ frames := 3, cells := 0, slots := 0, locals := 79 } : Room) s m args below meth c (MQ below (PostV Γ sk M' s.heap.size) args s 0 0 (Fr Γ sk s.heap.size)) 6 Γ sk M 0 0 19 [(0, vr Γ 4), (1, vr Γ k1), (2, vi x2), (3, vi x3), (4, vi x4)] [] := by
    intro n
    induction n with
    | zero =>
      intro x2 x3 x4 M hx2 hx3 hx4 h
      cases h
    | succ n ih =>
      intro x2 x3 x4 M hx2 hx3 hx4 h
      rw [f_X8_begin_L19] at h
      refine V_iload (pc := 19) C 4 rfl dX8_begin_19 ?_
      refine V_iload_n (pc := 21) C 2 rfl dX8_begin_21 ?_
      obtain ⟨M4, r5, hc6, h⟩ := cal_of h
      refine V_callNI (pc := 22) C (c_X11_heightFor l Γ sk hsk fu hx2 hc6) cf_X11_heightFor ln_X8_40 ⟨rfl, rfl⟩ ⟨Nat.le_of_ble_eq_true rfl, Nat.le_of_ble_eq_true rfl⟩ rfl (Nat.le_of_ble_eq_true rfl) ⟨Nat.zero_le _, Nat.zero_le _⟩ rfl dX8_begin_22 (fun hr5 => ?_)
      refine V_icmp_gt (pc := 25) C 55 hx4 hr5 dX8_begin_25 (by decide) (fun c25_7 => ?_) (fun c25_7 => ?_)
      · have h := ite_t h c25_7
        refine V_iload_n (pc := 55) C 2 rfl dX8_begin_55 ?_
        refine V_if_ne (pc := 56) C 63 hx2 dX8_begin_56 (by decide) (fun c56_8 => ?_) (fun c56_8 => ?_)
        · have h := ite_f h c56_8
          refine V_aload_n (pc := 63) C 0 rfl dX8_begin_63 ?_
          refine V_getR (pc := 64) C e4 rfl inX8 0 (by decide) rfl lf_X8_12 rfl dX8_begin_64 ?_
          refine V_rng fun hM9 => ?_
          refine V_getI (pc := 67) C e5 rfl inX3 0 (by decide) rfl lf_X8_32 rfl dX8_begin_67 ?_
          refine V_iconst (pc := 70) C dX8_begin_70 ?_
          refine V_isub (pc := 71) C dX8_begin_71 ?_
          obtain ⟨g14, h⟩ := grd_of h
          refine V_sub (L' := [(0, vr Γ 4), (1, vr Γ k1), (2, vi x2)]) [0, 1, 2] rfl (by decide) ?_
          exact JP72 hx2 g14 h
        · have h := ite_t h c56_8
          refine V_iconst (pc := 59) C dX8_begin_59 ?_
          refine V_goto (pc := 60) C 72 dX8_begin_60 (by decide) ?_
          refine V_sub (L' := [(0, vr Γ 4), (1, vr Γ k1), (2, vi x2)]) [0, 1, 2] rfl (by decide) ?_
          exact JP72 hx2 (by decide) h
      · have h := ite_f h c25_7
        refine V_aload_n (pc := 28) C 0 rfl dX8_begin_28 ?_
        refine V_getR (pc := 29) C e4 rfl inX8 0 (by decide) rfl lf_X8_12 rfl dX8_begin_29 ?_
        refine V_rng fun hM15 => ?_
        refine V_getI (pc := 32) C e5 rfl inX3 0 (by decide) rfl lf_X8_32 rfl dX8_begin_32 ?_
        refine V_istore (pc := 35) C (L' := [(0, vr Γ 4), (1, vr Γ k1), (2, vi x2), (3, vi x3), (4, vi x4), (5, vi (M4 5 0))]) rfl (by decide) dX8_begin_35 ?_
        refine V_aload_n (pc := 37) C 0 rfl dX8_begin_37 ?_
        refine V_iload (pc := 38) C 4 rfl dX8_begin_38 ?_
        refine V_iload_n (pc := 40) C 3 rfl dX8_begin_40 ?_
        refine V_iload (pc := 41) C 5 rfl dX8_begin_41 ?_
        obtain ⟨M16, r17, hc18, h⟩ := cal_of h
        refine V_callVV (pc := 43) C (c_X8_addParents l Γ sk hsk fu hx4 hx3 (hM15 _ _) hc18) cf_X8_addParents lk_X8_44 ⟨rfl, rfl⟩ ⟨Nat.le_of_ble_eq_true rfl, Nat.le_of_ble_eq_true rfl⟩ e4 rfl rfl rfl (Nat.le_of_ble_eq_true rfl) ⟨Nat.zero_le _, Nat.zero_le _⟩ rfl dX8_begin_43 ?_
        refine V_iload (pc := 46) C 5 rfl dX8_begin_46 ?_
        refine V_istore_n (pc := 48) C (L' := [(0, vr Γ 4), (1, vr Γ k1), (2, vi x2), (3, vi (M4 5 0)), (4, vi x4), (5, vi (M4 5 0))]) rfl (by decide) dX8_begin_48 ?_
        refine V_iinc (pc := 49) C (L' := [(0, vr Γ 4), (1, vr Γ k1), (2, vi x2), (3, vi (M4 5 0)), (4, vi (x4 + (1 : Int))), (5, vi (M4 5 0))]) 4 rfl rfl (by decide) dX8_begin_49 ?_
        refine V_goto (pc := 52) C 19 dX8_begin_52 (by decide) ?_
        obtain ⟨g19, h⟩ := grd_of h
        refine V_sub (L' := [(0, vr Γ 4), (1, vr Γ k1), (2, vi x2), (3, vi (M4 5 0)), (4, vi (x4 + (1 : Int)))]) [0, 1, 2, 3, 4] rfl (by decide) ?_
        exact ih hx2 (hM15 _ _) g19 h
  skip
  refine V_aload_n (pc := 0) C 0 rfl dX8_begin_0 ?_
  refine V_getR (pc := 1) C e4 rfl inX8 0 (by decide) rfl lf_X8_12 rfl dX8_begin_1 ?_
  refine V_iconst (pc := 4) C dX8_begin_4 ?_
  refine V_putI (pc := 5) C (by decide) e5 rfl inX3 tyX3 tyX3_ok nmX3 0 (by decide) rfl rfl lf_X8_32 rfl (by decide) rfl dX8_begin_5 ?_
  refine V_aload_n (pc := 8) C 0 rfl dX8_begin_8 ?_
  refine V_aload_n (pc := 9) C 1 rfl dX8_begin_9 ?_
  refine V_iload_n (pc := 10) C 2 rfl dX8_begin_10 ?_
  obtain ⟨M1, r2, hc3, h⟩ := cal_of h
  refine V_callVV (pc := 11) C (c_X8_addLeaves l Γ sk hsk fu hk1 hn1 ha2 hc3) cf_X8_addLeaves lk_X8_36 ⟨rfl, rfl⟩ ⟨Nat.le_of_ble_eq_true rfl, Nat.le_of_ble_eq_true rfl⟩ e4 rfl rfl rfl (Nat.le_of_ble_eq_true rfl) ⟨Nat.zero_le _, Nat.zero_le _⟩ rfl dX8_begin_11 ?_
  refine V_iconst (pc := 14) C dX8_begin_14 ?_
  refine V_istore_n (pc := 15) C (L' := [(0, vr Γ 4), (1, vr Γ k1), (2, vi a2), (3, vi (0 : Int))]) rfl (by decide) dX8_begin_15 ?_
  refine V_iconst (pc := 16) C dX8_begin_16 ?_
  refine V_istore (pc := 17) C (L' := [(0, vr Γ 4), (1, vr Γ k1), (2, vi a2), (3, vi (0 : Int)), (4, vi (2 : Int))]) rfl (by decide) dX8_begin_17 ?_
  refine V_sub (L' := [(0, vr Γ 4), (1, vr Γ k1), (2, vi a2), (3, vi (0 : Int)), (4, vi (2 : Int))]) [0, 1, 2, 3, 4] rfl (by decide) ?_
  exact LP19 fu  ha2 (by decide) (by decide) h
set_option maxRecDepth 100000 in
set_option maxHeartbeats 4000000 in
theorem c_X8_heightAt (l : Launch) (Γ : GG) (sk : List SD) (hsk : Ext sk) (fu : Nat) {M M' : Mem} {a1 : Int} {r : Int} (ha1 : rng a1) (h : f_X8_heightAt fu M a1 = some (M', r)) : MetI l yX8_heightAt cX8_heightAt 2 .int ({ frames := 2, cells := 0, slots := 0, locals := 42 } : Room) Γ sk [vr Γ 4, vi a1] M M' r := by
  unfold f_X8_heightAt at h
  refine MetI_of RX8 rfl (by decide) rfl (Nat.le_of_ble_eq_true rfl) rfl ?_
  intro p e s m args below meth c C hr hlk hM
  have e4 := hsk 4 _ (by decide) rfl
  have e10 := hsk 10 _ (by decide) rfl
  refine V_aload_n (pc := 0) C 0 rfl dX8_heightAt_0 ?_
  refine V_getR (pc := 1) C e4 rfl inX8 1 (by decide) rfl lf_X8_21 rfl dX8_heightAt_1 ?_
  refine V_iload_n (pc := 4) C 1 rfl dX8_heightAt_4 ?_
  obtain ⟨M1, r2, hc3, h⟩ := cal_of h
  refine V_callVI (pc := 5) C (c_X10_sizeAt l Γ sk hsk fu ha1 hc3) cf_X10_sizeAt lk_X8_66 ⟨rfl, rfl⟩ ⟨Nat.le_of_ble_eq_true rfl, Nat.le_of_ble_eq_true rfl⟩ e10 rfl rfl rfl (Nat.le_of_ble_eq_true rfl) ⟨Nat.zero_le _, Nat.zero_le _⟩ rfl dX8_heightAt_5 (fun hr2 => ?_)
  obtain ⟨M4, r5, hc6, h⟩ := cal_of h
  refine V_callNI (pc := 8) C (c_X11_heightFor l Γ sk hsk fu hr2 hc6) cf_X11_heightFor ln_X8_40 ⟨rfl, rfl⟩ ⟨Nat.le_of_ble_eq_true rfl, Nat.le_of_ble_eq_true rfl⟩ rfl (Nat.le_of_ble_eq_true rfl) ⟨Nat.zero_le _, Nat.zero_le _⟩ rfl dX8_heightAt_8 (fun hr5 => ?_)
  exact V_iret (pc := 11) C hr hlk hr5 h dX8_heightAt_11
set_option maxRecDepth 100000 in
set_option maxHeartbeats 4000000 in
theorem c_X8_leafAt (l : Launch) (Γ : GG) (sk : List SD) (hsk : Ext sk) (fu : Nat) {M M' : Mem} {a1 : Int} {a2 : Int} {r : Int} (ha1 : rng a1) (ha2 : rng a2) (h : f_X8_leafAt fu M a1 a2 = some (M', r)) : MetI l yX8_leafAt cX8_leafAt 5 .int ({ frames := 3, cells := 0, slots := 0, locals := 63 } : Room) Γ sk [vr Γ 4, vi a1, vi a2] M M' r := by
  unfold f_X8_leafAt at h
  refine MetI_of RX8 rfl (by decide) rfl (Nat.le_of_ble_eq_true rfl) rfl ?_
  intro p e s m args below meth c C hr hlk hM
  have e4 := hsk 4 _ (by decide) rfl
  have e5 := hsk 5 _ (by decide) rfl
  have e10 := hsk 10 _ (by decide) rfl
  have LP16 : ∀ (n : Nat) {x2 : Int} {x3 : Int} {x4 : Int} {M : Mem}, rng x2 → rng x3 → rng x4 → f_X8_leafAt_L16 fu n x2 x3 x4 M = some (M', r) → VV p l e ({ frames := 3, cells := 0, slots := 0, locals := 63 } : Room) s m args below meth c (MQ below (PostI Γ sk M' r s.heap.size) args s 0 0 (Fr Γ sk s.heap.size)) 5 Γ sk M 0 0 16 [(0, vr Γ 4), (2, vi x2), (3, vi x3), (4, vi x4)] [] := by
    intro n
    induction n with
    | zero =>
      intro x2 x3 x4 M hx2 hx3 hx4 h
      cases h
    | succ n ih =>
      intro x2 x3 x4 M hx2 hx3 hx4 h
      rw [f_X8_leafAt_L16] at h
      refine V_iload (pc := 16) C 3 rfl dX8_leafAt_16 ?_
      refine V_iconst (pc := 18) C dX8_leafAt_18 ?_
      refine V_icmp_le (pc := 19) C 43 hx4 (by decide) dX8_leafAt_19 (by decide) (fun c19_7 => ?_) (fun c19_7 => ?_)
      · have h := ite_t h c19_7
        refine V_iload_n (pc := 43) C 2 rfl dX8_leafAt_43 ?_
        exact V_iret (pc := 44) C hr hlk hx3 h dX8_leafAt_44
      · have h := ite_f h c19_7
        refine V_aload_n (pc := 22) C 0 rfl dX8_leafAt_22 ?_
        refine V_getR (pc := 23) C e4 rfl inX8 0 (by decide) rfl lf_X8_12 rfl dX8_leafAt_23 ?_
        refine V_iload_n (pc := 26) C 2 rfl dX8_leafAt_26 ?_
        refine V_iload (pc := 27) C 3 rfl dX8_leafAt_27 ?_
        refine V_iload_n (pc := 29) C 1 rfl dX8_leafAt_29 ?_
        obtain ⟨M8, r9, hc10, h⟩ := cal_of h
        refine V_callNI (pc := 30) C (c_X11_positionIn l Γ sk hsk fu hx4 hx2 hc10) cf_X11_positionIn ln_X8_52 ⟨rfl, rfl⟩ ⟨Nat.le_of_ble_eq_true rfl, Nat.le_of_ble_eq_true rfl⟩ rfl (Nat.le_of_ble_eq_true rfl) ⟨Nat.zero_le _, Nat.zero_le _⟩ rfl dX8_leafAt_30 (fun hr9 => ?_)
        obtain ⟨M11, r12, hc13, h⟩ := cal_of h
        refine V_callVI (pc := 33) C (c_X3_entryAt l Γ sk hsk fu hx3 hr9 hc13) cf_X3_entryAt lk_X8_75 ⟨rfl, rfl⟩ ⟨Nat.le_of_ble_eq_true rfl, Nat.le_of_ble_eq_true rfl⟩ e5 rfl rfl rfl (Nat.le_of_ble_eq_true rfl) ⟨Nat.zero_le _, Nat.zero_le _⟩ rfl dX8_leafAt_33 (fun hr12 => ?_)
        refine V_istore_n (pc := 36) C (L' := [(0, vr Γ 4), (2, vi x2), (3, vi r12), (4, vi x4)]) rfl (by decide) dX8_leafAt_36 ?_
        refine V_iinc (pc := 37) C (L' := [(0, vr Γ 4), (2, vi x2), (3, vi r12), (4, vi (x4 + (-1 : Int)))]) 3 rfl rfl (by decide) dX8_leafAt_37 ?_
        refine V_goto (pc := 40) C 16 dX8_leafAt_40 (by decide) ?_
        obtain ⟨g14, h⟩ := grd_of h
        refine V_sub (L' := [(0, vr Γ 4), (2, vi x2), (3, vi r12), (4, vi (x4 + (-1 : Int)))]) [0, 1, 2, 3] rfl (by decide) ?_
        exact ih hx2 hr12 g14 h
  skip
  refine V_aload_n (pc := 0) C 0 rfl dX8_leafAt_0 ?_
  refine V_getR (pc := 1) C e4 rfl inX8 1 (by decide) rfl lf_X8_21 rfl dX8_leafAt_1 ?_
  refine V_iload_n (pc := 4) C 1 rfl dX8_leafAt_4 ?_
  obtain ⟨M1, r2, hc3, h⟩ := cal_of h
  refine V_callVI (pc := 5) C (c_X10_rootAt l Γ sk hsk fu ha1 hc3) cf_X10_rootAt lk_X8_69 ⟨rfl, rfl⟩ ⟨Nat.le_of_ble_eq_true rfl, Nat.le_of_ble_eq_true rfl⟩ e10 rfl rfl rfl (Nat.le_of_ble_eq_true rfl) ⟨Nat.zero_le _, Nat.zero_le _⟩ rfl dX8_leafAt_5 (fun hr2 => ?_)
  refine V_istore_n (pc := 8) C (L' := [(0, vr Γ 4), (1, vi a1), (2, vi a2), (3, vi r2)]) rfl (by decide) dX8_leafAt_8 ?_
  refine V_aload_n (pc := 9) C 0 rfl dX8_leafAt_9 ?_
  refine V_iload_n (pc := 10) C 1 rfl dX8_leafAt_10 ?_
  obtain ⟨M4, r5, hc6, h⟩ := cal_of h
  refine V_callVI (pc := 11) C (c_X8_heightAt l Γ sk hsk fu ha1 hc6) cf_X8_heightAt lk_X8_72 ⟨rfl, rfl⟩ ⟨Nat.le_of_ble_eq_true rfl, Nat.le_of_ble_eq_true rfl⟩ e4 rfl rfl rfl (Nat.le_of_ble_eq_true rfl) ⟨Nat.zero_le _, Nat.zero_le _⟩ rfl dX8_leafAt_11 (fun hr5 => ?_)
  refine V_istore (pc := 14) C (L' := [(0, vr Γ 4), (1, vi a1), (2, vi a2), (3, vi r2), (4, vi r5)]) rfl (by decide) dX8_leafAt_14 ?_
  refine V_sub (L' := [(0, vr Γ 4), (2, vi a2), (3, vi r2), (4, vi r5)]) [0, 2, 3, 4] rfl (by decide) ?_
  exact LP16 fu  ha2 hr2 hr5 h
set_option maxRecDepth 100000 in
set_option maxHeartbeats 4000000 in
theorem c_X8_elementAt (l : Launch) (Γ : GG) (sk : List SD) (hsk : Ext sk) (fu : Nat) {M M' : Mem} {a1 : Int} {a2 : Int} {r : Int} (ha1 : rng a1) (ha2 : rng a2) (h : f_X8_elementAt fu M a1 a2 = some (M', r)) : MetI l yX8_elementAt cX8_elementAt 3 .int ({ frames := 4, cells := 0, slots := 0, locals := 87 } : Room) Γ sk [vr Γ 4, vi a1, vi a2] M M' r := by
  unfold f_X8_elementAt at h
  refine MetI_of RX8 rfl (by decide) rfl (Nat.le_of_ble_eq_true rfl) rfl ?_
  intro p e s m args below meth c C hr hlk hM
  have e4 := hsk 4 _ (by decide) rfl
  have e5 := hsk 5 _ (by decide) rfl
  refine V_aload_n (pc := 0) C 0 rfl dX8_elementAt_0 ?_
  refine V_getR (pc := 1) C e4 rfl inX8 0 (by decide) rfl lf_X8_12 rfl dX8_elementAt_1 ?_
  refine V_aload_n (pc := 4) C 0 rfl dX8_elementAt_4 ?_
  refine V_iload_n (pc := 5) C 1 rfl dX8_elementAt_5 ?_
  refine V_iload_n (pc := 6) C 2 rfl dX8_elementAt_6 ?_
  obtain ⟨M1, r2, hc3, h⟩ := cal_of h
  refine V_callVI (pc := 7) C (c_X8_leafAt l Γ sk hsk fu ha1 ha2 hc3) cf_X8_leafAt lk_X8_78 ⟨rfl, rfl⟩ ⟨Nat.le_of_ble_eq_true rfl, Nat.le_of_ble_eq_true rfl⟩ e4 rfl rfl rfl (Nat.le_of_ble_eq_true rfl) ⟨Nat.zero_le _, Nat.zero_le _⟩ rfl dX8_elementAt_7 (fun hr2 => ?_)
  refine V_iconst (pc := 10) C dX8_elementAt_10 ?_
  refine V_iload_n (pc := 11) C 2 rfl dX8_elementAt_11 ?_
  obtain ⟨M4, r5, hc6, h⟩ := cal_of h
  refine V_callNI (pc := 12) C (c_X11_positionIn l Γ sk hsk fu (by decide) ha2 hc6) cf_X11_positionIn ln_X8_52 ⟨rfl, rfl⟩ ⟨Nat.le_of_ble_eq_true rfl, Nat.le_of_ble_eq_true rfl⟩ rfl (Nat.le_of_ble_eq_true rfl) ⟨Nat.zero_le _, Nat.zero_le _⟩ rfl dX8_elementAt_12 (fun hr5 => ?_)
  obtain ⟨M7, r8, hc9, h⟩ := cal_of h
  refine V_callVI (pc := 15) C (c_X3_entryAt l Γ sk hsk fu hr2 hr5 hc9) cf_X3_entryAt lk_X8_75 ⟨rfl, rfl⟩ ⟨Nat.le_of_ble_eq_true rfl, Nat.le_of_ble_eq_true rfl⟩ e5 rfl rfl rfl (Nat.le_of_ble_eq_true rfl) ⟨Nat.zero_le _, Nat.zero_le _⟩ rfl dX8_elementAt_15 (fun hr8 => ?_)
  exact V_iret (pc := 18) C hr hlk hr8 h dX8_elementAt_18
set_option maxRecDepth 100000 in
set_option maxHeartbeats 4000000 in
theorem c_X8_addUp (l : Launch) (Γ : GG) (sk : List SD) (hsk : Ext sk) (fu : Nat) {M M' : Mem} {a1 : Int} {r : Int} (ha1 : rng a1) (h : f_X8_addUp fu M a1 = some (M', r)) : MetI l yX8_addUp cX8_addUp 4 .int ({ frames := 5, cells := 0, slots := 0, locals := 109 } : Room) Γ sk [vr Γ 4, vi a1] M M' r := by
  unfold f_X8_addUp at h
  refine MetI_of RX8 rfl (by decide) rfl (Nat.le_of_ble_eq_true rfl) rfl ?_
  intro p e s m args below meth c C hr hlk hM
  have e4 := hsk 4 _ (by decide) rfl
  have e10 := hsk 10 _ (by decide) rfl
  have LP4 : ∀ (n : Nat) {x1 : Int} {x2 : Int} {x3 : Int} {M : Mem}, rng x1 → rng x2 → rng x3 → f_X8_addUp_L4 fu n x1 x2 x3 M = some (M', r) → VV p l e ({ frames := 5, cells := 0, slots := 0, locals := 109 } : Room) s m args below meth c (MQ below (PostI Γ sk M' r s.heap.size) args s 0 0 (Fr Γ sk s.heap.size)) 4 Γ sk M 0 0 4 [(0, vr Γ 4), (1, vi x1), (2, vi x2), (3, vi x3)] [] := by
    intro n
    induction n with
    | zero =>
      intro x1 x2 x3 M hx1 hx2 hx3 h
      cases h
    | succ n ih =>
      intro x1 x2 x3 M hx1 hx2 hx3 h
      rw [f_X8_addUp_L4] at h
      refine V_iload_n (pc := 4) C 3 rfl dX8_addUp_4 ?_
      refine V_aload_n (pc := 5) C 0 rfl dX8_addUp_5 ?_
      refine V_getR (pc := 6) C e4 rfl inX8 1 (by decide) rfl lf_X8_21 rfl dX8_addUp_6 ?_
      refine V_iload_n (pc := 9) C 1 rfl dX8_addUp_9 ?_
      obtain ⟨M1, r2, hc3, h⟩ := cal_of h
      refine V_callVI (pc := 10) C (c_X10_sizeAt l Γ sk hsk fu hx1 hc3) cf_X10_sizeAt lk_X8_66 ⟨rfl, rfl⟩ ⟨Nat.le_of_ble_eq_true rfl, Nat.le_of_ble_eq_true rfl⟩ e10 rfl rfl rfl (Nat.le_of_ble_eq_true rfl) ⟨Nat.zero_le _, Nat.zero_le _⟩ rfl dX8_addUp_10 (fun hr2 => ?_)
      refine V_icmp_ge (pc := 13) C 31 hx3 hr2 dX8_addUp_13 (by decide) (fun c13_4 => ?_) (fun c13_4 => ?_)
      · have h := ite_t h c13_4
        refine V_iload_n (pc := 31) C 2 rfl dX8_addUp_31 ?_
        exact V_iret (pc := 32) C hr hlk hx2 h dX8_addUp_32
      · have h := ite_f h c13_4
        refine V_iload_n (pc := 16) C 2 rfl dX8_addUp_16 ?_
        refine V_aload_n (pc := 17) C 0 rfl dX8_addUp_17 ?_
        refine V_iload_n (pc := 18) C 1 rfl dX8_addUp_18 ?_
        refine V_iload_n (pc := 19) C 3 rfl dX8_addUp_19 ?_
        obtain ⟨M5, r6, hc7, h⟩ := cal_of h
        refine V_callVI (pc := 20) C (c_X8_elementAt l Γ sk hsk fu hx1 hx3 hc7) cf_X8_elementAt lk_X8_81 ⟨rfl, rfl⟩ ⟨Nat.le_of_ble_eq_true rfl, Nat.le_of_ble_eq_true rfl⟩ e4 rfl rfl rfl (Nat.le_of_ble_eq_true rfl) ⟨Nat.zero_le _, Nat.zero_le _⟩ rfl dX8_addUp_20 (fun hr6 => ?_)
        refine V_iadd (pc := 23) C dX8_addUp_23 ?_
        refine V_istore_n (pc := 24) C (L' := [(0, vr Γ 4), (1, vi x1), (2, vi (x2 + r6)), (3, vi x3)]) rfl (by decide) dX8_addUp_24 ?_
        refine V_iinc (pc := 25) C (L' := [(0, vr Γ 4), (1, vi x1), (2, vi (x2 + r6)), (3, vi (x3 + (1 : Int)))]) 3 rfl rfl (by decide) dX8_addUp_25 ?_
        refine V_goto (pc := 28) C 4 dX8_addUp_28 (by decide) ?_
        obtain ⟨g8, h⟩ := grd_of h
        obtain ⟨g9, h⟩ := grd_of h
        refine V_sub (L' := [(0, vr Γ 4), (1, vi x1), (2, vi (x2 + r6)), (3, vi (x3 + (1 : Int)))]) [0, 1, 2, 3] rfl (by decide) ?_
        exact ih hx1 g8 g9 h
  skip
  refine V_iconst (pc := 0) C dX8_addUp_0 ?_
  refine V_istore_n (pc := 1) C (L' := [(0, vr Γ 4), (1, vi a1), (2, vi (0 : Int))]) rfl (by decide) dX8_addUp_1 ?_
  refine V_iconst (pc := 2) C dX8_addUp_2 ?_
  refine V_istore_n (pc := 3) C (L' := [(0, vr Γ 4), (1, vi a1), (2, vi (0 : Int)), (3, vi (0 : Int))]) rfl (by decide) dX8_addUp_3 ?_
  refine V_sub (L' := [(0, vr Γ 4), (1, vi a1), (2, vi (0 : Int)), (3, vi (0 : Int))]) [0, 1, 2, 3] rfl (by decide) ?_
  exact LP4 fu  ha1 (by decide) (by decide) h
set_option maxRecDepth 100000 in
set_option maxHeartbeats 4000000 in
theorem c_X8_find (l : Launch) (Γ : GG) (sk : List SD) (hsk : Ext sk) (fu : Nat) {M M' : Mem} {a1 : Int} {a2 : Int} {r : Int} (ha1 : rng a1) (ha2 : rng a2) (h : f_X8_find fu M a1 a2 = some (M', r)) : MetI l yX8_find cX8_find 4 .int ({ frames := 5, cells := 0, slots := 0, locals := 109 } : Room) Γ sk [vr Γ 4, vi a1, vi a2] M M' r := by
  unfold f_X8_find at h
  refine MetI_of RX8 rfl (by decide) rfl (Nat.le_of_ble_eq_true rfl) rfl ?_
  intro p e s m args below meth c C hr hlk hM
  have e4 := hsk 4 _ (by decide) rfl
  have e10 := hsk 10 _ (by decide) rfl
  have LP2 : ∀ (n : Nat) {x1 : Int} {x2 : Int} {x3 : Int} {M : Mem}, rng x1 → rng x2 → rng x3 → f_X8_find_L2 fu n x1 x2 x3 M = some (M', r) → VV p l e ({ frames := 5, cells := 0, slots := 0, locals := 109 } : Room) s m args below meth c (MQ below (PostI Γ sk M' r s.heap.size) args s 0 0 (Fr Γ sk s.heap.size)) 4 Γ sk M 0 0 2 [(0, vr Γ 4), (1, vi x1), (2, vi x2), (3, vi x3)] [] := by
    intro n
    induction n with
    | zero =>
      intro x1 x2 x3 M hx1 hx2 hx3 h
      cases h
    | succ n ih =>
      intro x1 x2 x3 M hx1 hx2 hx3 h
      rw [f_X8_find_L2] at h
      refine V_iload_n (pc := 2) C 3 rfl dX8_find_2 ?_
      refine V_aload_n (pc := 3) C 0 rfl dX8_find_3 ?_
      refine V_getR (pc := 4) C e4 rfl inX8 1 (by decide) rfl lf_X8_21 rfl dX8_find_4 ?_
      refine V_iload_n (pc := 7) C 1 rfl dX8_find_7 ?_
      obtain ⟨M1, r2, hc3, h⟩ := cal_of h
      refine V_callVI (pc := 8) C (c_X10_sizeAt l Γ sk hsk fu hx1 hc3) cf_X10_sizeAt lk_X8_66 ⟨rfl, rfl⟩ ⟨Nat.le_of_ble_eq_true rfl, Nat.le_of_ble_eq_true rfl⟩ e10 rfl rfl rfl (Nat.le_of_ble_eq_true rfl) ⟨Nat.zero_le _, Nat.zero_le _⟩ rfl dX8_find_8 (fun hr2 => ?_)
      refine V_icmp_ge (pc := 11) C 32 hx3 hr2 dX8_find_11 (by decide) (fun c11_4 => ?_) (fun c11_4 => ?_)
      · have h := ite_t h c11_4
        refine V_iconst (pc := 32) C dX8_find_32 ?_
        exact V_iret (pc := 33) C hr hlk (by decide) h dX8_find_33
      · have h := ite_f h c11_4
        refine V_aload_n (pc := 14) C 0 rfl dX8_find_14 ?_
        refine V_iload_n (pc := 15) C 1 rfl dX8_find_15 ?_
        refine V_iload_n (pc := 16) C 3 rfl dX8_find_16 ?_
        obtain ⟨M5, r6, hc7, h⟩ := cal_of h
        refine V_callVI (pc := 17) C (c_X8_elementAt l Γ sk hsk fu hx1 hx3 hc7) cf_X8_elementAt lk_X8_81 ⟨rfl, rfl⟩ ⟨Nat.le_of_ble_eq_true rfl, Nat.le_of_ble_eq_true rfl⟩ e4 rfl rfl rfl (Nat.le_of_ble_eq_true rfl) ⟨Nat.zero_le _, Nat.zero_le _⟩ rfl dX8_find_17 (fun hr6 => ?_)
        refine V_iload_n (pc := 20) C 2 rfl dX8_find_20 ?_
        refine V_icmp_ne (pc := 21) C 26 hr6 hx2 dX8_find_21 (by decide) (fun c21_8 => ?_) (fun c21_8 => ?_)
        · have h := ite_f h c21_8
          refine V_iinc (pc := 26) C (L' := [(0, vr Γ 4), (1, vi x1), (2, vi x2), (3, vi (x3 + (1 : Int)))]) 3 rfl rfl (by decide) dX8_find_26 ?_
          refine V_goto (pc := 29) C 2 dX8_find_29 (by decide) ?_
          obtain ⟨g9, h⟩ := grd_of h
          refine V_sub (L' := [(0, vr Γ 4), (1, vi x1), (2, vi x2), (3, vi (x3 + (1 : Int)))]) [0, 1, 2, 3] rfl (by decide) ?_
          exact ih hx1 hx2 g9 h
        · have h := ite_t h c21_8
          refine V_iload_n (pc := 24) C 3 rfl dX8_find_24 ?_
          exact V_iret (pc := 25) C hr hlk hx3 h dX8_find_25
  skip
  refine V_iconst (pc := 0) C dX8_find_0 ?_
  refine V_istore_n (pc := 1) C (L' := [(0, vr Γ 4), (1, vi a1), (2, vi a2), (3, vi (0 : Int))]) rfl (by decide) dX8_find_1 ?_
  refine V_sub (L' := [(0, vr Γ 4), (1, vi a1), (2, vi a2), (3, vi (0 : Int))]) [0, 1, 2, 3] rfl (by decide) ?_
  exact LP2 fu  ha1 ha2 (by decide) h
set_option maxRecDepth 100000 in
set_option maxHeartbeats 4000000 in
theorem c_X8_copyWithElement (l : Launch) (Γ : GG) (sk : List SD) (hsk : Ext sk) (fu : Nat) : ∀ (d : Nat) {M M' : Mem} {a1 : Int} {a2 : Int} {a3 : Int} {a4 : Int} {r : Int} (ha1 : rng a1) (ha2 : rng a2) (ha3 : rng a3) (ha4 : rng a4) (h : f_X8_copyWithElement fu d M a1 a2 a3 a4 = some (M', r)), MetI l yX8_copyWithElement cX8_copyWithElement 7 .int ({ frames := 4 * (d + 1), cells := 0, slots := 0, locals := 140 * (d + 1) } : Room) Γ sk [vr Γ 4, vi a1, vi a2, vi a3, vi a4] M M' r := by
  intro d
  induction d with
  | zero =>
    intro M M' a1 a2 a3 a4 r ha1 ha2 ha3 ha4 h
    cases h
  | succ d hsf =>
    intro M M' a1 a2 a3 a4 r ha1 ha2 ha3 ha4 h
    rw [f_X8_copyWithElement] at h
    refine MetI_of RX8 rfl (by decide) rfl (Nat.le_of_ble_eq_true rfl) rfl ?_
    intro p e s m args below meth c C hr hlk hM
    have e4 := hsk 4 _ (by decide) rfl
    have e5 := hsk 5 _ (by decide) rfl
    generalize hsfe : f_X8_copyWithElement fu d = sf at h hsf
    have JP38 : ∀ {x1 : Int} {x2 : Int} {x5 : Int} {x6 : Int} {M : Mem}, rng x1 → rng x2 → rng x5 → rng x6 → f_X8_copyWithElement_J38 fu sf x1 x2 x5 x6 M = some (M', r) → VV p l e ({ frames := 4 * (d + 1 + 1), cells := 0, slots := 0, locals := 140 * (d + 1 + 1) } : Room) s m args below meth c (MQ below (PostI Γ sk M' r s.heap.size) args s 0 0 (Fr Γ sk s.heap.size)) 7 Γ sk M 0 0 38 [(0, vr Γ 4), (1, vi x1), (2, vi x2), (5, vi x5), (6, vi x6)] [] := by
      intro x1 x2 x5 x6 M hx1 hx2 hx5 hx6 h
      unfold f_X8_copyWithElement_J38 at h
      refine V_aload_n (pc := 38) C 0 rfl dX8_copyWithElement_38 ?_
      refine V_getR (pc := 39) C e4 rfl inX8 0 (by decide) rfl lf_X8_12 rfl dX8_copyWithElement_39 ?_
      refine V_iload_n (pc := 42) C 1 rfl dX8_copyWithElement_42 ?_
      refine V_iload_n (pc := 43) C 2 rfl dX8_copyWithElement_43 ?_
      refine V_aload_n (pc := 44) C 0 rfl dX8_copyWithElement_44 ?_
      refine V_getR (pc := 45) C e4 rfl inX8 0 (by decide) rfl lf_X8_12 rfl dX8_copyWithElement_45 ?_
      refine V_iload_n (pc := 48) C 1 rfl dX8_copyWithElement_48 ?_
      obtain ⟨M5, r6, hc7, h⟩ := cal_of h
      refine V_callVI (pc := 49) C (c_X3_fillAt l Γ sk hsk fu hx1 hc7) cf_X3_fillAt lk_X8_104 ⟨rfl, rfl⟩ ⟨by dsimp only; omega, by dsimp only; omega⟩ e5 rfl rfl rfl (Nat.le_of_ble_eq_true rfl) ⟨Nat.zero_le _, Nat.zero_le _⟩ rfl dX8_copyWithElement_49 (fun hr6 => ?_)
      refine V_iload (pc := 52) C 3 rfl dX8_copyWithElement_52 ?_
      refine V_iload (pc := 54) C 4 rfl dX8_copyWithElement_54 ?_
      obtain ⟨M8, r9, hc10, h⟩ := cal_of h
      refine V_callVI (pc := 56) C (c_X3_addCopy l Γ sk hsk fu hx1 hx2 hr6 hx5 hx6 hc10) cf_X3_addCopy lk_X8_107 ⟨rfl, rfl⟩ ⟨by dsimp only; omega, by dsimp only; omega⟩ e5 rfl rfl rfl (Nat.le_of_ble_eq_true rfl) ⟨Nat.zero_le _, Nat.zero_le _⟩ rfl dX8_copyWithElement_56 (fun hr9 => ?_)
      exact V_iret (pc := 59) C hr hlk hr9 h dX8_copyWithElement_59
    skip
    refine V_iload_n (pc := 0) C 2 rfl dX8_copyWithElement_0 ?_
    refine V_iload_n (pc := 1) C 3 rfl dX8_copyWithElement_1 ?_
    obtain ⟨M1, r2, hc3, h⟩ := cal_of h
    refine V_callNI (pc := 2) C (c_X11_positionIn l Γ sk hsk fu ha2 ha3 hc3) cf_X11_positionIn ln_X8_52 ⟨rfl, rfl⟩ ⟨by dsimp only; omega, by dsimp only; omega⟩ rfl (Nat.le_of_ble_eq_true rfl) ⟨Nat.zero_le _, Nat.zero_le _⟩ rfl dX8_copyWithElement_2 (fun hr2 => ?_)
    refine V_istore (pc := 5) C (L' := [(0, vr Γ 4), (1, vi a1), (2, vi a2), (3, vi a3), (4, vi a4), (5, vi r2)]) rfl (by decide) dX8_copyWithElement_5 ?_
    refine V_iload (pc := 7) C 4 rfl dX8_copyWithElement_7 ?_
    refine V_istore (pc := 9) C (L' := [(0, vr Γ 4), (1, vi a1), (2, vi a2), (3, vi a3), (4, vi a4), (5, vi r2), (6, vi a4)]) rfl (by decide) dX8_copyWithElement_9 ?_
    refine V_iload_n (pc := 11) C 2 rfl dX8_copyWithElement_11 ?_
    refine V_iconst (pc := 12) C dX8_copyWithElement_12 ?_
    refine V_icmp_le (pc := 13) C 38 ha2 (by decide) dX8_copyWithElement_13 (by decide) (fun c13_4 => ?_) (fun c13_4 => ?_)
    · have h := ite_t h c13_4
      refine V_sub (L' := [(0, vr Γ 4), (1, vi a1), (2, vi a2), (5, vi r2), (6, vi a4)]) [0, 1, 2, 5, 6] rfl (by decide) ?_
      exact JP38 ha1 ha2 hr2 ha4 h
    · have h := ite_f h c13_4
      refine V_aload_n (pc := 16) C 0 rfl dX8_copyWithElement_16 ?_
      refine V_aload_n (pc := 17) C 0 rfl dX8_copyWithElement_17 ?_
      refine V_getR (pc := 18) C e4 rfl inX8 0 (by decide) rfl lf_X8_12 rfl dX8_copyWithElement_18 ?_
      refine V_iload_n (pc := 21) C 1 rfl dX8_copyWithElement_21 ?_
      refine V_iload (pc := 22) C 5 rfl dX8_copyWithElement_22 ?_
      obtain ⟨M11, r12, hc13, h⟩ := cal_of h
      refine V_callVI (pc := 24) C (c_X3_childAt l Γ sk hsk fu ha1 hr2 hc13) cf_X3_childAt lk_X8_101 ⟨rfl, rfl⟩ ⟨by dsimp only; omega, by dsimp only; omega⟩ e5 rfl rfl rfl (Nat.le_of_ble_eq_true rfl) ⟨Nat.zero_le _, Nat.zero_le _⟩ rfl dX8_copyWithElement_24 (fun hr12 => ?_)
      refine V_iload_n (pc := 27) C 2 rfl dX8_copyWithElement_27 ?_
      refine V_iconst (pc := 28) C dX8_copyWithElement_28 ?_
      refine V_isub (pc := 29) C dX8_copyWithElement_29 ?_
      refine V_iload_n (pc := 30) C 3 rfl dX8_copyWithElement_30 ?_
      refine V_iload (pc := 31) C 4 rfl dX8_copyWithElement_31 ?_
      obtain ⟨g14, h⟩ := grd_of h
      obtain ⟨M15, r16, hc17, h⟩ := cal_of h
      refine V_callVI (pc := 33) C (hsf hr12 g14 ha3 ha4 hc17) cf_X8_copyWithElement lk_X8_84 ⟨rfl, rfl⟩ ⟨by dsimp only; omega, by dsimp only; omega⟩ e4 rfl rfl rfl (Nat.le_of_ble_eq_true rfl) ⟨Nat.zero_le _, Nat.zero_le _⟩ rfl dX8_copyWithElement_33 (fun hr16 => ?_)
      refine V_istore (pc := 36) C (L' := [(0, vr Γ 4), (1, vi a1), (2, vi a2), (3, vi a3), (4, vi a4), (5, vi r2), (6, vi r16)]) rfl (by decide) dX8_copyWithElement_36 ?_
      refine V_sub (L' := [(0, vr Γ 4), (1, vi a1), (2, vi a2), (5, vi r2), (6, vi r16)]) [0, 1, 2, 5, 6] rfl (by decide) ?_
      exact JP38 ha1 ha2 hr2 hr16 h
