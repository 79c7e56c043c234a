set_option maxRecDepth 100000 in
set_option maxHeartbeats 4000000 in
theorem c_X12_createdNodes (l : Launch) (Γ : GG) (sk : List SD) (hsk : ExtM sk) (fu : Nat) {M M' : Mem}  {r : Int}  (h : f_X12_createdNodes fu M  = some (M', r)) : MetI l yX12_createdNodes cX12_createdNodes 1 .int ({ frames := 0, cells := 0, slots := 0, locals := 0 } : Room) Γ sk [vr Γ 52] M M' r := by
  unfold f_X12_createdNodes at h
  refine MetI_of RX12 rfl (by decide) rfl (Nat.le_of_ble_eq_true rfl) rfl ?_
  intro p e s m args below meth c C hr hlk hM
  have e52 := hsk 52 _ (by decide) rfl
  have e53 := hsk 53 _ (by decide) rfl
  refine V_aload_n (pc := 0) C 0 rfl dX12_createdNodes_0 ?_
  refine V_iconst (pc := 1) C dX12_createdNodes_1 ?_
  refine V_putI (pc := 2) C (by decide) e52 rfl inX12 tyX12 tyX12_ok nmX12 6 (by decide) rfl rfl lf_X12_58 rfl (by decide) rfl dX12_createdNodes_2 ?_
  refine V_aload_n (pc := 5) C 0 rfl dX12_createdNodes_5 ?_
  refine V_getR (pc := 6) C e52 rfl inX12 0 (by decide) rfl lf_X12_9 rfl dX12_createdNodes_6 ?_
  refine V_iconst (pc := 9) C dX12_createdNodes_9 ?_
  refine V_rng fun hM1 => ?_
  obtain ⟨g2, h⟩ := grd_of h
  refine V_iald (pc := 10) C e53 g2 (by decide) dX12_createdNodes_10 ?_
  exact V_iret (pc := 11) C hr hlk (hM1 _ _) h dX12_createdNodes_11
set_option maxRecDepth 100000 in
set_option maxHeartbeats 4000000 in
theorem c_X12_countReached (l : Launch) (Γ : GG) (sk : List SD) (hsk : ExtM sk) (fu : Nat) {M M' : Mem} {a1 : Int} {r : Int} (ha1 : rng a1) (h : f_X12_countReached fu M a1 = some (M', r)) : MetI l yX12_countReached cX12_countReached 4 .int ({ frames := 1, cells := 0, slots := 0, locals := 20 } : Room) Γ sk [vr Γ 52, vi a1] M M' r := by
  unfold f_X12_countReached at h
  refine MetI_of RX12 rfl (by decide) rfl (Nat.le_of_ble_eq_true rfl) rfl ?_
  intro p e s m args below meth c C hr hlk hM
  have e52 := hsk 52 _ (by decide) rfl
  have e53 := hsk 53 _ (by decide) rfl
  have e60 := hsk 60 _ (by decide) rfl
  have LP4 : ∀ (n : Nat) {x1 : Int} {x2 : Int} {x3 : Int} {M : Mem}, rng x1 → rng x2 → rng x3 → f_X12_countReached_L4 fu n x1 x2 x3 M = some (M', r) → VV p l e ({ frames := 1, cells := 0, slots := 0, locals := 20 } : Room) s m args below meth c (MQ below (PostI Γ sk M' r s.heap.size) args s 0 0 (Fr Γ sk s.heap.size)) 4 Γ sk M 0 0 4 [(0, vr Γ 52), (1, vi x1), (2, vi x2), (3, vi x3)] [] := by
    intro n
    induction n with
    | zero =>
      intro x1 x2 x3 M hx1 hx2 hx3 h
      cases h
    | succ n ih =>
      intro x1 x2 x3 M hx1 hx2 hx3 h
      rw [f_X12_countReached_L4] at h
      refine V_iload_n (pc := 4) C 3 rfl dX12_countReached_4 ?_
      refine V_aload_n (pc := 5) C 0 rfl dX12_countReached_5 ?_
      refine V_getR (pc := 6) C e52 rfl inX12 0 (by decide) rfl lf_X12_9 rfl dX12_countReached_6 ?_
      refine V_iconst (pc := 9) C dX12_countReached_9 ?_
      refine V_rng fun hM1 => ?_
      obtain ⟨g2, h⟩ := grd_of h
      refine V_iald (pc := 10) C e53 g2 (by decide) dX12_countReached_10 ?_
      refine V_icmp_ge (pc := 11) C 41 hx3 (hM1 _ _) dX12_countReached_11 (by decide) (fun c11_3 => ?_) (fun c11_3 => ?_)
      · have h := ite_t h c11_3
        refine V_iload_n (pc := 41) C 2 rfl dX12_countReached_41 ?_
        exact V_iret (pc := 42) C hr hlk hx2 h dX12_countReached_42
      · have h := ite_f h c11_3
        refine V_iload_n (pc := 14) C 2 rfl dX12_countReached_14 ?_
        refine V_aload_n (pc := 15) C 0 rfl dX12_countReached_15 ?_
        refine V_getR (pc := 16) C e52 rfl inX12 11 (by decide) rfl lf_X12_32 rfl dX12_countReached_16 ?_
        refine V_iload_n (pc := 19) C 3 rfl dX12_countReached_19 ?_
        obtain ⟨g4, h⟩ := grd_of h
        refine V_iald (pc := 20) C e60 g4 hx3 dX12_countReached_20 ?_
        refine V_iload_n (pc := 21) C 1 rfl dX12_countReached_21 ?_
        refine V_icmp_ne (pc := 22) C 29 (hM1 _ _) hx1 dX12_countReached_22 (by decide) (fun c22_5 => ?_) (fun c22_5 => ?_)
        · have h := ite_f h c22_5
          refine V_iconst (pc := 29) C dX12_countReached_29 ?_
          obtain ⟨M6, r7, hc8, h⟩ := cal_of h
          refine V_callSI (pc := 30) C (c_X12_one l Γ sk hsk fu (by decide) hc8) cf_X12_one lk_X12_75 ⟨rfl, rfl⟩ ⟨Nat.le_of_ble_eq_true rfl, Nat.le_of_ble_eq_true rfl⟩ rfl (Nat.le_of_ble_eq_true rfl) ⟨Nat.zero_le _, Nat.zero_le _⟩ rfl dX12_countReached_30 (fun hr7 => ?_)
          refine V_iadd (pc := 33) C dX12_countReached_33 ?_
          refine V_istore_n (pc := 34) C (L' := [(0, vr Γ 52), (1, vi x1), (2, vi (x2 + r7)), (3, vi x3)]) rfl (by decide) dX12_countReached_34 ?_
          refine V_iinc (pc := 35) C (L' := [(0, vr Γ 52), (1, vi x1), (2, vi (x2 + r7)), (3, vi (x3 + (1 : Int)))]) 3 rfl rfl (by decide) dX12_countReached_35 ?_
          refine V_goto (pc := 38) C 4 dX12_countReached_38 (by decide) ?_
          obtain ⟨g9, h⟩ := grd_of h
          obtain ⟨g10, h⟩ := grd_of h
          refine V_sub (L' := [(0, vr Γ 52), (1, vi x1), (2, vi (x2 + r7)), (3, vi (x3 + (1 : Int)))]) [0, 1, 2, 3] rfl (by decide) ?_
          exact ih hx1 g9 g10 h
        · have h := ite_t h c22_5
          refine V_iconst (pc := 25) C dX12_countReached_25 ?_
          refine V_goto (pc := 26) C 30 dX12_countReached_26 (by decide) ?_
          obtain ⟨M11, r12, hc13, h⟩ := cal_of h
          refine V_callSI (pc := 30) C (c_X12_one l Γ sk hsk fu (by decide) hc13) cf_X12_one lk_X12_75 ⟨rfl, rfl⟩ ⟨Nat.le_of_ble_eq_true rfl, Nat.le_of_ble_eq_true rfl⟩ rfl (Nat.le_of_ble_eq_true rfl) ⟨Nat.zero_le _, Nat.zero_le _⟩ rfl dX12_countReached_30 (fun hr12 => ?_)
          refine V_iadd (pc := 33) C dX12_countReached_33 ?_
          refine V_istore_n (pc := 34) C (L' := [(0, vr Γ 52), (1, vi x1), (2, vi (x2 + r12)), (3, vi x3)]) rfl (by decide) dX12_countReached_34 ?_
          refine V_iinc (pc := 35) C (L' := [(0, vr Γ 52), (1, vi x1), (2, vi (x2 + r12)), (3, vi (x3 + (1 : Int)))]) 3 rfl rfl (by decide) dX12_countReached_35 ?_
          refine V_goto (pc := 38) C 4 dX12_countReached_38 (by decide) ?_
          obtain ⟨g14, h⟩ := grd_of h
          obtain ⟨g15, h⟩ := grd_of h
          refine V_sub (L' := [(0, vr Γ 52), (1, vi x1), (2, vi (x2 + r12)), (3, vi (x3 + (1 : Int)))]) [0, 1, 2, 3] rfl (by decide) ?_
          exact ih hx1 g14 g15 h
  skip
  refine V_iconst (pc := 0) C dX12_countReached_0 ?_
  refine V_istore_n (pc := 1) C (L' := [(0, vr Γ 52), (1, vi a1), (2, vi (0 : Int))]) rfl (by decide) dX12_countReached_1 ?_
  refine V_iconst (pc := 2) C dX12_countReached_2 ?_
  refine V_istore_n (pc := 3) C (L' := [(0, vr Γ 52), (1, vi a1), (2, vi (0 : Int)), (3, vi (0 : Int))]) rfl (by decide) dX12_countReached_3 ?_
  refine V_sub (L' := [(0, vr Γ 52), (1, vi a1), (2, vi (0 : Int)), (3, vi (0 : Int))]) [0, 1, 2, 3] rfl (by decide) ?_
  exact LP4 fu  ha1 (by decide) (by decide) h
set_option maxRecDepth 100000 in
set_option maxHeartbeats 4000000 in
theorem c_X12_countNodes (l : Launch) (Γ : GG) (sk : List SD) (hsk : ExtM sk) (fu : Nat) {M M' : Mem} {a1 : Int} {r : Int} (ha1 : rng a1) (h : f_X12_countNodes fu M a1 = some (M', r)) : MetI l yX12_countNodes cX12_countNodes 2 .int ({ frames := 28, cells := 0, slots := 0, locals := 940 } : Room) Γ sk [vr Γ 52, vi a1] M M' r := by
  unfold f_X12_countNodes at h
  refine MetI_of RX12 rfl (by decide) rfl (Nat.le_of_ble_eq_true rfl) rfl ?_
  intro p e s m args below meth c C hr hlk hM
  have e52 := hsk 52 _ (by decide) rfl
  refine V_aload_n (pc := 0) C 0 rfl dX12_countNodes_0 ?_
  obtain ⟨M1, r2, hc3, h⟩ := cal_of h
  refine V_callVV (pc := 1) C (c_X12_clearReached l Γ sk hsk fu hc3) cf_X12_clearReached lk_X12_161 ⟨rfl, rfl⟩ ⟨Nat.le_of_ble_eq_true rfl, Nat.le_of_ble_eq_true rfl⟩ e52 rfl rfl rfl (Nat.le_of_ble_eq_true rfl) ⟨Nat.zero_le _, Nat.zero_le _⟩ rfl dX12_countNodes_1 ?_
  refine V_aload_n (pc := 4) C 0 rfl dX12_countNodes_4 ?_
  refine V_aload_n (pc := 5) C 0 rfl dX12_countNodes_5 ?_
  refine V_iload_n (pc := 6) C 1 rfl dX12_countNodes_6 ?_
  obtain ⟨M4, r5, hc6, h⟩ := cal_of h
  refine V_callVI (pc := 7) C (c_X12_root l Γ sk hsk fu ha1 hc6) cf_X12_root lk_X12_145 ⟨rfl, rfl⟩ ⟨Nat.le_of_ble_eq_true rfl, Nat.le_of_ble_eq_true rfl⟩ e52 rfl rfl rfl (Nat.le_of_ble_eq_true rfl) ⟨Nat.zero_le _, Nat.zero_le _⟩ rfl dX12_countNodes_7 (fun hr5 => ?_)
  obtain ⟨M7, r8, hc9, h⟩ := cal_of h
  refine V_callVV (pc := 10) C (c_X12_reach l Γ sk hsk fu 8 hr5 hc9) cf_X12_reach lk_X12_157 ⟨rfl, rfl⟩ ⟨Nat.le_of_ble_eq_true rfl, Nat.le_of_ble_eq_true rfl⟩ e52 rfl rfl rfl (Nat.le_of_ble_eq_true rfl) ⟨Nat.zero_le _, Nat.zero_le _⟩ rfl dX12_countNodes_10 ?_
  refine V_aload_n (pc := 13) C 0 rfl dX12_countNodes_13 ?_
  refine V_iconst (pc := 14) C dX12_countNodes_14 ?_
  obtain ⟨M10, r11, hc12, h⟩ := cal_of h
  refine V_callVI (pc := 15) C (c_X12_countReached l Γ sk hsk fu (by decide) hc12) cf_X12_countReached lk_X12_352 ⟨rfl, rfl⟩ ⟨Nat.le_of_ble_eq_true rfl, Nat.le_of_ble_eq_true rfl⟩ e52 rfl rfl rfl (Nat.le_of_ble_eq_true rfl) ⟨Nat.zero_le _, Nat.zero_le _⟩ rfl dX12_countNodes_15 (fun hr11 => ?_)
  exact V_iret (pc := 18) C hr hlk hr11 h dX12_countNodes_18
set_option maxRecDepth 100000 in
set_option maxHeartbeats 4000000 in
theorem c_X12_differAt (l : Launch) (Γ : GG) (sk : List SD) (hsk : ExtM sk) (fu : Nat) {M M' : Mem} {a1 : Int} {a2 : Int} {a3 : Int} {r : Int} (ha1 : rng a1) (ha2 : rng a2) (ha3 : rng a3) (h : f_X12_differAt fu M a1 a2 a3 = some (M', r)) : MetI l yX12_differAt cX12_differAt 6 .boolean ({ frames := 2, cells := 0, slots := 0, locals := 42 } : Room) Γ sk [vr Γ 52, vi a1, vi a2, vi a3] M M' r := by
  unfold f_X12_differAt at h
  refine MetI_of RX12 rfl (by decide) rfl (Nat.le_of_ble_eq_true rfl) rfl ?_
  intro p e s m args below meth c C hr hlk hM
  have e52 := hsk 52 _ (by decide) rfl
  have JP30 : ∀ {x1 : Int} {x2 : Int} {x3 : Int} {x4 : Int} {y0 : Int} {M : Mem}, rng x1 → rng x2 → rng x3 → rng x4 → rng y0 → f_X12_differAt_J30 fu x1 x2 x3 x4 y0 M = some (M', r) → VV p l e ({ frames := 2, cells := 0, slots := 0, locals := 42 } : Room) s m args below meth c (MQ below (PostI Γ sk M' r s.heap.size) args s 0 0 (Fr Γ sk s.heap.size)) 6 Γ sk M 0 0 30 [(0, vr Γ 52), (1, vi x1), (2, vi x2), (3, vi x3), (4, vi x4)] [vi y0] := by
    intro x1 x2 x3 x4 y0 M hx1 hx2 hx3 hx4 hy0 h
    unfold f_X12_differAt_J30 at h
    refine V_istore (pc := 30) C (L' := [(0, vr Γ 52), (1, vi x1), (2, vi x2), (3, vi x3), (4, vi x4), (5, vi y0)]) rfl (by decide) dX12_differAt_30 ?_
    refine V_iload (pc := 32) C 4 rfl dX12_differAt_32 ?_
    refine V_iload (pc := 34) C 5 rfl dX12_differAt_34 ?_
    refine V_icmp_eq (pc := 36) C 41 hx4 hy0 dX12_differAt_36 (by decide) (fun c36_9 => ?_) (fun c36_9 => ?_)
    · have h := ite_t h c36_9
      refine V_iload (pc := 41) C 4 rfl dX12_differAt_41 ?_
      refine V_if_eq (pc := 43) C 65 hx4 dX12_differAt_43 (by decide) (fun c43_10 => ?_) (fun c43_10 => ?_)
      · have h := ite_t h c43_10
        refine V_iconst (pc := 65) C dX12_differAt_65 ?_
        exact V_zret (pc := 66) C hr hlk (by decide) h dX12_differAt_66
      · have h := ite_f h c43_10
        refine V_aload_n (pc := 46) C 0 rfl dX12_differAt_46 ?_
        refine V_iload_n (pc := 47) C 1 rfl dX12_differAt_47 ?_
        refine V_iload_n (pc := 48) C 3 rfl dX12_differAt_48 ?_
        obtain ⟨M11, r12, hc13, h⟩ := cal_of h
        refine V_callVI (pc := 49) C (c_X12_element l Γ sk hsk fu hx1 hx3 hc13) cf_X12_element lk_X12_129 ⟨rfl, rfl⟩ ⟨Nat.le_of_ble_eq_true rfl, Nat.le_of_ble_eq_true rfl⟩ e52 rfl rfl rfl (Nat.le_of_ble_eq_true rfl) ⟨Nat.zero_le _, Nat.zero_le _⟩ rfl dX12_differAt_49 (fun hr12 => ?_)
        refine V_aload_n (pc := 52) C 0 rfl dX12_differAt_52 ?_
        refine V_iload_n (pc := 53) C 2 rfl dX12_differAt_53 ?_
        refine V_iload_n (pc := 54) C 3 rfl dX12_differAt_54 ?_
        obtain ⟨M14, r15, hc16, h⟩ := cal_of h
        refine V_callVI (pc := 55) C (c_X12_element l Γ sk hsk fu hx2 hx3 hc16) cf_X12_element lk_X12_129 ⟨rfl, rfl⟩ ⟨Nat.le_of_ble_eq_true rfl, Nat.le_of_ble_eq_true rfl⟩ e52 rfl rfl rfl (Nat.le_of_ble_eq_true rfl) ⟨Nat.zero_le _, Nat.zero_le _⟩ rfl dX12_differAt_55 (fun hr15 => ?_)
        refine V_icmp_eq (pc := 58) C 65 hr12 hr15 dX12_differAt_58 (by decide) (fun c58_17 => ?_) (fun c58_17 => ?_)
        · have h := ite_t h c58_17
          refine V_iconst (pc := 65) C dX12_differAt_65 ?_
          exact V_zret (pc := 66) C hr hlk (by decide) h dX12_differAt_66
        · have h := ite_f h c58_17
          refine V_iconst (pc := 61) C dX12_differAt_61 ?_
          refine V_goto (pc := 62) C 66 dX12_differAt_62 (by decide) ?_
          exact V_zret (pc := 66) C hr hlk (by decide) h dX12_differAt_66
    · have h := ite_f h c36_9
      refine V_iconst (pc := 39) C dX12_differAt_39 ?_
      exact V_zret (pc := 40) C hr hlk (by decide) h dX12_differAt_40
  have JP14 : ∀ {x1 : Int} {x2 : Int} {x3 : Int} {y0 : Int} {M : Mem}, rng x1 → rng x2 → rng x3 → rng y0 → f_X12_differAt_J14 fu x1 x2 x3 y0 M = some (M', r) → VV p l e ({ frames := 2, cells := 0, slots := 0, locals := 42 } : Room) s m args below meth c (MQ below (PostI Γ sk M' r s.heap.size) args s 0 0 (Fr Γ sk s.heap.size)) 6 Γ sk M 0 0 14 [(0, vr Γ 52), (1, vi x1), (2, vi x2), (3, vi x3)] [vi y0] := by
    intro x1 x2 x3 y0 M hx1 hx2 hx3 hy0 h
    unfold f_X12_differAt_J14 at h
    refine V_istore (pc := 14) C (L' := [(0, vr Γ 52), (1, vi x1), (2, vi x2), (3, vi x3), (4, vi y0)]) rfl (by decide) dX12_differAt_14 ?_
    refine V_iload_n (pc := 16) C 3 rfl dX12_differAt_16 ?_
    refine V_aload_n (pc := 17) C 0 rfl dX12_differAt_17 ?_
    refine V_iload_n (pc := 18) C 2 rfl dX12_differAt_18 ?_
    obtain ⟨M5, r6, hc7, h⟩ := cal_of h
    refine V_callVI (pc := 19) C (c_X12_lengthOf l Γ sk hsk fu hx2 hc7) cf_X12_lengthOf lk_X12_121 ⟨rfl, rfl⟩ ⟨Nat.le_of_ble_eq_true rfl, Nat.le_of_ble_eq_true rfl⟩ e52 rfl rfl rfl (Nat.le_of_ble_eq_true rfl) ⟨Nat.zero_le _, Nat.zero_le _⟩ rfl dX12_differAt_19 (fun hr6 => ?_)
    refine V_icmp_ge (pc := 22) C 29 hx3 hr6 dX12_differAt_22 (by decide) (fun c22_8 => ?_) (fun c22_8 => ?_)
    · have h := ite_t h c22_8
      refine V_iconst (pc := 29) C dX12_differAt_29 ?_
      refine V_sub (L' := [(0, vr Γ 52), (1, vi x1), (2, vi x2), (3, vi x3), (4, vi y0)]) [0, 1, 2, 3, 4] rfl (by decide) ?_
      exact JP30 hx1 hx2 hx3 hy0 (by decide) h
    · have h := ite_f h c22_8
      refine V_iconst (pc := 25) C dX12_differAt_25 ?_
      refine V_goto (pc := 26) C 30 dX12_differAt_26 (by decide) ?_
      refine V_sub (L' := [(0, vr Γ 52), (1, vi x1), (2, vi x2), (3, vi x3), (4, vi y0)]) [0, 1, 2, 3, 4] rfl (by decide) ?_
      exact JP30 hx1 hx2 hx3 hy0 (by decide) h
  skip
  refine V_iload_n (pc := 0) C 3 rfl dX12_differAt_0 ?_
  refine V_aload_n (pc := 1) C 0 rfl dX12_differAt_1 ?_
  refine V_iload_n (pc := 2) C 1 rfl dX12_differAt_2 ?_
  obtain ⟨M1, r2, hc3, h⟩ := cal_of h
  refine V_callVI (pc := 3) C (c_X12_lengthOf l Γ sk hsk fu ha1 hc3) cf_X12_lengthOf lk_X12_121 ⟨rfl, rfl⟩ ⟨Nat.le_of_ble_eq_true rfl, Nat.le_of_ble_eq_true rfl⟩ e52 rfl rfl rfl (Nat.le_of_ble_eq_true rfl) ⟨Nat.zero_le _, Nat.zero_le _⟩ rfl dX12_differAt_3 (fun hr2 => ?_)
  refine V_icmp_ge (pc := 6) C 13 ha3 hr2 dX12_differAt_6 (by decide) (fun c6_4 => ?_) (fun c6_4 => ?_)
  · have h := ite_t h c6_4
    refine V_iconst (pc := 13) C dX12_differAt_13 ?_
    refine V_sub (L' := [(0, vr Γ 52), (1, vi a1), (2, vi a2), (3, vi a3)]) [0, 1, 2, 3] rfl (by decide) ?_
    exact JP14 ha1 ha2 ha3 (by decide) h
  · have h := ite_f h c6_4
    refine V_iconst (pc := 9) C dX12_differAt_9 ?_
    refine V_goto (pc := 10) C 14 dX12_differAt_10 (by decide) ?_
    refine V_sub (L' := [(0, vr Γ 52), (1, vi a1), (2, vi a2), (3, vi a3)]) [0, 1, 2, 3] rfl (by decide) ?_
    exact JP14 ha1 ha2 ha3 (by decide) h
set_option maxRecDepth 100000 in
set_option maxHeartbeats 4000000 in
theorem c_X12_cost (l : Launch) (Γ : GG) (sk : List SD) (hsk : ExtM sk) (fu : Nat) : ∀ (d : Nat) {M M' : Mem} {a1 : Int} {a2 : Int} {r : Int} (ha1 : rng a1) (ha2 : rng a2) (h : f_X12_cost fu d M a1 a2 = some (M', r)), MetI l yX12_cost cX12_cost 6 .int ({ frames := 3 * (d + 1), cells := 0, slots := 0, locals := 102 * (d + 1) } : Room) Γ sk [vr Γ 52, vi a1, vi a2] M M' r := by
  intro d
  induction d with
  | zero =>
    intro M M' a1 a2 r ha1 ha2 h
    cases h
  | succ d hsf =>
    intro M M' a1 a2 r ha1 ha2 h
    rw [f_X12_cost] at h
    refine MetI_of RX12 rfl (by decide) rfl (Nat.le_of_ble_eq_true rfl) rfl ?_
    intro p e s m args below meth c C hr hlk hM
    have e52 := hsk 52 _ (by decide) rfl
    generalize hsfe : f_X12_cost fu d = sf at h hsf
    have LP37 : ∀ (n : Nat) {x1 : Int} {x2 : Int} {x3 : Int} {x4 : Int} {x5 : Int} {M : Mem}, rng x1 → rng x2 → rng x3 → rng x4 → rng x5 → f_X12_cost_L37 fu sf n x1 x2 x3 x4 x5 M = some (M', r) → VV p l e ({ frames := 3 * (d + 1 + 1), cells := 0, slots := 0, locals := 102 * (d + 1 + 1) } : Room) s m args below meth c (MQ below (PostI Γ sk M' r s.heap.size) args s 0 0 (Fr Γ sk s.heap.size)) 6 Γ sk M 0 0 37 [(0, vr Γ 52), (1, vi x1), (2, vi x2), (3, vi x3), (4, vi x4), (5, vi x5)] [] := by
      intro n
      induction n with
      | zero =>
        intro x1 x2 x3 x4 x5 M hx1 hx2 hx3 hx4 hx5 h
        cases h
      | succ n ih =>
        intro x1 x2 x3 x4 x5 M hx1 hx2 hx3 hx4 hx5 h
        rw [f_X12_cost_L37] at h
        refine V_iload (pc := 37) C 5 rfl dX12_cost_37 ?_
        refine V_iload (pc := 39) C 4 rfl dX12_cost_39 ?_
        refine V_icmp_ge (pc := 41) C 71 hx5 hx4 dX12_cost_41 (by decide) (fun c41_12 => ?_) (fun c41_12 => ?_)
        · have h := ite_t h c41_12
          refine V_iload_n (pc := 71) C 3 rfl dX12_cost_71 ?_
          exact V_iret (pc := 72) C hr hlk hx3 h dX12_cost_72
        · have h := ite_f h c41_12
          refine V_iload_n (pc := 44) C 3 rfl dX12_cost_44 ?_
          refine V_aload_n (pc := 45) C 0 rfl dX12_cost_45 ?_
          refine V_aload_n (pc := 46) C 0 rfl dX12_cost_46 ?_
          refine V_iload_n (pc := 47) C 1 rfl dX12_cost_47 ?_
          refine V_iload (pc := 48) C 5 rfl dX12_cost_48 ?_
          obtain ⟨M13, r14, hc15, h⟩ := cal_of h
          refine V_callVI (pc := 50) C (c_X12_entry l Γ sk hsk fu hx1 hx5 hc15) cf_X12_entry lk_X12_71 ⟨rfl, rfl⟩ ⟨by dsimp only; omega, by dsimp only; omega⟩ e52 rfl rfl rfl (Nat.le_of_ble_eq_true rfl) ⟨Nat.zero_le _, Nat.zero_le _⟩ rfl dX12_cost_50 (fun hr14 => ?_)
          refine V_aload_n (pc := 53) C 0 rfl dX12_cost_53 ?_
          refine V_iload_n (pc := 54) C 2 rfl dX12_cost_54 ?_
          refine V_iload (pc := 55) C 5 rfl dX12_cost_55 ?_
          obtain ⟨M16, r17, hc18, h⟩ := cal_of h
          refine V_callVI (pc := 57) C (c_X12_entry l Γ sk hsk fu hx2 hx5 hc18) cf_X12_entry lk_X12_71 ⟨rfl, rfl⟩ ⟨by dsimp only; omega, by dsimp only; omega⟩ e52 rfl rfl rfl (Nat.le_of_ble_eq_true rfl) ⟨Nat.zero_le _, Nat.zero_le _⟩ rfl dX12_cost_57 (fun hr17 => ?_)
          obtain ⟨M19, r20, hc21, h⟩ := cal_of h
          refine V_callVI (pc := 60) C (hsf hr14 hr17 hc21) cf_X12_cost lk_X12_376 ⟨rfl, rfl⟩ ⟨by dsimp only; omega, by dsimp only; omega⟩ e52 rfl rfl rfl (Nat.le_of_ble_eq_true rfl) ⟨Nat.zero_le _, Nat.zero_le _⟩ rfl dX12_cost_60 (fun hr20 => ?_)
          refine V_iadd (pc := 63) C dX12_cost_63 ?_
          refine V_istore_n (pc := 64) C (L' := [(0, vr Γ 52), (1, vi x1), (2, vi x2), (3, vi (x3 + r20)), (4, vi x4), (5, vi x5)]) rfl (by decide) dX12_cost_64 ?_
          refine V_iinc (pc := 65) C (L' := [(0, vr Γ 52), (1, vi x1), (2, vi x2), (3, vi (x3 + r20)), (4, vi x4), (5, vi (x5 + (1 : Int)))]) 5 rfl rfl (by decide) dX12_cost_65 ?_
          refine V_goto (pc := 68) C 37 dX12_cost_68 (by decide) ?_
          obtain ⟨g22, h⟩ := grd_of h
          obtain ⟨g23, h⟩ := grd_of h
          refine V_sub (L' := [(0, vr Γ 52), (1, vi x1), (2, vi x2), (3, vi (x3 + r20)), (4, vi x4), (5, vi (x5 + (1 : Int)))]) [0, 1, 2, 3, 4, 5] rfl (by decide) ?_
          exact ih hx1 hx2 g22 hx4 g23 h
    skip
    refine V_iload_n (pc := 0) C 1 rfl dX12_cost_0 ?_
    refine V_iload_n (pc := 1) C 2 rfl dX12_cost_1 ?_
    refine V_icmp_ne (pc := 2) C 7 ha1 ha2 dX12_cost_2 (by decide) (fun c2_1 => ?_) (fun c2_1 => ?_)
    · have h := ite_f h c2_1
      refine V_aload_n (pc := 7) C 0 rfl dX12_cost_7 ?_
      refine V_iload_n (pc := 8) C 1 rfl dX12_cost_8 ?_
      obtain ⟨M2, r3, hc4, h⟩ := cal_of h
      refine V_callVI (pc := 9) C (c_X12_isLeafNode l Γ sk hsk fu ha1 hc4) cf_X12_isLeafNode lk_X12_90 ⟨rfl, rfl⟩ ⟨by dsimp only; omega, by dsimp only; omega⟩ e52 rfl rfl rfl (Nat.le_of_ble_eq_true rfl) ⟨Nat.zero_le _, Nat.zero_le _⟩ rfl dX12_cost_9 (fun hr3 => ?_)
      refine V_if_eq (pc := 12) C 17 hr3 dX12_cost_12 (by decide) (fun c12_5 => ?_) (fun c12_5 => ?_)
      · have h := ite_t h c12_5
        refine V_iconst (pc := 17) C dX12_cost_17 ?_
        refine V_istore_n (pc := 18) C (L' := [(0, vr Γ 52), (1, vi a1), (2, vi a2), (3, vi (1 : Int))]) rfl (by decide) dX12_cost_18 ?_
        refine V_aload_n (pc := 19) C 0 rfl dX12_cost_19 ?_
        refine V_iload_n (pc := 20) C 1 rfl dX12_cost_20 ?_
        obtain ⟨M6, r7, hc8, h⟩ := cal_of h
        refine V_callVI (pc := 21) C (c_X12_countOf l Γ sk hsk fu ha1 hc8) cf_X12_countOf lk_X12_79 ⟨rfl, rfl⟩ ⟨by dsimp only; omega, by dsimp only; omega⟩ e52 rfl rfl rfl (Nat.le_of_ble_eq_true rfl) ⟨Nat.zero_le _, Nat.zero_le _⟩ rfl dX12_cost_21 (fun hr7 => ?_)
        refine V_aload_n (pc := 24) C 0 rfl dX12_cost_24 ?_
        refine V_iload_n (pc := 25) C 2 rfl dX12_cost_25 ?_
        obtain ⟨M9, r10, hc11, h⟩ := cal_of h
        refine V_callVI (pc := 26) C (c_X12_countOf l Γ sk hsk fu ha2 hc11) cf_X12_countOf lk_X12_79 ⟨rfl, rfl⟩ ⟨by dsimp only; omega, by dsimp only; omega⟩ e52 rfl rfl rfl (Nat.le_of_ble_eq_true rfl) ⟨Nat.zero_le _, Nat.zero_le _⟩ rfl dX12_cost_26 (fun hr10 => ?_)
        refine V_min (pc := 29) C lk_X12_124 math_min hr7 hr10 ⟨by dsimp only; omega, by dsimp only; omega⟩ ⟨Nat.zero_le _, Nat.zero_le _⟩ (Nat.le_of_ble_eq_true rfl) dX12_cost_29 ?_
        refine V_istore (pc := 32) C (L' := [(0, vr Γ 52), (1, vi a1), (2, vi a2), (3, vi (1 : Int)), (4, vi (imin r7 r10))]) rfl (by decide) dX12_cost_32 ?_
        refine V_iconst (pc := 34) C dX12_cost_34 ?_
        refine V_istore (pc := 35) C (L' := [(0, vr Γ 52), (1, vi a1), (2, vi a2), (3, vi (1 : Int)), (4, vi (imin r7 r10)), (5, vi (0 : Int))]) rfl (by decide) dX12_cost_35 ?_
        refine V_sub (L' := [(0, vr Γ 52), (1, vi a1), (2, vi a2), (3, vi (1 : Int)), (4, vi (imin r7 r10)), (5, vi (0 : Int))]) [0, 1, 2, 3, 4, 5] rfl (by decide) ?_
        exact LP37 fu  ha1 ha2 (by decide) (imin_rng hr7 hr10) (by decide) h
      · have h := ite_f h c12_5
        refine V_iconst (pc := 15) C dX12_cost_15 ?_
        exact V_iret (pc := 16) C hr hlk (by decide) h dX12_cost_16
    · have h := ite_t h c2_1
      refine V_iconst (pc := 5) C dX12_cost_5 ?_
      exact V_iret (pc := 6) C hr hlk (by decide) h dX12_cost_6
set_option maxRecDepth 100000 in
set_option maxHeartbeats 4000000 in
theorem c_X12_largestVersion (l : Launch) (Γ : GG) (sk : List SD) (hsk : ExtM sk) (fu : Nat) {M M' : Mem}  {r : Int}  (h : f_X12_largestVersion fu M  = some (M', r)) : MetI l yX12_largestVersion cX12_largestVersion 3 .int ({ frames := 2, cells := 0, slots := 0, locals := 41 } : Room) Γ sk [vr Γ 52] M M' r := by
  unfold f_X12_largestVersion at h
  refine MetI_of RX12 rfl (by decide) rfl (Nat.le_of_ble_eq_true rfl) rfl ?_
  intro p e s m args below meth c C hr hlk hM
  have e52 := hsk 52 _ (by decide) rfl
  have e53 := hsk 53 _ (by decide) rfl
  have LP9 : ∀ (n : Nat) {x1 : Int} {x2 : Int} {M : Mem}, rng x1 → rng x2 → f_X12_largestVersion_L9 fu n x1 x2 M = some (M', r) → VV p l e ({ frames := 2, cells := 0, slots := 0, locals := 41 } : Room) s m args below meth c (MQ below (PostI Γ sk M' r s.heap.size) args s 0 0 (Fr Γ sk s.heap.size)) 3 Γ sk M 0 0 9 [(0, vr Γ 52), (1, vi x1), (2, vi x2)] [] := by
    intro n
    induction n with
    | zero =>
      intro x1 x2 M hx1 hx2 h
      cases h
    | succ n ih =>
      intro x1 x2 M hx1 hx2 h
      rw [f_X12_largestVersion_L9] at h
      refine V_iload_n (pc := 9) C 2 rfl dX12_largestVersion_9 ?_
      refine V_aload_n (pc := 10) C 0 rfl dX12_largestVersion_10 ?_
      refine V_getR (pc := 11) C e52 rfl inX12 0 (by decide) rfl lf_X12_9 rfl dX12_largestVersion_11 ?_
      refine V_iconst (pc := 14) C dX12_largestVersion_14 ?_
      refine V_rng fun hM1 => ?_
      obtain ⟨g2, h⟩ := grd_of h
      refine V_iald (pc := 15) C e53 g2 (by decide) dX12_largestVersion_15 ?_
      refine V_icmp_ge (pc := 16) C 53 hx2 (hM1 _ _) dX12_largestVersion_16 (by decide) (fun c16_3 => ?_) (fun c16_3 => ?_)
      · have h := ite_t h c16_3
        refine V_iload_n (pc := 53) C 1 rfl dX12_largestVersion_53 ?_
        exact V_iret (pc := 54) C hr hlk hx1 h dX12_largestVersion_54
      · have h := ite_f h c16_3
        refine V_aload_n (pc := 19) C 0 rfl dX12_largestVersion_19 ?_
        refine V_iload_n (pc := 20) C 2 rfl dX12_largestVersion_20 ?_
        obtain ⟨M4, r5, hc6, h⟩ := cal_of h
        refine V_callVI (pc := 21) C (c_X12_isGone l Γ sk hsk fu hx2 hc6) cf_X12_isGone lk_X12_164 ⟨rfl, rfl⟩ ⟨Nat.le_of_ble_eq_true rfl, Nat.le_of_ble_eq_true rfl⟩ e52 rfl rfl rfl (Nat.le_of_ble_eq_true rfl) ⟨Nat.zero_le _, Nat.zero_le _⟩ rfl dX12_largestVersion_21 (fun hr5 => ?_)
        refine V_if_ne (pc := 24) C 47 hr5 dX12_largestVersion_24 (by decide) (fun c24_7 => ?_) (fun c24_7 => ?_)
        · have h := ite_f h c24_7
          refine V_iinc (pc := 47) C (L' := [(0, vr Γ 52), (1, vi x1), (2, vi (x2 + (1 : Int)))]) 2 rfl rfl (by decide) dX12_largestVersion_47 ?_
          refine V_goto (pc := 50) C 9 dX12_largestVersion_50 (by decide) ?_
          obtain ⟨g8, h⟩ := grd_of h
          refine V_sub (L' := [(0, vr Γ 52), (1, vi x1), (2, vi (x2 + (1 : Int)))]) [0, 1, 2] rfl (by decide) ?_
          exact ih hx1 g8 h
        · have h := ite_t h c24_7
          refine V_iload_n (pc := 27) C 1 rfl dX12_largestVersion_27 ?_
          refine V_iconst (pc := 28) C dX12_largestVersion_28 ?_
          refine V_icmp_eq (pc := 29) C 45 hx1 (by decide) dX12_largestVersion_29 (by decide) (fun c29_9 => ?_) (fun c29_9 => ?_)
          · have h := ite_t h c29_9
            refine V_iload_n (pc := 45) C 2 rfl dX12_largestVersion_45 ?_
            refine V_istore_n (pc := 46) C (L' := [(0, vr Γ 52), (1, vi x2), (2, vi x2)]) rfl (by decide) dX12_largestVersion_46 ?_
            refine V_iinc (pc := 47) C (L' := [(0, vr Γ 52), (1, vi x2), (2, vi (x2 + (1 : Int)))]) 2 rfl rfl (by decide) dX12_largestVersion_47 ?_
            refine V_goto (pc := 50) C 9 dX12_largestVersion_50 (by decide) ?_
            obtain ⟨g10, h⟩ := grd_of h
            refine V_sub (L' := [(0, vr Γ 52), (1, vi x2), (2, vi (x2 + (1 : Int)))]) [0, 1, 2] rfl (by decide) ?_
            exact ih hx2 g10 h
          · have h := ite_f h c29_9
            refine V_aload_n (pc := 32) C 0 rfl dX12_largestVersion_32 ?_
            refine V_iload_n (pc := 33) C 2 rfl dX12_largestVersion_33 ?_
            obtain ⟨M11, r12, hc13, h⟩ := cal_of h
            refine V_callVI (pc := 34) C (c_X12_lengthOf l Γ sk hsk fu hx2 hc13) cf_X12_lengthOf lk_X12_121 ⟨rfl, rfl⟩ ⟨Nat.le_of_ble_eq_true rfl, Nat.le_of_ble_eq_true rfl⟩ e52 rfl rfl rfl (Nat.le_of_ble_eq_true rfl) ⟨Nat.zero_le _, Nat.zero_le _⟩ rfl dX12_largestVersion_34 (fun hr12 => ?_)
            refine V_aload_n (pc := 37) C 0 rfl dX12_largestVersion_37 ?_
            refine V_iload_n (pc := 38) C 1 rfl dX12_largestVersion_38 ?_
            obtain ⟨M14, r15, hc16, h⟩ := cal_of h
            refine V_callVI (pc := 39) C (c_X12_lengthOf l Γ sk hsk fu hx1 hc16) cf_X12_lengthOf lk_X12_121 ⟨rfl, rfl⟩ ⟨Nat.le_of_ble_eq_true rfl, Nat.le_of_ble_eq_true rfl⟩ e52 rfl rfl rfl (Nat.le_of_ble_eq_true rfl) ⟨Nat.zero_le _, Nat.zero_le _⟩ rfl dX12_largestVersion_39 (fun hr15 => ?_)
            refine V_icmp_le (pc := 42) C 47 hr12 hr15 dX12_largestVersion_42 (by decide) (fun c42_17 => ?_) (fun c42_17 => ?_)
            · have h := ite_t h c42_17
              refine V_iinc (pc := 47) C (L' := [(0, vr Γ 52), (1, vi x1), (2, vi (x2 + (1 : Int)))]) 2 rfl rfl (by decide) dX12_largestVersion_47 ?_
              refine V_goto (pc := 50) C 9 dX12_largestVersion_50 (by decide) ?_
              obtain ⟨g18, h⟩ := grd_of h
              refine V_sub (L' := [(0, vr Γ 52), (1, vi x1), (2, vi (x2 + (1 : Int)))]) [0, 1, 2] rfl (by decide) ?_
              exact ih hx1 g18 h
            · have h := ite_f h c42_17
              refine V_iload_n (pc := 45) C 2 rfl dX12_largestVersion_45 ?_
              refine V_istore_n (pc := 46) C (L' := [(0, vr Γ 52), (1, vi x2), (2, vi x2)]) rfl (by decide) dX12_largestVersion_46 ?_
              refine V_iinc (pc := 47) C (L' := [(0, vr Γ 52), (1, vi x2), (2, vi (x2 + (1 : Int)))]) 2 rfl rfl (by decide) dX12_largestVersion_47 ?_
              refine V_goto (pc := 50) C 9 dX12_largestVersion_50 (by decide) ?_
              obtain ⟨g19, h⟩ := grd_of h
              refine V_sub (L' := [(0, vr Γ 52), (1, vi x2), (2, vi (x2 + (1 : Int)))]) [0, 1, 2] rfl (by decide) ?_
              exact ih hx2 g19 h
  skip
  refine V_aload_n (pc := 0) C 0 rfl dX12_largestVersion_0 ?_
  refine V_iconst (pc := 1) C dX12_largestVersion_1 ?_
  refine V_putI (pc := 2) C (by decide) e52 rfl inX12 tyX12 tyX12_ok nmX12 6 (by decide) rfl rfl lf_X12_58 rfl (by decide) rfl dX12_largestVersion_2 ?_
  refine V_iconst (pc := 5) C dX12_largestVersion_5 ?_
  refine V_istore_n (pc := 6) C (L' := [(0, vr Γ 52), (1, vi (-1 : Int))]) rfl (by decide) dX12_largestVersion_6 ?_
  refine V_iconst (pc := 7) C dX12_largestVersion_7 ?_
  refine V_istore_n (pc := 8) C (L' := [(0, vr Γ 52), (1, vi (-1 : Int)), (2, vi (0 : Int))]) rfl (by decide) dX12_largestVersion_8 ?_
  refine V_sub (L' := [(0, vr Γ 52), (1, vi (-1 : Int)), (2, vi (0 : Int))]) [0, 1, 2] rfl (by decide) ?_
  exact LP9 fu  (by decide) (by decide) h
set_option maxRecDepth 100000 in
set_option maxHeartbeats 4000000 in
theorem c_X12_isRoot (l : Launch) (Γ : GG) (sk : List SD) (hsk : ExtM sk) (fu : Nat) {M M' : Mem} {a1 : Int} {r : Int} (ha1 : rng a1) (h : f_X12_isRoot fu M a1 = some (M', r)) : MetI l yX12_isRoot cX12_isRoot 3 .boolean ({ frames := 2, cells := 0, slots := 0, locals := 41 } : Room) Γ sk [vr Γ 52, vi a1] M M' r := by
  unfold f_X12_isRoot at h
  refine MetI_of RX12 rfl (by decide) rfl (Nat.le_of_ble_eq_true rfl) rfl ?_
  intro p e s m args below meth c C hr hlk hM
  have e52 := hsk 52 _ (by decide) rfl
  have e53 := hsk 53 _ (by decide) rfl
  have LP2 : ∀ (n : Nat) {x1 : Int} {x2 : Int} {M : Mem}, rng x1 → rng x2 → f_X12_isRoot_L2 fu n x1 x2 M = some (M', r) → VV p l e ({ frames := 2, cells := 0, slots := 0, locals := 41 } : Room) s m args below meth c (MQ below (PostI Γ sk M' r s.heap.size) args s 0 0 (Fr Γ sk s.heap.size)) 3 Γ sk M 0 0 2 [(0, vr Γ 52), (1, vi x1), (2, vi x2)] [] := by
    intro n
    induction n with
    | zero =>
      intro x1 x2 M hx1 hx2 h
      cases h
    | succ n ih =>
      intro x1 x2 M hx1 hx2 h
      rw [f_X12_isRoot_L2] at h
      refine V_iload_n (pc := 2) C 2 rfl dX12_isRoot_2 ?_
      refine V_aload_n (pc := 3) C 0 rfl dX12_isRoot_3 ?_
      refine V_getR (pc := 4) C e52 rfl inX12 0 (by decide) rfl lf_X12_9 rfl dX12_isRoot_4 ?_
      refine V_iconst (pc := 7) C dX12_isRoot_7 ?_
      refine V_rng fun hM1 => ?_
      obtain ⟨g2, h⟩ := grd_of h
      refine V_iald (pc := 8) C e53 g2 (by decide) dX12_isRoot_8 ?_
      refine V_icmp_ge (pc := 9) C 37 hx2 (hM1 _ _) dX12_isRoot_9 (by decide) (fun c9_3 => ?_) (fun c9_3 => ?_)
      · have h := ite_t h c9_3
        refine V_iconst (pc := 37) C dX12_isRoot_37 ?_
        exact V_zret (pc := 38) C hr hlk (by decide) h dX12_isRoot_38
      · have h := ite_f h c9_3
        refine V_aload_n (pc := 12) C 0 rfl dX12_isRoot_12 ?_
        refine V_iload_n (pc := 13) C 2 rfl dX12_isRoot_13 ?_
        obtain ⟨M4, r5, hc6, h⟩ := cal_of h
        refine V_callVI (pc := 14) C (c_X12_isGone l Γ sk hsk fu hx2 hc6) cf_X12_isGone lk_X12_164 ⟨rfl, rfl⟩ ⟨Nat.le_of_ble_eq_true rfl, Nat.le_of_ble_eq_true rfl⟩ e52 rfl rfl rfl (Nat.le_of_ble_eq_true rfl) ⟨Nat.zero_le _, Nat.zero_le _⟩ rfl dX12_isRoot_14 (fun hr5 => ?_)
        refine V_if_ne (pc := 17) C 31 hr5 dX12_isRoot_17 (by decide) (fun c17_7 => ?_) (fun c17_7 => ?_)
        · have h := ite_f h c17_7
          refine V_iinc (pc := 31) C (L' := [(0, vr Γ 52), (1, vi x1), (2, vi (x2 + (1 : Int)))]) 2 rfl rfl (by decide) dX12_isRoot_31 ?_
          refine V_goto (pc := 34) C 2 dX12_isRoot_34 (by decide) ?_
          obtain ⟨g8, h⟩ := grd_of h
          refine V_sub (L' := [(0, vr Γ 52), (1, vi x1), (2, vi (x2 + (1 : Int)))]) [0, 1, 2] rfl (by decide) ?_
          exact ih hx1 g8 h
        · have h := ite_t h c17_7
          refine V_aload_n (pc := 20) C 0 rfl dX12_isRoot_20 ?_
          refine V_iload_n (pc := 21) C 2 rfl dX12_isRoot_21 ?_
          obtain ⟨M9, r10, hc11, h⟩ := cal_of h
          refine V_callVI (pc := 22) C (c_X12_root l Γ sk hsk fu hx2 hc11) cf_X12_root lk_X12_145 ⟨rfl, rfl⟩ ⟨Nat.le_of_ble_eq_true rfl, Nat.le_of_ble_eq_true rfl⟩ e52 rfl rfl rfl (Nat.le_of_ble_eq_true rfl) ⟨Nat.zero_le _, Nat.zero_le _⟩ rfl dX12_isRoot_22 (fun hr10 => ?_)
          refine V_iload_n (pc := 25) C 1 rfl dX12_isRoot_25 ?_
          refine V_icmp_ne (pc := 26) C 31 hr10 hx1 dX12_isRoot_26 (by decide) (fun c26_12 => ?_) (fun c26_12 => ?_)
          · have h := ite_f h c26_12
            refine V_iinc (pc := 31) C (L' := [(0, vr Γ 52), (1, vi x1), (2, vi (x2 + (1 : Int)))]) 2 rfl rfl (by decide) dX12_isRoot_31 ?_
            refine V_goto (pc := 34) C 2 dX12_isRoot_34 (by decide) ?_
            obtain ⟨g13, h⟩ := grd_of h
            refine V_sub (L' := [(0, vr Γ 52), (1, vi x1), (2, vi (x2 + (1 : Int)))]) [0, 1, 2] rfl (by decide) ?_
            exact ih hx1 g13 h
          · have h := ite_t h c26_12
            refine V_iconst (pc := 29) C dX12_isRoot_29 ?_
            exact V_zret (pc := 30) C hr hlk (by decide) h dX12_isRoot_30
  skip
  refine V_iconst (pc := 0) C dX12_isRoot_0 ?_
  refine V_istore_n (pc := 1) C (L' := [(0, vr Γ 52), (1, vi a1), (2, vi (0 : Int))]) rfl (by decide) dX12_isRoot_1 ?_
  refine V_sub (L' := [(0, vr Γ 52), (1, vi a1), (2, vi (0 : Int))]) [0, 1, 2] rfl (by decide) ?_
  exact LP2 fu  ha1 (by decide) h
set_option maxRecDepth 100000 in
set_option maxHeartbeats 4000000 in
theorem c_X12_undo (l : Launch) (Γ : GG) (sk : List SD) (hsk : ExtM sk) (fu : Nat) {M M' : Mem}  {r : Int}  (h : f_X12_undo fu M  = some (M', r)) : MetI l yX12_undo cX12_undo 2 .int ({ frames := 1, cells := 0, slots := 0, locals := 23 } : Room) Γ sk [vr Γ 52] M M' r := by
  unfold f_X12_undo at h
  refine MetI_of RX12 rfl (by decide) rfl (Nat.le_of_ble_eq_true rfl) rfl ?_
  intro p e s m args below meth c C hr hlk hM
  have e52 := hsk 52 _ (by decide) rfl
  have e53 := hsk 53 _ (by decide) rfl
  have e56 := hsk 56 _ (by decide) rfl
  have LP35 : ∀ (n : Nat) {x1 : Int} {M : Mem}, rng x1 → f_X12_undo_L35 fu n x1 M = some (M', r) → VV p l e ({ frames := 1, cells := 0, slots := 0, locals := 23 } : Room) s m args below meth c (MQ below (PostI Γ sk M' r s.heap.size) args s 0 0 (Fr Γ sk s.heap.size)) 2 Γ sk M 0 0 35 [(0, vr Γ 52), (1, vi x1)] [] := by
    intro n
    induction n with
    | zero =>
      intro x1 M hx1 h
      cases h
    | succ n ih =>
      intro x1 M hx1 h
      rw [f_X12_undo_L35] at h
      refine V_iload_n (pc := 35) C 1 rfl dX12_undo_35 ?_
      refine V_sipush (pc := 36) C dX12_undo_36 rfl ?_
      refine V_icmp_ge (pc := 39) C 69 hx1 (by decide) dX12_undo_39 (by decide) (fun c39_8 => ?_) (fun c39_8 => ?_)
      · have h := ite_t h c39_8
        refine V_aload_n (pc := 69) C 0 rfl dX12_undo_69 ?_
        refine V_rng fun hM9 => ?_
        refine V_getI (pc := 70) C e52 rfl inX12 4 (by decide) rfl lf_X12_61 rfl dX12_undo_70 ?_
        exact V_iret (pc := 73) C hr hlk (hM9 _ _) h dX12_undo_73
      · have h := ite_f h c39_8
        refine V_aload_n (pc := 42) C 0 rfl dX12_undo_42 ?_
        refine V_getR (pc := 43) C e52 rfl inX12 0 (by decide) rfl lf_X12_9 rfl dX12_undo_43 ?_
        refine V_iload_n (pc := 46) C 1 rfl dX12_undo_46 ?_
        refine V_aload_n (pc := 47) C 0 rfl dX12_undo_47 ?_
        refine V_getR (pc := 48) C e52 rfl inX12 3 (by decide) rfl lf_X12_20 rfl dX12_undo_48 ?_
        refine V_sipush (pc := 51) C dX12_undo_51 rfl ?_
        refine V_aload_n (pc := 54) C 0 rfl dX12_undo_54 ?_
        refine V_rng fun hM10 => ?_
        refine V_getI (pc := 55) C e52 rfl inX12 4 (by decide) rfl lf_X12_61 rfl dX12_undo_55 ?_
        refine V_imul (pc := 58) C dX12_undo_58 ?_
        refine V_iload_n (pc := 59) C 1 rfl dX12_undo_59 ?_
        refine V_iadd (pc := 60) C dX12_undo_60 ?_
        obtain ⟨g11, h⟩ := grd_of h
        obtain ⟨g12, h⟩ := grd_of h
        refine V_iald (pc := 61) C e56 g12 g11 dX12_undo_61 ?_
        obtain ⟨g13, h⟩ := grd_of h
        refine V_iast (pc := 62) C (by decide) e53 g13 hx1 (hM10 _ _) dX12_undo_62 ?_
        refine V_iinc (pc := 63) C (L' := [(0, vr Γ 52), (1, vi (x1 + (1 : Int)))]) 1 rfl rfl (by decide) dX12_undo_63 ?_
        refine V_goto (pc := 66) C 35 dX12_undo_66 (by decide) ?_
        obtain ⟨g14, h⟩ := grd_of h
        refine V_sub (L' := [(0, vr Γ 52), (1, vi (x1 + (1 : Int)))]) [0, 1] rfl (by decide) ?_
        exact ih g14 h
  have JP13 : ∀ {y1 : Int} {M : Mem}, rng y1 → f_X12_undo_J13 fu y1 M = some (M', r) → VV p l e ({ frames := 1, cells := 0, slots := 0, locals := 23 } : Room) s m args below meth c (MQ below (PostI Γ sk M' r s.heap.size) args s 0 0 (Fr Γ sk s.heap.size)) 2 Γ sk M 0 0 13 [(0, vr Γ 52)] [vi y1, vr Γ 52] := by
    intro y1 M hy1 h
    unfold f_X12_undo_J13 at h
    refine V_iconst (pc := 13) C dX12_undo_13 ?_
    refine V_iconst (pc := 14) C dX12_undo_14 ?_
    obtain ⟨M2, r3, hc4, h⟩ := cal_of h
    refine V_callVI (pc := 15) C (c_X12_check l Γ sk hsk fu hy1 (by decide) (by decide) hc4) cf_X12_check lk_X12_330 ⟨rfl, rfl⟩ ⟨Nat.le_of_ble_eq_true rfl, Nat.le_of_ble_eq_true rfl⟩ e52 rfl rfl rfl (Nat.le_of_ble_eq_true rfl) ⟨Nat.zero_le _, Nat.zero_le _⟩ rfl dX12_undo_15 (fun hr3 => ?_)
    refine V_if_ne (pc := 18) C 23 hr3 dX12_undo_18 (by decide) (fun c18_5 => ?_) (fun c18_5 => ?_)
    · have h := ite_f h c18_5
      refine V_aload_n (pc := 23) C 0 rfl dX12_undo_23 ?_
      refine V_dup (pc := 24) C rfl dX12_undo_24 ?_
      refine V_rng fun hM6 => ?_
      refine V_getI (pc := 25) C e52 rfl inX12 4 (by decide) rfl lf_X12_61 rfl dX12_undo_25 ?_
      refine V_iconst (pc := 28) C dX12_undo_28 ?_
      refine V_isub (pc := 29) C dX12_undo_29 ?_
      obtain ⟨g7, h⟩ := grd_of h
      refine V_putI (pc := 30) C (by decide) e52 rfl inX12 tyX12 tyX12_ok nmX12 4 (by decide) rfl rfl lf_X12_61 rfl g7 rfl dX12_undo_30 ?_
      refine V_iconst (pc := 33) C dX12_undo_33 ?_
      refine V_istore_n (pc := 34) C (L' := [(0, vr Γ 52), (1, vi (0 : Int))]) rfl (by decide) dX12_undo_34 ?_
      refine V_sub (L' := [(0, vr Γ 52), (1, vi (0 : Int))]) [0, 1] rfl (by decide) ?_
      exact LP35 fu  (by decide) h
    · have h := ite_t h c18_5
      refine V_iconst (pc := 21) C dX12_undo_21 ?_
      exact V_iret (pc := 22) C hr hlk (by decide) h dX12_undo_22
  skip
  refine V_aload_n (pc := 0) C 0 rfl dX12_undo_0 ?_
  refine V_aload_n (pc := 1) C 0 rfl dX12_undo_1 ?_
  refine V_getI (pc := 2) C e52 rfl inX12 4 (by decide) rfl lf_X12_61 rfl dX12_undo_2 ?_
  refine V_if_le (pc := 5) C 12 (hM _ _) dX12_undo_5 (by decide) (fun c5_1 => ?_) (fun c5_1 => ?_)
  · have h := ite_t h c5_1
    refine V_iconst (pc := 12) C dX12_undo_12 ?_
    refine V_sub (L' := [(0, vr Γ 52)]) [0] rfl (by decide) ?_
    exact JP13 (by decide) h
  · have h := ite_f h c5_1
    refine V_iconst (pc := 8) C dX12_undo_8 ?_
    refine V_goto (pc := 9) C 13 dX12_undo_9 (by decide) ?_
    refine V_sub (L' := [(0, vr Γ 52)]) [0] rfl (by decide) ?_
    exact JP13 (by decide) h
set_option maxRecDepth 100000 in
set_option maxHeartbeats 4000000 in
theorem c_X12_write (l : Launch) (Γ : GG) (sk : List SD) (hsk : ExtM sk) (fu : Nat) {M M' : Mem} {a1 : Int} {r : Int} (ha1 : rng a1) (h : f_X12_write fu M a1 = some (M', r)) : MetV l yX12_write cX12_write 2 ({ frames := 0, cells := 0, slots := 0, locals := 0 } : Room) Γ sk [vr Γ 52, vi a1] M M' := by
  unfold f_X12_write at h
  refine MetV_of RX12 rfl (by decide) rfl (Nat.le_of_ble_eq_true rfl) rfl ?_
  intro p e s m args below meth c C hr hlk hM
  have e52 := hsk 52 _ (by decide) rfl
  have e64 := hsk 64 _ (by decide) rfl
  refine V_aload_n (pc := 0) C 0 rfl dX12_write_0 ?_
  refine V_getR (pc := 1) C e52 rfl inX12 26 (by decide) rfl lf_X12_49 rfl dX12_write_1 ?_
  refine V_aload_n (pc := 4) C 0 rfl dX12_write_4 ?_
  refine V_getI (pc := 5) C e52 rfl inX12 27 (by decide) rfl lf_X12_402 rfl dX12_write_5 ?_
  refine V_iload_n (pc := 8) C 1 rfl dX12_write_8 ?_
  refine V_i2b (pc := 9) C ha1 dX12_write_9 ?_
  obtain ⟨g1, h⟩ := grd_of h
  obtain ⟨g2, h⟩ := grd_of h
  refine V_bast (pc := 10) C (by decide) e64 g1 (hM _ _) g2 dX12_write_10 ?_
  refine V_aload_n (pc := 11) C 0 rfl dX12_write_11 ?_
  refine V_dup (pc := 12) C rfl dX12_write_12 ?_
  refine V_rng fun hM3 => ?_
  refine V_getI (pc := 13) C e52 rfl inX12 27 (by decide) rfl lf_X12_402 rfl dX12_write_13 ?_
  refine V_iconst (pc := 16) C dX12_write_16 ?_
  refine V_iadd (pc := 17) C dX12_write_17 ?_
  obtain ⟨g4, h⟩ := grd_of h
  refine V_putI (pc := 18) C (by decide) e52 rfl inX12 tyX12 tyX12_ok nmX12 27 (by decide) rfl rfl lf_X12_402 rfl g4 rfl dX12_write_18 ?_
  exact V_vret (pc := 21) C hr hlk h dX12_write_21
set_option maxRecDepth 100000 in
set_option maxHeartbeats 4000000 in
theorem c_X12_writeNumber (l : Launch) (Γ : GG) (sk : List SD) (hsk : ExtM sk) (fu : Nat) {M M' : Mem} {a1 : Int} {r : Int} (ha1 : rng a1) (h : f_X12_writeNumber fu M a1 = some (M', r)) : MetV l yX12_writeNumber cX12_writeNumber 3 ({ frames := 1, cells := 0, slots := 0, locals := 30 } : Room) Γ sk [vr Γ 52, vi a1] M M' := by
  unfold f_X12_writeNumber at h
  refine MetV_of RX12 rfl (by decide) rfl (Nat.le_of_ble_eq_true rfl) rfl ?_
  intro p e s m args below meth c C hr hlk hM
  have e52 := hsk 52 _ (by decide) rfl
  have JP52 : ∀ {x2 : Int} {M : Mem}, rng x2 → f_X12_writeNumber_J52 fu x2 M = some (M', r) → VV p l e ({ frames := 1, cells := 0, slots := 0, locals := 30 } : Room) s m args below meth c (MQ below (PostV Γ sk M' s.heap.size) args s 0 0 (Fr Γ sk s.heap.size)) 3 Γ sk M 0 0 52 [(0, vr Γ 52), (2, vi x2)] [] := by
    intro x2 M hx2 h
    unfold f_X12_writeNumber_J52 at h
    refine V_aload_n (pc := 52) C 0 rfl dX12_writeNumber_52 ?_
    refine V_bipush (pc := 53) C dX12_writeNumber_53 rfl ?_
    refine V_iload_n (pc := 55) C 1 rfl dX12_writeNumber_55 ?_
    refine V_bipush (pc := 56) C dX12_writeNumber_56 rfl ?_
    obtain ⟨g4, h⟩ := grd_of h
    refine V_irem (pc := 58) C g4 dX12_writeNumber_58 ?_
    refine V_iadd (pc := 59) C dX12_writeNumber_59 ?_
    obtain ⟨g5, h⟩ := grd_of h
    obtain ⟨M6, r7, hc8, h⟩ := cal_of h
    refine V_callVV (pc := 60) C (c_X12_write l Γ sk hsk fu g5 hc8) cf_X12_write lk_X12_408 ⟨rfl, rfl⟩ ⟨Nat.le_of_ble_eq_true rfl, Nat.le_of_ble_eq_true rfl⟩ e52 rfl rfl rfl (Nat.le_of_ble_eq_true rfl) ⟨Nat.zero_le _, Nat.zero_le _⟩ rfl dX12_writeNumber_60 ?_
    exact V_vret (pc := 63) C hr hlk h dX12_writeNumber_63
  have JP32 : ∀ {x2 : Int} {M : Mem}, rng x2 → f_X12_writeNumber_J32 fu x2 M = some (M', r) → VV p l e ({ frames := 1, cells := 0, slots := 0, locals := 30 } : Room) s m args below meth c (MQ below (PostV Γ sk M' s.heap.size) args s 0 0 (Fr Γ sk s.heap.size)) 3 Γ sk M 0 0 32 [(0, vr Γ 52), (2, vi x2)] [] := by
    intro x2 M hx2 h
    unfold f_X12_writeNumber_J32 at h
    refine V_iload_n (pc := 32) C 1 rfl dX12_writeNumber_32 ?_
    refine V_bipush (pc := 33) C dX12_writeNumber_33 rfl ?_
    refine V_icmp_le (pc := 35) C 52 hx2 (by decide) dX12_writeNumber_35 (by decide) (fun c35_3 => ?_) (fun c35_3 => ?_)
    · have h := ite_t h c35_3
      refine V_sub (L' := [(0, vr Γ 52), (2, vi x2)]) [0, 1] rfl (by decide) ?_
      exact JP52 hx2 h
    · have h := ite_f h c35_3
      refine V_aload_n (pc := 38) C 0 rfl dX12_writeNumber_38 ?_
      refine V_bipush (pc := 39) C dX12_writeNumber_39 rfl ?_
      refine V_iload_n (pc := 41) C 1 rfl dX12_writeNumber_41 ?_
      refine V_bipush (pc := 42) C dX12_writeNumber_42 rfl ?_
      obtain ⟨g9, h⟩ := grd_of h
      refine V_idiv (pc := 44) C g9 dX12_writeNumber_44 ?_
      refine V_bipush (pc := 45) C dX12_writeNumber_45 rfl ?_
      obtain ⟨g10, h⟩ := grd_of h
      refine V_irem (pc := 47) C g10 dX12_writeNumber_47 ?_
      refine V_iadd (pc := 48) C dX12_writeNumber_48 ?_
      obtain ⟨g11, h⟩ := grd_of h
      obtain ⟨M12, r13, hc14, h⟩ := cal_of h
      refine V_callVV (pc := 49) C (c_X12_write l Γ sk hsk fu g11 hc14) cf_X12_write lk_X12_408 ⟨rfl, rfl⟩ ⟨Nat.le_of_ble_eq_true rfl, Nat.le_of_ble_eq_true rfl⟩ e52 rfl rfl rfl (Nat.le_of_ble_eq_true rfl) ⟨Nat.zero_le _, Nat.zero_le _⟩ rfl dX12_writeNumber_49 ?_
      refine V_sub (L' := [(0, vr Γ 52), (2, vi x2)]) [0, 1] rfl (by decide) ?_
      exact JP52 hx2 h
  have JP15 : ∀ {x2 : Int} {M : Mem}, rng x2 → f_X12_writeNumber_J15 fu x2 M = some (M', r) → VV p l e ({ frames := 1, cells := 0, slots := 0, locals := 30 } : Room) s m args below meth c (MQ below (PostV Γ sk M' s.heap.size) args s 0 0 (Fr Γ sk s.heap.size)) 3 Γ sk M 0 0 15 [(0, vr Γ 52), (2, vi x2)] [] := by
    intro x2 M hx2 h
    unfold f_X12_writeNumber_J15 at h
    refine V_iload_n (pc := 15) C 1 rfl dX12_writeNumber_15 ?_
    refine V_bipush (pc := 16) C dX12_writeNumber_16 rfl ?_
    refine V_icmp_le (pc := 18) C 32 hx2 (by decide) dX12_writeNumber_18 (by decide) (fun c18_2 => ?_) (fun c18_2 => ?_)
    · have h := ite_t h c18_2
      refine V_sub (L' := [(0, vr Γ 52), (2, vi x2)]) [0, 1] rfl (by decide) ?_
      exact JP32 hx2 h
    · have h := ite_f h c18_2
      refine V_aload_n (pc := 21) C 0 rfl dX12_writeNumber_21 ?_
      refine V_bipush (pc := 22) C dX12_writeNumber_22 rfl ?_
      refine V_iload_n (pc := 24) C 1 rfl dX12_writeNumber_24 ?_
      refine V_bipush (pc := 25) C dX12_writeNumber_25 rfl ?_
      obtain ⟨g15, h⟩ := grd_of h
      refine V_idiv (pc := 27) C g15 dX12_writeNumber_27 ?_
      refine V_iadd (pc := 28) C dX12_writeNumber_28 ?_
      obtain ⟨g16, h⟩ := grd_of h
      obtain ⟨M17, r18, hc19, h⟩ := cal_of h
      refine V_callVV (pc := 29) C (c_X12_write l Γ sk hsk fu g16 hc19) cf_X12_write lk_X12_408 ⟨rfl, rfl⟩ ⟨Nat.le_of_ble_eq_true rfl, Nat.le_of_ble_eq_true rfl⟩ e52 rfl rfl rfl (Nat.le_of_ble_eq_true rfl) ⟨Nat.zero_le _, Nat.zero_le _⟩ rfl dX12_writeNumber_29 ?_
      refine V_sub (L' := [(0, vr Γ 52), (2, vi x2)]) [0, 1] rfl (by decide) ?_
      exact JP32 hx2 h
  skip
  refine V_iload_n (pc := 0) C 1 rfl dX12_writeNumber_0 ?_
  refine V_abs (pc := 1) C lk_X12_405 math_abs ha1 ⟨Nat.le_of_ble_eq_true rfl, Nat.le_of_ble_eq_true rfl⟩ ⟨Nat.zero_le _, Nat.zero_le _⟩ (Nat.le_of_ble_eq_true rfl) dX12_writeNumber_1 ?_
  refine V_istore_n (pc := 4) C (L' := [(0, vr Γ 52), (1, vi a1), (2, vi (iabs a1))]) rfl (by decide) dX12_writeNumber_4 ?_
  refine V_iload_n (pc := 5) C 1 rfl dX12_writeNumber_5 ?_
  refine V_if_ge (pc := 6) C 15 ha1 dX12_writeNumber_6 (by decide) (fun c6_1 => ?_) (fun c6_1 => ?_)
  · have h := ite_t h c6_1
    obtain ⟨g20, h⟩ := grd_of h
    refine V_sub (L' := [(0, vr Γ 52), (2, vi (iabs a1))]) [0, 2] rfl (by decide) ?_
    exact JP15 g20 h
  · have h := ite_f h c6_1
    refine V_aload_n (pc := 9) C 0 rfl dX12_writeNumber_9 ?_
    refine V_bipush (pc := 10) C dX12_writeNumber_10 rfl ?_
    obtain ⟨M21, r22, hc23, h⟩ := cal_of h
    refine V_callVV (pc := 12) C (c_X12_write l Γ sk hsk fu (by decide) hc23) cf_X12_write lk_X12_408 ⟨rfl, rfl⟩ ⟨Nat.le_of_ble_eq_true rfl, Nat.le_of_ble_eq_true rfl⟩ e52 rfl rfl rfl (Nat.le_of_ble_eq_true rfl) ⟨Nat.zero_le _, Nat.zero_le _⟩ rfl dX12_writeNumber_12 ?_
    obtain ⟨g24, h⟩ := grd_of h
    refine V_sub (L' := [(0, vr Γ 52), (2, vi (iabs a1))]) [0, 2] rfl (by decide) ?_
    exact JP15 g24 h
set_option maxRecDepth 100000 in
set_option maxHeartbeats 4000000 in
theorem c_X12_saveState (l : Launch) (Γ : GG) (sk : List SD) (hsk : ExtM sk) (fu : Nat) {M M' : Mem}  {r : Int}  (h : f_X12_saveState fu M  = some (M', r)) : MetI l yX12_saveState cX12_saveState 1 .int ({ frames := 1, cells := 0, slots := 0, locals := 22 } : Room) Γ sk [vr Γ 52] M M' r := by
  unfold f_X12_saveState at h
  refine MetI_of RX12 rfl (by decide) rfl (Nat.le_of_ble_eq_true rfl) rfl ?_
  intro p e s m args below meth c C hr hlk hM
  have e52 := hsk 52 _ (by decide) rfl
  have e53 := hsk 53 _ (by decide) rfl
  have e55 := hsk 55 _ (by decide) rfl
  refine V_aload_n (pc := 0) C 0 rfl dX12_saveState_0 ?_
  refine V_iconst (pc := 1) C dX12_saveState_1 ?_
  refine V_putI (pc := 2) C (by decide) e52 rfl inX12 tyX12 tyX12_ok nmX12 6 (by decide) rfl rfl lf_X12_58 rfl (by decide) rfl dX12_saveState_2 ?_
  refine V_aload_n (pc := 5) C 0 rfl dX12_saveState_5 ?_
  refine V_aload_n (pc := 6) C 0 rfl dX12_saveState_6 ?_
  refine V_getR (pc := 7) C e52 rfl inX12 2 (by decide) rfl lf_X12_16 rfl dX12_saveState_7 ?_
  obtain ⟨M1, r2, hc3, h⟩ := cal_of h
  refine V_callVV (pc := 10) C (c_X12_copyTo l Γ sk hsk fu e55 (by decide) (by decide) hc3) cf_X12_copyTo lk_X12_414 ⟨rfl, rfl⟩ ⟨Nat.le_of_ble_eq_true rfl, Nat.le_of_ble_eq_true rfl⟩ e52 rfl rfl rfl (Nat.le_of_ble_eq_true rfl) ⟨Nat.zero_le _, Nat.zero_le _⟩ rfl dX12_saveState_10 ?_
  refine V_aload_n (pc := 13) C 0 rfl dX12_saveState_13 ?_
  refine V_iconst (pc := 14) C dX12_saveState_14 ?_
  obtain ⟨g4, h⟩ := grd_of h
  refine V_putZ (pc := 15) C (by decide) e52 rfl inX12 tyX12 tyX12_ok nmX12 5 (by decide) rfl rfl lf_X12_262 rfl g4 rfl dX12_saveState_15 ?_
  refine V_aload_n (pc := 18) C 0 rfl dX12_saveState_18 ?_
  refine V_getR (pc := 19) C e52 rfl inX12 0 (by decide) rfl lf_X12_9 rfl dX12_saveState_19 ?_
  refine V_iconst (pc := 22) C dX12_saveState_22 ?_
  refine V_rng fun hM5 => ?_
  obtain ⟨g6, h⟩ := grd_of h
  refine V_iald (pc := 23) C e53 g6 (by decide) dX12_saveState_23 ?_
  exact V_iret (pc := 24) C hr hlk (hM5 _ _) h dX12_saveState_24
set_option maxRecDepth 100000 in
set_option maxHeartbeats 4000000 in
theorem c_X12_copyFrom (l : Launch) (Γ : GG) (sk : List SD) (hsk : ExtM sk) (fu : Nat) {M M' : Mem} {k1 : Nat} {n1 : Nat} {r : Int} (hk1 : sk[k1]? = some (.inl (0, n1))) (hn1 : n1 ≤ 2147483647) (h : f_X12_copyFrom fu M k1 n1 = some (M', r)) : MetV l yX12_copyFrom cX12_copyFrom 3 ({ frames := 0, cells := 0, slots := 0, locals := 0 } : Room) Γ sk [vr Γ 52, vr Γ k1] M M' := by
  unfold f_X12_copyFrom at h
  refine MetV_of RX12 rfl (by decide) rfl (Nat.le_of_ble_eq_true rfl) rfl ?_
  intro p e s m args below meth c C hr hlk hM
  have e52 := hsk 52 _ (by decide) rfl
  have e53 := hsk 53 _ (by decide) rfl
  have LP2 : ∀ (n : Nat) {x2 : Int} {M : Mem}, rng x2 → f_X12_copyFrom_L2 fu k1 n1 n x2 M = some (M', r) → VV p l e ({ frames := 0, cells := 0, slots := 0, locals := 0 } : Room) s m args below meth c (MQ below (PostV Γ sk M' s.heap.size) args s 0 0 (Fr Γ sk s.heap.size)) 3 Γ sk M 0 0 2 [(0, vr Γ 52), (1, vr Γ k1), (2, vi x2)] [] := by
    intro n
    induction n with
    | zero =>
      intro x2 M hx2 h
      cases h
    | succ n ih =>
      intro x2 M hx2 h
      rw [f_X12_copyFrom_L2] at h
      refine V_iload_n (pc := 2) C 2 rfl dX12_copyFrom_2 ?_
      refine V_sipush (pc := 3) C dX12_copyFrom_3 rfl ?_
      refine V_icmp_ge (pc := 6) C 24 hx2 (by decide) dX12_copyFrom_6 (by decide) (fun c6_1 => ?_) (fun c6_1 => ?_)
      · have h := ite_t h c6_1
        exact V_vret (pc := 24) C hr hlk h dX12_copyFrom_24
      · have h := ite_f h c6_1
        refine V_aload_n (pc := 9) C 0 rfl dX12_copyFrom_9 ?_
        refine V_getR (pc := 10) C e52 rfl inX12 0 (by decide) rfl lf_X12_9 rfl dX12_copyFrom_10 ?_
        refine V_iload_n (pc := 13) C 2 rfl dX12_copyFrom_13 ?_
        refine V_aload_n (pc := 14) C 1 rfl dX12_copyFrom_14 ?_
        refine V_iload_n (pc := 15) C 2 rfl dX12_copyFrom_15 ?_
        refine V_rng fun hM2 => ?_
        obtain ⟨g3, h⟩ := grd_of h
        refine V_iald (pc := 16) C hk1 g3 hx2 dX12_copyFrom_16 ?_
        obtain ⟨g4, h⟩ := grd_of h
        refine V_iast (pc := 17) C (by decide) e53 g4 hx2 (hM2 _ _) dX12_copyFrom_17 ?_
        refine V_iinc (pc := 18) C (L' := [(0, vr Γ 52), (1, vr Γ k1), (2, vi (x2 + (1 : Int)))]) 2 rfl rfl (by decide) dX12_copyFrom_18 ?_
        refine V_goto (pc := 21) C 2 dX12_copyFrom_21 (by decide) ?_
        obtain ⟨g5, h⟩ := grd_of h
        refine V_sub (L' := [(0, vr Γ 52), (1, vr Γ k1), (2, vi (x2 + (1 : Int)))]) [0, 1, 2] rfl (by decide) ?_
        exact ih g5 h
  skip
  refine V_iconst (pc := 0) C dX12_copyFrom_0 ?_
  refine V_istore_n (pc := 1) C (L' := [(0, vr Γ 52), (1, vr Γ k1), (2, vi (0 : Int))]) rfl (by decide) dX12_copyFrom_1 ?_
  refine V_sub (L' := [(0, vr Γ 52), (1, vr Γ k1), (2, vi (0 : Int))]) [0, 1, 2] rfl (by decide) ?_
  exact LP2 fu  (by decide) h
set_option maxRecDepth 100000 in
set_option maxHeartbeats 4000000 in
theorem c_X12_restoreState (l : Launch) (Γ : GG) (sk : List SD) (hsk : ExtM sk) (fu : Nat) {M M' : Mem}  {r : Int}  (h : f_X12_restoreState fu M  = some (M', r)) : MetI l yX12_restoreState cX12_restoreState 1 .int ({ frames := 1, cells := 0, slots := 0, locals := 23 } : Room) Γ sk [vr Γ 52] M M' r := by
  unfold f_X12_restoreState at h
  refine MetI_of RX12 rfl (by decide) rfl (Nat.le_of_ble_eq_true rfl) rfl ?_
  intro p e s m args below meth c C hr hlk hM
  have e52 := hsk 52 _ (by decide) rfl
  have e53 := hsk 53 _ (by decide) rfl
  have e55 := hsk 55 _ (by decide) rfl
  refine V_aload_n (pc := 0) C 0 rfl dX12_restoreState_0 ?_
  refine V_aload_n (pc := 1) C 0 rfl dX12_restoreState_1 ?_
  refine V_getI (pc := 2) C e52 rfl inX12 5 (by decide) rfl lf_X12_262 rfl dX12_restoreState_2 ?_
  refine V_iconst (pc := 5) C dX12_restoreState_5 ?_
  refine V_iconst (pc := 6) C dX12_restoreState_6 ?_
  obtain ⟨M1, r2, hc3, h⟩ := cal_of h
  refine V_callVI (pc := 7) C (c_X12_check l Γ sk hsk fu (hM _ _) (by decide) (by decide) hc3) cf_X12_check lk_X12_330 ⟨rfl, rfl⟩ ⟨Nat.le_of_ble_eq_true rfl, Nat.le_of_ble_eq_true rfl⟩ e52 rfl rfl rfl (Nat.le_of_ble_eq_true rfl) ⟨Nat.zero_le _, Nat.zero_le _⟩ rfl dX12_restoreState_7 (fun hr2 => ?_)
  refine V_if_ne (pc := 10) C 15 hr2 dX12_restoreState_10 (by decide) (fun c10_4 => ?_) (fun c10_4 => ?_)
  · have h := ite_f h c10_4
    refine V_aload_n (pc := 15) C 0 rfl dX12_restoreState_15 ?_
    refine V_aload_n (pc := 16) C 0 rfl dX12_restoreState_16 ?_
    refine V_getR (pc := 17) C e52 rfl inX12 2 (by decide) rfl lf_X12_16 rfl dX12_restoreState_17 ?_
    obtain ⟨M5, r6, hc7, h⟩ := cal_of h
    refine V_callVV (pc := 20) C (c_X12_copyFrom l Γ sk hsk fu e55 (by decide) hc7) cf_X12_copyFrom lk_X12_418 ⟨rfl, rfl⟩ ⟨Nat.le_of_ble_eq_true rfl, Nat.le_of_ble_eq_true rfl⟩ e52 rfl rfl rfl (Nat.le_of_ble_eq_true rfl) ⟨Nat.zero_le _, Nat.zero_le _⟩ rfl dX12_restoreState_20 ?_
    refine V_aload_n (pc := 23) C 0 rfl dX12_restoreState_23 ?_
    refine V_iconst (pc := 24) C dX12_restoreState_24 ?_
    refine V_putI (pc := 25) C (by decide) e52 rfl inX12 tyX12 tyX12_ok nmX12 4 (by decide) rfl rfl lf_X12_61 rfl (by decide) rfl dX12_restoreState_25 ?_
    refine V_aload_n (pc := 28) C 0 rfl dX12_restoreState_28 ?_
    refine V_getR (pc := 29) C e52 rfl inX12 0 (by decide) rfl lf_X12_9 rfl dX12_restoreState_29 ?_
    refine V_iconst (pc := 32) C dX12_restoreState_32 ?_
    refine V_rng fun hM8 => ?_
    obtain ⟨g9, h⟩ := grd_of h
    refine V_iald (pc := 33) C e53 g9 (by decide) dX12_restoreState_33 ?_
    exact V_iret (pc := 34) C hr hlk (hM8 _ _) h dX12_restoreState_34
  · have h := ite_t h c10_4
    refine V_iconst (pc := 13) C dX12_restoreState_13 ?_
    exact V_iret (pc := 14) C hr hlk (by decide) h dX12_restoreState_14
