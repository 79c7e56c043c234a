set_option maxRecDepth 100000 in
set_option maxHeartbeats 4000000 in
theorem c_X12_hasChild (l : Launch) (Γ : GG) (sk : List SD) (hsk : ExtM sk) (fu : Nat) {M M' : Mem} {a1 : Int} {a2 : Int} {r : Int} (ha1 : rng a1) (ha2 : rng a2) (h : f_X12_hasChild fu M a1 a2 = some (M', r)) : MetI l yX12_hasChild cX12_hasChild 4 .boolean ({ frames := 2, cells := 0, slots := 0, locals := 46 } : Room) Γ sk [vr Γ 52, vi a1, vi a2] M M' r := by
  unfold f_X12_hasChild at h
  refine MetI_of RX12 rfl (by decide) rfl (Nat.le_of_ble_eq_true rfl) rfl ?_
  intro p e s m args below meth c C hr hlk hM
  have e52 := hsk 52 _ (by decide) rfl
  have LP20 : ∀ (n : Nat) {x1 : Int} {x2 : Int} {x3 : Int} {M : Mem}, rng x1 → rng x2 → rng x3 → f_X12_hasChild_L20 fu n x1 x2 x3 M = some (M', r) → VV p l e ({ frames := 2, cells := 0, slots := 0, locals := 46 } : Room) s m args below meth c (MQ below (PostI Γ sk M' r s.heap.size) args s 0 0 (Fr Γ sk s.heap.size)) 4 Γ sk M 0 0 20 [(0, vr Γ 52), (1, vi x1), (2, vi x2), (3, vi x3)] [] := by
    intro n
    induction n with
    | zero =>
      intro x1 x2 x3 M hx1 hx2 hx3 h
      cases h
    | succ n ih =>
      intro x1 x2 x3 M hx1 hx2 hx3 h
      rw [f_X12_hasChild_L20] at h
      refine V_iload_n (pc := 20) C 3 rfl dX12_hasChild_20 ?_
      refine V_aload_n (pc := 21) C 0 rfl dX12_hasChild_21 ?_
      refine V_iload_n (pc := 22) C 1 rfl dX12_hasChild_22 ?_
      obtain ⟨M9, r10, hc11, h⟩ := cal_of h
      refine V_callVI (pc := 23) C (c_X12_countOf l Γ sk hsk fu hx1 hc11) cf_X12_countOf lk_X12_79 ⟨rfl, rfl⟩ ⟨Nat.le_of_ble_eq_true rfl, Nat.le_of_ble_eq_true rfl⟩ e52 rfl rfl rfl (Nat.le_of_ble_eq_true rfl) ⟨Nat.zero_le _, Nat.zero_le _⟩ rfl dX12_hasChild_23 (fun hr10 => ?_)
      refine V_icmp_ge (pc := 26) C 47 hx3 hr10 dX12_hasChild_26 (by decide) (fun c26_12 => ?_) (fun c26_12 => ?_)
      · have h := ite_t h c26_12
        refine V_iconst (pc := 47) C dX12_hasChild_47 ?_
        exact V_zret (pc := 48) C hr hlk (by decide) h dX12_hasChild_48
      · have h := ite_f h c26_12
        refine V_aload_n (pc := 29) C 0 rfl dX12_hasChild_29 ?_
        refine V_iload_n (pc := 30) C 1 rfl dX12_hasChild_30 ?_
        refine V_iload_n (pc := 31) C 3 rfl dX12_hasChild_31 ?_
        obtain ⟨M13, r14, hc15, h⟩ := cal_of h
        refine V_callVI (pc := 32) C (c_X12_entry l Γ sk hsk fu hx1 hx3 hc15) cf_X12_entry lk_X12_71 ⟨rfl, rfl⟩ ⟨Nat.le_of_ble_eq_true rfl, Nat.le_of_ble_eq_true rfl⟩ e52 rfl rfl rfl (Nat.le_of_ble_eq_true rfl) ⟨Nat.zero_le _, Nat.zero_le _⟩ rfl dX12_hasChild_32 (fun hr14 => ?_)
        refine V_iload_n (pc := 35) C 2 rfl dX12_hasChild_35 ?_
        refine V_icmp_ne (pc := 36) C 41 hr14 hx2 dX12_hasChild_36 (by decide) (fun c36_16 => ?_) (fun c36_16 => ?_)
        · have h := ite_f h c36_16
          refine V_iinc (pc := 41) C (L' := [(0, vr Γ 52), (1, vi x1), (2, vi x2), (3, vi (x3 + (1 : Int)))]) 3 rfl rfl (by decide) dX12_hasChild_41 ?_
          refine V_goto (pc := 44) C 20 dX12_hasChild_44 (by decide) ?_
          obtain ⟨g17, h⟩ := grd_of h
          refine V_sub (L' := [(0, vr Γ 52), (1, vi x1), (2, vi x2), (3, vi (x3 + (1 : Int)))]) [0, 1, 2, 3] rfl (by decide) ?_
          exact ih hx1 hx2 g17 h
        · have h := ite_t h c36_16
          refine V_iconst (pc := 39) C dX12_hasChild_39 ?_
          exact V_zret (pc := 40) C hr hlk (by decide) h dX12_hasChild_40
  skip
  refine V_aload_n (pc := 0) C 0 rfl dX12_hasChild_0 ?_
  refine V_iload_n (pc := 1) C 1 rfl dX12_hasChild_1 ?_
  obtain ⟨M1, r2, hc3, h⟩ := cal_of h
  refine V_callVI (pc := 2) C (c_X12_isStored l Γ sk hsk fu ha1 hc3) cf_X12_isStored lk_X12_171 ⟨rfl, rfl⟩ ⟨Nat.le_of_ble_eq_true rfl, Nat.le_of_ble_eq_true rfl⟩ e52 rfl rfl rfl (Nat.le_of_ble_eq_true rfl) ⟨Nat.zero_le _, Nat.zero_le _⟩ rfl dX12_hasChild_2 (fun hr2 => ?_)
  refine V_if_eq (pc := 5) C 16 hr2 dX12_hasChild_5 (by decide) (fun c5_4 => ?_) (fun c5_4 => ?_)
  · have h := ite_t h c5_4
    refine V_iconst (pc := 16) C dX12_hasChild_16 ?_
    exact V_zret (pc := 17) C hr hlk (by decide) h dX12_hasChild_17
  · have h := ite_f h c5_4
    refine V_aload_n (pc := 8) C 0 rfl dX12_hasChild_8 ?_
    refine V_iload_n (pc := 9) C 1 rfl dX12_hasChild_9 ?_
    obtain ⟨M5, r6, hc7, h⟩ := cal_of h
    refine V_callVI (pc := 10) C (c_X12_isLeafNode l Γ sk hsk fu ha1 hc7) cf_X12_isLeafNode lk_X12_90 ⟨rfl, rfl⟩ ⟨Nat.le_of_ble_eq_true rfl, Nat.le_of_ble_eq_true rfl⟩ e52 rfl rfl rfl (Nat.le_of_ble_eq_true rfl) ⟨Nat.zero_le _, Nat.zero_le _⟩ rfl dX12_hasChild_10 (fun hr6 => ?_)
    refine V_if_eq (pc := 13) C 18 hr6 dX12_hasChild_13 (by decide) (fun c13_8 => ?_) (fun c13_8 => ?_)
    · have h := ite_t h c13_8
      refine V_iconst (pc := 18) C dX12_hasChild_18 ?_
      refine V_istore_n (pc := 19) C (L' := [(0, vr Γ 52), (1, vi a1), (2, vi a2), (3, vi (0 : Int))]) rfl (by decide) dX12_hasChild_19 ?_
      refine V_sub (L' := [(0, vr Γ 52), (1, vi a1), (2, vi a2), (3, vi (0 : Int))]) [0, 1, 2, 3] rfl (by decide) ?_
      exact LP20 fu  ha1 ha2 (by decide) h
    · have h := ite_f h c13_8
      refine V_iconst (pc := 16) C dX12_hasChild_16 ?_
      exact V_zret (pc := 17) C hr hlk (by decide) h dX12_hasChild_17
set_option maxRecDepth 100000 in
set_option maxHeartbeats 4000000 in
theorem c_X12_referencesTo (l : Launch) (Γ : GG) (sk : List SD) (hsk : ExtM sk) (fu : Nat) {M M' : Mem} {a1 : Int} {r : Int} (ha1 : rng a1) (h : f_X12_referencesTo fu M a1 = some (M', r)) : MetI l yX12_referencesTo cX12_referencesTo 4 .int ({ frames := 3, cells := 0, slots := 0, locals := 69 } : Room) Γ sk [vr Γ 52, vi a1] M M' r := by
  unfold f_X12_referencesTo at h
  refine MetI_of RX12 rfl (by decide) rfl (Nat.le_of_ble_eq_true rfl) rfl ?_
  intro p e s m args below meth c C hr hlk hM
  have e52 := hsk 52 _ (by decide) rfl
  have e53 := hsk 53 _ (by decide) rfl
  have LP60 : ∀ (n : Nat) {x1 : Int} {x2 : Int} {x3 : Int} {M : Mem}, rng x1 → rng x2 → rng x3 → f_X12_referencesTo_L60 fu n x1 x2 x3 M = some (M', r) → VV p l e ({ frames := 3, cells := 0, slots := 0, locals := 69 } : Room) s m args below meth c (MQ below (PostI Γ sk M' r s.heap.size) args s 0 0 (Fr Γ sk s.heap.size)) 4 Γ sk M 0 0 60 [(0, vr Γ 52), (1, vi x1), (2, vi x2), (3, vi x3)] [] := by
    intro n
    induction n with
    | zero =>
      intro x1 x2 x3 M hx1 hx2 hx3 h
      cases h
    | succ n ih =>
      intro x1 x2 x3 M hx1 hx2 hx3 h
      rw [f_X12_referencesTo_L60] at h
      refine V_iload_n (pc := 60) C 3 rfl dX12_referencesTo_60 ?_
      refine V_aload_n (pc := 61) C 0 rfl dX12_referencesTo_61 ?_
      refine V_getR (pc := 62) C e52 rfl inX12 0 (by decide) rfl lf_X12_9 rfl dX12_referencesTo_62 ?_
      refine V_iconst (pc := 65) C dX12_referencesTo_65 ?_
      refine V_rng fun hM8 => ?_
      obtain ⟨g9, h⟩ := grd_of h
      refine V_iald (pc := 66) C e53 g9 (by decide) dX12_referencesTo_66 ?_
      refine V_icmp_ge (pc := 67) C 88 hx3 (hM8 _ _) dX12_referencesTo_67 (by decide) (fun c67_10 => ?_) (fun c67_10 => ?_)
      · have h := ite_t h c67_10
        refine V_iload_n (pc := 88) C 2 rfl dX12_referencesTo_88 ?_
        exact V_iret (pc := 89) C hr hlk hx2 h dX12_referencesTo_89
      · have h := ite_f h c67_10
        refine V_iload_n (pc := 70) C 2 rfl dX12_referencesTo_70 ?_
        refine V_aload_n (pc := 71) C 0 rfl dX12_referencesTo_71 ?_
        refine V_iload_n (pc := 72) C 3 rfl dX12_referencesTo_72 ?_
        refine V_iload_n (pc := 73) C 1 rfl dX12_referencesTo_73 ?_
        obtain ⟨M11, r12, hc13, h⟩ := cal_of h
        refine V_callVI (pc := 74) C (c_X12_hasChild l Γ sk hsk fu hx3 hx1 hc13) cf_X12_hasChild lk_X12_370 ⟨rfl, rfl⟩ ⟨Nat.le_of_ble_eq_true rfl, Nat.le_of_ble_eq_true rfl⟩ e52 rfl rfl rfl (Nat.le_of_ble_eq_true rfl) ⟨Nat.zero_le _, Nat.zero_le _⟩ rfl dX12_referencesTo_74 (fun hr12 => ?_)
        obtain ⟨M14, r15, hc16, h⟩ := cal_of h
        refine V_callSI (pc := 77) C (c_X12_one l Γ sk hsk fu hr12 hc16) cf_X12_one lk_X12_75 ⟨rfl, rfl⟩ ⟨Nat.le_of_ble_eq_true rfl, Nat.le_of_ble_eq_true rfl⟩ rfl (Nat.le_of_ble_eq_true rfl) ⟨Nat.zero_le _, Nat.zero_le _⟩ rfl dX12_referencesTo_77 (fun hr15 => ?_)
        refine V_iadd (pc := 80) C dX12_referencesTo_80 ?_
        refine V_istore_n (pc := 81) C (L' := [(0, vr Γ 52), (1, vi x1), (2, vi (x2 + r15)), (3, vi x3)]) rfl (by decide) dX12_referencesTo_81 ?_
        refine V_iinc (pc := 82) C (L' := [(0, vr Γ 52), (1, vi x1), (2, vi (x2 + r15)), (3, vi (x3 + (1 : Int)))]) 3 rfl rfl (by decide) dX12_referencesTo_82 ?_
        refine V_goto (pc := 85) C 60 dX12_referencesTo_85 (by decide) ?_
        obtain ⟨g17, h⟩ := grd_of h
        obtain ⟨g18, h⟩ := grd_of h
        refine V_sub (L' := [(0, vr Γ 52), (1, vi x1), (2, vi (x2 + r15)), (3, vi (x3 + (1 : Int)))]) [0, 1, 2, 3] rfl (by decide) ?_
        exact ih hx1 g17 g18 h
  have LP14 : ∀ (n : Nat) {x1 : Int} {x2 : Int} {x3 : Int} {M : Mem}, rng x1 → rng x2 → rng x3 → f_X12_referencesTo_L14 fu n x1 x2 x3 M = some (M', r) → VV p l e ({ frames := 3, cells := 0, slots := 0, locals := 69 } : Room) s m args below meth c (MQ below (PostI Γ sk M' r s.heap.size) args s 0 0 (Fr Γ sk s.heap.size)) 4 Γ sk M 0 0 14 [(0, vr Γ 52), (1, vi x1), (2, vi x2), (3, vi x3)] [] := by
    intro n
    induction n with
    | zero =>
      intro x1 x2 x3 M hx1 hx2 hx3 h
      cases h
    | succ n ih =>
      intro x1 x2 x3 M hx1 hx2 hx3 h
      rw [f_X12_referencesTo_L14] at h
      refine V_iload_n (pc := 14) C 3 rfl dX12_referencesTo_14 ?_
      refine V_aload_n (pc := 15) C 0 rfl dX12_referencesTo_15 ?_
      refine V_getR (pc := 16) C e52 rfl inX12 0 (by decide) rfl lf_X12_9 rfl dX12_referencesTo_16 ?_
      refine V_iconst (pc := 19) C dX12_referencesTo_19 ?_
      refine V_rng fun hM5 => ?_
      obtain ⟨g6, h⟩ := grd_of h
      refine V_iald (pc := 20) C e53 g6 (by decide) dX12_referencesTo_20 ?_
      refine V_icmp_ge (pc := 21) C 58 hx3 (hM5 _ _) dX12_referencesTo_21 (by decide) (fun c21_7 => ?_) (fun c21_7 => ?_)
      · have h := ite_t h c21_7
        refine V_iconst (pc := 58) C dX12_referencesTo_58 ?_
        refine V_istore_n (pc := 59) C (L' := [(0, vr Γ 52), (1, vi x1), (2, vi x2), (3, vi (0 : Int))]) rfl (by decide) dX12_referencesTo_59 ?_
        refine V_sub (L' := [(0, vr Γ 52), (1, vi x1), (2, vi x2), (3, vi (0 : Int))]) [0, 1, 2, 3] rfl (by decide) ?_
        exact LP60 fu  hx1 hx2 (by decide) h
      · have h := ite_f h c21_7
        refine V_iload_n (pc := 24) C 2 rfl dX12_referencesTo_24 ?_
        refine V_aload_n (pc := 25) C 0 rfl dX12_referencesTo_25 ?_
        refine V_iload_n (pc := 26) C 3 rfl dX12_referencesTo_26 ?_
        obtain ⟨M19, r20, hc21, h⟩ := cal_of h
        refine V_callVI (pc := 27) C (c_X12_isGone l Γ sk hsk fu hx3 hc21) cf_X12_isGone lk_X12_164 ⟨rfl, rfl⟩ ⟨Nat.le_of_ble_eq_true rfl, Nat.le_of_ble_eq_true rfl⟩ e52 rfl rfl rfl (Nat.le_of_ble_eq_true rfl) ⟨Nat.zero_le _, Nat.zero_le _⟩ rfl dX12_referencesTo_27 (fun hr20 => ?_)
        refine V_if_ne (pc := 30) C 46 hr20 dX12_referencesTo_30 (by decide) (fun c30_22 => ?_) (fun c30_22 => ?_)
        · have h := ite_f h c30_22
          refine V_iconst (pc := 46) C dX12_referencesTo_46 ?_
          obtain ⟨M23, r24, hc25, h⟩ := cal_of h
          refine V_callSI (pc := 47) C (c_X12_one l Γ sk hsk fu (by decide) hc25) cf_X12_one lk_X12_75 ⟨rfl, rfl⟩ ⟨Nat.le_of_ble_eq_true rfl, Nat.le_of_ble_eq_true rfl⟩ rfl (Nat.le_of_ble_eq_true rfl) ⟨Nat.zero_le _, Nat.zero_le _⟩ rfl dX12_referencesTo_47 (fun hr24 => ?_)
          refine V_iadd (pc := 50) C dX12_referencesTo_50 ?_
          refine V_istore_n (pc := 51) C (L' := [(0, vr Γ 52), (1, vi x1), (2, vi (x2 + r24)), (3, vi x3)]) rfl (by decide) dX12_referencesTo_51 ?_
          refine V_iinc (pc := 52) C (L' := [(0, vr Γ 52), (1, vi x1), (2, vi (x2 + r24)), (3, vi (x3 + (1 : Int)))]) 3 rfl rfl (by decide) dX12_referencesTo_52 ?_
          refine V_goto (pc := 55) C 14 dX12_referencesTo_55 (by decide) ?_
          obtain ⟨g26, h⟩ := grd_of h
          obtain ⟨g27, h⟩ := grd_of h
          refine V_sub (L' := [(0, vr Γ 52), (1, vi x1), (2, vi (x2 + r24)), (3, vi (x3 + (1 : Int)))]) [0, 1, 2, 3] rfl (by decide) ?_
          exact ih hx1 g26 g27 h
        · have h := ite_t h c30_22
          refine V_aload_n (pc := 33) C 0 rfl dX12_referencesTo_33 ?_
          refine V_iload_n (pc := 34) C 3 rfl dX12_referencesTo_34 ?_
          obtain ⟨M28, r29, hc30, h⟩ := cal_of h
          refine V_callVI (pc := 35) C (c_X12_root l Γ sk hsk fu hx3 hc30) cf_X12_root lk_X12_145 ⟨rfl, rfl⟩ ⟨Nat.le_of_ble_eq_true rfl, Nat.le_of_ble_eq_true rfl⟩ e52 rfl rfl rfl (Nat.le_of_ble_eq_true rfl) ⟨Nat.zero_le _, Nat.zero_le _⟩ rfl dX12_referencesTo_35 (fun hr29 => ?_)
          refine V_iload_n (pc := 38) C 1 rfl dX12_referencesTo_38 ?_
          refine V_icmp_ne (pc := 39) C 46 hr29 hx1 dX12_referencesTo_39 (by decide) (fun c39_31 => ?_) (fun c39_31 => ?_)
          · have h := ite_f h c39_31
            refine V_iconst (pc := 46) C dX12_referencesTo_46 ?_
            obtain ⟨M32, r33, hc34, h⟩ := cal_of h
            refine V_callSI (pc := 47) C (c_X12_one l Γ sk hsk fu (by decide) hc34) cf_X12_one lk_X12_75 ⟨rfl, rfl⟩ ⟨Nat.le_of_ble_eq_true rfl, Nat.le_of_ble_eq_true rfl⟩ rfl (Nat.le_of_ble_eq_true rfl) ⟨Nat.zero_le _, Nat.zero_le _⟩ rfl dX12_referencesTo_47 (fun hr33 => ?_)
            refine V_iadd (pc := 50) C dX12_referencesTo_50 ?_
            refine V_istore_n (pc := 51) C (L' := [(0, vr Γ 52), (1, vi x1), (2, vi (x2 + r33)), (3, vi x3)]) rfl (by decide) dX12_referencesTo_51 ?_
            refine V_iinc (pc := 52) C (L' := [(0, vr Γ 52), (1, vi x1), (2, vi (x2 + r33)), (3, vi (x3 + (1 : Int)))]) 3 rfl rfl (by decide) dX12_referencesTo_52 ?_
            refine V_goto (pc := 55) C 14 dX12_referencesTo_55 (by decide) ?_
            obtain ⟨g35, h⟩ := grd_of h
            obtain ⟨g36, h⟩ := grd_of h
            refine V_sub (L' := [(0, vr Γ 52), (1, vi x1), (2, vi (x2 + r33)), (3, vi (x3 + (1 : Int)))]) [0, 1, 2, 3] rfl (by decide) ?_
            exact ih hx1 g35 g36 h
          · have h := ite_t h c39_31
            refine V_iconst (pc := 42) C dX12_referencesTo_42 ?_
            refine V_goto (pc := 43) C 47 dX12_referencesTo_43 (by decide) ?_
            obtain ⟨M37, r38, hc39, h⟩ := cal_of h
            refine V_callSI (pc := 47) C (c_X12_one l Γ sk hsk fu (by decide) hc39) cf_X12_one lk_X12_75 ⟨rfl, rfl⟩ ⟨Nat.le_of_ble_eq_true rfl, Nat.le_of_ble_eq_true rfl⟩ rfl (Nat.le_of_ble_eq_true rfl) ⟨Nat.zero_le _, Nat.zero_le _⟩ rfl dX12_referencesTo_47 (fun hr38 => ?_)
            refine V_iadd (pc := 50) C dX12_referencesTo_50 ?_
            refine V_istore_n (pc := 51) C (L' := [(0, vr Γ 52), (1, vi x1), (2, vi (x2 + r38)), (3, vi x3)]) rfl (by decide) dX12_referencesTo_51 ?_
            refine V_iinc (pc := 52) C (L' := [(0, vr Γ 52), (1, vi x1), (2, vi (x2 + r38)), (3, vi (x3 + (1 : Int)))]) 3 rfl rfl (by decide) dX12_referencesTo_52 ?_
            refine V_goto (pc := 55) C 14 dX12_referencesTo_55 (by decide) ?_
            obtain ⟨g40, h⟩ := grd_of h
            obtain ⟨g41, h⟩ := grd_of h
            refine V_sub (L' := [(0, vr Γ 52), (1, vi x1), (2, vi (x2 + r38)), (3, vi (x3 + (1 : Int)))]) [0, 1, 2, 3] rfl (by decide) ?_
            exact ih hx1 g40 g41 h
  skip
  refine V_aload_n (pc := 0) C 0 rfl dX12_referencesTo_0 ?_
  refine V_iload_n (pc := 1) C 1 rfl dX12_referencesTo_1 ?_
  obtain ⟨M1, r2, hc3, h⟩ := cal_of h
  refine V_callVI (pc := 2) C (c_X12_checkNode l Γ sk hsk fu ha1 hc3) cf_X12_checkNode lk_X12_367 ⟨rfl, rfl⟩ ⟨Nat.le_of_ble_eq_true rfl, Nat.le_of_ble_eq_true rfl⟩ e52 rfl rfl rfl (Nat.le_of_ble_eq_true rfl) ⟨Nat.zero_le _, Nat.zero_le _⟩ rfl dX12_referencesTo_2 (fun hr2 => ?_)
  refine V_if_ne (pc := 5) C 10 hr2 dX12_referencesTo_5 (by decide) (fun c5_4 => ?_) (fun c5_4 => ?_)
  · have h := ite_f h c5_4
    refine V_iconst (pc := 10) C dX12_referencesTo_10 ?_
    refine V_istore_n (pc := 11) C (L' := [(0, vr Γ 52), (1, vi a1), (2, vi (0 : Int))]) rfl (by decide) dX12_referencesTo_11 ?_
    refine V_iconst (pc := 12) C dX12_referencesTo_12 ?_
    refine V_istore_n (pc := 13) C (L' := [(0, vr Γ 52), (1, vi a1), (2, vi (0 : Int)), (3, vi (0 : Int))]) rfl (by decide) dX12_referencesTo_13 ?_
    refine V_sub (L' := [(0, vr Γ 52), (1, vi a1), (2, vi (0 : Int)), (3, vi (0 : Int))]) [0, 1, 2, 3] rfl (by decide) ?_
    exact LP14 fu  ha1 (by decide) (by decide) h
  · have h := ite_t h c5_4
    refine V_iconst (pc := 8) C dX12_referencesTo_8 ?_
    exact V_iret (pc := 9) C hr hlk (by decide) h dX12_referencesTo_9
set_option maxRecDepth 100000 in
set_option maxHeartbeats 4000000 in
theorem c_X12_differAt (l : Launch) (Γ : GG) (sk : List SD) (hsk : ExtM sk) (fu : Nat) {M M' : Mem} {a1 : Int} {a2 : Int} {a3 : Int} {r : Int} (ha1 : rng a1) (ha2 : rng a2) (ha3 : rng a3) (h : f_X12_differAt fu M a1 a2 a3 = some (M', r)) : MetI l yX12_differAt cX12_differAt 6 .boolean ({ frames := 2, cells := 0, slots := 0, locals := 42 } : Room) Γ sk [vr Γ 52, vi a1, vi a2, vi a3] M M' r := by
  unfold f_X12_differAt at h
  refine MetI_of RX12 rfl (by decide) rfl (Nat.le_of_ble_eq_true rfl) rfl ?_
  intro p e s m args below meth c C hr hlk hM
  have e52 := hsk 52 _ (by decide) rfl
  have JP30 : ∀ {x1 : Int} {x2 : Int} {x3 : Int} {x4 : Int} {y0 : Int} {M : Mem}, rng x1 → rng x2 → rng x3 → rng x4 → rng y0 → f_X12_differAt_J30 fu x1 x2 x3 x4 y0 M = some (M', r) → VV p l e ({ frames := 2, cells := 0, slots := 0, locals := 42 } : Room) s m args below meth c (MQ below (PostI Γ sk M' r s.heap.size) args s 0 0 (Fr Γ sk s.heap.size)) 6 Γ sk M 0 0 30 [(0, vr Γ 52), (1, vi x1), (2, vi x2), (3, vi x3), (4, vi x4)] [vi y0] := by
    intro x1 x2 x3 x4 y0 M hx1 hx2 hx3 hx4 hy0 h
    unfold f_X12_differAt_J30 at h
    refine V_istore (pc := 30) C (L' := [(0, vr Γ 52), (1, vi x1), (2, vi x2), (3, vi x3), (4, vi x4), (5, vi y0)]) rfl (by decide) dX12_differAt_30 ?_
    refine V_iload (pc := 32) C 4 rfl dX12_differAt_32 ?_
    refine V_iload (pc := 34) C 5 rfl dX12_differAt_34 ?_
    refine V_icmp_eq (pc := 36) C 41 hx4 hy0 dX12_differAt_36 (by decide) (fun c36_9 => ?_) (fun c36_9 => ?_)
    · have h := ite_t h c36_9
      refine V_iload (pc := 41) C 4 rfl dX12_differAt_41 ?_
      refine V_if_eq (pc := 43) C 65 hx4 dX12_differAt_43 (by decide) (fun c43_10 => ?_) (fun c43_10 => ?_)
      · have h := ite_t h c43_10
        refine V_iconst (pc := 65) C dX12_differAt_65 ?_
        exact V_zret (pc := 66) C hr hlk (by decide) h dX12_differAt_66
      · have h := ite_f h c43_10
        refine V_aload_n (pc := 46) C 0 rfl dX12_differAt_46 ?_
        refine V_iload_n (pc := 47) C 1 rfl dX12_differAt_47 ?_
        refine V_iload_n (pc := 48) C 3 rfl dX12_differAt_48 ?_
        obtain ⟨M11, r12, hc13, h⟩ := cal_of h
        refine V_callVI (pc := 49) C (c_X12_element l Γ sk hsk fu hx1 hx3 hc13) cf_X12_element lk_X12_129 ⟨rfl, rfl⟩ ⟨Nat.le_of_ble_eq_true rfl, Nat.le_of_ble_eq_true rfl⟩ e52 rfl rfl rfl (Nat.le_of_ble_eq_true rfl) ⟨Nat.zero_le _, Nat.zero_le _⟩ rfl dX12_differAt_49 (fun hr12 => ?_)
        refine V_aload_n (pc := 52) C 0 rfl dX12_differAt_52 ?_
        refine V_iload_n (pc := 53) C 2 rfl dX12_differAt_53 ?_
        refine V_iload_n (pc := 54) C 3 rfl dX12_differAt_54 ?_
        obtain ⟨M14, r15, hc16, h⟩ := cal_of h
        refine V_callVI (pc := 55) C (c_X12_element l Γ sk hsk fu hx2 hx3 hc16) cf_X12_element lk_X12_129 ⟨rfl, rfl⟩ ⟨Nat.le_of_ble_eq_true rfl, Nat.le_of_ble_eq_true rfl⟩ e52 rfl rfl rfl (Nat.le_of_ble_eq_true rfl) ⟨Nat.zero_le _, Nat.zero_le _⟩ rfl dX12_differAt_55 (fun hr15 => ?_)
        refine V_icmp_eq (pc := 58) C 65 hr12 hr15 dX12_differAt_58 (by decide) (fun c58_17 => ?_) (fun c58_17 => ?_)
        · have h := ite_t h c58_17
          refine V_iconst (pc := 65) C dX12_differAt_65 ?_
          exact V_zret (pc := 66) C hr hlk (by decide) h dX12_differAt_66
        · have h := ite_f h c58_17
          refine V_iconst (pc := 61) C dX12_differAt_61 ?_
          refine V_goto (pc := 62) C 66 dX12_differAt_62 (by decide) ?_
          exact V_zret (pc := 66) C hr hlk (by decide) h dX12_differAt_66
    · have h := ite_f h c36_9
      refine V_iconst (pc := 39) C dX12_differAt_39 ?_
      exact V_zret (pc := 40) C hr hlk (by decide) h dX12_differAt_40
  have JP14 : ∀ {x1 : Int} {x2 : Int} {x3 : Int} {y0 : Int} {M : Mem}, rng x1 → rng x2 → rng x3 → rng y0 → f_X12_differAt_J14 fu x1 x2 x3 y0 M = some (M', r) → VV p l e ({ frames := 2, cells := 0, slots := 0, locals := 42 } : Room) s m args below meth c (MQ below (PostI Γ sk M' r s.heap.size) args s 0 0 (Fr Γ sk s.heap.size)) 6 Γ sk M 0 0 14 [(0, vr Γ 52), (1, vi x1), (2, vi x2), (3, vi x3)] [vi y0] := by
    intro x1 x2 x3 y0 M hx1 hx2 hx3 hy0 h
    unfold f_X12_differAt_J14 at h
    refine V_istore (pc := 14) C (L' := [(0, vr Γ 52), (1, vi x1), (2, vi x2), (3, vi x3), (4, vi y0)]) rfl (by decide) dX12_differAt_14 ?_
    refine V_iload_n (pc := 16) C 3 rfl dX12_differAt_16 ?_
    refine V_aload_n (pc := 17) C 0 rfl dX12_differAt_17 ?_
    refine V_iload_n (pc := 18) C 2 rfl dX12_differAt_18 ?_
    obtain ⟨M5, r6, hc7, h⟩ := cal_of h
    refine V_callVI (pc := 19) C (c_X12_lengthOf l Γ sk hsk fu hx2 hc7) cf_X12_lengthOf lk_X12_121 ⟨rfl, rfl⟩ ⟨Nat.le_of_ble_eq_true rfl, Nat.le_of_ble_eq_true rfl⟩ e52 rfl rfl rfl (Nat.le_of_ble_eq_true rfl) ⟨Nat.zero_le _, Nat.zero_le _⟩ rfl dX12_differAt_19 (fun hr6 => ?_)
    refine V_icmp_ge (pc := 22) C 29 hx3 hr6 dX12_differAt_22 (by decide) (fun c22_8 => ?_) (fun c22_8 => ?_)
    · have h := ite_t h c22_8
      refine V_iconst (pc := 29) C dX12_differAt_29 ?_
      refine V_sub (L' := [(0, vr Γ 52), (1, vi x1), (2, vi x2), (3, vi x3), (4, vi y0)]) [0, 1, 2, 3, 4] rfl (by decide) ?_
      exact JP30 hx1 hx2 hx3 hy0 (by decide) h
    · have h := ite_f h c22_8
      refine V_iconst (pc := 25) C dX12_differAt_25 ?_
      refine V_goto (pc := 26) C 30 dX12_differAt_26 (by decide) ?_
      refine V_sub (L' := [(0, vr Γ 52), (1, vi x1), (2, vi x2), (3, vi x3), (4, vi y0)]) [0, 1, 2, 3, 4] rfl (by decide) ?_
      exact JP30 hx1 hx2 hx3 hy0 (by decide) h
  skip
  refine V_iload_n (pc := 0) C 3 rfl dX12_differAt_0 ?_
  refine V_aload_n (pc := 1) C 0 rfl dX12_differAt_1 ?_
  refine V_iload_n (pc := 2) C 1 rfl dX12_differAt_2 ?_
  obtain ⟨M1, r2, hc3, h⟩ := cal_of h
  refine V_callVI (pc := 3) C (c_X12_lengthOf l Γ sk hsk fu ha1 hc3) cf_X12_lengthOf lk_X12_121 ⟨rfl, rfl⟩ ⟨Nat.le_of_ble_eq_true rfl, Nat.le_of_ble_eq_true rfl⟩ e52 rfl rfl rfl (Nat.le_of_ble_eq_true rfl) ⟨Nat.zero_le _, Nat.zero_le _⟩ rfl dX12_differAt_3 (fun hr2 => ?_)
  refine V_icmp_ge (pc := 6) C 13 ha3 hr2 dX12_differAt_6 (by decide) (fun c6_4 => ?_) (fun c6_4 => ?_)
  · have h := ite_t h c6_4
    refine V_iconst (pc := 13) C dX12_differAt_13 ?_
    refine V_sub (L' := [(0, vr Γ 52), (1, vi a1), (2, vi a2), (3, vi a3)]) [0, 1, 2, 3] rfl (by decide) ?_
    exact JP14 ha1 ha2 ha3 (by decide) h
  · have h := ite_f h c6_4
    refine V_iconst (pc := 9) C dX12_differAt_9 ?_
    refine V_goto (pc := 10) C 14 dX12_differAt_10 (by decide) ?_
    refine V_sub (L' := [(0, vr Γ 52), (1, vi a1), (2, vi a2), (3, vi a3)]) [0, 1, 2, 3] rfl (by decide) ?_
    exact JP14 ha1 ha2 ha3 (by decide) h
set_option maxRecDepth 100000 in
set_option maxHeartbeats 4000000 in
theorem c_X12_differences (l : Launch) (Γ : GG) (sk : List SD) (hsk : ExtM sk) (fu : Nat) {M M' : Mem} {a1 : Int} {a2 : Int} {r : Int} (ha1 : rng a1) (ha2 : rng a2) (h : f_X12_differences fu M a1 a2 = some (M', r)) : MetI l yX12_differences cX12_differences 5 .int ({ frames := 3, cells := 0, slots := 0, locals := 69 } : Room) Γ sk [vr Γ 52, vi a1, vi a2] M M' r := by
  unfold f_X12_differences at h
  refine MetI_of RX12 rfl (by decide) rfl (Nat.le_of_ble_eq_true rfl) rfl ?_
  intro p e s m args below meth c C hr hlk hM
  have e52 := hsk 52 _ (by decide) rfl
  have LP16 : ∀ (n : Nat) {x1 : Int} {x2 : Int} {x3 : Int} {x4 : Int} {M : Mem}, rng x1 → rng x2 → rng x3 → rng x4 → f_X12_differences_L16 fu n x1 x2 x3 x4 M = some (M', r) → VV p l e ({ frames := 3, cells := 0, slots := 0, locals := 69 } : Room) s m args below meth c (MQ below (PostI Γ sk M' r s.heap.size) args s 0 0 (Fr Γ sk s.heap.size)) 5 Γ sk M 0 0 16 [(0, vr Γ 52), (1, vi x1), (2, vi x2), (3, vi x3), (4, vi x4)] [] := by
    intro n
    induction n with
    | zero =>
      intro x1 x2 x3 x4 M hx1 hx2 hx3 hx4 h
      cases h
    | succ n ih =>
      intro x1 x2 x3 x4 M hx1 hx2 hx3 hx4 h
      rw [f_X12_differences_L16] at h
      refine V_iload (pc := 16) C 4 rfl dX12_differences_16 ?_
      refine V_bipush (pc := 18) C dX12_differences_18 rfl ?_
      refine V_icmp_ge (pc := 20) C 43 hx4 (by decide) dX12_differences_20 (by decide) (fun c20_5 => ?_) (fun c20_5 => ?_)
      · have h := ite_t h c20_5
        refine V_iload_n (pc := 43) C 3 rfl dX12_differences_43 ?_
        exact V_iret (pc := 44) C hr hlk hx3 h dX12_differences_44
      · have h := ite_f h c20_5
        refine V_iload_n (pc := 23) C 3 rfl dX12_differences_23 ?_
        refine V_aload_n (pc := 24) C 0 rfl dX12_differences_24 ?_
        refine V_iload_n (pc := 25) C 1 rfl dX12_differences_25 ?_
        refine V_iload_n (pc := 26) C 2 rfl dX12_differences_26 ?_
        refine V_iload (pc := 27) C 4 rfl dX12_differences_27 ?_
        obtain ⟨M6, r7, hc8, h⟩ := cal_of h
        refine V_callVI (pc := 29) C (c_X12_differAt l Γ sk hsk fu hx1 hx2 hx4 hc8) cf_X12_differAt lk_X12_373 ⟨rfl, rfl⟩ ⟨Nat.le_of_ble_eq_true rfl, Nat.le_of_ble_eq_true rfl⟩ e52 rfl rfl rfl (Nat.le_of_ble_eq_true rfl) ⟨Nat.zero_le _, Nat.zero_le _⟩ rfl dX12_differences_29 (fun hr7 => ?_)
        obtain ⟨M9, r10, hc11, h⟩ := cal_of h
        refine V_callSI (pc := 32) C (c_X12_one l Γ sk hsk fu hr7 hc11) cf_X12_one lk_X12_75 ⟨rfl, rfl⟩ ⟨Nat.le_of_ble_eq_true rfl, Nat.le_of_ble_eq_true rfl⟩ rfl (Nat.le_of_ble_eq_true rfl) ⟨Nat.zero_le _, Nat.zero_le _⟩ rfl dX12_differences_32 (fun hr10 => ?_)
        refine V_iadd (pc := 35) C dX12_differences_35 ?_
        refine V_istore_n (pc := 36) C (L' := [(0, vr Γ 52), (1, vi x1), (2, vi x2), (3, vi (x3 + r10)), (4, vi x4)]) rfl (by decide) dX12_differences_36 ?_
        refine V_iinc (pc := 37) C (L' := [(0, vr Γ 52), (1, vi x1), (2, vi x2), (3, vi (x3 + r10)), (4, vi (x4 + (1 : Int)))]) 4 rfl rfl (by decide) dX12_differences_37 ?_
        refine V_goto (pc := 40) C 16 dX12_differences_40 (by decide) ?_
        obtain ⟨g12, h⟩ := grd_of h
        obtain ⟨g13, h⟩ := grd_of h
        refine V_sub (L' := [(0, vr Γ 52), (1, vi x1), (2, vi x2), (3, vi (x3 + r10)), (4, vi (x4 + (1 : Int)))]) [0, 1, 2, 3, 4] rfl (by decide) ?_
        exact ih hx1 hx2 g12 g13 h
  skip
  refine V_aload_n (pc := 0) C 0 rfl dX12_differences_0 ?_
  refine V_iload_n (pc := 1) C 1 rfl dX12_differences_1 ?_
  refine V_iload_n (pc := 2) C 2 rfl dX12_differences_2 ?_
  obtain ⟨M1, r2, hc3, h⟩ := cal_of h
  refine V_callVI (pc := 3) C (c_X12_checkTwo l Γ sk hsk fu ha1 ha2 hc3) cf_X12_checkTwo lk_X12_358 ⟨rfl, rfl⟩ ⟨Nat.le_of_ble_eq_true rfl, Nat.le_of_ble_eq_true rfl⟩ e52 rfl rfl rfl (Nat.le_of_ble_eq_true rfl) ⟨Nat.zero_le _, Nat.zero_le _⟩ rfl dX12_differences_3 (fun hr2 => ?_)
  refine V_if_ne (pc := 6) C 11 hr2 dX12_differences_6 (by decide) (fun c6_4 => ?_) (fun c6_4 => ?_)
  · have h := ite_f h c6_4
    refine V_iconst (pc := 11) C dX12_differences_11 ?_
    refine V_istore_n (pc := 12) C (L' := [(0, vr Γ 52), (1, vi a1), (2, vi a2), (3, vi (0 : Int))]) rfl (by decide) dX12_differences_12 ?_
    refine V_iconst (pc := 13) C dX12_differences_13 ?_
    refine V_istore (pc := 14) C (L' := [(0, vr Γ 52), (1, vi a1), (2, vi a2), (3, vi (0 : Int)), (4, vi (0 : Int))]) rfl (by decide) dX12_differences_14 ?_
    refine V_sub (L' := [(0, vr Γ 52), (1, vi a1), (2, vi a2), (3, vi (0 : Int)), (4, vi (0 : Int))]) [0, 1, 2, 3, 4] rfl (by decide) ?_
    exact LP16 fu  ha1 ha2 (by decide) (by decide) h
  · have h := ite_t h c6_4
    refine V_iconst (pc := 9) C dX12_differences_9 ?_
    exact V_iret (pc := 10) C hr hlk (by decide) h dX12_differences_10
set_option maxRecDepth 100000 in
set_option maxHeartbeats 4000000 in
theorem c_X12_firstDifference (l : Launch) (Γ : GG) (sk : List SD) (hsk : ExtM sk) (fu : Nat) {M M' : Mem} {a1 : Int} {a2 : Int} {r : Int} (ha1 : rng a1) (ha2 : rng a2) (h : f_X12_firstDifference fu M a1 a2 = some (M', r)) : MetI l yX12_firstDifference cX12_firstDifference 4 .int ({ frames := 3, cells := 0, slots := 0, locals := 69 } : Room) Γ sk [vr Γ 52, vi a1, vi a2] M M' r := by
  unfold f_X12_firstDifference at h
  refine MetI_of RX12 rfl (by decide) rfl (Nat.le_of_ble_eq_true rfl) rfl ?_
  intro p e s m args below meth c C hr hlk hM
  have e52 := hsk 52 _ (by decide) rfl
  have LP13 : ∀ (n : Nat) {x1 : Int} {x2 : Int} {x3 : Int} {M : Mem}, rng x1 → rng x2 → rng x3 → f_X12_firstDifference_L13 fu n x1 x2 x3 M = some (M', r) → VV p l e ({ frames := 3, cells := 0, slots := 0, locals := 69 } : Room) s m args below meth c (MQ below (PostI Γ sk M' r s.heap.size) args s 0 0 (Fr Γ sk s.heap.size)) 4 Γ sk M 0 0 13 [(0, vr Γ 52), (1, vi x1), (2, vi x2), (3, vi x3)] [] := by
    intro n
    induction n with
    | zero =>
      intro x1 x2 x3 M hx1 hx2 hx3 h
      cases h
    | succ n ih =>
      intro x1 x2 x3 M hx1 hx2 hx3 h
      rw [f_X12_firstDifference_L13] at h
      refine V_iload_n (pc := 13) C 3 rfl dX12_firstDifference_13 ?_
      refine V_bipush (pc := 14) C dX12_firstDifference_14 rfl ?_
      refine V_icmp_ge (pc := 16) C 37 hx3 (by decide) dX12_firstDifference_16 (by decide) (fun c16_5 => ?_) (fun c16_5 => ?_)
      · have h := ite_t h c16_5
        refine V_iconst (pc := 37) C dX12_firstDifference_37 ?_
        exact V_iret (pc := 38) C hr hlk (by decide) h dX12_firstDifference_38
      · have h := ite_f h c16_5
        refine V_aload_n (pc := 19) C 0 rfl dX12_firstDifference_19 ?_
        refine V_iload_n (pc := 20) C 1 rfl dX12_firstDifference_20 ?_
        refine V_iload_n (pc := 21) C 2 rfl dX12_firstDifference_21 ?_
        refine V_iload_n (pc := 22) C 3 rfl dX12_firstDifference_22 ?_
        obtain ⟨M6, r7, hc8, h⟩ := cal_of h
        refine V_callVI (pc := 23) C (c_X12_differAt l Γ sk hsk fu hx1 hx2 hx3 hc8) cf_X12_differAt lk_X12_373 ⟨rfl, rfl⟩ ⟨Nat.le_of_ble_eq_true rfl, Nat.le_of_ble_eq_true rfl⟩ e52 rfl rfl rfl (Nat.le_of_ble_eq_true rfl) ⟨Nat.zero_le _, Nat.zero_le _⟩ rfl dX12_firstDifference_23 (fun hr7 => ?_)
        refine V_if_eq (pc := 26) C 31 hr7 dX12_firstDifference_26 (by decide) (fun c26_9 => ?_) (fun c26_9 => ?_)
        · have h := ite_t h c26_9
          refine V_iinc (pc := 31) C (L' := [(0, vr Γ 52), (1, vi x1), (2, vi x2), (3, vi (x3 + (1 : Int)))]) 3 rfl rfl (by decide) dX12_firstDifference_31 ?_
          refine V_goto (pc := 34) C 13 dX12_firstDifference_34 (by decide) ?_
          obtain ⟨g10, h⟩ := grd_of h
          refine V_sub (L' := [(0, vr Γ 52), (1, vi x1), (2, vi x2), (3, vi (x3 + (1 : Int)))]) [0, 1, 2, 3] rfl (by decide) ?_
          exact ih hx1 hx2 g10 h
        · have h := ite_f h c26_9
          refine V_iload_n (pc := 29) C 3 rfl dX12_firstDifference_29 ?_
          exact V_iret (pc := 30) C hr hlk hx3 h dX12_firstDifference_30
  skip
  refine V_aload_n (pc := 0) C 0 rfl dX12_firstDifference_0 ?_
  refine V_iload_n (pc := 1) C 1 rfl dX12_firstDifference_1 ?_
  refine V_iload_n (pc := 2) C 2 rfl dX12_firstDifference_2 ?_
  obtain ⟨M1, r2, hc3, h⟩ := cal_of h
  refine V_callVI (pc := 3) C (c_X12_checkTwo l Γ sk hsk fu ha1 ha2 hc3) cf_X12_checkTwo lk_X12_358 ⟨rfl, rfl⟩ ⟨Nat.le_of_ble_eq_true rfl, Nat.le_of_ble_eq_true rfl⟩ e52 rfl rfl rfl (Nat.le_of_ble_eq_true rfl) ⟨Nat.zero_le _, Nat.zero_le _⟩ rfl dX12_firstDifference_3 (fun hr2 => ?_)
  refine V_if_ne (pc := 6) C 11 hr2 dX12_firstDifference_6 (by decide) (fun c6_4 => ?_) (fun c6_4 => ?_)
  · have h := ite_f h c6_4
    refine V_iconst (pc := 11) C dX12_firstDifference_11 ?_
    refine V_istore_n (pc := 12) C (L' := [(0, vr Γ 52), (1, vi a1), (2, vi a2), (3, vi (0 : Int))]) rfl (by decide) dX12_firstDifference_12 ?_
    refine V_sub (L' := [(0, vr Γ 52), (1, vi a1), (2, vi a2), (3, vi (0 : Int))]) [0, 1, 2, 3] rfl (by decide) ?_
    exact LP13 fu  ha1 ha2 (by decide) h
  · have h := ite_t h c6_4
    refine V_iconst (pc := 9) C dX12_firstDifference_9 ?_
    exact V_iret (pc := 10) C hr hlk (by decide) h dX12_firstDifference_10
set_option maxRecDepth 100000 in
set_option maxHeartbeats 4000000 in
theorem c_X12_cost (l : Launch) (Γ : GG) (sk : List SD) (hsk : ExtM sk) (fu : Nat) : ∀ (d : Nat) {M M' : Mem} {a1 : Int} {a2 : Int} {r : Int} (ha1 : rng a1) (ha2 : rng a2) (h : f_X12_cost fu d M a1 a2 = some (M', r)), MetI l yX12_cost cX12_cost 6 .int ({ frames := 3 * (d + 1), cells := 0, slots := 0, locals := 102 * (d + 1) } : Room) Γ sk [vr Γ 52, vi a1, vi a2] M M' r := by
  intro d
  induction d with
  | zero =>
    intro M M' a1 a2 r ha1 ha2 h
    cases h
  | succ d hsf =>
    intro M M' a1 a2 r ha1 ha2 h
    rw [f_X12_cost] at h
    refine MetI_of RX12 rfl (by decide) rfl (Nat.le_of_ble_eq_true rfl) rfl ?_
    intro p e s m args below meth c C hr hlk hM
    have e52 := hsk 52 _ (by decide) rfl
    generalize hsfe : f_X12_cost fu d = sf at h hsf
    have LP37 : ∀ (n : Nat) {x1 : Int} {x2 : Int} {x3 : Int} {x4 : Int} {x5 : Int} {M : Mem}, rng x1 → rng x2 → rng x3 → rng x4 → rng x5 → f_X12_cost_L37 fu sf n x1 x2 x3 x4 x5 M = some (M', r) → VV p l e ({ frames := 3 * (d + 1 + 1), cells := 0, slots := 0, locals := 102 * (d + 1 + 1) } : Room) s m args below meth c (MQ below (PostI Γ sk M' r s.heap.size) args s 0 0 (Fr Γ sk s.heap.size)) 6 Γ sk M 0 0 37 [(0, vr Γ 52), (1, vi x1), (2, vi x2), (3, vi x3), (4, vi x4), (5, vi x5)] [] := by
      intro n
      induction n with
      | zero =>
        intro x1 x2 x3 x4 x5 M hx1 hx2 hx3 hx4 hx5 h
        cases h
      | succ n ih =>
        intro x1 x2 x3 x4 x5 M hx1 hx2 hx3 hx4 hx5 h
        rw [f_X12_cost_L37] at h
        refine V_iload (pc := 37) C 5 rfl dX12_cost_37 ?_
        refine V_iload (pc := 39) C 4 rfl dX12_cost_39 ?_
        refine V_icmp_ge (pc := 41) C 71 hx5 hx4 dX12_cost_41 (by decide) (fun c41_12 => ?_) (fun c41_12 => ?_)
        · have h := ite_t h c41_12
          refine V_iload_n (pc := 71) C 3 rfl dX12_cost_71 ?_
          exact V_iret (pc := 72) C hr hlk hx3 h dX12_cost_72
        · have h := ite_f h c41_12
          refine V_iload_n (pc := 44) C 3 rfl dX12_cost_44 ?_
          refine V_aload_n (pc := 45) C 0 rfl dX12_cost_45 ?_
          refine V_aload_n (pc := 46) C 0 rfl dX12_cost_46 ?_
          refine V_iload_n (pc := 47) C 1 rfl dX12_cost_47 ?_
          refine V_iload (pc := 48) C 5 rfl dX12_cost_48 ?_
          obtain ⟨M13, r14, hc15, h⟩ := cal_of h
          refine V_callVI (pc := 50) C (c_X12_entry l Γ sk hsk fu hx1 hx5 hc15) cf_X12_entry lk_X12_71 ⟨rfl, rfl⟩ ⟨by dsimp only; omega, by dsimp only; omega⟩ e52 rfl rfl rfl (Nat.le_of_ble_eq_true rfl) ⟨Nat.zero_le _, Nat.zero_le _⟩ rfl dX12_cost_50 (fun hr14 => ?_)
          refine V_aload_n (pc := 53) C 0 rfl dX12_cost_53 ?_
          refine V_iload_n (pc := 54) C 2 rfl dX12_cost_54 ?_
          refine V_iload (pc := 55) C 5 rfl dX12_cost_55 ?_
          obtain ⟨M16, r17, hc18, h⟩ := cal_of h
          refine V_callVI (pc := 57) C (c_X12_entry l Γ sk hsk fu hx2 hx5 hc18) cf_X12_entry lk_X12_71 ⟨rfl, rfl⟩ ⟨by dsimp only; omega, by dsimp only; omega⟩ e52 rfl rfl rfl (Nat.le_of_ble_eq_true rfl) ⟨Nat.zero_le _, Nat.zero_le _⟩ rfl dX12_cost_57 (fun hr17 => ?_)
          obtain ⟨M19, r20, hc21, h⟩ := cal_of h
          refine V_callVI (pc := 60) C (hsf hr14 hr17 hc21) cf_X12_cost lk_X12_376 ⟨rfl, rfl⟩ ⟨by dsimp only; omega, by dsimp only; omega⟩ e52 rfl rfl rfl (Nat.le_of_ble_eq_true rfl) ⟨Nat.zero_le _, Nat.zero_le _⟩ rfl dX12_cost_60 (fun hr20 => ?_)
          refine V_iadd (pc := 63) C dX12_cost_63 ?_
          refine V_istore_n (pc := 64) C (L' := [(0, vr Γ 52), (1, vi x1), (2, vi x2), (3, vi (x3 + r20)), (4, vi x4), (5, vi x5)]) rfl (by decide) dX12_cost_64 ?_
          refine V_iinc (pc := 65) C (L' := [(0, vr Γ 52), (1, vi x1), (2, vi x2), (3, vi (x3 + r20)), (4, vi x4), (5, vi (x5 + (1 : Int)))]) 5 rfl rfl (by decide) dX12_cost_65 ?_
          refine V_goto (pc := 68) C 37 dX12_cost_68 (by decide) ?_
          obtain ⟨g22, h⟩ := grd_of h
          obtain ⟨g23, h⟩ := grd_of h
          refine V_sub (L' := [(0, vr Γ 52), (1, vi x1), (2, vi x2), (3, vi (x3 + r20)), (4, vi x4), (5, vi (x5 + (1 : Int)))]) [0, 1, 2, 3, 4, 5] rfl (by decide) ?_
          exact ih hx1 hx2 g22 hx4 g23 h
    skip
    refine V_iload_n (pc := 0) C 1 rfl dX12_cost_0 ?_
    refine V_iload_n (pc := 1) C 2 rfl dX12_cost_1 ?_
    refine V_icmp_ne (pc := 2) C 7 ha1 ha2 dX12_cost_2 (by decide) (fun c2_1 => ?_) (fun c2_1 => ?_)
    · have h := ite_f h c2_1
      refine V_aload_n (pc := 7) C 0 rfl dX12_cost_7 ?_
      refine V_iload_n (pc := 8) C 1 rfl dX12_cost_8 ?_
      obtain ⟨M2, r3, hc4, h⟩ := cal_of h
      refine V_callVI (pc := 9) C (c_X12_isLeafNode l Γ sk hsk fu ha1 hc4) cf_X12_isLeafNode lk_X12_90 ⟨rfl, rfl⟩ ⟨by dsimp only; omega, by dsimp only; omega⟩ e52 rfl rfl rfl (Nat.le_of_ble_eq_true rfl) ⟨Nat.zero_le _, Nat.zero_le _⟩ rfl dX12_cost_9 (fun hr3 => ?_)
      refine V_if_eq (pc := 12) C 17 hr3 dX12_cost_12 (by decide) (fun c12_5 => ?_) (fun c12_5 => ?_)
      · have h := ite_t h c12_5
        refine V_iconst (pc := 17) C dX12_cost_17 ?_
        refine V_istore_n (pc := 18) C (L' := [(0, vr Γ 52), (1, vi a1), (2, vi a2), (3, vi (1 : Int))]) rfl (by decide) dX12_cost_18 ?_
        refine V_aload_n (pc := 19) C 0 rfl dX12_cost_19 ?_
        refine V_iload_n (pc := 20) C 1 rfl dX12_cost_20 ?_
        obtain ⟨M6, r7, hc8, h⟩ := cal_of h
        refine V_callVI (pc := 21) C (c_X12_countOf l Γ sk hsk fu ha1 hc8) cf_X12_countOf lk_X12_79 ⟨rfl, rfl⟩ ⟨by dsimp only; omega, by dsimp only; omega⟩ e52 rfl rfl rfl (Nat.le_of_ble_eq_true rfl) ⟨Nat.zero_le _, Nat.zero_le _⟩ rfl dX12_cost_21 (fun hr7 => ?_)
        refine V_aload_n (pc := 24) C 0 rfl dX12_cost_24 ?_
        refine V_iload_n (pc := 25) C 2 rfl dX12_cost_25 ?_
        obtain ⟨M9, r10, hc11, h⟩ := cal_of h
        refine V_callVI (pc := 26) C (c_X12_countOf l Γ sk hsk fu ha2 hc11) cf_X12_countOf lk_X12_79 ⟨rfl, rfl⟩ ⟨by dsimp only; omega, by dsimp only; omega⟩ e52 rfl rfl rfl (Nat.le_of_ble_eq_true rfl) ⟨Nat.zero_le _, Nat.zero_le _⟩ rfl dX12_cost_26 (fun hr10 => ?_)
        refine V_min (pc := 29) C lk_X12_124 math_min hr7 hr10 ⟨by dsimp only; omega, by dsimp only; omega⟩ ⟨Nat.zero_le _, Nat.zero_le _⟩ (Nat.le_of_ble_eq_true rfl) dX12_cost_29 ?_
        refine V_istore (pc := 32) C (L' := [(0, vr Γ 52), (1, vi a1), (2, vi a2), (3, vi (1 : Int)), (4, vi (imin r7 r10))]) rfl (by decide) dX12_cost_32 ?_
        refine V_iconst (pc := 34) C dX12_cost_34 ?_
        refine V_istore (pc := 35) C (L' := [(0, vr Γ 52), (1, vi a1), (2, vi a2), (3, vi (1 : Int)), (4, vi (imin r7 r10)), (5, vi (0 : Int))]) rfl (by decide) dX12_cost_35 ?_
        refine V_sub (L' := [(0, vr Γ 52), (1, vi a1), (2, vi a2), (3, vi (1 : Int)), (4, vi (imin r7 r10)), (5, vi (0 : Int))]) [0, 1, 2, 3, 4, 5] rfl (by decide) ?_
        exact LP37 fu  ha1 ha2 (by decide) (imin_rng hr7 hr10) (by decide) h
      · have h := ite_f h c12_5
        refine V_iconst (pc := 15) C dX12_cost_15 ?_
        exact V_iret (pc := 16) C hr hlk (by decide) h dX12_cost_16
    · have h := ite_t h c2_1
      refine V_iconst (pc := 5) C dX12_cost_5 ?_
      exact V_iret (pc := 6) C hr hlk (by decide) h dX12_cost_6
set_option maxRecDepth 100000 in
set_option maxHeartbeats 4000000 in
theorem c_X12_comparisonCost (l : Launch) (Γ : GG) (sk : List SD) (hsk : ExtM sk) (fu : Nat) {M M' : Mem} {a1 : Int} {a2 : Int} {r : Int} (ha1 : rng a1) (ha2 : rng a2) (h : f_X12_comparisonCost fu M a1 a2 = some (M', r)) : MetI l yX12_comparisonCost cX12_comparisonCost 3 .int ({ frames := 28, cells := 0, slots := 0, locals := 943 } : Room) Γ sk [vr Γ 52, vi a1, vi a2] M M' r := by
  unfold f_X12_comparisonCost at h
  refine MetI_of RX12 rfl (by decide) rfl (Nat.le_of_ble_eq_true rfl) rfl ?_
  intro p e s m args below meth c C hr hlk hM
  have e52 := hsk 52 _ (by decide) rfl
  refine V_aload_n (pc := 0) C 0 rfl dX12_comparisonCost_0 ?_
  refine V_iload_n (pc := 1) C 1 rfl dX12_comparisonCost_1 ?_
  refine V_iload_n (pc := 2) C 2 rfl dX12_comparisonCost_2 ?_
  obtain ⟨M1, r2, hc3, h⟩ := cal_of h
  refine V_callVI (pc := 3) C (c_X12_checkTwo l Γ sk hsk fu ha1 ha2 hc3) cf_X12_checkTwo lk_X12_358 ⟨rfl, rfl⟩ ⟨Nat.le_of_ble_eq_true rfl, Nat.le_of_ble_eq_true rfl⟩ e52 rfl rfl rfl (Nat.le_of_ble_eq_true rfl) ⟨Nat.zero_le _, Nat.zero_le _⟩ rfl dX12_comparisonCost_3 (fun hr2 => ?_)
  refine V_if_ne (pc := 6) C 11 hr2 dX12_comparisonCost_6 (by decide) (fun c6_4 => ?_) (fun c6_4 => ?_)
  · have h := ite_f h c6_4
    refine V_aload_n (pc := 11) C 0 rfl dX12_comparisonCost_11 ?_
    refine V_iload_n (pc := 12) C 1 rfl dX12_comparisonCost_12 ?_
    obtain ⟨M5, r6, hc7, h⟩ := cal_of h
    refine V_callVI (pc := 13) C (c_X12_heightOf l Γ sk hsk fu ha1 hc7) cf_X12_heightOf lk_X12_148 ⟨rfl, rfl⟩ ⟨Nat.le_of_ble_eq_true rfl, Nat.le_of_ble_eq_true rfl⟩ e52 rfl rfl rfl (Nat.le_of_ble_eq_true rfl) ⟨Nat.zero_le _, Nat.zero_le _⟩ rfl dX12_comparisonCost_13 (fun hr6 => ?_)
    refine V_aload_n (pc := 16) C 0 rfl dX12_comparisonCost_16 ?_
    refine V_iload_n (pc := 17) C 2 rfl dX12_comparisonCost_17 ?_
    obtain ⟨M8, r9, hc10, h⟩ := cal_of h
    refine V_callVI (pc := 18) C (c_X12_heightOf l Γ sk hsk fu ha2 hc10) cf_X12_heightOf lk_X12_148 ⟨rfl, rfl⟩ ⟨Nat.le_of_ble_eq_true rfl, Nat.le_of_ble_eq_true rfl⟩ e52 rfl rfl rfl (Nat.le_of_ble_eq_true rfl) ⟨Nat.zero_le _, Nat.zero_le _⟩ rfl dX12_comparisonCost_18 (fun hr9 => ?_)
    refine V_icmp_eq (pc := 21) C 26 hr6 hr9 dX12_comparisonCost_21 (by decide) (fun c21_11 => ?_) (fun c21_11 => ?_)
    · have h := ite_t h c21_11
      refine V_aload_n (pc := 26) C 0 rfl dX12_comparisonCost_26 ?_
      refine V_aload_n (pc := 27) C 0 rfl dX12_comparisonCost_27 ?_
      refine V_iload_n (pc := 28) C 1 rfl dX12_comparisonCost_28 ?_
      obtain ⟨M12, r13, hc14, h⟩ := cal_of h
      refine V_callVI (pc := 29) C (c_X12_root l Γ sk hsk fu ha1 hc14) cf_X12_root lk_X12_145 ⟨rfl, rfl⟩ ⟨Nat.le_of_ble_eq_true rfl, Nat.le_of_ble_eq_true rfl⟩ e52 rfl rfl rfl (Nat.le_of_ble_eq_true rfl) ⟨Nat.zero_le _, Nat.zero_le _⟩ rfl dX12_comparisonCost_29 (fun hr13 => ?_)
      refine V_aload_n (pc := 32) C 0 rfl dX12_comparisonCost_32 ?_
      refine V_iload_n (pc := 33) C 2 rfl dX12_comparisonCost_33 ?_
      obtain ⟨M15, r16, hc17, h⟩ := cal_of h
      refine V_callVI (pc := 34) C (c_X12_root l Γ sk hsk fu ha2 hc17) cf_X12_root lk_X12_145 ⟨rfl, rfl⟩ ⟨Nat.le_of_ble_eq_true rfl, Nat.le_of_ble_eq_true rfl⟩ e52 rfl rfl rfl (Nat.le_of_ble_eq_true rfl) ⟨Nat.zero_le _, Nat.zero_le _⟩ rfl dX12_comparisonCost_34 (fun hr16 => ?_)
      obtain ⟨M18, r19, hc20, h⟩ := cal_of h
      refine V_callVI (pc := 37) C (c_X12_cost l Γ sk hsk fu 8 hr13 hr16 hc20) cf_X12_cost lk_X12_376 ⟨rfl, rfl⟩ ⟨Nat.le_of_ble_eq_true rfl, Nat.le_of_ble_eq_true rfl⟩ e52 rfl rfl rfl (Nat.le_of_ble_eq_true rfl) ⟨Nat.zero_le _, Nat.zero_le _⟩ rfl dX12_comparisonCost_37 (fun hr19 => ?_)
      exact V_iret (pc := 40) C hr hlk hr19 h dX12_comparisonCost_40
    · have h := ite_f h c21_11
      refine V_iconst (pc := 24) C dX12_comparisonCost_24 ?_
      exact V_iret (pc := 25) C hr hlk (by decide) h dX12_comparisonCost_25
  · have h := ite_t h c6_4
    refine V_iconst (pc := 9) C dX12_comparisonCost_9 ?_
    exact V_iret (pc := 10) C hr hlk (by decide) h dX12_comparisonCost_10
set_option maxRecDepth 100000 in
set_option maxHeartbeats 4000000 in
theorem c_X12_nodesForSet (l : Launch) (Γ : GG) (sk : List SD) (hsk : ExtM sk) (fu : Nat) {M M' : Mem} {a1 : Int} {a2 : Int} {a3 : Int} {r : Int} (ha1 : rng a1) (ha2 : rng a2) (ha3 : rng a3) (h : f_X12_nodesForSet fu M a1 a2 a3 = some (M', r)) : MetI l yX12_nodesForSet cX12_nodesForSet 6 .int ({ frames := 3, cells := 0, slots := 0, locals := 68 } : Room) Γ sk [vr Γ 52, vi a1, vi a2, vi a3] M M' r := by
  unfold f_X12_nodesForSet at h
  refine MetI_of RX12 rfl (by decide) rfl (Nat.le_of_ble_eq_true rfl) rfl ?_
  intro p e s m args below meth c C hr hlk hM
  have e52 := hsk 52 _ (by decide) rfl
  have JP49 : ∀ {x1 : Int} {x2 : Int} {x3 : Int} {y1 : Int} {y2 : Int} {y3 : Int} {M : Mem}, rng x1 → rng x2 → rng x3 → rng y1 → rng y2 → rng y3 → f_X12_nodesForSet_J49 fu x1 x2 x3 y1 y2 y3 M = some (M', r) → VV p l e ({ frames := 3, cells := 0, slots := 0, locals := 68 } : Room) s m args below meth c (MQ below (PostI Γ sk M' r s.heap.size) args s 0 0 (Fr Γ sk s.heap.size)) 6 Γ sk M 0 0 49 [(0, vr Γ 52), (1, vi x1), (2, vi x2), (3, vi x3)] [vi y3, vi y2, vi y1, vr Γ 52] := by
    intro x1 x2 x3 y1 y2 y3 M hx1 hx2 hx3 hy1 hy2 hy3 h
    unfold f_X12_nodesForSet_J49 at h
    obtain ⟨M8, r9, hc10, h⟩ := cal_of h
    refine V_callVI (pc := 49) C (c_X12_check l Γ sk hsk fu hy1 hy2 hy3 hc10) cf_X12_check lk_X12_330 ⟨rfl, rfl⟩ ⟨Nat.le_of_ble_eq_true rfl, Nat.le_of_ble_eq_true rfl⟩ e52 rfl rfl rfl (Nat.le_of_ble_eq_true rfl) ⟨Nat.zero_le _, Nat.zero_le _⟩ rfl dX12_nodesForSet_49 (fun hr9 => ?_)
    refine V_if_ne (pc := 52) C 57 hr9 dX12_nodesForSet_52 (by decide) (fun c52_11 => ?_) (fun c52_11 => ?_)
    · have h := ite_f h c52_11
      refine V_aload_n (pc := 57) C 0 rfl dX12_nodesForSet_57 ?_
      refine V_iload_n (pc := 58) C 1 rfl dX12_nodesForSet_58 ?_
      refine V_iload_n (pc := 59) C 2 rfl dX12_nodesForSet_59 ?_
      obtain ⟨M12, r13, hc14, h⟩ := cal_of h
      refine V_callVI (pc := 60) C (c_X12_element l Γ sk hsk fu hx1 hx2 hc14) cf_X12_element lk_X12_129 ⟨rfl, rfl⟩ ⟨Nat.le_of_ble_eq_true rfl, Nat.le_of_ble_eq_true rfl⟩ e52 rfl rfl rfl (Nat.le_of_ble_eq_true rfl) ⟨Nat.zero_le _, Nat.zero_le _⟩ rfl dX12_nodesForSet_60 (fun hr13 => ?_)
      refine V_iload_n (pc := 63) C 3 rfl dX12_nodesForSet_63 ?_
      refine V_icmp_ne (pc := 64) C 71 hr13 hx3 dX12_nodesForSet_64 (by decide) (fun c64_15 => ?_) (fun c64_15 => ?_)
      · have h := ite_f h c64_15
        refine V_aload_n (pc := 71) C 0 rfl dX12_nodesForSet_71 ?_
        refine V_iload_n (pc := 72) C 1 rfl dX12_nodesForSet_72 ?_
        obtain ⟨M16, r17, hc18, h⟩ := cal_of h
        refine V_callVI (pc := 73) C (c_X12_heightOf l Γ sk hsk fu hx1 hc18) cf_X12_heightOf lk_X12_148 ⟨rfl, rfl⟩ ⟨Nat.le_of_ble_eq_true rfl, Nat.le_of_ble_eq_true rfl⟩ e52 rfl rfl rfl (Nat.le_of_ble_eq_true rfl) ⟨Nat.zero_le _, Nat.zero_le _⟩ rfl dX12_nodesForSet_73 (fun hr17 => ?_)
        exact V_iret (pc := 76) C hr hlk hr17 h dX12_nodesForSet_76
      · have h := ite_t h c64_15
        refine V_iconst (pc := 67) C dX12_nodesForSet_67 ?_
        refine V_goto (pc := 68) C 76 dX12_nodesForSet_68 (by decide) ?_
        exact V_iret (pc := 76) C hr hlk (by decide) h dX12_nodesForSet_76
    · have h := ite_t h c52_11
      refine V_iconst (pc := 55) C dX12_nodesForSet_55 ?_
      exact V_iret (pc := 56) C hr hlk (by decide) h dX12_nodesForSet_56
  have JP48 : ∀ {x1 : Int} {x2 : Int} {x3 : Int} {y1 : Int} {y2 : Int} {M : Mem}, rng x1 → rng x2 → rng x3 → rng y1 → rng y2 → f_X12_nodesForSet_J48 fu x1 x2 x3 y1 y2 M = some (M', r) → VV p l e ({ frames := 3, cells := 0, slots := 0, locals := 68 } : Room) s m args below meth c (MQ below (PostI Γ sk M' r s.heap.size) args s 0 0 (Fr Γ sk s.heap.size)) 6 Γ sk M 0 0 48 [(0, vr Γ 52), (1, vi x1), (2, vi x2), (3, vi x3)] [vi y2, vi y1, vr Γ 52] := by
    intro x1 x2 x3 y1 y2 M hx1 hx2 hx3 hy1 hy2 h
    unfold f_X12_nodesForSet_J48 at h
    refine V_iconst (pc := 48) C dX12_nodesForSet_48 ?_
    refine V_sub (L' := [(0, vr Γ 52), (1, vi x1), (2, vi x2), (3, vi x3)]) [0, 1, 2, 3] rfl (by decide) ?_
    exact JP49 hx1 hx2 hx3 hy1 hy2 (by decide) h
  skip
  refine V_aload_n (pc := 0) C 0 rfl dX12_nodesForSet_0 ?_
  refine V_iload_n (pc := 1) C 1 rfl dX12_nodesForSet_1 ?_
  refine V_iload_n (pc := 2) C 2 rfl dX12_nodesForSet_2 ?_
  obtain ⟨M1, r2, hc3, h⟩ := cal_of h
  refine V_callVI (pc := 3) C (c_X12_hasElement l Γ sk hsk fu ha1 ha2 hc3) cf_X12_hasElement lk_X12_340 ⟨rfl, rfl⟩ ⟨Nat.le_of_ble_eq_true rfl, Nat.le_of_ble_eq_true rfl⟩ e52 rfl rfl rfl (Nat.le_of_ble_eq_true rfl) ⟨Nat.zero_le _, Nat.zero_le _⟩ rfl dX12_nodesForSet_3 (fun hr2 => ?_)
  refine V_istore (pc := 6) C (L' := [(0, vr Γ 52), (1, vi a1), (2, vi a2), (3, vi a3), (4, vi r2)]) rfl (by decide) dX12_nodesForSet_6 ?_
  refine V_iload_n (pc := 8) C 3 rfl dX12_nodesForSet_8 ?_
  refine V_i2l (pc := 9) C ha3 dX12_nodesForSet_9 ?_
  refine V_ldc2 (pc := 10) C (x := (-999 : Int)) lc_X12_379 rfl dX12_nodesForSet_10 ?_
  refine V_ldc2 (pc := 13) C (x := (999 : Int)) lc_X12_381 rfl dX12_nodesForSet_13 ?_
  obtain ⟨M4, r5, hc6, h⟩ := cal_of h
  refine V_callSI (pc := 16) C (c_X12_isWithin l Γ sk hsk fu ha3 (by decide) (by decide) hc6) cf_X12_isWithin lk_X12_167 ⟨rfl, rfl⟩ ⟨Nat.le_of_ble_eq_true rfl, Nat.le_of_ble_eq_true rfl⟩ rfl (Nat.le_of_ble_eq_true rfl) ⟨Nat.zero_le _, Nat.zero_le _⟩ rfl dX12_nodesForSet_16 (fun hr5 => ?_)
  refine V_istore (pc := 19) C (L' := [(0, vr Γ 52), (1, vi a1), (2, vi a2), (3, vi a3), (4, vi r2), (5, vi r5)]) rfl (by decide) dX12_nodesForSet_19 ?_
  refine V_aload_n (pc := 21) C 0 rfl dX12_nodesForSet_21 ?_
  refine V_iload (pc := 22) C 4 rfl dX12_nodesForSet_22 ?_
  refine V_iload (pc := 24) C 5 rfl dX12_nodesForSet_24 ?_
  refine V_iload (pc := 26) C 4 rfl dX12_nodesForSet_26 ?_
  refine V_if_eq (pc := 28) C 48 hr2 dX12_nodesForSet_28 (by decide) (fun c28_7 => ?_) (fun c28_7 => ?_)
  · have h := ite_t h c28_7
    refine V_sub (L' := [(0, vr Γ 52), (1, vi a1), (2, vi a2), (3, vi a3)]) [0, 1, 2, 3] rfl (by decide) ?_
    exact JP48 ha1 ha2 ha3 hr2 hr5 h
  · have h := ite_f h c28_7
    refine V_iload (pc := 31) C 5 rfl dX12_nodesForSet_31 ?_
    refine V_if_eq (pc := 33) C 48 hr5 dX12_nodesForSet_33 (by decide) (fun c33_19 => ?_) (fun c33_19 => ?_)
    · have h := ite_t h c33_19
      refine V_sub (L' := [(0, vr Γ 52), (1, vi a1), (2, vi a2), (3, vi a3)]) [0, 1, 2, 3] rfl (by decide) ?_
      exact JP48 ha1 ha2 ha3 hr2 hr5 h
    · have h := ite_f h c33_19
      refine V_aload_n (pc := 36) C 0 rfl dX12_nodesForSet_36 ?_
      refine V_iload_n (pc := 37) C 1 rfl dX12_nodesForSet_37 ?_
      obtain ⟨M20, r21, hc22, h⟩ := cal_of h
      refine V_callVI (pc := 38) C (c_X12_isGone l Γ sk hsk fu ha1 hc22) cf_X12_isGone lk_X12_164 ⟨rfl, rfl⟩ ⟨Nat.le_of_ble_eq_true rfl, Nat.le_of_ble_eq_true rfl⟩ e52 rfl rfl rfl (Nat.le_of_ble_eq_true rfl) ⟨Nat.zero_le _, Nat.zero_le _⟩ rfl dX12_nodesForSet_38 (fun hr21 => ?_)
      refine V_if_ne (pc := 41) C 48 hr21 dX12_nodesForSet_41 (by decide) (fun c41_23 => ?_) (fun c41_23 => ?_)
      · have h := ite_f h c41_23
        refine V_sub (L' := [(0, vr Γ 52), (1, vi a1), (2, vi a2), (3, vi a3)]) [0, 1, 2, 3] rfl (by decide) ?_
        exact JP48 ha1 ha2 ha3 hr2 hr5 h
      · have h := ite_t h c41_23
        refine V_iconst (pc := 44) C dX12_nodesForSet_44 ?_
        refine V_goto (pc := 45) C 49 dX12_nodesForSet_45 (by decide) ?_
        refine V_sub (L' := [(0, vr Γ 52), (1, vi a1), (2, vi a2), (3, vi a3)]) [0, 1, 2, 3] rfl (by decide) ?_
        exact JP49 ha1 ha2 ha3 hr2 hr5 (by decide) h
set_option maxRecDepth 100000 in
set_option maxHeartbeats 4000000 in
theorem c_X12_nodesForAppend (l : Launch) (Γ : GG) (sk : List SD) (hsk : ExtM sk) (fu : Nat) {M M' : Mem} {a1 : Int} {r : Int} (ha1 : rng a1) (h : f_X12_nodesForAppend fu M a1 = some (M', r)) : MetI l yX12_nodesForAppend cX12_nodesForAppend 3 .int ({ frames := 3, cells := 0, slots := 0, locals := 68 } : Room) Γ sk [vr Γ 52, vi a1] M M' r := by
  unfold f_X12_nodesForAppend at h
  refine MetI_of RX12 rfl (by decide) rfl (Nat.le_of_ble_eq_true rfl) rfl ?_
  intro p e s m args below meth c C hr hlk hM
  have e52 := hsk 52 _ (by decide) rfl
  refine V_aload_n (pc := 0) C 0 rfl dX12_nodesForAppend_0 ?_
  refine V_iload_n (pc := 1) C 1 rfl dX12_nodesForAppend_1 ?_
  obtain ⟨M1, r2, hc3, h⟩ := cal_of h
  refine V_callVI (pc := 2) C (c_X12_checkLive l Γ sk hsk fu ha1 hc3) cf_X12_checkLive lk_X12_343 ⟨rfl, rfl⟩ ⟨Nat.le_of_ble_eq_true rfl, Nat.le_of_ble_eq_true rfl⟩ e52 rfl rfl rfl (Nat.le_of_ble_eq_true rfl) ⟨Nat.zero_le _, Nat.zero_le _⟩ rfl dX12_nodesForAppend_2 (fun hr2 => ?_)
  refine V_if_ne (pc := 5) C 10 hr2 dX12_nodesForAppend_5 (by decide) (fun c5_4 => ?_) (fun c5_4 => ?_)
  · have h := ite_f h c5_4
    refine V_aload_n (pc := 10) C 0 rfl dX12_nodesForAppend_10 ?_
    refine V_iload_n (pc := 11) C 1 rfl dX12_nodesForAppend_11 ?_
    obtain ⟨M5, r6, hc7, h⟩ := cal_of h
    refine V_callVI (pc := 12) C (c_X12_lengthOf l Γ sk hsk fu ha1 hc7) cf_X12_lengthOf lk_X12_121 ⟨rfl, rfl⟩ ⟨Nat.le_of_ble_eq_true rfl, Nat.le_of_ble_eq_true rfl⟩ e52 rfl rfl rfl (Nat.le_of_ble_eq_true rfl) ⟨Nat.zero_le _, Nat.zero_le _⟩ rfl dX12_nodesForAppend_12 (fun hr6 => ?_)
    refine V_istore_n (pc := 15) C (L' := [(0, vr Γ 52), (1, vi a1), (2, vi r6)]) rfl (by decide) dX12_nodesForAppend_15 ?_
    refine V_iload_n (pc := 16) C 2 rfl dX12_nodesForAppend_16 ?_
    refine V_bipush (pc := 17) C dX12_nodesForAppend_17 rfl ?_
    refine V_icmp_ne (pc := 19) C 26 hr6 (by decide) dX12_nodesForAppend_19 (by decide) (fun c19_8 => ?_) (fun c19_8 => ?_)
    · have h := ite_f h c19_8
      refine V_iload_n (pc := 26) C 2 rfl dX12_nodesForAppend_26 ?_
      refine V_iconst (pc := 27) C dX12_nodesForAppend_27 ?_
      refine V_iadd (pc := 28) C dX12_nodesForAppend_28 ?_
      obtain ⟨g9, h⟩ := grd_of h
      obtain ⟨M10, r11, hc12, h⟩ := cal_of h
      refine V_callSI (pc := 29) C (c_X12_heightFor l Γ sk hsk fu g9 hc12) cf_X12_heightFor lk_X12_118 ⟨rfl, rfl⟩ ⟨Nat.le_of_ble_eq_true rfl, Nat.le_of_ble_eq_true rfl⟩ rfl (Nat.le_of_ble_eq_true rfl) ⟨Nat.zero_le _, Nat.zero_le _⟩ rfl dX12_nodesForAppend_29 (fun hr11 => ?_)
      exact V_iret (pc := 32) C hr hlk hr11 h dX12_nodesForAppend_32
    · have h := ite_t h c19_8
      refine V_iconst (pc := 22) C dX12_nodesForAppend_22 ?_
      refine V_goto (pc := 23) C 32 dX12_nodesForAppend_23 (by decide) ?_
      exact V_iret (pc := 32) C hr hlk (by decide) h dX12_nodesForAppend_32
  · have h := ite_t h c5_4
    refine V_iconst (pc := 8) C dX12_nodesForAppend_8 ?_
    exact V_iret (pc := 9) C hr hlk (by decide) h dX12_nodesForAppend_9
set_option maxRecDepth 100000 in
set_option maxHeartbeats 4000000 in
theorem c_X12_garbageIfReleased (l : Launch) (Γ : GG) (sk : List SD) (hsk : ExtM sk) (fu : Nat) {M M' : Mem} {a1 : Int} {r : Int} (ha1 : rng a1) (h : f_X12_garbageIfReleased fu M a1 = some (M', r)) : MetI l yX12_garbageIfReleased cX12_garbageIfReleased 2 .int ({ frames := 30, cells := 0, slots := 0, locals := 984 } : Room) Γ sk [vr Γ 52, vi a1] M M' r := by
  unfold f_X12_garbageIfReleased at h
  refine MetI_of RX12 rfl (by decide) rfl (Nat.le_of_ble_eq_true rfl) rfl ?_
  intro p e s m args below meth c C hr hlk hM
  have e52 := hsk 52 _ (by decide) rfl
  refine V_aload_n (pc := 0) C 0 rfl dX12_garbageIfReleased_0 ?_
  refine V_iload_n (pc := 1) C 1 rfl dX12_garbageIfReleased_1 ?_
  obtain ⟨M1, r2, hc3, h⟩ := cal_of h
  refine V_callVI (pc := 2) C (c_X12_checkLive l Γ sk hsk fu ha1 hc3) cf_X12_checkLive lk_X12_343 ⟨rfl, rfl⟩ ⟨Nat.le_of_ble_eq_true rfl, Nat.le_of_ble_eq_true rfl⟩ e52 rfl rfl rfl (Nat.le_of_ble_eq_true rfl) ⟨Nat.zero_le _, Nat.zero_le _⟩ rfl dX12_garbageIfReleased_2 (fun hr2 => ?_)
  refine V_if_eq (pc := 5) C 16 hr2 dX12_garbageIfReleased_5 (by decide) (fun c5_4 => ?_) (fun c5_4 => ?_)
  · have h := ite_t h c5_4
    refine V_iconst (pc := 16) C dX12_garbageIfReleased_16 ?_
    exact V_iret (pc := 17) C hr hlk (by decide) h dX12_garbageIfReleased_17
  · have h := ite_f h c5_4
    refine V_aload_n (pc := 8) C 0 rfl dX12_garbageIfReleased_8 ?_
    refine V_iload_n (pc := 9) C 1 rfl dX12_garbageIfReleased_9 ?_
    obtain ⟨M5, r6, hc7, h⟩ := cal_of h
    refine V_callVI (pc := 10) C (c_X12_countExclusive l Γ sk hsk fu ha1 hc7) cf_X12_countExclusive lk_X12_364 ⟨rfl, rfl⟩ ⟨Nat.le_of_ble_eq_true rfl, Nat.le_of_ble_eq_true rfl⟩ e52 rfl rfl rfl (Nat.le_of_ble_eq_true rfl) ⟨Nat.zero_le _, Nat.zero_le _⟩ rfl dX12_garbageIfReleased_10 (fun hr6 => ?_)
    refine V_goto (pc := 13) C 17 dX12_garbageIfReleased_13 (by decide) ?_
    exact V_iret (pc := 17) C hr hlk hr6 h dX12_garbageIfReleased_17
set_option maxRecDepth 100000 in
set_option maxHeartbeats 4000000 in
theorem c_X12_largestVersion (l : Launch) (Γ : GG) (sk : List SD) (hsk : ExtM sk) (fu : Nat) {M M' : Mem}  {r : Int}  (h : f_X12_largestVersion fu M  = some (M', r)) : MetI l yX12_largestVersion cX12_largestVersion 3 .int ({ frames := 2, cells := 0, slots := 0, locals := 41 } : Room) Γ sk [vr Γ 52] M M' r := by
  unfold f_X12_largestVersion at h
  refine MetI_of RX12 rfl (by decide) rfl (Nat.le_of_ble_eq_true rfl) rfl ?_
  intro p e s m args below meth c C hr hlk hM
  have e52 := hsk 52 _ (by decide) rfl
  have e53 := hsk 53 _ (by decide) rfl
  have LP9 : ∀ (n : Nat) {x1 : Int} {x2 : Int} {M : Mem}, rng x1 → rng x2 → f_X12_largestVersion_L9 fu n x1 x2 M = some (M', r) → VV p l e ({ frames := 2, cells := 0, slots := 0, locals := 41 } : Room) s m args below meth c (MQ below (PostI Γ sk M' r s.heap.size) args s 0 0 (Fr Γ sk s.heap.size)) 3 Γ sk M 0 0 9 [(0, vr Γ 52), (1, vi x1), (2, vi x2)] [] := by
    intro n
    induction n with
    | zero =>
      intro x1 x2 M hx1 hx2 h
      cases h
    | succ n ih =>
      intro x1 x2 M hx1 hx2 h
      rw [f_X12_largestVersion_L9] at h
      refine V_iload_n (pc := 9) C 2 rfl dX12_largestVersion_9 ?_
      refine V_aload_n (pc := 10) C 0 rfl dX12_largestVersion_10 ?_
      refine V_getR (pc := 11) C e52 rfl inX12 0 (by decide) rfl lf_X12_9 rfl dX12_largestVersion_11 ?_
      refine V_iconst (pc := 14) C dX12_largestVersion_14 ?_
      refine V_rng fun hM1 => ?_
      obtain ⟨g2, h⟩ := grd_of h
      refine V_iald (pc := 15) C e53 g2 (by decide) dX12_largestVersion_15 ?_
      refine V_icmp_ge (pc := 16) C 53 hx2 (hM1 _ _) dX12_largestVersion_16 (by decide) (fun c16_3 => ?_) (fun c16_3 => ?_)
      · have h := ite_t h c16_3
        refine V_iload_n (pc := 53) C 1 rfl dX12_largestVersion_53 ?_
        exact V_iret (pc := 54) C hr hlk hx1 h dX12_largestVersion_54
      · have h := ite_f h c16_3
        refine V_aload_n (pc := 19) C 0 rfl dX12_largestVersion_19 ?_
        refine V_iload_n (pc := 20) C 2 rfl dX12_largestVersion_20 ?_
        obtain ⟨M4, r5, hc6, h⟩ := cal_of h
        refine V_callVI (pc := 21) C (c_X12_isGone l Γ sk hsk fu hx2 hc6) cf_X12_isGone lk_X12_164 ⟨rfl, rfl⟩ ⟨Nat.le_of_ble_eq_true rfl, Nat.le_of_ble_eq_true rfl⟩ e52 rfl rfl rfl (Nat.le_of_ble_eq_true rfl) ⟨Nat.zero_le _, Nat.zero_le _⟩ rfl dX12_largestVersion_21 (fun hr5 => ?_)
        refine V_if_ne (pc := 24) C 47 hr5 dX12_largestVersion_24 (by decide) (fun c24_7 => ?_) (fun c24_7 => ?_)
        · have h := ite_f h c24_7
          refine V_iinc (pc := 47) C (L' := [(0, vr Γ 52), (1, vi x1), (2, vi (x2 + (1 : Int)))]) 2 rfl rfl (by decide) dX12_largestVersion_47 ?_
          refine V_goto (pc := 50) C 9 dX12_largestVersion_50 (by decide) ?_
          obtain ⟨g8, h⟩ := grd_of h
          refine V_sub (L' := [(0, vr Γ 52), (1, vi x1), (2, vi (x2 + (1 : Int)))]) [0, 1, 2] rfl (by decide) ?_
          exact ih hx1 g8 h
        · have h := ite_t h c24_7
          refine V_iload_n (pc := 27) C 1 rfl dX12_largestVersion_27 ?_
          refine V_iconst (pc := 28) C dX12_largestVersion_28 ?_
          refine V_icmp_eq (pc := 29) C 45 hx1 (by decide) dX12_largestVersion_29 (by decide) (fun c29_9 => ?_) (fun c29_9 => ?_)
          · have h := ite_t h c29_9
            refine V_iload_n (pc := 45) C 2 rfl dX12_largestVersion_45 ?_
            refine V_istore_n (pc := 46) C (L' := [(0, vr Γ 52), (1, vi x2), (2, vi x2)]) rfl (by decide) dX12_largestVersion_46 ?_
            refine V_iinc (pc := 47) C (L' := [(0, vr Γ 52), (1, vi x2), (2, vi (x2 + (1 : Int)))]) 2 rfl rfl (by decide) dX12_largestVersion_47 ?_
            refine V_goto (pc := 50) C 9 dX12_largestVersion_50 (by decide) ?_
            obtain ⟨g10, h⟩ := grd_of h
            refine V_sub (L' := [(0, vr Γ 52), (1, vi x2), (2, vi (x2 + (1 : Int)))]) [0, 1, 2] rfl (by decide) ?_
            exact ih hx2 g10 h
          · have h := ite_f h c29_9
            refine V_aload_n (pc := 32) C 0 rfl dX12_largestVersion_32 ?_
            refine V_iload_n (pc := 33) C 2 rfl dX12_largestVersion_33 ?_
            obtain ⟨M11, r12, hc13, h⟩ := cal_of h
            refine V_callVI (pc := 34) C (c_X12_lengthOf l Γ sk hsk fu hx2 hc13) cf_X12_lengthOf lk_X12_121 ⟨rfl, rfl⟩ ⟨Nat.le_of_ble_eq_true rfl, Nat.le_of_ble_eq_true rfl⟩ e52 rfl rfl rfl (Nat.le_of_ble_eq_true rfl) ⟨Nat.zero_le _, Nat.zero_le _⟩ rfl dX12_largestVersion_34 (fun hr12 => ?_)
            refine V_aload_n (pc := 37) C 0 rfl dX12_largestVersion_37 ?_
            refine V_iload_n (pc := 38) C 1 rfl dX12_largestVersion_38 ?_
            obtain ⟨M14, r15, hc16, h⟩ := cal_of h
            refine V_callVI (pc := 39) C (c_X12_lengthOf l Γ sk hsk fu hx1 hc16) cf_X12_lengthOf lk_X12_121 ⟨rfl, rfl⟩ ⟨Nat.le_of_ble_eq_true rfl, Nat.le_of_ble_eq_true rfl⟩ e52 rfl rfl rfl (Nat.le_of_ble_eq_true rfl) ⟨Nat.zero_le _, Nat.zero_le _⟩ rfl dX12_largestVersion_39 (fun hr15 => ?_)
            refine V_icmp_le (pc := 42) C 47 hr12 hr15 dX12_largestVersion_42 (by decide) (fun c42_17 => ?_) (fun c42_17 => ?_)
            · have h := ite_t h c42_17
              refine V_iinc (pc := 47) C (L' := [(0, vr Γ 52), (1, vi x1), (2, vi (x2 + (1 : Int)))]) 2 rfl rfl (by decide) dX12_largestVersion_47 ?_
              refine V_goto (pc := 50) C 9 dX12_largestVersion_50 (by decide) ?_
              obtain ⟨g18, h⟩ := grd_of h
              refine V_sub (L' := [(0, vr Γ 52), (1, vi x1), (2, vi (x2 + (1 : Int)))]) [0, 1, 2] rfl (by decide) ?_
              exact ih hx1 g18 h
            · have h := ite_f h c42_17
              refine V_iload_n (pc := 45) C 2 rfl dX12_largestVersion_45 ?_
              refine V_istore_n (pc := 46) C (L' := [(0, vr Γ 52), (1, vi x2), (2, vi x2)]) rfl (by decide) dX12_largestVersion_46 ?_
              refine V_iinc (pc := 47) C (L' := [(0, vr Γ 52), (1, vi x2), (2, vi (x2 + (1 : Int)))]) 2 rfl rfl (by decide) dX12_largestVersion_47 ?_
              refine V_goto (pc := 50) C 9 dX12_largestVersion_50 (by decide) ?_
              obtain ⟨g19, h⟩ := grd_of h
              refine V_sub (L' := [(0, vr Γ 52), (1, vi x2), (2, vi (x2 + (1 : Int)))]) [0, 1, 2] rfl (by decide) ?_
              exact ih hx2 g19 h
  skip
  refine V_aload_n (pc := 0) C 0 rfl dX12_largestVersion_0 ?_
  refine V_iconst (pc := 1) C dX12_largestVersion_1 ?_
  refine V_putI (pc := 2) C (by decide) e52 rfl inX12 tyX12 tyX12_ok nmX12 6 (by decide) rfl rfl lf_X12_58 rfl (by decide) rfl dX12_largestVersion_2 ?_
  refine V_iconst (pc := 5) C dX12_largestVersion_5 ?_
  refine V_istore_n (pc := 6) C (L' := [(0, vr Γ 52), (1, vi (-1 : Int))]) rfl (by decide) dX12_largestVersion_6 ?_
  refine V_iconst (pc := 7) C dX12_largestVersion_7 ?_
  refine V_istore_n (pc := 8) C (L' := [(0, vr Γ 52), (1, vi (-1 : Int)), (2, vi (0 : Int))]) rfl (by decide) dX12_largestVersion_8 ?_
  refine V_sub (L' := [(0, vr Γ 52), (1, vi (-1 : Int)), (2, vi (0 : Int))]) [0, 1, 2] rfl (by decide) ?_
  exact LP9 fu  (by decide) (by decide) h
