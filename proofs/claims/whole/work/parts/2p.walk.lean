set_option maxRecDepth 100000 in
set_option maxHeartbeats 4000000 in
theorem c_X12_sum (l : Launch) (Γ : GG) (sk : List SD) (hsk : ExtM sk) (fu : Nat) {M M' : Mem} {a1 : Int} {r : Int} (ha1 : rng a1) (h : f_X12_sum fu M a1 = some (M', r)) : MetI l yX12_sum cX12_sum 4 .int ({ frames := 3, cells := 0, slots := 0, locals := 68 } : Room) Γ sk [vr Γ 52, vi a1] M M' r := by
  unfold f_X12_sum at h
  refine MetI_of RX12 rfl (by decide) rfl (Nat.le_of_ble_eq_true rfl) rfl ?_
  intro p e s m args below meth c C hr hlk hM
  have e52 := hsk 52 _ (by decide) rfl
  have LP14 : ∀ (n : Nat) {x1 : Int} {x2 : Int} {x3 : Int} {M : Mem}, rng x1 → rng x2 → rng x3 → f_X12_sum_L14 fu n x1 x2 x3 M = some (M', r) → VV p l e ({ frames := 3, cells := 0, slots := 0, locals := 68 } : Room) s m args below meth c (MQ below (PostI Γ sk M' r s.heap.size) args s 0 0 (Fr Γ sk s.heap.size)) 4 Γ sk M 0 0 14 [(0, vr Γ 52), (1, vi x1), (2, vi x2), (3, vi x3)] [] := by
    intro n
    induction n with
    | zero =>
      intro x1 x2 x3 M hx1 hx2 hx3 h
      cases h
    | succ n ih =>
      intro x1 x2 x3 M hx1 hx2 hx3 h
      rw [f_X12_sum_L14] at h
      refine V_iload_n (pc := 14) C 3 rfl dX12_sum_14 ?_
      refine V_aload_n (pc := 15) C 0 rfl dX12_sum_15 ?_
      refine V_iload_n (pc := 16) C 1 rfl dX12_sum_16 ?_
      obtain ⟨M5, r6, hc7, h⟩ := cal_of h
      refine V_callVI (pc := 17) C (c_X12_lengthOf l Γ sk hsk fu hx1 hc7) cf_X12_lengthOf lk_X12_121 ⟨rfl, rfl⟩ ⟨Nat.le_of_ble_eq_true rfl, Nat.le_of_ble_eq_true rfl⟩ e52 rfl rfl rfl (Nat.le_of_ble_eq_true rfl) ⟨Nat.zero_le _, Nat.zero_le _⟩ rfl dX12_sum_17 (fun hr6 => ?_)
      refine V_icmp_ge (pc := 20) C 38 hx3 hr6 dX12_sum_20 (by decide) (fun c20_8 => ?_) (fun c20_8 => ?_)
      · have h := ite_t h c20_8
        refine V_iload_n (pc := 38) C 2 rfl dX12_sum_38 ?_
        exact V_iret (pc := 39) C hr hlk hx2 h dX12_sum_39
      · have h := ite_f h c20_8
        refine V_iload_n (pc := 23) C 2 rfl dX12_sum_23 ?_
        refine V_aload_n (pc := 24) C 0 rfl dX12_sum_24 ?_
        refine V_iload_n (pc := 25) C 1 rfl dX12_sum_25 ?_
        refine V_iload_n (pc := 26) C 3 rfl dX12_sum_26 ?_
        obtain ⟨M9, r10, hc11, h⟩ := cal_of h
        refine V_callVI (pc := 27) C (c_X12_element l Γ sk hsk fu hx1 hx3 hc11) cf_X12_element lk_X12_129 ⟨rfl, rfl⟩ ⟨Nat.le_of_ble_eq_true rfl, Nat.le_of_ble_eq_true rfl⟩ e52 rfl rfl rfl (Nat.le_of_ble_eq_true rfl) ⟨Nat.zero_le _, Nat.zero_le _⟩ rfl dX12_sum_27 (fun hr10 => ?_)
        refine V_iadd (pc := 30) C dX12_sum_30 ?_
        refine V_istore_n (pc := 31) C (L' := [(0, vr Γ 52), (1, vi x1), (2, vi (x2 + r10)), (3, vi x3)]) rfl (by decide) dX12_sum_31 ?_
        refine V_iinc (pc := 32) C (L' := [(0, vr Γ 52), (1, vi x1), (2, vi (x2 + r10)), (3, vi (x3 + (1 : Int)))]) 3 rfl rfl (by decide) dX12_sum_32 ?_
        refine V_goto (pc := 35) C 14 dX12_sum_35 (by decide) ?_
        obtain ⟨g12, h⟩ := grd_of h
        obtain ⟨g13, h⟩ := grd_of h
        refine V_sub (L' := [(0, vr Γ 52), (1, vi x1), (2, vi (x2 + r10)), (3, vi (x3 + (1 : Int)))]) [0, 1, 2, 3] rfl (by decide) ?_
        exact ih hx1 g12 g13 h
  skip
  refine V_aload_n (pc := 0) C 0 rfl dX12_sum_0 ?_
  refine V_iload_n (pc := 1) C 1 rfl dX12_sum_1 ?_
  obtain ⟨M1, r2, hc3, h⟩ := cal_of h
  refine V_callVI (pc := 2) C (c_X12_checkLive l Γ sk hsk fu ha1 hc3) cf_X12_checkLive lk_X12_343 ⟨rfl, rfl⟩ ⟨Nat.le_of_ble_eq_true rfl, Nat.le_of_ble_eq_true rfl⟩ e52 rfl rfl rfl (Nat.le_of_ble_eq_true rfl) ⟨Nat.zero_le _, Nat.zero_le _⟩ rfl dX12_sum_2 (fun hr2 => ?_)
  refine V_if_ne (pc := 5) C 10 hr2 dX12_sum_5 (by decide) (fun c5_4 => ?_) (fun c5_4 => ?_)
  · have h := ite_f h c5_4
    refine V_iconst (pc := 10) C dX12_sum_10 ?_
    refine V_istore_n (pc := 11) C (L' := [(0, vr Γ 52), (1, vi a1), (2, vi (0 : Int))]) rfl (by decide) dX12_sum_11 ?_
    refine V_iconst (pc := 12) C dX12_sum_12 ?_
    refine V_istore_n (pc := 13) C (L' := [(0, vr Γ 52), (1, vi a1), (2, vi (0 : Int)), (3, vi (0 : Int))]) rfl (by decide) dX12_sum_13 ?_
    refine V_sub (L' := [(0, vr Γ 52), (1, vi a1), (2, vi (0 : Int)), (3, vi (0 : Int))]) [0, 1, 2, 3] rfl (by decide) ?_
    exact LP14 fu  ha1 (by decide) (by decide) h
  · have h := ite_t h c5_4
    refine V_iconst (pc := 8) C dX12_sum_8 ?_
    exact V_iret (pc := 9) C hr hlk (by decide) h dX12_sum_9
set_option maxRecDepth 100000 in
set_option maxHeartbeats 4000000 in
theorem c_X12_indexOf (l : Launch) (Γ : GG) (sk : List SD) (hsk : ExtM sk) (fu : Nat) {M M' : Mem} {a1 : Int} {a2 : Int} {r : Int} (ha1 : rng a1) (ha2 : rng a2) (h : f_X12_indexOf fu M a1 a2 = some (M', r)) : MetI l yX12_indexOf cX12_indexOf 4 .int ({ frames := 3, cells := 0, slots := 0, locals := 68 } : Room) Γ sk [vr Γ 52, vi a1, vi a2] M M' r := by
  unfold f_X12_indexOf at h
  refine MetI_of RX12 rfl (by decide) rfl (Nat.le_of_ble_eq_true rfl) rfl ?_
  intro p e s m args below meth c C hr hlk hM
  have e52 := hsk 52 _ (by decide) rfl
  have LP12 : ∀ (n : Nat) {x1 : Int} {x2 : Int} {x3 : Int} {M : Mem}, rng x1 → rng x2 → rng x3 → f_X12_indexOf_L12 fu n x1 x2 x3 M = some (M', r) → VV p l e ({ frames := 3, cells := 0, slots := 0, locals := 68 } : Room) s m args below meth c (MQ below (PostI Γ sk M' r s.heap.size) args s 0 0 (Fr Γ sk s.heap.size)) 4 Γ sk M 0 0 12 [(0, vr Γ 52), (1, vi x1), (2, vi x2), (3, vi x3)] [] := by
    intro n
    induction n with
    | zero =>
      intro x1 x2 x3 M hx1 hx2 hx3 h
      cases h
    | succ n ih =>
      intro x1 x2 x3 M hx1 hx2 hx3 h
      rw [f_X12_indexOf_L12] at h
      refine V_iload_n (pc := 12) C 3 rfl dX12_indexOf_12 ?_
      refine V_aload_n (pc := 13) C 0 rfl dX12_indexOf_13 ?_
      refine V_iload_n (pc := 14) C 1 rfl dX12_indexOf_14 ?_
      obtain ⟨M5, r6, hc7, h⟩ := cal_of h
      refine V_callVI (pc := 15) C (c_X12_lengthOf l Γ sk hsk fu hx1 hc7) cf_X12_lengthOf lk_X12_121 ⟨rfl, rfl⟩ ⟨Nat.le_of_ble_eq_true rfl, Nat.le_of_ble_eq_true rfl⟩ e52 rfl rfl rfl (Nat.le_of_ble_eq_true rfl) ⟨Nat.zero_le _, Nat.zero_le _⟩ rfl dX12_indexOf_15 (fun hr6 => ?_)
      refine V_icmp_ge (pc := 18) C 39 hx3 hr6 dX12_indexOf_18 (by decide) (fun c18_8 => ?_) (fun c18_8 => ?_)
      · have h := ite_t h c18_8
        refine V_iconst (pc := 39) C dX12_indexOf_39 ?_
        exact V_iret (pc := 40) C hr hlk (by decide) h dX12_indexOf_40
      · have h := ite_f h c18_8
        refine V_aload_n (pc := 21) C 0 rfl dX12_indexOf_21 ?_
        refine V_iload_n (pc := 22) C 1 rfl dX12_indexOf_22 ?_
        refine V_iload_n (pc := 23) C 3 rfl dX12_indexOf_23 ?_
        obtain ⟨M9, r10, hc11, h⟩ := cal_of h
        refine V_callVI (pc := 24) C (c_X12_element l Γ sk hsk fu hx1 hx3 hc11) cf_X12_element lk_X12_129 ⟨rfl, rfl⟩ ⟨Nat.le_of_ble_eq_true rfl, Nat.le_of_ble_eq_true rfl⟩ e52 rfl rfl rfl (Nat.le_of_ble_eq_true rfl) ⟨Nat.zero_le _, Nat.zero_le _⟩ rfl dX12_indexOf_24 (fun hr10 => ?_)
        refine V_iload_n (pc := 27) C 2 rfl dX12_indexOf_27 ?_
        refine V_icmp_ne (pc := 28) C 33 hr10 hx2 dX12_indexOf_28 (by decide) (fun c28_12 => ?_) (fun c28_12 => ?_)
        · have h := ite_f h c28_12
          refine V_iinc (pc := 33) C (L' := [(0, vr Γ 52), (1, vi x1), (2, vi x2), (3, vi (x3 + (1 : Int)))]) 3 rfl rfl (by decide) dX12_indexOf_33 ?_
          refine V_goto (pc := 36) C 12 dX12_indexOf_36 (by decide) ?_
          obtain ⟨g13, h⟩ := grd_of h
          refine V_sub (L' := [(0, vr Γ 52), (1, vi x1), (2, vi x2), (3, vi (x3 + (1 : Int)))]) [0, 1, 2, 3] rfl (by decide) ?_
          exact ih hx1 hx2 g13 h
        · have h := ite_t h c28_12
          refine V_iload_n (pc := 31) C 3 rfl dX12_indexOf_31 ?_
          exact V_iret (pc := 32) C hr hlk hx3 h dX12_indexOf_32
  skip
  refine V_aload_n (pc := 0) C 0 rfl dX12_indexOf_0 ?_
  refine V_iload_n (pc := 1) C 1 rfl dX12_indexOf_1 ?_
  obtain ⟨M1, r2, hc3, h⟩ := cal_of h
  refine V_callVI (pc := 2) C (c_X12_checkLive l Γ sk hsk fu ha1 hc3) cf_X12_checkLive lk_X12_343 ⟨rfl, rfl⟩ ⟨Nat.le_of_ble_eq_true rfl, Nat.le_of_ble_eq_true rfl⟩ e52 rfl rfl rfl (Nat.le_of_ble_eq_true rfl) ⟨Nat.zero_le _, Nat.zero_le _⟩ rfl dX12_indexOf_2 (fun hr2 => ?_)
  refine V_if_ne (pc := 5) C 10 hr2 dX12_indexOf_5 (by decide) (fun c5_4 => ?_) (fun c5_4 => ?_)
  · have h := ite_f h c5_4
    refine V_iconst (pc := 10) C dX12_indexOf_10 ?_
    refine V_istore_n (pc := 11) C (L' := [(0, vr Γ 52), (1, vi a1), (2, vi a2), (3, vi (0 : Int))]) rfl (by decide) dX12_indexOf_11 ?_
    refine V_sub (L' := [(0, vr Γ 52), (1, vi a1), (2, vi a2), (3, vi (0 : Int))]) [0, 1, 2, 3] rfl (by decide) ?_
    exact LP12 fu  ha1 ha2 (by decide) h
  · have h := ite_t h c5_4
    refine V_iconst (pc := 8) C dX12_indexOf_8 ?_
    exact V_iret (pc := 9) C hr hlk (by decide) h dX12_indexOf_9
set_option maxRecDepth 100000 in
set_option maxHeartbeats 4000000 in
theorem c_X12_createdNodes (l : Launch) (Γ : GG) (sk : List SD) (hsk : ExtM sk) (fu : Nat) {M M' : Mem}  {r : Int}  (h : f_X12_createdNodes fu M  = some (M', r)) : MetI l yX12_createdNodes cX12_createdNodes 1 .int ({ frames := 0, cells := 0, slots := 0, locals := 0 } : Room) Γ sk [vr Γ 52] M M' r := by
  unfold f_X12_createdNodes at h
  refine MetI_of RX12 rfl (by decide) rfl (Nat.le_of_ble_eq_true rfl) rfl ?_
  intro p e s m args below meth c C hr hlk hM
  have e52 := hsk 52 _ (by decide) rfl
  have e53 := hsk 53 _ (by decide) rfl
  refine V_aload_n (pc := 0) C 0 rfl dX12_createdNodes_0 ?_
  refine V_iconst (pc := 1) C dX12_createdNodes_1 ?_
  refine V_putI (pc := 2) C (by decide) e52 rfl inX12 tyX12 tyX12_ok nmX12 6 (by decide) rfl rfl lf_X12_58 rfl (by decide) rfl dX12_createdNodes_2 ?_
  refine V_aload_n (pc := 5) C 0 rfl dX12_createdNodes_5 ?_
  refine V_getR (pc := 6) C e52 rfl inX12 0 (by decide) rfl lf_X12_9 rfl dX12_createdNodes_6 ?_
  refine V_iconst (pc := 9) C dX12_createdNodes_9 ?_
  refine V_rng fun hM1 => ?_
  obtain ⟨g2, h⟩ := grd_of h
  refine V_iald (pc := 10) C e53 g2 (by decide) dX12_createdNodes_10 ?_
  exact V_iret (pc := 11) C hr hlk (hM1 _ _) h dX12_createdNodes_11
set_option maxRecDepth 100000 in
set_option maxHeartbeats 4000000 in
theorem c_X12_storedNodes (l : Launch) (Γ : GG) (sk : List SD) (hsk : ExtM sk) (fu : Nat) {M M' : Mem}  {r : Int}  (h : f_X12_storedNodes fu M  = some (M', r)) : MetI l yX12_storedNodes cX12_storedNodes 1 .int ({ frames := 3, cells := 0, slots := 0, locals := 68 } : Room) Γ sk [vr Γ 52] M M' r := by
  unfold f_X12_storedNodes at h
  refine MetI_of RX12 rfl (by decide) rfl (Nat.le_of_ble_eq_true rfl) rfl ?_
  intro p e s m args below meth c C hr hlk hM
  have e52 := hsk 52 _ (by decide) rfl
  refine V_aload_n (pc := 0) C 0 rfl dX12_storedNodes_0 ?_
  refine V_iconst (pc := 1) C dX12_storedNodes_1 ?_
  refine V_putI (pc := 2) C (by decide) e52 rfl inX12 tyX12 tyX12_ok nmX12 6 (by decide) rfl rfl lf_X12_58 rfl (by decide) rfl dX12_storedNodes_2 ?_
  refine V_aload_n (pc := 5) C 0 rfl dX12_storedNodes_5 ?_
  obtain ⟨M1, r2, hc3, h⟩ := cal_of h
  refine V_callVI (pc := 6) C (c_X12_countStored l Γ sk hsk fu hc3) cf_X12_countStored lk_X12_349 ⟨rfl, rfl⟩ ⟨Nat.le_of_ble_eq_true rfl, Nat.le_of_ble_eq_true rfl⟩ e52 rfl rfl rfl (Nat.le_of_ble_eq_true rfl) ⟨Nat.zero_le _, Nat.zero_le _⟩ rfl dX12_storedNodes_6 (fun hr2 => ?_)
  exact V_iret (pc := 9) C hr hlk hr2 h dX12_storedNodes_9
set_option maxRecDepth 100000 in
set_option maxHeartbeats 4000000 in
theorem c_X12_garbageNodes (l : Launch) (Γ : GG) (sk : List SD) (hsk : ExtM sk) (fu : Nat) {M M' : Mem}  {r : Int}  (h : f_X12_garbageNodes fu M  = some (M', r)) : MetI l yX12_garbageNodes cX12_garbageNodes 1 .int ({ frames := 30, cells := 0, slots := 0, locals := 983 } : Room) Γ sk [vr Γ 52] M M' r := by
  unfold f_X12_garbageNodes at h
  refine MetI_of RX12 rfl (by decide) rfl (Nat.le_of_ble_eq_true rfl) rfl ?_
  intro p e s m args below meth c C hr hlk hM
  have e52 := hsk 52 _ (by decide) rfl
  refine V_aload_n (pc := 0) C 0 rfl dX12_garbageNodes_0 ?_
  refine V_iconst (pc := 1) C dX12_garbageNodes_1 ?_
  refine V_putI (pc := 2) C (by decide) e52 rfl inX12 tyX12 tyX12_ok nmX12 6 (by decide) rfl rfl lf_X12_58 rfl (by decide) rfl dX12_garbageNodes_2 ?_
  refine V_aload_n (pc := 5) C 0 rfl dX12_garbageNodes_5 ?_
  obtain ⟨M1, r2, hc3, h⟩ := cal_of h
  refine V_callVI (pc := 6) C (c_X12_countGarbage l Γ sk hsk fu hc3) cf_X12_countGarbage lk_X12_177 ⟨rfl, rfl⟩ ⟨Nat.le_of_ble_eq_true rfl, Nat.le_of_ble_eq_true rfl⟩ e52 rfl rfl rfl (Nat.le_of_ble_eq_true rfl) ⟨Nat.zero_le _, Nat.zero_le _⟩ rfl dX12_garbageNodes_6 (fun hr2 => ?_)
  exact V_iret (pc := 9) C hr hlk hr2 h dX12_garbageNodes_9
set_option maxRecDepth 100000 in
set_option maxHeartbeats 4000000 in
theorem c_X12_nodesCreatedFor (l : Launch) (Γ : GG) (sk : List SD) (hsk : ExtM sk) (fu : Nat) {M M' : Mem} {a1 : Int} {r : Int} (ha1 : rng a1) (h : f_X12_nodesCreatedFor fu M a1 = some (M', r)) : MetI l yX12_nodesCreatedFor cX12_nodesCreatedFor 2 .int ({ frames := 3, cells := 0, slots := 0, locals := 67 } : Room) Γ sk [vr Γ 52, vi a1] M M' r := by
  unfold f_X12_nodesCreatedFor at h
  refine MetI_of RX12 rfl (by decide) rfl (Nat.le_of_ble_eq_true rfl) rfl ?_
  intro p e s m args below meth c C hr hlk hM
  have e52 := hsk 52 _ (by decide) rfl
  have e53 := hsk 53 _ (by decide) rfl
  refine V_aload_n (pc := 0) C 0 rfl dX12_nodesCreatedFor_0 ?_
  refine V_iload_n (pc := 1) C 1 rfl dX12_nodesCreatedFor_1 ?_
  obtain ⟨M1, r2, hc3, h⟩ := cal_of h
  refine V_callVI (pc := 2) C (c_X12_checkVersion l Γ sk hsk fu ha1 hc3) cf_X12_checkVersion lk_X12_334 ⟨rfl, rfl⟩ ⟨Nat.le_of_ble_eq_true rfl, Nat.le_of_ble_eq_true rfl⟩ e52 rfl rfl rfl (Nat.le_of_ble_eq_true rfl) ⟨Nat.zero_le _, Nat.zero_le _⟩ rfl dX12_nodesCreatedFor_2 (fun hr2 => ?_)
  refine V_if_eq (pc := 5) C 22 hr2 dX12_nodesCreatedFor_5 (by decide) (fun c5_4 => ?_) (fun c5_4 => ?_)
  · have h := ite_t h c5_4
    refine V_iconst (pc := 22) C dX12_nodesCreatedFor_22 ?_
    exact V_iret (pc := 23) C hr hlk (by decide) h dX12_nodesCreatedFor_23
  · have h := ite_f h c5_4
    refine V_aload_n (pc := 8) C 0 rfl dX12_nodesCreatedFor_8 ?_
    refine V_getR (pc := 9) C e52 rfl inX12 0 (by decide) rfl lf_X12_9 rfl dX12_nodesCreatedFor_9 ?_
    refine V_iload_n (pc := 12) C 1 rfl dX12_nodesCreatedFor_12 ?_
    obtain ⟨M5, r6, hc7, h⟩ := cal_of h
    refine V_callSI (pc := 13) C (c_X12_v l Γ sk hsk fu ha1 hc7) cf_X12_v lk_X12_112 ⟨rfl, rfl⟩ ⟨Nat.le_of_ble_eq_true rfl, Nat.le_of_ble_eq_true rfl⟩ rfl (Nat.le_of_ble_eq_true rfl) ⟨Nat.zero_le _, Nat.zero_le _⟩ rfl dX12_nodesCreatedFor_13 (fun hr6 => ?_)
    refine V_iconst (pc := 16) C dX12_nodesCreatedFor_16 ?_
    refine V_iadd (pc := 17) C dX12_nodesCreatedFor_17 ?_
    refine V_rng fun hM8 => ?_
    obtain ⟨g9, h⟩ := grd_of h
    obtain ⟨g10, h⟩ := grd_of h
    refine V_iald (pc := 18) C e53 g10 g9 dX12_nodesCreatedFor_18 ?_
    refine V_goto (pc := 19) C 23 dX12_nodesCreatedFor_19 (by decide) ?_
    exact V_iret (pc := 23) C hr hlk (hM8 _ _) h dX12_nodesCreatedFor_23
set_option maxRecDepth 100000 in
set_option maxHeartbeats 4000000 in
theorem c_X12_countReached (l : Launch) (Γ : GG) (sk : List SD) (hsk : ExtM sk) (fu : Nat) {M M' : Mem} {a1 : Int} {r : Int} (ha1 : rng a1) (h : f_X12_countReached fu M a1 = some (M', r)) : MetI l yX12_countReached cX12_countReached 4 .int ({ frames := 1, cells := 0, slots := 0, locals := 20 } : Room) Γ sk [vr Γ 52, vi a1] M M' r := by
  unfold f_X12_countReached at h
  refine MetI_of RX12 rfl (by decide) rfl (Nat.le_of_ble_eq_true rfl) rfl ?_
  intro p e s m args below meth c C hr hlk hM
  have e52 := hsk 52 _ (by decide) rfl
  have e53 := hsk 53 _ (by decide) rfl
  have e60 := hsk 60 _ (by decide) rfl
  have LP4 : ∀ (n : Nat) {x1 : Int} {x2 : Int} {x3 : Int} {M : Mem}, rng x1 → rng x2 → rng x3 → f_X12_countReached_L4 fu n x1 x2 x3 M = some (M', r) → VV p l e ({ frames := 1, cells := 0, slots := 0, locals := 20 } : Room) s m args below meth c (MQ below (PostI Γ sk M' r s.heap.size) args s 0 0 (Fr Γ sk s.heap.size)) 4 Γ sk M 0 0 4 [(0, vr Γ 52), (1, vi x1), (2, vi x2), (3, vi x3)] [] := by
    intro n
    induction n with
    | zero =>
      intro x1 x2 x3 M hx1 hx2 hx3 h
      cases h
    | succ n ih =>
      intro x1 x2 x3 M hx1 hx2 hx3 h
      rw [f_X12_countReached_L4] at h
      refine V_iload_n (pc := 4) C 3 rfl dX12_countReached_4 ?_
      refine V_aload_n (pc := 5) C 0 rfl dX12_countReached_5 ?_
      refine V_getR (pc := 6) C e52 rfl inX12 0 (by decide) rfl lf_X12_9 rfl dX12_countReached_6 ?_
      refine V_iconst (pc := 9) C dX12_countReached_9 ?_
      refine V_rng fun hM1 => ?_
      obtain ⟨g2, h⟩ := grd_of h
      refine V_iald (pc := 10) C e53 g2 (by decide) dX12_countReached_10 ?_
      refine V_icmp_ge (pc := 11) C 41 hx3 (hM1 _ _) dX12_countReached_11 (by decide) (fun c11_3 => ?_) (fun c11_3 => ?_)
      · have h := ite_t h c11_3
        refine V_iload_n (pc := 41) C 2 rfl dX12_countReached_41 ?_
        exact V_iret (pc := 42) C hr hlk hx2 h dX12_countReached_42
      · have h := ite_f h c11_3
        refine V_iload_n (pc := 14) C 2 rfl dX12_countReached_14 ?_
        refine V_aload_n (pc := 15) C 0 rfl dX12_countReached_15 ?_
        refine V_getR (pc := 16) C e52 rfl inX12 11 (by decide) rfl lf_X12_32 rfl dX12_countReached_16 ?_
        refine V_iload_n (pc := 19) C 3 rfl dX12_countReached_19 ?_
        obtain ⟨g4, h⟩ := grd_of h
        refine V_iald (pc := 20) C e60 g4 hx3 dX12_countReached_20 ?_
        refine V_iload_n (pc := 21) C 1 rfl dX12_countReached_21 ?_
        refine V_icmp_ne (pc := 22) C 29 (hM1 _ _) hx1 dX12_countReached_22 (by decide) (fun c22_5 => ?_) (fun c22_5 => ?_)
        · have h := ite_f h c22_5
          refine V_iconst (pc := 29) C dX12_countReached_29 ?_
          obtain ⟨M6, r7, hc8, h⟩ := cal_of h
          refine V_callSI (pc := 30) C (c_X12_one l Γ sk hsk fu (by decide) hc8) cf_X12_one lk_X12_75 ⟨rfl, rfl⟩ ⟨Nat.le_of_ble_eq_true rfl, Nat.le_of_ble_eq_true rfl⟩ rfl (Nat.le_of_ble_eq_true rfl) ⟨Nat.zero_le _, Nat.zero_le _⟩ rfl dX12_countReached_30 (fun hr7 => ?_)
          refine V_iadd (pc := 33) C dX12_countReached_33 ?_
          refine V_istore_n (pc := 34) C (L' := [(0, vr Γ 52), (1, vi x1), (2, vi (x2 + r7)), (3, vi x3)]) rfl (by decide) dX12_countReached_34 ?_
          refine V_iinc (pc := 35) C (L' := [(0, vr Γ 52), (1, vi x1), (2, vi (x2 + r7)), (3, vi (x3 + (1 : Int)))]) 3 rfl rfl (by decide) dX12_countReached_35 ?_
          refine V_goto (pc := 38) C 4 dX12_countReached_38 (by decide) ?_
          obtain ⟨g9, h⟩ := grd_of h
          obtain ⟨g10, h⟩ := grd_of h
          refine V_sub (L' := [(0, vr Γ 52), (1, vi x1), (2, vi (x2 + r7)), (3, vi (x3 + (1 : Int)))]) [0, 1, 2, 3] rfl (by decide) ?_
          exact ih hx1 g9 g10 h
        · have h := ite_t h c22_5
          refine V_iconst (pc := 25) C dX12_countReached_25 ?_
          refine V_goto (pc := 26) C 30 dX12_countReached_26 (by decide) ?_
          obtain ⟨M11, r12, hc13, h⟩ := cal_of h
          refine V_callSI (pc := 30) C (c_X12_one l Γ sk hsk fu (by decide) hc13) cf_X12_one lk_X12_75 ⟨rfl, rfl⟩ ⟨Nat.le_of_ble_eq_true rfl, Nat.le_of_ble_eq_true rfl⟩ rfl (Nat.le_of_ble_eq_true rfl) ⟨Nat.zero_le _, Nat.zero_le _⟩ rfl dX12_countReached_30 (fun hr12 => ?_)
          refine V_iadd (pc := 33) C dX12_countReached_33 ?_
          refine V_istore_n (pc := 34) C (L' := [(0, vr Γ 52), (1, vi x1), (2, vi (x2 + r12)), (3, vi x3)]) rfl (by decide) dX12_countReached_34 ?_
          refine V_iinc (pc := 35) C (L' := [(0, vr Γ 52), (1, vi x1), (2, vi (x2 + r12)), (3, vi (x3 + (1 : Int)))]) 3 rfl rfl (by decide) dX12_countReached_35 ?_
          refine V_goto (pc := 38) C 4 dX12_countReached_38 (by decide) ?_
          obtain ⟨g14, h⟩ := grd_of h
          obtain ⟨g15, h⟩ := grd_of h
          refine V_sub (L' := [(0, vr Γ 52), (1, vi x1), (2, vi (x2 + r12)), (3, vi (x3 + (1 : Int)))]) [0, 1, 2, 3] rfl (by decide) ?_
          exact ih hx1 g14 g15 h
  skip
  refine V_iconst (pc := 0) C dX12_countReached_0 ?_
  refine V_istore_n (pc := 1) C (L' := [(0, vr Γ 52), (1, vi a1), (2, vi (0 : Int))]) rfl (by decide) dX12_countReached_1 ?_
  refine V_iconst (pc := 2) C dX12_countReached_2 ?_
  refine V_istore_n (pc := 3) C (L' := [(0, vr Γ 52), (1, vi a1), (2, vi (0 : Int)), (3, vi (0 : Int))]) rfl (by decide) dX12_countReached_3 ?_
  refine V_sub (L' := [(0, vr Γ 52), (1, vi a1), (2, vi (0 : Int)), (3, vi (0 : Int))]) [0, 1, 2, 3] rfl (by decide) ?_
  exact LP4 fu  ha1 (by decide) (by decide) h
set_option maxRecDepth 100000 in
set_option maxHeartbeats 4000000 in
theorem c_X12_countNodes (l : Launch) (Γ : GG) (sk : List SD) (hsk : ExtM sk) (fu : Nat) {M M' : Mem} {a1 : Int} {r : Int} (ha1 : rng a1) (h : f_X12_countNodes fu M a1 = some (M', r)) : MetI l yX12_countNodes cX12_countNodes 2 .int ({ frames := 28, cells := 0, slots := 0, locals := 940 } : Room) Γ sk [vr Γ 52, vi a1] M M' r := by
  unfold f_X12_countNodes at h
  refine MetI_of RX12 rfl (by decide) rfl (Nat.le_of_ble_eq_true rfl) rfl ?_
  intro p e s m args below meth c C hr hlk hM
  have e52 := hsk 52 _ (by decide) rfl
  refine V_aload_n (pc := 0) C 0 rfl dX12_countNodes_0 ?_
  obtain ⟨M1, r2, hc3, h⟩ := cal_of h
  refine V_callVV (pc := 1) C (c_X12_clearReached l Γ sk hsk fu hc3) cf_X12_clearReached lk_X12_161 ⟨rfl, rfl⟩ ⟨Nat.le_of_ble_eq_true rfl, Nat.le_of_ble_eq_true rfl⟩ e52 rfl rfl rfl (Nat.le_of_ble_eq_true rfl) ⟨Nat.zero_le _, Nat.zero_le _⟩ rfl dX12_countNodes_1 ?_
  refine V_aload_n (pc := 4) C 0 rfl dX12_countNodes_4 ?_
  refine V_aload_n (pc := 5) C 0 rfl dX12_countNodes_5 ?_
  refine V_iload_n (pc := 6) C 1 rfl dX12_countNodes_6 ?_
  obtain ⟨M4, r5, hc6, h⟩ := cal_of h
  refine V_callVI (pc := 7) C (c_X12_root l Γ sk hsk fu ha1 hc6) cf_X12_root lk_X12_145 ⟨rfl, rfl⟩ ⟨Nat.le_of_ble_eq_true rfl, Nat.le_of_ble_eq_true rfl⟩ e52 rfl rfl rfl (Nat.le_of_ble_eq_true rfl) ⟨Nat.zero_le _, Nat.zero_le _⟩ rfl dX12_countNodes_7 (fun hr5 => ?_)
  obtain ⟨M7, r8, hc9, h⟩ := cal_of h
  refine V_callVV (pc := 10) C (c_X12_reach l Γ sk hsk fu 8 hr5 hc9) cf_X12_reach lk_X12_157 ⟨rfl, rfl⟩ ⟨Nat.le_of_ble_eq_true rfl, Nat.le_of_ble_eq_true rfl⟩ e52 rfl rfl rfl (Nat.le_of_ble_eq_true rfl) ⟨Nat.zero_le _, Nat.zero_le _⟩ rfl dX12_countNodes_10 ?_
  refine V_aload_n (pc := 13) C 0 rfl dX12_countNodes_13 ?_
  refine V_iconst (pc := 14) C dX12_countNodes_14 ?_
  obtain ⟨M10, r11, hc12, h⟩ := cal_of h
  refine V_callVI (pc := 15) C (c_X12_countReached l Γ sk hsk fu (by decide) hc12) cf_X12_countReached lk_X12_352 ⟨rfl, rfl⟩ ⟨Nat.le_of_ble_eq_true rfl, Nat.le_of_ble_eq_true rfl⟩ e52 rfl rfl rfl (Nat.le_of_ble_eq_true rfl) ⟨Nat.zero_le _, Nat.zero_le _⟩ rfl dX12_countNodes_15 (fun hr11 => ?_)
  exact V_iret (pc := 18) C hr hlk hr11 h dX12_countNodes_18
set_option maxRecDepth 100000 in
set_option maxHeartbeats 4000000 in
theorem c_X12_nodesOf (l : Launch) (Γ : GG) (sk : List SD) (hsk : ExtM sk) (fu : Nat) {M M' : Mem} {a1 : Int} {r : Int} (ha1 : rng a1) (h : f_X12_nodesOf fu M a1 = some (M', r)) : MetI l yX12_nodesOf cX12_nodesOf 2 .int ({ frames := 29, cells := 0, slots := 0, locals := 961 } : Room) Γ sk [vr Γ 52, vi a1] M M' r := by
  unfold f_X12_nodesOf at h
  refine MetI_of RX12 rfl (by decide) rfl (Nat.le_of_ble_eq_true rfl) rfl ?_
  intro p e s m args below meth c C hr hlk hM
  have e52 := hsk 52 _ (by decide) rfl
  refine V_aload_n (pc := 0) C 0 rfl dX12_nodesOf_0 ?_
  refine V_iload_n (pc := 1) C 1 rfl dX12_nodesOf_1 ?_
  obtain ⟨M1, r2, hc3, h⟩ := cal_of h
  refine V_callVI (pc := 2) C (c_X12_checkLive l Γ sk hsk fu ha1 hc3) cf_X12_checkLive lk_X12_343 ⟨rfl, rfl⟩ ⟨Nat.le_of_ble_eq_true rfl, Nat.le_of_ble_eq_true rfl⟩ e52 rfl rfl rfl (Nat.le_of_ble_eq_true rfl) ⟨Nat.zero_le _, Nat.zero_le _⟩ rfl dX12_nodesOf_2 (fun hr2 => ?_)
  refine V_if_eq (pc := 5) C 16 hr2 dX12_nodesOf_5 (by decide) (fun c5_4 => ?_) (fun c5_4 => ?_)
  · have h := ite_t h c5_4
    refine V_iconst (pc := 16) C dX12_nodesOf_16 ?_
    exact V_iret (pc := 17) C hr hlk (by decide) h dX12_nodesOf_17
  · have h := ite_f h c5_4
    refine V_aload_n (pc := 8) C 0 rfl dX12_nodesOf_8 ?_
    refine V_iload_n (pc := 9) C 1 rfl dX12_nodesOf_9 ?_
    obtain ⟨M5, r6, hc7, h⟩ := cal_of h
    refine V_callVI (pc := 10) C (c_X12_countNodes l Γ sk hsk fu ha1 hc7) cf_X12_countNodes lk_X12_355 ⟨rfl, rfl⟩ ⟨Nat.le_of_ble_eq_true rfl, Nat.le_of_ble_eq_true rfl⟩ e52 rfl rfl rfl (Nat.le_of_ble_eq_true rfl) ⟨Nat.zero_le _, Nat.zero_le _⟩ rfl dX12_nodesOf_10 (fun hr6 => ?_)
    refine V_goto (pc := 13) C 17 dX12_nodesOf_13 (by decide) ?_
    exact V_iret (pc := 17) C hr hlk hr6 h dX12_nodesOf_17
set_option maxRecDepth 100000 in
set_option maxHeartbeats 4000000 in
theorem c_X12_checkTwo (l : Launch) (Γ : GG) (sk : List SD) (hsk : ExtM sk) (fu : Nat) {M M' : Mem} {a1 : Int} {a2 : Int} {r : Int} (ha1 : rng a1) (ha2 : rng a2) (h : f_X12_checkTwo fu M a1 a2 = some (M', r)) : MetI l yX12_checkTwo cX12_checkTwo 4 .boolean ({ frames := 2, cells := 0, slots := 0, locals := 46 } : Room) Γ sk [vr Γ 52, vi a1, vi a2] M M' r := by
  unfold f_X12_checkTwo at h
  refine MetI_of RX12 rfl (by decide) rfl (Nat.le_of_ble_eq_true rfl) rfl ?_
  intro p e s m args below meth c C hr hlk hM
  have e52 := hsk 52 _ (by decide) rfl
  have JP21 : ∀ {x1 : Int} {x2 : Int} {y0 : Int} {M : Mem}, rng x1 → rng x2 → rng y0 → f_X12_checkTwo_J21 fu x1 x2 y0 M = some (M', r) → VV p l e ({ frames := 2, cells := 0, slots := 0, locals := 46 } : Room) s m args below meth c (MQ below (PostI Γ sk M' r s.heap.size) args s 0 0 (Fr Γ sk s.heap.size)) 4 Γ sk M 0 0 21 [(0, vr Γ 52), (1, vi x1), (2, vi x2)] [vi y0] := by
    intro x1 x2 y0 M hx1 hx2 hy0 h
    unfold f_X12_checkTwo_J21 at h
    refine V_istore_n (pc := 21) C (L' := [(0, vr Γ 52), (1, vi x1), (2, vi x2), (3, vi y0)]) rfl (by decide) dX12_checkTwo_21 ?_
    refine V_aload_n (pc := 22) C 0 rfl dX12_checkTwo_22 ?_
    refine V_iload_n (pc := 23) C 3 rfl dX12_checkTwo_23 ?_
    refine V_iload_n (pc := 24) C 3 rfl dX12_checkTwo_24 ?_
    refine V_if_eq (pc := 25) C 48 hy0 dX12_checkTwo_25 (by decide) (fun c25_5 => ?_) (fun c25_5 => ?_)
    · have h := ite_t h c25_5
      refine V_iconst (pc := 48) C dX12_checkTwo_48 ?_
      refine V_iconst (pc := 49) C dX12_checkTwo_49 ?_
      obtain ⟨M6, r7, hc8, h⟩ := cal_of h
      refine V_callVI (pc := 50) C (c_X12_check l Γ sk hsk fu hy0 (by decide) (by decide) hc8) cf_X12_check lk_X12_330 ⟨rfl, rfl⟩ ⟨Nat.le_of_ble_eq_true rfl, Nat.le_of_ble_eq_true rfl⟩ e52 rfl rfl rfl (Nat.le_of_ble_eq_true rfl) ⟨Nat.zero_le _, Nat.zero_le _⟩ rfl dX12_checkTwo_50 (fun hr7 => ?_)
      obtain ⟨g9, h⟩ := grd_of h
      exact V_zret (pc := 53) C hr hlk g9 h dX12_checkTwo_53
    · have h := ite_f h c25_5
      refine V_aload_n (pc := 28) C 0 rfl dX12_checkTwo_28 ?_
      refine V_iload_n (pc := 29) C 1 rfl dX12_checkTwo_29 ?_
      obtain ⟨M10, r11, hc12, h⟩ := cal_of h
      refine V_callVI (pc := 30) C (c_X12_isGone l Γ sk hsk fu hx1 hc12) cf_X12_isGone lk_X12_164 ⟨rfl, rfl⟩ ⟨Nat.le_of_ble_eq_true rfl, Nat.le_of_ble_eq_true rfl⟩ e52 rfl rfl rfl (Nat.le_of_ble_eq_true rfl) ⟨Nat.zero_le _, Nat.zero_le _⟩ rfl dX12_checkTwo_30 (fun hr11 => ?_)
      refine V_if_ne (pc := 33) C 48 hr11 dX12_checkTwo_33 (by decide) (fun c33_13 => ?_) (fun c33_13 => ?_)
      · have h := ite_f h c33_13
        refine V_iconst (pc := 48) C dX12_checkTwo_48 ?_
        refine V_iconst (pc := 49) C dX12_checkTwo_49 ?_
        obtain ⟨M14, r15, hc16, h⟩ := cal_of h
        refine V_callVI (pc := 50) C (c_X12_check l Γ sk hsk fu hy0 (by decide) (by decide) hc16) cf_X12_check lk_X12_330 ⟨rfl, rfl⟩ ⟨Nat.le_of_ble_eq_true rfl, Nat.le_of_ble_eq_true rfl⟩ e52 rfl rfl rfl (Nat.le_of_ble_eq_true rfl) ⟨Nat.zero_le _, Nat.zero_le _⟩ rfl dX12_checkTwo_50 (fun hr15 => ?_)
        obtain ⟨g17, h⟩ := grd_of h
        exact V_zret (pc := 53) C hr hlk g17 h dX12_checkTwo_53
      · have h := ite_t h c33_13
        refine V_aload_n (pc := 36) C 0 rfl dX12_checkTwo_36 ?_
        refine V_iload_n (pc := 37) C 2 rfl dX12_checkTwo_37 ?_
        obtain ⟨M18, r19, hc20, h⟩ := cal_of h
        refine V_callVI (pc := 38) C (c_X12_isGone l Γ sk hsk fu hx2 hc20) cf_X12_isGone lk_X12_164 ⟨rfl, rfl⟩ ⟨Nat.le_of_ble_eq_true rfl, Nat.le_of_ble_eq_true rfl⟩ e52 rfl rfl rfl (Nat.le_of_ble_eq_true rfl) ⟨Nat.zero_le _, Nat.zero_le _⟩ rfl dX12_checkTwo_38 (fun hr19 => ?_)
        refine V_if_ne (pc := 41) C 48 hr19 dX12_checkTwo_41 (by decide) (fun c41_21 => ?_) (fun c41_21 => ?_)
        · have h := ite_f h c41_21
          refine V_iconst (pc := 48) C dX12_checkTwo_48 ?_
          refine V_iconst (pc := 49) C dX12_checkTwo_49 ?_
          obtain ⟨M22, r23, hc24, h⟩ := cal_of h
          refine V_callVI (pc := 50) C (c_X12_check l Γ sk hsk fu hy0 (by decide) (by decide) hc24) cf_X12_check lk_X12_330 ⟨rfl, rfl⟩ ⟨Nat.le_of_ble_eq_true rfl, Nat.le_of_ble_eq_true rfl⟩ e52 rfl rfl rfl (Nat.le_of_ble_eq_true rfl) ⟨Nat.zero_le _, Nat.zero_le _⟩ rfl dX12_checkTwo_50 (fun hr23 => ?_)
          obtain ⟨g25, h⟩ := grd_of h
          exact V_zret (pc := 53) C hr hlk g25 h dX12_checkTwo_53
        · have h := ite_t h c41_21
          refine V_iconst (pc := 44) C dX12_checkTwo_44 ?_
          refine V_goto (pc := 45) C 49 dX12_checkTwo_45 (by decide) ?_
          refine V_iconst (pc := 49) C dX12_checkTwo_49 ?_
          obtain ⟨M26, r27, hc28, h⟩ := cal_of h
          refine V_callVI (pc := 50) C (c_X12_check l Γ sk hsk fu hy0 (by decide) (by decide) hc28) cf_X12_check lk_X12_330 ⟨rfl, rfl⟩ ⟨Nat.le_of_ble_eq_true rfl, Nat.le_of_ble_eq_true rfl⟩ e52 rfl rfl rfl (Nat.le_of_ble_eq_true rfl) ⟨Nat.zero_le _, Nat.zero_le _⟩ rfl dX12_checkTwo_50 (fun hr27 => ?_)
          obtain ⟨g29, h⟩ := grd_of h
          exact V_zret (pc := 53) C hr hlk g29 h dX12_checkTwo_53
  have JP20 : ∀ {x1 : Int} {x2 : Int} {M : Mem}, rng x1 → rng x2 → f_X12_checkTwo_J20 fu x1 x2 M = some (M', r) → VV p l e ({ frames := 2, cells := 0, slots := 0, locals := 46 } : Room) s m args below meth c (MQ below (PostI Γ sk M' r s.heap.size) args s 0 0 (Fr Γ sk s.heap.size)) 4 Γ sk M 0 0 20 [(0, vr Γ 52), (1, vi x1), (2, vi x2)] [] := by
    intro x1 x2 M hx1 hx2 h
    unfold f_X12_checkTwo_J20 at h
    refine V_iconst (pc := 20) C dX12_checkTwo_20 ?_
    refine V_sub (L' := [(0, vr Γ 52), (1, vi x1), (2, vi x2)]) [0, 1, 2] rfl (by decide) ?_
    exact JP21 hx1 hx2 (by decide) h
  skip
  refine V_aload_n (pc := 0) C 0 rfl dX12_checkTwo_0 ?_
  refine V_iload_n (pc := 1) C 1 rfl dX12_checkTwo_1 ?_
  obtain ⟨M1, r2, hc3, h⟩ := cal_of h
  refine V_callVI (pc := 2) C (c_X12_isVersion l Γ sk hsk fu ha1 hc3) cf_X12_isVersion lk_X12_285 ⟨rfl, rfl⟩ ⟨Nat.le_of_ble_eq_true rfl, Nat.le_of_ble_eq_true rfl⟩ e52 rfl rfl rfl (Nat.le_of_ble_eq_true rfl) ⟨Nat.zero_le _, Nat.zero_le _⟩ rfl dX12_checkTwo_2 (fun hr2 => ?_)
  refine V_if_eq (pc := 5) C 20 hr2 dX12_checkTwo_5 (by decide) (fun c5_4 => ?_) (fun c5_4 => ?_)
  · have h := ite_t h c5_4
    refine V_sub (L' := [(0, vr Γ 52), (1, vi a1), (2, vi a2)]) [0, 1, 2] rfl (by decide) ?_
    exact JP20 ha1 ha2 h
  · have h := ite_f h c5_4
    refine V_aload_n (pc := 8) C 0 rfl dX12_checkTwo_8 ?_
    refine V_iload_n (pc := 9) C 2 rfl dX12_checkTwo_9 ?_
    obtain ⟨M30, r31, hc32, h⟩ := cal_of h
    refine V_callVI (pc := 10) C (c_X12_isVersion l Γ sk hsk fu ha2 hc32) cf_X12_isVersion lk_X12_285 ⟨rfl, rfl⟩ ⟨Nat.le_of_ble_eq_true rfl, Nat.le_of_ble_eq_true rfl⟩ e52 rfl rfl rfl (Nat.le_of_ble_eq_true rfl) ⟨Nat.zero_le _, Nat.zero_le _⟩ rfl dX12_checkTwo_10 (fun hr31 => ?_)
    refine V_if_eq (pc := 13) C 20 hr31 dX12_checkTwo_13 (by decide) (fun c13_33 => ?_) (fun c13_33 => ?_)
    · have h := ite_t h c13_33
      refine V_sub (L' := [(0, vr Γ 52), (1, vi a1), (2, vi a2)]) [0, 1, 2] rfl (by decide) ?_
      exact JP20 ha1 ha2 h
    · have h := ite_f h c13_33
      refine V_iconst (pc := 16) C dX12_checkTwo_16 ?_
      refine V_goto (pc := 17) C 21 dX12_checkTwo_17 (by decide) ?_
      refine V_sub (L' := [(0, vr Γ 52), (1, vi a1), (2, vi a2)]) [0, 1, 2] rfl (by decide) ?_
      exact JP21 ha1 ha2 (by decide) h
set_option maxRecDepth 100000 in
set_option maxHeartbeats 4000000 in
theorem c_X12_sharedNodes (l : Launch) (Γ : GG) (sk : List SD) (hsk : ExtM sk) (fu : Nat) {M M' : Mem} {a1 : Int} {a2 : Int} {r : Int} (ha1 : rng a1) (ha2 : rng a2) (h : f_X12_sharedNodes fu M a1 a2 = some (M', r)) : MetI l yX12_sharedNodes cX12_sharedNodes 3 .int ({ frames := 28, cells := 0, slots := 0, locals := 940 } : Room) Γ sk [vr Γ 52, vi a1, vi a2] M M' r := by
  unfold f_X12_sharedNodes at h
  refine MetI_of RX12 rfl (by decide) rfl (Nat.le_of_ble_eq_true rfl) rfl ?_
  intro p e s m args below meth c C hr hlk hM
  have e52 := hsk 52 _ (by decide) rfl
  refine V_aload_n (pc := 0) C 0 rfl dX12_sharedNodes_0 ?_
  refine V_iload_n (pc := 1) C 1 rfl dX12_sharedNodes_1 ?_
  refine V_iload_n (pc := 2) C 2 rfl dX12_sharedNodes_2 ?_
  obtain ⟨M1, r2, hc3, h⟩ := cal_of h
  refine V_callVI (pc := 3) C (c_X12_checkTwo l Γ sk hsk fu ha1 ha2 hc3) cf_X12_checkTwo lk_X12_358 ⟨rfl, rfl⟩ ⟨Nat.le_of_ble_eq_true rfl, Nat.le_of_ble_eq_true rfl⟩ e52 rfl rfl rfl (Nat.le_of_ble_eq_true rfl) ⟨Nat.zero_le _, Nat.zero_le _⟩ rfl dX12_sharedNodes_3 (fun hr2 => ?_)
  refine V_if_ne (pc := 6) C 11 hr2 dX12_sharedNodes_6 (by decide) (fun c6_4 => ?_) (fun c6_4 => ?_)
  · have h := ite_f h c6_4
    refine V_aload_n (pc := 11) C 0 rfl dX12_sharedNodes_11 ?_
    obtain ⟨M5, r6, hc7, h⟩ := cal_of h
    refine V_callVV (pc := 12) C (c_X12_clearReached l Γ sk hsk fu hc7) cf_X12_clearReached lk_X12_161 ⟨rfl, rfl⟩ ⟨Nat.le_of_ble_eq_true rfl, Nat.le_of_ble_eq_true rfl⟩ e52 rfl rfl rfl (Nat.le_of_ble_eq_true rfl) ⟨Nat.zero_le _, Nat.zero_le _⟩ rfl dX12_sharedNodes_12 ?_
    refine V_aload_n (pc := 15) C 0 rfl dX12_sharedNodes_15 ?_
    refine V_aload_n (pc := 16) C 0 rfl dX12_sharedNodes_16 ?_
    refine V_iload_n (pc := 17) C 1 rfl dX12_sharedNodes_17 ?_
    obtain ⟨M8, r9, hc10, h⟩ := cal_of h
    refine V_callVI (pc := 18) C (c_X12_root l Γ sk hsk fu ha1 hc10) cf_X12_root lk_X12_145 ⟨rfl, rfl⟩ ⟨Nat.le_of_ble_eq_true rfl, Nat.le_of_ble_eq_true rfl⟩ e52 rfl rfl rfl (Nat.le_of_ble_eq_true rfl) ⟨Nat.zero_le _, Nat.zero_le _⟩ rfl dX12_sharedNodes_18 (fun hr9 => ?_)
    obtain ⟨M11, r12, hc13, h⟩ := cal_of h
    refine V_callVV (pc := 21) C (c_X12_reach l Γ sk hsk fu 8 hr9 hc13) cf_X12_reach lk_X12_157 ⟨rfl, rfl⟩ ⟨Nat.le_of_ble_eq_true rfl, Nat.le_of_ble_eq_true rfl⟩ e52 rfl rfl rfl (Nat.le_of_ble_eq_true rfl) ⟨Nat.zero_le _, Nat.zero_le _⟩ rfl dX12_sharedNodes_21 ?_
    refine V_aload_n (pc := 24) C 0 rfl dX12_sharedNodes_24 ?_
    refine V_aload_n (pc := 25) C 0 rfl dX12_sharedNodes_25 ?_
    refine V_iload_n (pc := 26) C 2 rfl dX12_sharedNodes_26 ?_
    obtain ⟨M14, r15, hc16, h⟩ := cal_of h
    refine V_callVI (pc := 27) C (c_X12_root l Γ sk hsk fu ha2 hc16) cf_X12_root lk_X12_145 ⟨rfl, rfl⟩ ⟨Nat.le_of_ble_eq_true rfl, Nat.le_of_ble_eq_true rfl⟩ e52 rfl rfl rfl (Nat.le_of_ble_eq_true rfl) ⟨Nat.zero_le _, Nat.zero_le _⟩ rfl dX12_sharedNodes_27 (fun hr15 => ?_)
    obtain ⟨M17, r18, hc19, h⟩ := cal_of h
    refine V_callVV (pc := 30) C (c_X12_reach l Γ sk hsk fu 8 hr15 hc19) cf_X12_reach lk_X12_157 ⟨rfl, rfl⟩ ⟨Nat.le_of_ble_eq_true rfl, Nat.le_of_ble_eq_true rfl⟩ e52 rfl rfl rfl (Nat.le_of_ble_eq_true rfl) ⟨Nat.zero_le _, Nat.zero_le _⟩ rfl dX12_sharedNodes_30 ?_
    refine V_aload_n (pc := 33) C 0 rfl dX12_sharedNodes_33 ?_
    refine V_iconst (pc := 34) C dX12_sharedNodes_34 ?_
    obtain ⟨M20, r21, hc22, h⟩ := cal_of h
    refine V_callVI (pc := 35) C (c_X12_countReached l Γ sk hsk fu (by decide) hc22) cf_X12_countReached lk_X12_352 ⟨rfl, rfl⟩ ⟨Nat.le_of_ble_eq_true rfl, Nat.le_of_ble_eq_true rfl⟩ e52 rfl rfl rfl (Nat.le_of_ble_eq_true rfl) ⟨Nat.zero_le _, Nat.zero_le _⟩ rfl dX12_sharedNodes_35 (fun hr21 => ?_)
    exact V_iret (pc := 38) C hr hlk hr21 h dX12_sharedNodes_38
  · have h := ite_t h c6_4
    refine V_iconst (pc := 9) C dX12_sharedNodes_9 ?_
    exact V_iret (pc := 10) C hr hlk (by decide) h dX12_sharedNodes_10
set_option maxRecDepth 100000 in
set_option maxHeartbeats 4000000 in
theorem c_X12_countGarbageOf (l : Launch) (Γ : GG) (sk : List SD) (hsk : ExtM sk) (fu : Nat) {M M' : Mem}  {r : Int}  (h : f_X12_countGarbageOf fu M  = some (M', r)) : MetI l yX12_countGarbageOf cX12_countGarbageOf 3 .int ({ frames := 2, cells := 0, slots := 0, locals := 46 } : Room) Γ sk [vr Γ 52] M M' r := by
  unfold f_X12_countGarbageOf at h
  refine MetI_of RX12 rfl (by decide) rfl (Nat.le_of_ble_eq_true rfl) rfl ?_
  intro p e s m args below meth c C hr hlk hM
  have e52 := hsk 52 _ (by decide) rfl
  have e53 := hsk 53 _ (by decide) rfl
  have e60 := hsk 60 _ (by decide) rfl
  have LP4 : ∀ (n : Nat) {x1 : Int} {x2 : Int} {M : Mem}, rng x1 → rng x2 → f_X12_countGarbageOf_L4 fu n x1 x2 M = some (M', r) → VV p l e ({ frames := 2, cells := 0, slots := 0, locals := 46 } : Room) s m args below meth c (MQ below (PostI Γ sk M' r s.heap.size) args s 0 0 (Fr Γ sk s.heap.size)) 3 Γ sk M 0 0 4 [(0, vr Γ 52), (1, vi x1), (2, vi x2)] [] := by
    intro n
    induction n with
    | zero =>
      intro x1 x2 M hx1 hx2 h
      cases h
    | succ n ih =>
      intro x1 x2 M hx1 hx2 h
      rw [f_X12_countGarbageOf_L4] at h
      refine V_iload_n (pc := 4) C 2 rfl dX12_countGarbageOf_4 ?_
      refine V_aload_n (pc := 5) C 0 rfl dX12_countGarbageOf_5 ?_
      refine V_getR (pc := 6) C e52 rfl inX12 0 (by decide) rfl lf_X12_9 rfl dX12_countGarbageOf_6 ?_
      refine V_iconst (pc := 9) C dX12_countGarbageOf_9 ?_
      refine V_rng fun hM1 => ?_
      obtain ⟨g2, h⟩ := grd_of h
      refine V_iald (pc := 10) C e53 g2 (by decide) dX12_countGarbageOf_10 ?_
      refine V_icmp_ge (pc := 11) C 48 hx2 (hM1 _ _) dX12_countGarbageOf_11 (by decide) (fun c11_3 => ?_) (fun c11_3 => ?_)
      · have h := ite_t h c11_3
        refine V_iload_n (pc := 48) C 1 rfl dX12_countGarbageOf_48 ?_
        exact V_iret (pc := 49) C hr hlk hx1 h dX12_countGarbageOf_49
      · have h := ite_f h c11_3
        refine V_iload_n (pc := 14) C 1 rfl dX12_countGarbageOf_14 ?_
        refine V_aload_n (pc := 15) C 0 rfl dX12_countGarbageOf_15 ?_
        refine V_iload_n (pc := 16) C 2 rfl dX12_countGarbageOf_16 ?_
        obtain ⟨M4, r5, hc6, h⟩ := cal_of h
        refine V_callVI (pc := 17) C (c_X12_isStored l Γ sk hsk fu hx2 hc6) cf_X12_isStored lk_X12_171 ⟨rfl, rfl⟩ ⟨Nat.le_of_ble_eq_true rfl, Nat.le_of_ble_eq_true rfl⟩ e52 rfl rfl rfl (Nat.le_of_ble_eq_true rfl) ⟨Nat.zero_le _, Nat.zero_le _⟩ rfl dX12_countGarbageOf_17 (fun hr5 => ?_)
        refine V_if_eq (pc := 20) C 36 hr5 dX12_countGarbageOf_20 (by decide) (fun c20_7 => ?_) (fun c20_7 => ?_)
        · have h := ite_t h c20_7
          refine V_iconst (pc := 36) C dX12_countGarbageOf_36 ?_
          obtain ⟨M8, r9, hc10, h⟩ := cal_of h
          refine V_callSI (pc := 37) C (c_X12_one l Γ sk hsk fu (by decide) hc10) cf_X12_one lk_X12_75 ⟨rfl, rfl⟩ ⟨Nat.le_of_ble_eq_true rfl, Nat.le_of_ble_eq_true rfl⟩ rfl (Nat.le_of_ble_eq_true rfl) ⟨Nat.zero_le _, Nat.zero_le _⟩ rfl dX12_countGarbageOf_37 (fun hr9 => ?_)
          refine V_iadd (pc := 40) C dX12_countGarbageOf_40 ?_
          refine V_istore_n (pc := 41) C (L' := [(0, vr Γ 52), (1, vi (x1 + r9)), (2, vi x2)]) rfl (by decide) dX12_countGarbageOf_41 ?_
          refine V_iinc (pc := 42) C (L' := [(0, vr Γ 52), (1, vi (x1 + r9)), (2, vi (x2 + (1 : Int)))]) 2 rfl rfl (by decide) dX12_countGarbageOf_42 ?_
          refine V_goto (pc := 45) C 4 dX12_countGarbageOf_45 (by decide) ?_
          obtain ⟨g11, h⟩ := grd_of h
          obtain ⟨g12, h⟩ := grd_of h
          refine V_sub (L' := [(0, vr Γ 52), (1, vi (x1 + r9)), (2, vi (x2 + (1 : Int)))]) [0, 1, 2] rfl (by decide) ?_
          exact ih g11 g12 h
        · have h := ite_f h c20_7
          refine V_aload_n (pc := 23) C 0 rfl dX12_countGarbageOf_23 ?_
          refine V_getR (pc := 24) C e52 rfl inX12 11 (by decide) rfl lf_X12_32 rfl dX12_countGarbageOf_24 ?_
          refine V_iload_n (pc := 27) C 2 rfl dX12_countGarbageOf_27 ?_
          refine V_rng fun hM13 => ?_
          obtain ⟨g14, h⟩ := grd_of h
          refine V_iald (pc := 28) C e60 g14 hx2 dX12_countGarbageOf_28 ?_
          refine V_if_ne (pc := 29) C 36 (hM13 _ _) dX12_countGarbageOf_29 (by decide) (fun c29_15 => ?_) (fun c29_15 => ?_)
          · have h := ite_f h c29_15
            refine V_iconst (pc := 36) C dX12_countGarbageOf_36 ?_
            obtain ⟨M16, r17, hc18, h⟩ := cal_of h
            refine V_callSI (pc := 37) C (c_X12_one l Γ sk hsk fu (by decide) hc18) cf_X12_one lk_X12_75 ⟨rfl, rfl⟩ ⟨Nat.le_of_ble_eq_true rfl, Nat.le_of_ble_eq_true rfl⟩ rfl (Nat.le_of_ble_eq_true rfl) ⟨Nat.zero_le _, Nat.zero_le _⟩ rfl dX12_countGarbageOf_37 (fun hr17 => ?_)
            refine V_iadd (pc := 40) C dX12_countGarbageOf_40 ?_
            refine V_istore_n (pc := 41) C (L' := [(0, vr Γ 52), (1, vi (x1 + r17)), (2, vi x2)]) rfl (by decide) dX12_countGarbageOf_41 ?_
            refine V_iinc (pc := 42) C (L' := [(0, vr Γ 52), (1, vi (x1 + r17)), (2, vi (x2 + (1 : Int)))]) 2 rfl rfl (by decide) dX12_countGarbageOf_42 ?_
            refine V_goto (pc := 45) C 4 dX12_countGarbageOf_45 (by decide) ?_
            obtain ⟨g19, h⟩ := grd_of h
            obtain ⟨g20, h⟩ := grd_of h
            refine V_sub (L' := [(0, vr Γ 52), (1, vi (x1 + r17)), (2, vi (x2 + (1 : Int)))]) [0, 1, 2] rfl (by decide) ?_
            exact ih g19 g20 h
          · have h := ite_t h c29_15
            refine V_iconst (pc := 32) C dX12_countGarbageOf_32 ?_
            refine V_goto (pc := 33) C 37 dX12_countGarbageOf_33 (by decide) ?_
            obtain ⟨M21, r22, hc23, h⟩ := cal_of h
            refine V_callSI (pc := 37) C (c_X12_one l Γ sk hsk fu (by decide) hc23) cf_X12_one lk_X12_75 ⟨rfl, rfl⟩ ⟨Nat.le_of_ble_eq_true rfl, Nat.le_of_ble_eq_true rfl⟩ rfl (Nat.le_of_ble_eq_true rfl) ⟨Nat.zero_le _, Nat.zero_le _⟩ rfl dX12_countGarbageOf_37 (fun hr22 => ?_)
            refine V_iadd (pc := 40) C dX12_countGarbageOf_40 ?_
            refine V_istore_n (pc := 41) C (L' := [(0, vr Γ 52), (1, vi (x1 + r22)), (2, vi x2)]) rfl (by decide) dX12_countGarbageOf_41 ?_
            refine V_iinc (pc := 42) C (L' := [(0, vr Γ 52), (1, vi (x1 + r22)), (2, vi (x2 + (1 : Int)))]) 2 rfl rfl (by decide) dX12_countGarbageOf_42 ?_
            refine V_goto (pc := 45) C 4 dX12_countGarbageOf_45 (by decide) ?_
            obtain ⟨g24, h⟩ := grd_of h
            obtain ⟨g25, h⟩ := grd_of h
            refine V_sub (L' := [(0, vr Γ 52), (1, vi (x1 + r22)), (2, vi (x2 + (1 : Int)))]) [0, 1, 2] rfl (by decide) ?_
            exact ih g24 g25 h
  skip
  refine V_iconst (pc := 0) C dX12_countGarbageOf_0 ?_
  refine V_istore_n (pc := 1) C (L' := [(0, vr Γ 52), (1, vi (0 : Int))]) rfl (by decide) dX12_countGarbageOf_1 ?_
  refine V_iconst (pc := 2) C dX12_countGarbageOf_2 ?_
  refine V_istore_n (pc := 3) C (L' := [(0, vr Γ 52), (1, vi (0 : Int)), (2, vi (0 : Int))]) rfl (by decide) dX12_countGarbageOf_3 ?_
  refine V_sub (L' := [(0, vr Γ 52), (1, vi (0 : Int)), (2, vi (0 : Int))]) [0, 1, 2] rfl (by decide) ?_
  exact LP4 fu  (by decide) (by decide) h
set_option maxRecDepth 100000 in
set_option maxHeartbeats 4000000 in
theorem c_X12_countExclusive (l : Launch) (Γ : GG) (sk : List SD) (hsk : ExtM sk) (fu : Nat) {M M' : Mem} {a1 : Int} {r : Int} (ha1 : rng a1) (h : f_X12_countExclusive fu M a1 = some (M', r)) : MetI l yX12_countExclusive cX12_countExclusive 4 .int ({ frames := 29, cells := 0, slots := 0, locals := 961 } : Room) Γ sk [vr Γ 52, vi a1] M M' r := by
  unfold f_X12_countExclusive at h
  refine MetI_of RX12 rfl (by decide) rfl (Nat.le_of_ble_eq_true rfl) rfl ?_
  intro p e s m args below meth c C hr hlk hM
  have e52 := hsk 52 _ (by decide) rfl
  have e53 := hsk 53 _ (by decide) rfl
  refine V_aload_n (pc := 0) C 0 rfl dX12_countExclusive_0 ?_
  obtain ⟨M1, r2, hc3, h⟩ := cal_of h
  refine V_callVV (pc := 1) C (c_X12_reachAll l Γ sk hsk fu hc3) cf_X12_reachAll lk_X12_174 ⟨rfl, rfl⟩ ⟨Nat.le_of_ble_eq_true rfl, Nat.le_of_ble_eq_true rfl⟩ e52 rfl rfl rfl (Nat.le_of_ble_eq_true rfl) ⟨Nat.zero_le _, Nat.zero_le _⟩ rfl dX12_countExclusive_1 ?_
  refine V_aload_n (pc := 4) C 0 rfl dX12_countExclusive_4 ?_
  obtain ⟨M4, r5, hc6, h⟩ := cal_of h
  refine V_callVI (pc := 5) C (c_X12_countGarbageOf l Γ sk hsk fu hc6) cf_X12_countGarbageOf lk_X12_361 ⟨rfl, rfl⟩ ⟨Nat.le_of_ble_eq_true rfl, Nat.le_of_ble_eq_true rfl⟩ e52 rfl rfl rfl (Nat.le_of_ble_eq_true rfl) ⟨Nat.zero_le _, Nat.zero_le _⟩ rfl dX12_countExclusive_5 (fun hr5 => ?_)
  refine V_istore_n (pc := 8) C (L' := [(0, vr Γ 52), (1, vi a1), (2, vi r5)]) rfl (by decide) dX12_countExclusive_8 ?_
  refine V_aload_n (pc := 9) C 0 rfl dX12_countExclusive_9 ?_
  refine V_getR (pc := 10) C e52 rfl inX12 0 (by decide) rfl lf_X12_9 rfl dX12_countExclusive_10 ?_
  refine V_iload_n (pc := 13) C 1 rfl dX12_countExclusive_13 ?_
  obtain ⟨M7, r8, hc9, h⟩ := cal_of h
  refine V_callSI (pc := 14) C (c_X12_v l Γ sk hsk fu ha1 hc9) cf_X12_v lk_X12_112 ⟨rfl, rfl⟩ ⟨Nat.le_of_ble_eq_true rfl, Nat.le_of_ble_eq_true rfl⟩ rfl (Nat.le_of_ble_eq_true rfl) ⟨Nat.zero_le _, Nat.zero_le _⟩ rfl dX12_countExclusive_14 (fun hr8 => ?_)
  refine V_iconst (pc := 17) C dX12_countExclusive_17 ?_
  refine V_iadd (pc := 18) C dX12_countExclusive_18 ?_
  refine V_iconst (pc := 19) C dX12_countExclusive_19 ?_
  obtain ⟨g10, h⟩ := grd_of h
  obtain ⟨g11, h⟩ := grd_of h
  refine V_iast (pc := 20) C (by decide) e53 g11 g10 (by decide) dX12_countExclusive_20 ?_
  refine V_aload_n (pc := 21) C 0 rfl dX12_countExclusive_21 ?_
  obtain ⟨M12, r13, hc14, h⟩ := cal_of h
  refine V_callVV (pc := 22) C (c_X12_reachAll l Γ sk hsk fu hc14) cf_X12_reachAll lk_X12_174 ⟨rfl, rfl⟩ ⟨Nat.le_of_ble_eq_true rfl, Nat.le_of_ble_eq_true rfl⟩ e52 rfl rfl rfl (Nat.le_of_ble_eq_true rfl) ⟨Nat.zero_le _, Nat.zero_le _⟩ rfl dX12_countExclusive_22 ?_
  refine V_aload_n (pc := 25) C 0 rfl dX12_countExclusive_25 ?_
  obtain ⟨M15, r16, hc17, h⟩ := cal_of h
  refine V_callVI (pc := 26) C (c_X12_countGarbageOf l Γ sk hsk fu hc17) cf_X12_countGarbageOf lk_X12_361 ⟨rfl, rfl⟩ ⟨Nat.le_of_ble_eq_true rfl, Nat.le_of_ble_eq_true rfl⟩ e52 rfl rfl rfl (Nat.le_of_ble_eq_true rfl) ⟨Nat.zero_le _, Nat.zero_le _⟩ rfl dX12_countExclusive_26 (fun hr16 => ?_)
  refine V_iload_n (pc := 29) C 2 rfl dX12_countExclusive_29 ?_
  refine V_isub (pc := 30) C dX12_countExclusive_30 ?_
  refine V_istore_n (pc := 31) C (L' := [(0, vr Γ 52), (1, vi a1), (2, vi r5), (3, vi (r16 - r5))]) rfl (by decide) dX12_countExclusive_31 ?_
  refine V_aload_n (pc := 32) C 0 rfl dX12_countExclusive_32 ?_
  refine V_getR (pc := 33) C e52 rfl inX12 0 (by decide) rfl lf_X12_9 rfl dX12_countExclusive_33 ?_
  refine V_iload_n (pc := 36) C 1 rfl dX12_countExclusive_36 ?_
  obtain ⟨M18, r19, hc20, h⟩ := cal_of h
  refine V_callSI (pc := 37) C (c_X12_v l Γ sk hsk fu ha1 hc20) cf_X12_v lk_X12_112 ⟨rfl, rfl⟩ ⟨Nat.le_of_ble_eq_true rfl, Nat.le_of_ble_eq_true rfl⟩ rfl (Nat.le_of_ble_eq_true rfl) ⟨Nat.zero_le _, Nat.zero_le _⟩ rfl dX12_countExclusive_37 (fun hr19 => ?_)
  refine V_iconst (pc := 40) C dX12_countExclusive_40 ?_
  refine V_iadd (pc := 41) C dX12_countExclusive_41 ?_
  refine V_iconst (pc := 42) C dX12_countExclusive_42 ?_
  obtain ⟨g21, h⟩ := grd_of h
  obtain ⟨g22, h⟩ := grd_of h
  refine V_iast (pc := 43) C (by decide) e53 g22 g21 (by decide) dX12_countExclusive_43 ?_
  refine V_iload_n (pc := 44) C 3 rfl dX12_countExclusive_44 ?_
  obtain ⟨g23, h⟩ := grd_of h
  exact V_iret (pc := 45) C hr hlk g23 h dX12_countExclusive_45
set_option maxRecDepth 100000 in
set_option maxHeartbeats 4000000 in
theorem c_X12_exclusiveNodes (l : Launch) (Γ : GG) (sk : List SD) (hsk : ExtM sk) (fu : Nat) {M M' : Mem} {a1 : Int} {r : Int} (ha1 : rng a1) (h : f_X12_exclusiveNodes fu M a1 = some (M', r)) : MetI l yX12_exclusiveNodes cX12_exclusiveNodes 2 .int ({ frames := 30, cells := 0, slots := 0, locals := 984 } : Room) Γ sk [vr Γ 52, vi a1] M M' r := by
  unfold f_X12_exclusiveNodes at h
  refine MetI_of RX12 rfl (by decide) rfl (Nat.le_of_ble_eq_true rfl) rfl ?_
  intro p e s m args below meth c C hr hlk hM
  have e52 := hsk 52 _ (by decide) rfl
  refine V_aload_n (pc := 0) C 0 rfl dX12_exclusiveNodes_0 ?_
  refine V_iload_n (pc := 1) C 1 rfl dX12_exclusiveNodes_1 ?_
  obtain ⟨M1, r2, hc3, h⟩ := cal_of h
  refine V_callVI (pc := 2) C (c_X12_checkLive l Γ sk hsk fu ha1 hc3) cf_X12_checkLive lk_X12_343 ⟨rfl, rfl⟩ ⟨Nat.le_of_ble_eq_true rfl, Nat.le_of_ble_eq_true rfl⟩ e52 rfl rfl rfl (Nat.le_of_ble_eq_true rfl) ⟨Nat.zero_le _, Nat.zero_le _⟩ rfl dX12_exclusiveNodes_2 (fun hr2 => ?_)
  refine V_if_eq (pc := 5) C 16 hr2 dX12_exclusiveNodes_5 (by decide) (fun c5_4 => ?_) (fun c5_4 => ?_)
  · have h := ite_t h c5_4
    refine V_iconst (pc := 16) C dX12_exclusiveNodes_16 ?_
    exact V_iret (pc := 17) C hr hlk (by decide) h dX12_exclusiveNodes_17
  · have h := ite_f h c5_4
    refine V_aload_n (pc := 8) C 0 rfl dX12_exclusiveNodes_8 ?_
    refine V_iload_n (pc := 9) C 1 rfl dX12_exclusiveNodes_9 ?_
    obtain ⟨M5, r6, hc7, h⟩ := cal_of h
    refine V_callVI (pc := 10) C (c_X12_countExclusive l Γ sk hsk fu ha1 hc7) cf_X12_countExclusive lk_X12_364 ⟨rfl, rfl⟩ ⟨Nat.le_of_ble_eq_true rfl, Nat.le_of_ble_eq_true rfl⟩ e52 rfl rfl rfl (Nat.le_of_ble_eq_true rfl) ⟨Nat.zero_le _, Nat.zero_le _⟩ rfl dX12_exclusiveNodes_10 (fun hr6 => ?_)
    refine V_goto (pc := 13) C 17 dX12_exclusiveNodes_13 (by decide) ?_
    exact V_iret (pc := 17) C hr hlk hr6 h dX12_exclusiveNodes_17
set_option maxRecDepth 100000 in
set_option maxHeartbeats 4000000 in
theorem c_X12_checkNode (l : Launch) (Γ : GG) (sk : List SD) (hsk : ExtM sk) (fu : Nat) {M M' : Mem} {a1 : Int} {r : Int} (ha1 : rng a1) (h : f_X12_checkNode fu M a1 = some (M', r)) : MetI l yX12_checkNode cX12_checkNode 2 .boolean ({ frames := 2, cells := 0, slots := 0, locals := 46 } : Room) Γ sk [vr Γ 52, vi a1] M M' r := by
  unfold f_X12_checkNode at h
  refine MetI_of RX12 rfl (by decide) rfl (Nat.le_of_ble_eq_true rfl) rfl ?_
  intro p e s m args below meth c C hr hlk hM
  have e52 := hsk 52 _ (by decide) rfl
  refine V_aload_n (pc := 0) C 0 rfl dX12_checkNode_0 ?_
  refine V_aload_n (pc := 1) C 0 rfl dX12_checkNode_1 ?_
  refine V_iload_n (pc := 2) C 1 rfl dX12_checkNode_2 ?_
  obtain ⟨M1, r2, hc3, h⟩ := cal_of h
  refine V_callVI (pc := 3) C (c_X12_isStored l Γ sk hsk fu ha1 hc3) cf_X12_isStored lk_X12_171 ⟨rfl, rfl⟩ ⟨Nat.le_of_ble_eq_true rfl, Nat.le_of_ble_eq_true rfl⟩ e52 rfl rfl rfl (Nat.le_of_ble_eq_true rfl) ⟨Nat.zero_le _, Nat.zero_le _⟩ rfl dX12_checkNode_3 (fun hr2 => ?_)
  refine V_iconst (pc := 6) C dX12_checkNode_6 ?_
  refine V_iconst (pc := 7) C dX12_checkNode_7 ?_
  obtain ⟨M4, r5, hc6, h⟩ := cal_of h
  refine V_callVI (pc := 8) C (c_X12_check l Γ sk hsk fu hr2 (by decide) (by decide) hc6) cf_X12_check lk_X12_330 ⟨rfl, rfl⟩ ⟨Nat.le_of_ble_eq_true rfl, Nat.le_of_ble_eq_true rfl⟩ e52 rfl rfl rfl (Nat.le_of_ble_eq_true rfl) ⟨Nat.zero_le _, Nat.zero_le _⟩ rfl dX12_checkNode_8 (fun hr5 => ?_)
  obtain ⟨g7, h⟩ := grd_of h
  exact V_zret (pc := 11) C hr hlk g7 h dX12_checkNode_11
set_option maxRecDepth 100000 in
set_option maxHeartbeats 4000000 in
theorem c_X12_isLeaf (l : Launch) (Γ : GG) (sk : List SD) (hsk : ExtM sk) (fu : Nat) {M M' : Mem} {a1 : Int} {r : Int} (ha1 : rng a1) (h : f_X12_isLeaf fu M a1 = some (M', r)) : MetI l yX12_isLeaf cX12_isLeaf 2 .boolean ({ frames := 3, cells := 0, slots := 0, locals := 67 } : Room) Γ sk [vr Γ 52, vi a1] M M' r := by
  unfold f_X12_isLeaf at h
  refine MetI_of RX12 rfl (by decide) rfl (Nat.le_of_ble_eq_true rfl) rfl ?_
  intro p e s m args below meth c C hr hlk hM
  have e52 := hsk 52 _ (by decide) rfl
  refine V_aload_n (pc := 0) C 0 rfl dX12_isLeaf_0 ?_
  refine V_iload_n (pc := 1) C 1 rfl dX12_isLeaf_1 ?_
  obtain ⟨M1, r2, hc3, h⟩ := cal_of h
  refine V_callVI (pc := 2) C (c_X12_checkNode l Γ sk hsk fu ha1 hc3) cf_X12_checkNode lk_X12_367 ⟨rfl, rfl⟩ ⟨Nat.le_of_ble_eq_true rfl, Nat.le_of_ble_eq_true rfl⟩ e52 rfl rfl rfl (Nat.le_of_ble_eq_true rfl) ⟨Nat.zero_le _, Nat.zero_le _⟩ rfl dX12_isLeaf_2 (fun hr2 => ?_)
  refine V_if_eq (pc := 5) C 20 hr2 dX12_isLeaf_5 (by decide) (fun c5_4 => ?_) (fun c5_4 => ?_)
  · have h := ite_t h c5_4
    refine V_iconst (pc := 20) C dX12_isLeaf_20 ?_
    exact V_zret (pc := 21) C hr hlk (by decide) h dX12_isLeaf_21
  · have h := ite_f h c5_4
    refine V_aload_n (pc := 8) C 0 rfl dX12_isLeaf_8 ?_
    refine V_iload_n (pc := 9) C 1 rfl dX12_isLeaf_9 ?_
    obtain ⟨M5, r6, hc7, h⟩ := cal_of h
    refine V_callVI (pc := 10) C (c_X12_isLeafNode l Γ sk hsk fu ha1 hc7) cf_X12_isLeafNode lk_X12_90 ⟨rfl, rfl⟩ ⟨Nat.le_of_ble_eq_true rfl, Nat.le_of_ble_eq_true rfl⟩ e52 rfl rfl rfl (Nat.le_of_ble_eq_true rfl) ⟨Nat.zero_le _, Nat.zero_le _⟩ rfl dX12_isLeaf_10 (fun hr6 => ?_)
    refine V_if_eq (pc := 13) C 20 hr6 dX12_isLeaf_13 (by decide) (fun c13_8 => ?_) (fun c13_8 => ?_)
    · have h := ite_t h c13_8
      refine V_iconst (pc := 20) C dX12_isLeaf_20 ?_
      exact V_zret (pc := 21) C hr hlk (by decide) h dX12_isLeaf_21
    · have h := ite_f h c13_8
      refine V_iconst (pc := 16) C dX12_isLeaf_16 ?_
      refine V_goto (pc := 17) C 21 dX12_isLeaf_17 (by decide) ?_
      exact V_zret (pc := 21) C hr hlk (by decide) h dX12_isLeaf_21
set_option maxRecDepth 100000 in
set_option maxHeartbeats 4000000 in
theorem c_X12_entryCount (l : Launch) (Γ : GG) (sk : List SD) (hsk : ExtM sk) (fu : Nat) {M M' : Mem} {a1 : Int} {r : Int} (ha1 : rng a1) (h : f_X12_entryCount fu M a1 = some (M', r)) : MetI l yX12_entryCount cX12_entryCount 2 .int ({ frames := 3, cells := 0, slots := 0, locals := 67 } : Room) Γ sk [vr Γ 52, vi a1] M M' r := by
  unfold f_X12_entryCount at h
  refine MetI_of RX12 rfl (by decide) rfl (Nat.le_of_ble_eq_true rfl) rfl ?_
  intro p e s m args below meth c C hr hlk hM
  have e52 := hsk 52 _ (by decide) rfl
  refine V_aload_n (pc := 0) C 0 rfl dX12_entryCount_0 ?_
  refine V_iload_n (pc := 1) C 1 rfl dX12_entryCount_1 ?_
  obtain ⟨M1, r2, hc3, h⟩ := cal_of h
  refine V_callVI (pc := 2) C (c_X12_checkNode l Γ sk hsk fu ha1 hc3) cf_X12_checkNode lk_X12_367 ⟨rfl, rfl⟩ ⟨Nat.le_of_ble_eq_true rfl, Nat.le_of_ble_eq_true rfl⟩ e52 rfl rfl rfl (Nat.le_of_ble_eq_true rfl) ⟨Nat.zero_le _, Nat.zero_le _⟩ rfl dX12_entryCount_2 (fun hr2 => ?_)
  refine V_if_eq (pc := 5) C 16 hr2 dX12_entryCount_5 (by decide) (fun c5_4 => ?_) (fun c5_4 => ?_)
  · have h := ite_t h c5_4
    refine V_iconst (pc := 16) C dX12_entryCount_16 ?_
    exact V_iret (pc := 17) C hr hlk (by decide) h dX12_entryCount_17
  · have h := ite_f h c5_4
    refine V_aload_n (pc := 8) C 0 rfl dX12_entryCount_8 ?_
    refine V_iload_n (pc := 9) C 1 rfl dX12_entryCount_9 ?_
    obtain ⟨M5, r6, hc7, h⟩ := cal_of h
    refine V_callVI (pc := 10) C (c_X12_countOf l Γ sk hsk fu ha1 hc7) cf_X12_countOf lk_X12_79 ⟨rfl, rfl⟩ ⟨Nat.le_of_ble_eq_true rfl, Nat.le_of_ble_eq_true rfl⟩ e52 rfl rfl rfl (Nat.le_of_ble_eq_true rfl) ⟨Nat.zero_le _, Nat.zero_le _⟩ rfl dX12_entryCount_10 (fun hr6 => ?_)
    refine V_goto (pc := 13) C 17 dX12_entryCount_13 (by decide) ?_
    exact V_iret (pc := 17) C hr hlk hr6 h dX12_entryCount_17
set_option maxRecDepth 100000 in
set_option maxHeartbeats 4000000 in
theorem c_X12_childOf (l : Launch) (Γ : GG) (sk : List SD) (hsk : ExtM sk) (fu : Nat) {M M' : Mem} {a1 : Int} {a2 : Int} {r : Int} (ha1 : rng a1) (ha2 : rng a2) (h : f_X12_childOf fu M a1 a2 = some (M', r)) : MetI l yX12_childOf cX12_childOf 4 .int ({ frames := 3, cells := 0, slots := 0, locals := 67 } : Room) Γ sk [vr Γ 52, vi a1, vi a2] M M' r := by
  unfold f_X12_childOf at h
  refine MetI_of RX12 rfl (by decide) rfl (Nat.le_of_ble_eq_true rfl) rfl ?_
  intro p e s m args below meth c C hr hlk hM
  have e52 := hsk 52 _ (by decide) rfl
  have JP40 : ∀ {x1 : Int} {x2 : Int} {y0 : Int} {M : Mem}, rng x1 → rng x2 → rng y0 → f_X12_childOf_J40 fu x1 x2 y0 M = some (M', r) → VV p l e ({ frames := 3, cells := 0, slots := 0, locals := 67 } : Room) s m args below meth c (MQ below (PostI Γ sk M' r s.heap.size) args s 0 0 (Fr Γ sk s.heap.size)) 4 Γ sk M 0 0 40 [(0, vr Γ 52), (1, vi x1), (2, vi x2)] [vi y0] := by
    intro x1 x2 y0 M hx1 hx2 hy0 h
    unfold f_X12_childOf_J40 at h
    refine V_istore_n (pc := 40) C (L' := [(0, vr Γ 52), (1, vi x1), (2, vi x2), (3, vi y0)]) rfl (by decide) dX12_childOf_40 ?_
    refine V_iload_n (pc := 41) C 3 rfl dX12_childOf_41 ?_
    refine V_if_eq (pc := 42) C 54 hy0 dX12_childOf_42 (by decide) (fun c42_9 => ?_) (fun c42_9 => ?_)
    · have h := ite_t h c42_9
      refine V_iconst (pc := 54) C dX12_childOf_54 ?_
      exact V_iret (pc := 55) C hr hlk (by decide) h dX12_childOf_55
    · have h := ite_f h c42_9
      refine V_aload_n (pc := 45) C 0 rfl dX12_childOf_45 ?_
      refine V_iload_n (pc := 46) C 1 rfl dX12_childOf_46 ?_
      refine V_iload_n (pc := 47) C 2 rfl dX12_childOf_47 ?_
      obtain ⟨M10, r11, hc12, h⟩ := cal_of h
      refine V_callVI (pc := 48) C (c_X12_entry l Γ sk hsk fu hx1 hx2 hc12) cf_X12_entry lk_X12_71 ⟨rfl, rfl⟩ ⟨Nat.le_of_ble_eq_true rfl, Nat.le_of_ble_eq_true rfl⟩ e52 rfl rfl rfl (Nat.le_of_ble_eq_true rfl) ⟨Nat.zero_le _, Nat.zero_le _⟩ rfl dX12_childOf_48 (fun hr11 => ?_)
      refine V_goto (pc := 51) C 55 dX12_childOf_51 (by decide) ?_
      exact V_iret (pc := 55) C hr hlk hr11 h dX12_childOf_55
  have JP39 : ∀ {x1 : Int} {x2 : Int} {M : Mem}, rng x1 → rng x2 → f_X12_childOf_J39 fu x1 x2 M = some (M', r) → VV p l e ({ frames := 3, cells := 0, slots := 0, locals := 67 } : Room) s m args below meth c (MQ below (PostI Γ sk M' r s.heap.size) args s 0 0 (Fr Γ sk s.heap.size)) 4 Γ sk M 0 0 39 [(0, vr Γ 52), (1, vi x1), (2, vi x2)] [] := by
    intro x1 x2 M hx1 hx2 h
    unfold f_X12_childOf_J39 at h
    refine V_iconst (pc := 39) C dX12_childOf_39 ?_
    refine V_sub (L' := [(0, vr Γ 52), (1, vi x1), (2, vi x2)]) [0, 1, 2] rfl (by decide) ?_
    exact JP40 hx1 hx2 (by decide) h
  skip
  refine V_aload_n (pc := 0) C 0 rfl dX12_childOf_0 ?_
  refine V_iload_n (pc := 1) C 1 rfl dX12_childOf_1 ?_
  obtain ⟨M1, r2, hc3, h⟩ := cal_of h
  refine V_callVI (pc := 2) C (c_X12_checkNode l Γ sk hsk fu ha1 hc3) cf_X12_checkNode lk_X12_367 ⟨rfl, rfl⟩ ⟨Nat.le_of_ble_eq_true rfl, Nat.le_of_ble_eq_true rfl⟩ e52 rfl rfl rfl (Nat.le_of_ble_eq_true rfl) ⟨Nat.zero_le _, Nat.zero_le _⟩ rfl dX12_childOf_2 (fun hr2 => ?_)
  refine V_if_ne (pc := 5) C 10 hr2 dX12_childOf_5 (by decide) (fun c5_4 => ?_) (fun c5_4 => ?_)
  · have h := ite_f h c5_4
    refine V_aload_n (pc := 10) C 0 rfl dX12_childOf_10 ?_
    refine V_iload_n (pc := 11) C 1 rfl dX12_childOf_11 ?_
    obtain ⟨M5, r6, hc7, h⟩ := cal_of h
    refine V_callVI (pc := 12) C (c_X12_isLeafNode l Γ sk hsk fu ha1 hc7) cf_X12_isLeafNode lk_X12_90 ⟨rfl, rfl⟩ ⟨Nat.le_of_ble_eq_true rfl, Nat.le_of_ble_eq_true rfl⟩ e52 rfl rfl rfl (Nat.le_of_ble_eq_true rfl) ⟨Nat.zero_le _, Nat.zero_le _⟩ rfl dX12_childOf_12 (fun hr6 => ?_)
    refine V_if_ne (pc := 15) C 39 hr6 dX12_childOf_15 (by decide) (fun c15_8 => ?_) (fun c15_8 => ?_)
    · have h := ite_f h c15_8
      refine V_sub (L' := [(0, vr Γ 52), (1, vi a1), (2, vi a2)]) [0, 1, 2] rfl (by decide) ?_
      exact JP39 ha1 ha2 h
    · have h := ite_t h c15_8
      refine V_iload_n (pc := 18) C 2 rfl dX12_childOf_18 ?_
      refine V_i2l (pc := 19) C ha2 dX12_childOf_19 ?_
      refine V_lconst (pc := 20) C (x := (0 : Int)) dX12_childOf_20 rfl ?_
      refine V_aload_n (pc := 21) C 0 rfl dX12_childOf_21 ?_
      refine V_iload_n (pc := 22) C 1 rfl dX12_childOf_22 ?_
      obtain ⟨M13, r14, hc15, h⟩ := cal_of h
      refine V_callVI (pc := 23) C (c_X12_countOf l Γ sk hsk fu ha1 hc15) cf_X12_countOf lk_X12_79 ⟨rfl, rfl⟩ ⟨Nat.le_of_ble_eq_true rfl, Nat.le_of_ble_eq_true rfl⟩ e52 rfl rfl rfl (Nat.le_of_ble_eq_true rfl) ⟨Nat.zero_le _, Nat.zero_le _⟩ rfl dX12_childOf_23 (fun hr14 => ?_)
      refine V_iconst (pc := 26) C dX12_childOf_26 ?_
      refine V_isub (pc := 27) C dX12_childOf_27 ?_
      obtain ⟨g16, h⟩ := grd_of h
      refine V_i2l (pc := 28) C g16 dX12_childOf_28 ?_
      obtain ⟨M17, r18, hc19, h⟩ := cal_of h
      refine V_callSI (pc := 29) C (c_X12_isWithin l Γ sk hsk fu ha2 (by decide) g16 hc19) cf_X12_isWithin lk_X12_167 ⟨rfl, rfl⟩ ⟨Nat.le_of_ble_eq_true rfl, Nat.le_of_ble_eq_true rfl⟩ rfl (Nat.le_of_ble_eq_true rfl) ⟨Nat.zero_le _, Nat.zero_le _⟩ rfl dX12_childOf_29 (fun hr18 => ?_)
      refine V_if_eq (pc := 32) C 39 hr18 dX12_childOf_32 (by decide) (fun c32_20 => ?_) (fun c32_20 => ?_)
      · have h := ite_t h c32_20
        refine V_sub (L' := [(0, vr Γ 52), (1, vi a1), (2, vi a2)]) [0, 1, 2] rfl (by decide) ?_
        exact JP39 ha1 ha2 h
      · have h := ite_f h c32_20
        refine V_iconst (pc := 35) C dX12_childOf_35 ?_
        refine V_goto (pc := 36) C 40 dX12_childOf_36 (by decide) ?_
        refine V_sub (L' := [(0, vr Γ 52), (1, vi a1), (2, vi a2)]) [0, 1, 2] rfl (by decide) ?_
        exact JP40 ha1 ha2 (by decide) h
  · have h := ite_t h c5_4
    refine V_iconst (pc := 8) C dX12_childOf_8 ?_
    exact V_iret (pc := 9) C hr hlk (by decide) h dX12_childOf_9
