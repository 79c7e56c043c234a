set_option maxRecDepth 100000 in
set_option maxHeartbeats 4000000 in
theorem c_X12_isLeafNode (l : Launch) (Γ : GG) (sk : List SD) (hsk : ExtM sk) (fu : Nat) {M M' : Mem} {a1 : Int} {r : Int} (ha1 : rng a1) (h : f_X12_isLeafNode fu M a1 = some (M', r)) : MetI l yX12_isLeafNode cX12_isLeafNode 2 .boolean ({ frames := 1, cells := 0, slots := 0, locals := 20 } : Room) Γ sk [vr Γ 52, vi a1] M M' r := by
  unfold f_X12_isLeafNode at h
  refine MetI_of RX12 rfl (by decide) rfl (Nat.le_of_ble_eq_true rfl) rfl ?_
  intro p e s m args below meth c C hr hlk hM
  have e52 := hsk 52 _ (by decide) rfl
  have e53 := hsk 53 _ (by decide) rfl
  refine V_aload_n (pc := 0) C 0 rfl dX12_isLeafNode_0 ?_
  refine V_getR (pc := 1) C e52 rfl inX12 0 (by decide) rfl lf_X12_9 rfl dX12_isLeafNode_1 ?_
  refine V_iload_n (pc := 4) C 1 rfl dX12_isLeafNode_4 ?_
  obtain ⟨M1, r2, hc3, h⟩ := cal_of h
  refine V_callSI (pc := 5) C (c_X12_n l Γ sk hsk fu ha1 hc3) cf_X12_n lk_X12_68 ⟨rfl, rfl⟩ ⟨Nat.le_of_ble_eq_true rfl, Nat.le_of_ble_eq_true rfl⟩ rfl (Nat.le_of_ble_eq_true rfl) ⟨Nat.zero_le _, Nat.zero_le _⟩ rfl dX12_isLeafNode_5 (fun hr2 => ?_)
  refine V_iconst (pc := 8) C dX12_isLeafNode_8 ?_
  refine V_iadd (pc := 9) C dX12_isLeafNode_9 ?_
  refine V_rng fun hM4 => ?_
  obtain ⟨g5, h⟩ := grd_of h
  obtain ⟨g6, h⟩ := grd_of h
  refine V_iald (pc := 10) C e53 g6 g5 dX12_isLeafNode_10 ?_
  refine V_iconst (pc := 11) C dX12_isLeafNode_11 ?_
  refine V_icmp_ne (pc := 12) C 19 (hM4 _ _) (by decide) dX12_isLeafNode_12 (by decide) (fun c12_7 => ?_) (fun c12_7 => ?_)
  · have h := ite_f h c12_7
    refine V_iconst (pc := 19) C dX12_isLeafNode_19 ?_
    exact V_zret (pc := 20) C hr hlk (by decide) h dX12_isLeafNode_20
  · have h := ite_t h c12_7
    refine V_iconst (pc := 15) C dX12_isLeafNode_15 ?_
    refine V_goto (pc := 16) C 20 dX12_isLeafNode_16 (by decide) ?_
    exact V_zret (pc := 20) C hr hlk (by decide) h dX12_isLeafNode_20
set_option maxRecDepth 100000 in
set_option maxHeartbeats 4000000 in
theorem c_X12_countOf (l : Launch) (Γ : GG) (sk : List SD) (hsk : ExtM sk) (fu : Nat) {M M' : Mem} {a1 : Int} {r : Int} (ha1 : rng a1) (h : f_X12_countOf fu M a1 = some (M', r)) : MetI l yX12_countOf cX12_countOf 2 .int ({ frames := 1, cells := 0, slots := 0, locals := 20 } : Room) Γ sk [vr Γ 52, vi a1] M M' r := by
  unfold f_X12_countOf at h
  refine MetI_of RX12 rfl (by decide) rfl (Nat.le_of_ble_eq_true rfl) rfl ?_
  intro p e s m args below meth c C hr hlk hM
  have e52 := hsk 52 _ (by decide) rfl
  have e53 := hsk 53 _ (by decide) rfl
  refine V_aload_n (pc := 0) C 0 rfl dX12_countOf_0 ?_
  refine V_getR (pc := 1) C e52 rfl inX12 0 (by decide) rfl lf_X12_9 rfl dX12_countOf_1 ?_
  refine V_iload_n (pc := 4) C 1 rfl dX12_countOf_4 ?_
  obtain ⟨M1, r2, hc3, h⟩ := cal_of h
  refine V_callSI (pc := 5) C (c_X12_n l Γ sk hsk fu ha1 hc3) cf_X12_n lk_X12_68 ⟨rfl, rfl⟩ ⟨Nat.le_of_ble_eq_true rfl, Nat.le_of_ble_eq_true rfl⟩ rfl (Nat.le_of_ble_eq_true rfl) ⟨Nat.zero_le _, Nat.zero_le _⟩ rfl dX12_countOf_5 (fun hr2 => ?_)
  refine V_iconst (pc := 8) C dX12_countOf_8 ?_
  refine V_iadd (pc := 9) C dX12_countOf_9 ?_
  refine V_rng fun hM4 => ?_
  obtain ⟨g5, h⟩ := grd_of h
  obtain ⟨g6, h⟩ := grd_of h
  refine V_iald (pc := 10) C e53 g6 g5 dX12_countOf_10 ?_
  exact V_iret (pc := 11) C hr hlk (hM4 _ _) h dX12_countOf_11
set_option maxRecDepth 100000 in
set_option maxHeartbeats 4000000 in
theorem c_X12_entry (l : Launch) (Γ : GG) (sk : List SD) (hsk : ExtM sk) (fu : Nat) {M M' : Mem} {a1 : Int} {a2 : Int} {r : Int} (ha1 : rng a1) (ha2 : rng a2) (h : f_X12_entry fu M a1 a2 = some (M', r)) : MetI l yX12_entry cX12_entry 3 .int ({ frames := 1, cells := 0, slots := 0, locals := 20 } : Room) Γ sk [vr Γ 52, vi a1, vi a2] M M' r := by
  unfold f_X12_entry at h
  refine MetI_of RX12 rfl (by decide) rfl (Nat.le_of_ble_eq_true rfl) rfl ?_
  intro p e s m args below meth c C hr hlk hM
  have e52 := hsk 52 _ (by decide) rfl
  have e53 := hsk 53 _ (by decide) rfl
  refine V_aload_n (pc := 0) C 0 rfl dX12_entry_0 ?_
  refine V_getR (pc := 1) C e52 rfl inX12 0 (by decide) rfl lf_X12_9 rfl dX12_entry_1 ?_
  refine V_iload_n (pc := 4) C 1 rfl dX12_entry_4 ?_
  obtain ⟨M1, r2, hc3, h⟩ := cal_of h
  refine V_callSI (pc := 5) C (c_X12_n l Γ sk hsk fu ha1 hc3) cf_X12_n lk_X12_68 ⟨rfl, rfl⟩ ⟨Nat.le_of_ble_eq_true rfl, Nat.le_of_ble_eq_true rfl⟩ rfl (Nat.le_of_ble_eq_true rfl) ⟨Nat.zero_le _, Nat.zero_le _⟩ rfl dX12_entry_5 (fun hr2 => ?_)
  refine V_iconst (pc := 8) C dX12_entry_8 ?_
  refine V_iadd (pc := 9) C dX12_entry_9 ?_
  refine V_iload_n (pc := 10) C 2 rfl dX12_entry_10 ?_
  refine V_iadd (pc := 11) C dX12_entry_11 ?_
  refine V_rng fun hM4 => ?_
  obtain ⟨g5, h⟩ := grd_of h
  obtain ⟨g6, h⟩ := grd_of h
  refine V_iald (pc := 12) C e53 g6 g5 dX12_entry_12 ?_
  exact V_iret (pc := 13) C hr hlk (hM4 _ _) h dX12_entry_13
set_option maxRecDepth 100000 in
set_option maxHeartbeats 4000000 in
theorem c_X12_takeEntries (l : Launch) (Γ : GG) (sk : List SD) (hsk : ExtM sk) (fu : Nat) {M M' : Mem} {a1 : Int} {a2 : Int} {r : Int} (ha1 : rng a1) (ha2 : rng a2) (h : f_X12_takeEntries fu M a1 a2 = some (M', r)) : MetV l yX12_takeEntries cX12_takeEntries 4 ({ frames := 2, cells := 0, slots := 0, locals := 42 } : Room) Γ sk [vr Γ 52, vi a1, vi a2] M M' := by
  unfold f_X12_takeEntries at h
  refine MetV_of RX12 rfl (by decide) rfl (Nat.le_of_ble_eq_true rfl) rfl ?_
  intro p e s m args below meth c C hr hlk hM
  have e52 := hsk 52 _ (by decide) rfl
  have e57 := hsk 57 _ (by decide) rfl
  have LP2 : ∀ (n : Nat) {x1 : Int} {x2 : Int} {x3 : Int} {M : Mem}, rng x1 → rng x2 → rng x3 → f_X12_takeEntries_L2 fu n x1 x2 x3 M = some (M', r) → VV p l e ({ frames := 2, cells := 0, slots := 0, locals := 42 } : Room) s m args below meth c (MQ below (PostV Γ sk M' s.heap.size) args s 0 0 (Fr Γ sk s.heap.size)) 4 Γ sk M 0 0 2 [(0, vr Γ 52), (1, vi x1), (2, vi x2), (3, vi x3)] [] := by
    intro n
    induction n with
    | zero =>
      intro x1 x2 x3 M hx1 hx2 hx3 h
      cases h
    | succ n ih =>
      intro x1 x2 x3 M hx1 hx2 hx3 h
      rw [f_X12_takeEntries_L2] at h
      refine V_iload_n (pc := 2) C 3 rfl dX12_takeEntries_2 ?_
      refine V_iload_n (pc := 3) C 2 rfl dX12_takeEntries_3 ?_
      refine V_icmp_ge (pc := 4) C 25 hx3 hx2 dX12_takeEntries_4 (by decide) (fun c4_1 => ?_) (fun c4_1 => ?_)
      · have h := ite_t h c4_1
        exact V_vret (pc := 25) C hr hlk h dX12_takeEntries_25
      · have h := ite_f h c4_1
        refine V_aload_n (pc := 7) C 0 rfl dX12_takeEntries_7 ?_
        refine V_getR (pc := 8) C e52 rfl inX12 7 (by decide) rfl lf_X12_23 rfl dX12_takeEntries_8 ?_
        refine V_iload_n (pc := 11) C 3 rfl dX12_takeEntries_11 ?_
        refine V_aload_n (pc := 12) C 0 rfl dX12_takeEntries_12 ?_
        refine V_iload_n (pc := 13) C 1 rfl dX12_takeEntries_13 ?_
        refine V_iload_n (pc := 14) C 3 rfl dX12_takeEntries_14 ?_
        obtain ⟨M2, r3, hc4, h⟩ := cal_of h
        refine V_callVI (pc := 15) C (c_X12_entry l Γ sk hsk fu hx1 hx3 hc4) cf_X12_entry lk_X12_71 ⟨rfl, rfl⟩ ⟨Nat.le_of_ble_eq_true rfl, Nat.le_of_ble_eq_true rfl⟩ e52 rfl rfl rfl (Nat.le_of_ble_eq_true rfl) ⟨Nat.zero_le _, Nat.zero_le _⟩ rfl dX12_takeEntries_15 (fun hr3 => ?_)
        obtain ⟨g5, h⟩ := grd_of h
        refine V_iast (pc := 18) C (by decide) e57 g5 hx3 hr3 dX12_takeEntries_18 ?_
        refine V_iinc (pc := 19) C (L' := [(0, vr Γ 52), (1, vi x1), (2, vi x2), (3, vi (x3 + (1 : Int)))]) 3 rfl rfl (by decide) dX12_takeEntries_19 ?_
        refine V_goto (pc := 22) C 2 dX12_takeEntries_22 (by decide) ?_
        obtain ⟨g6, h⟩ := grd_of h
        refine V_sub (L' := [(0, vr Γ 52), (1, vi x1), (2, vi x2), (3, vi (x3 + (1 : Int)))]) [0, 1, 2, 3] rfl (by decide) ?_
        exact ih hx1 hx2 g6 h
  skip
  refine V_iconst (pc := 0) C dX12_takeEntries_0 ?_
  refine V_istore_n (pc := 1) C (L' := [(0, vr Γ 52), (1, vi a1), (2, vi a2), (3, vi (0 : Int))]) rfl (by decide) dX12_takeEntries_1 ?_
  refine V_sub (L' := [(0, vr Γ 52), (1, vi a1), (2, vi a2), (3, vi (0 : Int))]) [0, 1, 2, 3] rfl (by decide) ?_
  exact LP2 fu  ha1 ha2 (by decide) h
set_option maxRecDepth 100000 in
set_option maxHeartbeats 4000000 in
theorem c_X12_makeNode (l : Launch) (Γ : GG) (sk : List SD) (hsk : ExtM sk) (fu : Nat) {M M' : Mem} {a1 : Int} {a2 : Int} {r : Int} (ha1 : rng a1) (ha2 : rng a2) (h : f_X12_makeNode fu M a1 a2 = some (M', r)) : MetI l yX12_makeNode cX12_makeNode 5 .int ({ frames := 1, cells := 0, slots := 0, locals := 20 } : Room) Γ sk [vr Γ 52, vi a1, vi a2] M M' r := by
  unfold f_X12_makeNode at h
  refine MetI_of RX12 rfl (by decide) rfl (Nat.le_of_ble_eq_true rfl) rfl ?_
  intro p e s m args below meth c C hr hlk hM
  have e52 := hsk 52 _ (by decide) rfl
  have e53 := hsk 53 _ (by decide) rfl
  have e57 := hsk 57 _ (by decide) rfl
  have LP37 : ∀ (n : Nat) {x2 : Int} {x3 : Int} {x4 : Int} {M : Mem}, rng x2 → rng x3 → rng x4 → f_X12_makeNode_L37 fu n x2 x3 x4 M = some (M', r) → VV p l e ({ frames := 1, cells := 0, slots := 0, locals := 20 } : Room) s m args below meth c (MQ below (PostI Γ sk M' r s.heap.size) args s 0 0 (Fr Γ sk s.heap.size)) 5 Γ sk M 0 0 37 [(0, vr Γ 52), (2, vi x2), (3, vi x3), (4, vi x4)] [] := by
    intro n
    induction n with
    | zero =>
      intro x2 x3 x4 M hx2 hx3 hx4 h
      cases h
    | succ n ih =>
      intro x2 x3 x4 M hx2 hx3 hx4 h
      rw [f_X12_makeNode_L37] at h
      refine V_iload (pc := 37) C 3 rfl dX12_makeNode_37 ?_
      refine V_iconst (pc := 39) C dX12_makeNode_39 ?_
      refine V_icmp_ge (pc := 40) C 80 hx4 (by decide) dX12_makeNode_40 (by decide) (fun c40_15 => ?_) (fun c40_15 => ?_)
      · have h := ite_t h c40_15
        refine V_aload_n (pc := 80) C 0 rfl dX12_makeNode_80 ?_
        refine V_getR (pc := 81) C e52 rfl inX12 0 (by decide) rfl lf_X12_9 rfl dX12_makeNode_81 ?_
        refine V_iload_n (pc := 84) C 2 rfl dX12_makeNode_84 ?_
        obtain ⟨M16, r17, hc18, h⟩ := cal_of h
        refine V_callSI (pc := 85) C (c_X12_n l Γ sk hsk fu hx3 hc18) cf_X12_n lk_X12_68 ⟨rfl, rfl⟩ ⟨Nat.le_of_ble_eq_true rfl, Nat.le_of_ble_eq_true rfl⟩ rfl (Nat.le_of_ble_eq_true rfl) ⟨Nat.zero_le _, Nat.zero_le _⟩ rfl dX12_makeNode_85 (fun hr17 => ?_)
        refine V_bipush (pc := 88) C dX12_makeNode_88 rfl ?_
        refine V_iadd (pc := 90) C dX12_makeNode_90 ?_
        refine V_iconst (pc := 91) C dX12_makeNode_91 ?_
        obtain ⟨g19, h⟩ := grd_of h
        obtain ⟨g20, h⟩ := grd_of h
        refine V_iast (pc := 92) C (by decide) e53 g20 g19 (by decide) dX12_makeNode_92 ?_
        refine V_aload_n (pc := 93) C 0 rfl dX12_makeNode_93 ?_
        refine V_getR (pc := 94) C e52 rfl inX12 0 (by decide) rfl lf_X12_9 rfl dX12_makeNode_94 ?_
        refine V_iconst (pc := 97) C dX12_makeNode_97 ?_
        refine V_dup2 (pc := 98) C rfl rfl dX12_makeNode_98 ?_
        refine V_rng fun hM21 => ?_
        obtain ⟨g22, h⟩ := grd_of h
        refine V_iald (pc := 99) C e53 g22 (by decide) dX12_makeNode_99 ?_
        refine V_iconst (pc := 100) C dX12_makeNode_100 ?_
        refine V_iadd (pc := 101) C dX12_makeNode_101 ?_
        obtain ⟨g23, h⟩ := grd_of h
        obtain ⟨g24, h⟩ := grd_of h
        refine V_iast (pc := 102) C (by decide) e53 g23 (by decide) g24 dX12_makeNode_102 ?_
        refine V_iload_n (pc := 103) C 2 rfl dX12_makeNode_103 ?_
        exact V_iret (pc := 104) C hr hlk hx3 h dX12_makeNode_104
      · have h := ite_f h c40_15
        refine V_aload_n (pc := 43) C 0 rfl dX12_makeNode_43 ?_
        refine V_getR (pc := 44) C e52 rfl inX12 0 (by decide) rfl lf_X12_9 rfl dX12_makeNode_44 ?_
        refine V_iload_n (pc := 47) C 2 rfl dX12_makeNode_47 ?_
        obtain ⟨M25, r26, hc27, h⟩ := cal_of h
        refine V_callSI (pc := 48) C (c_X12_n l Γ sk hsk fu hx3 hc27) cf_X12_n lk_X12_68 ⟨rfl, rfl⟩ ⟨Nat.le_of_ble_eq_true rfl, Nat.le_of_ble_eq_true rfl⟩ rfl (Nat.le_of_ble_eq_true rfl) ⟨Nat.zero_le _, Nat.zero_le _⟩ rfl dX12_makeNode_48 (fun hr26 => ?_)
        refine V_iconst (pc := 51) C dX12_makeNode_51 ?_
        refine V_iadd (pc := 52) C dX12_makeNode_52 ?_
        refine V_iload (pc := 53) C 3 rfl dX12_makeNode_53 ?_
        refine V_iadd (pc := 55) C dX12_makeNode_55 ?_
        refine V_iload (pc := 56) C 3 rfl dX12_makeNode_56 ?_
        refine V_iload_n (pc := 58) C 1 rfl dX12_makeNode_58 ?_
        refine V_icmp_ge (pc := 59) C 72 hx4 hx2 dX12_makeNode_59 (by decide) (fun c59_28 => ?_) (fun c59_28 => ?_)
        · have h := ite_t h c59_28
          refine V_iconst (pc := 72) C dX12_makeNode_72 ?_
          obtain ⟨g29, h⟩ := grd_of h
          obtain ⟨g30, h⟩ := grd_of h
          refine V_iast (pc := 73) C (by decide) e53 g30 g29 (by decide) dX12_makeNode_73 ?_
          refine V_iinc (pc := 74) C (L' := [(0, vr Γ 52), (2, vi x2), (3, vi x3), (4, vi (x4 + (1 : Int)))]) 3 rfl rfl (by decide) dX12_makeNode_74 ?_
          refine V_goto (pc := 77) C 37 dX12_makeNode_77 (by decide) ?_
          obtain ⟨g31, h⟩ := grd_of h
          refine V_sub (L' := [(0, vr Γ 52), (2, vi x2), (3, vi x3), (4, vi (x4 + (1 : Int)))]) [0, 1, 2, 3] rfl (by decide) ?_
          exact ih hx2 hx3 g31 h
        · have h := ite_f h c59_28
          refine V_aload_n (pc := 62) C 0 rfl dX12_makeNode_62 ?_
          refine V_getR (pc := 63) C e52 rfl inX12 7 (by decide) rfl lf_X12_23 rfl dX12_makeNode_63 ?_
          refine V_iload (pc := 66) C 3 rfl dX12_makeNode_66 ?_
          refine V_rng fun hM32 => ?_
          obtain ⟨g33, h⟩ := grd_of h
          refine V_iald (pc := 68) C e57 g33 hx4 dX12_makeNode_68 ?_
          refine V_goto (pc := 69) C 73 dX12_makeNode_69 (by decide) ?_
          obtain ⟨g34, h⟩ := grd_of h
          obtain ⟨g35, h⟩ := grd_of h
          refine V_iast (pc := 73) C (by decide) e53 g35 g34 (hM32 _ _) dX12_makeNode_73 ?_
          refine V_iinc (pc := 74) C (L' := [(0, vr Γ 52), (2, vi x2), (3, vi x3), (4, vi (x4 + (1 : Int)))]) 3 rfl rfl (by decide) dX12_makeNode_74 ?_
          refine V_goto (pc := 77) C 37 dX12_makeNode_77 (by decide) ?_
          obtain ⟨g36, h⟩ := grd_of h
          refine V_sub (L' := [(0, vr Γ 52), (2, vi x2), (3, vi x3), (4, vi (x4 + (1 : Int)))]) [0, 1, 2, 3] rfl (by decide) ?_
          exact ih hx2 hx3 g36 h
  skip
  refine V_aload_n (pc := 0) C 0 rfl dX12_makeNode_0 ?_
  refine V_getR (pc := 1) C e52 rfl inX12 0 (by decide) rfl lf_X12_9 rfl dX12_makeNode_1 ?_
  refine V_iconst (pc := 4) C dX12_makeNode_4 ?_
  obtain ⟨g1, h⟩ := grd_of h
  refine V_iald (pc := 5) C e53 g1 (by decide) dX12_makeNode_5 ?_
  refine V_istore_n (pc := 6) C (L' := [(0, vr Γ 52), (1, vi a1), (2, vi a2), (3, vi (M 53 ((1 : Int) : Int).toNat))]) rfl (by decide) dX12_makeNode_6 ?_
  refine V_aload_n (pc := 7) C 0 rfl dX12_makeNode_7 ?_
  refine V_getR (pc := 8) C e52 rfl inX12 0 (by decide) rfl lf_X12_9 rfl dX12_makeNode_8 ?_
  refine V_iload_n (pc := 11) C 3 rfl dX12_makeNode_11 ?_
  obtain ⟨M2, r3, hc4, h⟩ := cal_of h
  refine V_callSI (pc := 12) C (c_X12_n l Γ sk hsk fu (hM _ _) hc4) cf_X12_n lk_X12_68 ⟨rfl, rfl⟩ ⟨Nat.le_of_ble_eq_true rfl, Nat.le_of_ble_eq_true rfl⟩ rfl (Nat.le_of_ble_eq_true rfl) ⟨Nat.zero_le _, Nat.zero_le _⟩ rfl dX12_makeNode_12 (fun hr3 => ?_)
  refine V_iconst (pc := 15) C dX12_makeNode_15 ?_
  refine V_iadd (pc := 16) C dX12_makeNode_16 ?_
  refine V_iload_n (pc := 17) C 1 rfl dX12_makeNode_17 ?_
  obtain ⟨M5, r6, hc7, h⟩ := cal_of h
  refine V_callSI (pc := 18) C (c_X12_one l Γ sk hsk fu ha1 hc7) cf_X12_one lk_X12_75 ⟨rfl, rfl⟩ ⟨Nat.le_of_ble_eq_true rfl, Nat.le_of_ble_eq_true rfl⟩ rfl (Nat.le_of_ble_eq_true rfl) ⟨Nat.zero_le _, Nat.zero_le _⟩ rfl dX12_makeNode_18 (fun hr6 => ?_)
  obtain ⟨g8, h⟩ := grd_of h
  obtain ⟨g9, h⟩ := grd_of h
  refine V_iast (pc := 21) C (by decide) e53 g9 g8 hr6 dX12_makeNode_21 ?_
  refine V_aload_n (pc := 22) C 0 rfl dX12_makeNode_22 ?_
  refine V_getR (pc := 23) C e52 rfl inX12 0 (by decide) rfl lf_X12_9 rfl dX12_makeNode_23 ?_
  refine V_iload_n (pc := 26) C 3 rfl dX12_makeNode_26 ?_
  obtain ⟨M10, r11, hc12, h⟩ := cal_of h
  refine V_callSI (pc := 27) C (c_X12_n l Γ sk hsk fu (hM _ _) hc12) cf_X12_n lk_X12_68 ⟨rfl, rfl⟩ ⟨Nat.le_of_ble_eq_true rfl, Nat.le_of_ble_eq_true rfl⟩ rfl (Nat.le_of_ble_eq_true rfl) ⟨Nat.zero_le _, Nat.zero_le _⟩ rfl dX12_makeNode_27 (fun hr11 => ?_)
  refine V_iconst (pc := 30) C dX12_makeNode_30 ?_
  refine V_iadd (pc := 31) C dX12_makeNode_31 ?_
  refine V_iload_n (pc := 32) C 2 rfl dX12_makeNode_32 ?_
  obtain ⟨g13, h⟩ := grd_of h
  obtain ⟨g14, h⟩ := grd_of h
  refine V_iast (pc := 33) C (by decide) e53 g14 g13 ha2 dX12_makeNode_33 ?_
  refine V_iconst (pc := 34) C dX12_makeNode_34 ?_
  refine V_istore (pc := 35) C (L' := [(0, vr Γ 52), (1, vi a1), (2, vi a2), (3, vi (M 53 ((1 : Int) : Int).toNat)), (4, vi (0 : Int))]) rfl (by decide) dX12_makeNode_35 ?_
  refine V_sub (L' := [(0, vr Γ 52), (2, vi a2), (3, vi (M 53 ((1 : Int) : Int).toNat)), (4, vi (0 : Int))]) [0, 2, 3, 4] rfl (by decide) ?_
  exact LP37 fu  ha2 (hM _ _) (by decide) h
set_option maxRecDepth 100000 in
set_option maxHeartbeats 4000000 in
theorem c_X12_remake (l : Launch) (Γ : GG) (sk : List SD) (hsk : ExtM sk) (fu : Nat) {M M' : Mem} {a1 : Int} {a2 : Int} {a3 : Int} {a4 : Int} {a5 : Int} {r : Int} (ha1 : rng a1) (ha2 : rng a2) (ha3 : rng a3) (ha4 : rng a4) (ha5 : rng a5) (h : f_X12_remake fu M a1 a2 a3 a4 a5 = some (M', r)) : MetI l yX12_remake cX12_remake 7 .int ({ frames := 3, cells := 0, slots := 0, locals := 65 } : Room) Γ sk [vr Γ 52, vi a1, vi a2, vi a3, vi a4, vi a5] M M' r := by
  unfold f_X12_remake at h
  refine MetI_of RX12 rfl (by decide) rfl (Nat.le_of_ble_eq_true rfl) rfl ?_
  intro p e s m args below meth c C hr hlk hM
  have e52 := hsk 52 _ (by decide) rfl
  have e57 := hsk 57 _ (by decide) rfl
  have JP27 : ∀ {x2 : Int} {x3 : Int} {x4 : Int} {x5 : Int} {x6 : Int} {y1 : Int} {M : Mem}, rng x2 → rng x3 → rng x4 → rng x5 → rng x6 → rng y1 → f_X12_remake_J27 fu x2 x3 x4 x5 x6 y1 M = some (M', r) → VV p l e ({ frames := 3, cells := 0, slots := 0, locals := 65 } : Room) s m args below meth c (MQ below (PostI Γ sk M' r s.heap.size) args s 0 0 (Fr Γ sk s.heap.size)) 7 Γ sk M 0 0 27 [(0, vr Γ 52), (2, vi x2), (3, vi x3), (4, vi x4), (5, vi x5), (6, vi x6)] [vi y1, vr Γ 52] := by
    intro x2 x3 x4 x5 x6 y1 M hx2 hx3 hx4 hx5 hx6 hy1 h
    unfold f_X12_remake_J27 at h
    refine V_iload (pc := 27) C 5 rfl dX12_remake_27 ?_
    obtain ⟨M6, r7, hc8, h⟩ := cal_of h
    refine V_callVV (pc := 29) C (c_X12_takeEntries l Γ sk hsk fu hy1 hx6 hc8) cf_X12_takeEntries lk_X12_82 ⟨rfl, rfl⟩ ⟨Nat.le_of_ble_eq_true rfl, Nat.le_of_ble_eq_true rfl⟩ e52 rfl rfl rfl (Nat.le_of_ble_eq_true rfl) ⟨Nat.zero_le _, Nat.zero_le _⟩ rfl dX12_remake_29 ?_
    refine V_aload_n (pc := 32) C 0 rfl dX12_remake_32 ?_
    refine V_getR (pc := 33) C e52 rfl inX12 7 (by decide) rfl lf_X12_23 rfl dX12_remake_33 ?_
    refine V_iload_n (pc := 36) C 1 rfl dX12_remake_36 ?_
    refine V_iload_n (pc := 37) C 2 rfl dX12_remake_37 ?_
    obtain ⟨g9, h⟩ := grd_of h
    refine V_iast (pc := 38) C (by decide) e57 g9 hx2 hx3 dX12_remake_38 ?_
    refine V_aload_n (pc := 39) C 0 rfl dX12_remake_39 ?_
    refine V_iload (pc := 40) C 4 rfl dX12_remake_40 ?_
    refine V_iload (pc := 42) C 3 rfl dX12_remake_42 ?_
    refine V_if_eq (pc := 44) C 53 hx4 dX12_remake_44 (by decide) (fun c44_10 => ?_) (fun c44_10 => ?_)
    · have h := ite_t h c44_10
      refine V_iload (pc := 53) C 5 rfl dX12_remake_53 ?_
      obtain ⟨M11, r12, hc13, h⟩ := cal_of h
      refine V_callVI (pc := 55) C (c_X12_makeNode l Γ sk hsk fu hx5 hx6 hc13) cf_X12_makeNode lk_X12_86 ⟨rfl, rfl⟩ ⟨Nat.le_of_ble_eq_true rfl, Nat.le_of_ble_eq_true rfl⟩ e52 rfl rfl rfl (Nat.le_of_ble_eq_true rfl) ⟨Nat.zero_le _, Nat.zero_le _⟩ rfl dX12_remake_55 (fun hr12 => ?_)
      exact V_iret (pc := 58) C hr hlk hr12 h dX12_remake_58
    · have h := ite_f h c44_10
      refine V_iload_n (pc := 47) C 1 rfl dX12_remake_47 ?_
      refine V_iconst (pc := 48) C dX12_remake_48 ?_
      refine V_iadd (pc := 49) C dX12_remake_49 ?_
      refine V_goto (pc := 50) C 55 dX12_remake_50 (by decide) ?_
      obtain ⟨g14, h⟩ := grd_of h
      obtain ⟨M15, r16, hc17, h⟩ := cal_of h
      refine V_callVI (pc := 55) C (c_X12_makeNode l Γ sk hsk fu hx5 g14 hc17) cf_X12_makeNode lk_X12_86 ⟨rfl, rfl⟩ ⟨Nat.le_of_ble_eq_true rfl, Nat.le_of_ble_eq_true rfl⟩ e52 rfl rfl rfl (Nat.le_of_ble_eq_true rfl) ⟨Nat.zero_le _, Nat.zero_le _⟩ rfl dX12_remake_55 (fun hr16 => ?_)
      exact V_iret (pc := 58) C hr hlk hr16 h dX12_remake_58
  have JP14 : ∀ {x1 : Int} {x2 : Int} {x3 : Int} {x4 : Int} {x5 : Int} {y0 : Int} {M : Mem}, rng x1 → rng x2 → rng x3 → rng x4 → rng x5 → rng y0 → f_X12_remake_J14 fu x1 x2 x3 x4 x5 y0 M = some (M', r) → VV p l e ({ frames := 3, cells := 0, slots := 0, locals := 65 } : Room) s m args below meth c (MQ below (PostI Γ sk M' r s.heap.size) args s 0 0 (Fr Γ sk s.heap.size)) 7 Γ sk M 0 0 14 [(0, vr Γ 52), (1, vi x1), (2, vi x2), (3, vi x3), (4, vi x4), (5, vi x5)] [vi y0] := by
    intro x1 x2 x3 x4 x5 y0 M hx1 hx2 hx3 hx4 hx5 hy0 h
    unfold f_X12_remake_J14 at h
    refine V_istore (pc := 14) C (L' := [(0, vr Γ 52), (1, vi x1), (2, vi x2), (3, vi x3), (4, vi x4), (5, vi x5), (6, vi y0)]) rfl (by decide) dX12_remake_14 ?_
    refine V_aload_n (pc := 16) C 0 rfl dX12_remake_16 ?_
    refine V_iload_n (pc := 17) C 1 rfl dX12_remake_17 ?_
    refine V_iconst (pc := 18) C dX12_remake_18 ?_
    refine V_icmp_ne (pc := 19) C 26 hx1 (by decide) dX12_remake_19 (by decide) (fun c19_5 => ?_) (fun c19_5 => ?_)
    · have h := ite_f h c19_5
      refine V_iload_n (pc := 26) C 1 rfl dX12_remake_26 ?_
      refine V_sub (L' := [(0, vr Γ 52), (2, vi x2), (3, vi x3), (4, vi x4), (5, vi x5), (6, vi y0)]) [0, 2, 3, 4, 5, 6] rfl (by decide) ?_
      exact JP27 hx2 hx3 hx4 hx5 hy0 hx1 h
    · have h := ite_t h c19_5
      refine V_iconst (pc := 22) C dX12_remake_22 ?_
      refine V_goto (pc := 23) C 27 dX12_remake_23 (by decide) ?_
      refine V_sub (L' := [(0, vr Γ 52), (2, vi x2), (3, vi x3), (4, vi x4), (5, vi x5), (6, vi y0)]) [0, 2, 3, 4, 5, 6] rfl (by decide) ?_
      exact JP27 hx2 hx3 hx4 hx5 hy0 (by decide) h
  skip
  refine V_iload_n (pc := 0) C 1 rfl dX12_remake_0 ?_
  refine V_iconst (pc := 1) C dX12_remake_1 ?_
  refine V_icmp_ne (pc := 2) C 9 ha1 (by decide) dX12_remake_2 (by decide) (fun c2_1 => ?_) (fun c2_1 => ?_)
  · have h := ite_f h c2_1
    refine V_aload_n (pc := 9) C 0 rfl dX12_remake_9 ?_
    refine V_iload_n (pc := 10) C 1 rfl dX12_remake_10 ?_
    obtain ⟨M2, r3, hc4, h⟩ := cal_of h
    refine V_callVI (pc := 11) C (c_X12_countOf l Γ sk hsk fu ha1 hc4) cf_X12_countOf lk_X12_79 ⟨rfl, rfl⟩ ⟨Nat.le_of_ble_eq_true rfl, Nat.le_of_ble_eq_true rfl⟩ e52 rfl rfl rfl (Nat.le_of_ble_eq_true rfl) ⟨Nat.zero_le _, Nat.zero_le _⟩ rfl dX12_remake_11 (fun hr3 => ?_)
    refine V_sub (L' := [(0, vr Γ 52), (1, vi a1), (2, vi a2), (3, vi a3), (4, vi a4), (5, vi a5)]) [0, 1, 2, 3, 4, 5] rfl (by decide) ?_
    exact JP14 ha1 ha2 ha3 ha4 ha5 hr3 h
  · have h := ite_t h c2_1
    refine V_iconst (pc := 5) C dX12_remake_5 ?_
    refine V_goto (pc := 6) C 14 dX12_remake_6 (by decide) ?_
    refine V_sub (L' := [(0, vr Γ 52), (1, vi a1), (2, vi a2), (3, vi a3), (4, vi a4), (5, vi a5)]) [0, 1, 2, 3, 4, 5] rfl (by decide) ?_
    exact JP14 ha1 ha2 ha3 ha4 ha5 (by decide) h
set_option maxRecDepth 100000 in
set_option maxHeartbeats 4000000 in
theorem c_X12_elementsUnder (l : Launch) (Γ : GG) (sk : List SD) (hsk : ExtM sk) (fu : Nat) : ∀ (d : Nat) {M M' : Mem} {a1 : Int} {r : Int} (ha1 : rng a1) (h : f_X12_elementsUnder fu d M a1 = some (M', r)), MetI l yX12_elementsUnder cX12_elementsUnder 4 .int ({ frames := 3 * (d + 1), cells := 0, slots := 0, locals := 102 * (d + 1) } : Room) Γ sk [vr Γ 52, vi a1] M M' r := by
  intro d
  induction d with
  | zero =>
    intro M M' a1 r ha1 h
    cases h
  | succ d hsf =>
    intro M M' a1 r ha1 h
    rw [f_X12_elementsUnder] at h
    refine MetI_of RX12 rfl (by decide) rfl (Nat.le_of_ble_eq_true rfl) rfl ?_
    intro p e s m args below meth c C hr hlk hM
    have e52 := hsk 52 _ (by decide) rfl
    generalize hsfe : f_X12_elementsUnder fu d = sf at h hsf
    have LP18 : ∀ (n : Nat) {x1 : Int} {x2 : Int} {x3 : Int} {M : Mem}, rng x1 → rng x2 → rng x3 → f_X12_elementsUnder_L18 fu sf n x1 x2 x3 M = some (M', r) → VV p l e ({ frames := 3 * (d + 1 + 1), cells := 0, slots := 0, locals := 102 * (d + 1 + 1) } : Room) s m args below meth c (MQ below (PostI Γ sk M' r s.heap.size) args s 0 0 (Fr Γ sk s.heap.size)) 4 Γ sk M 0 0 18 [(0, vr Γ 52), (1, vi x1), (2, vi x2), (3, vi x3)] [] := by
      intro n
      induction n with
      | zero =>
        intro x1 x2 x3 M hx1 hx2 hx3 h
        cases h
      | succ n ih =>
        intro x1 x2 x3 M hx1 hx2 hx3 h
        rw [f_X12_elementsUnder_L18] at h
        refine V_iload_n (pc := 18) C 3 rfl dX12_elementsUnder_18 ?_
        refine V_aload_n (pc := 19) C 0 rfl dX12_elementsUnder_19 ?_
        refine V_iload_n (pc := 20) C 1 rfl dX12_elementsUnder_20 ?_
        obtain ⟨M5, r6, hc7, h⟩ := cal_of h
        refine V_callVI (pc := 21) C (c_X12_countOf l Γ sk hsk fu hx1 hc7) cf_X12_countOf lk_X12_79 ⟨rfl, rfl⟩ ⟨by dsimp only; omega, by dsimp only; omega⟩ e52 rfl rfl rfl (Nat.le_of_ble_eq_true rfl) ⟨Nat.zero_le _, Nat.zero_le _⟩ rfl dX12_elementsUnder_21 (fun hr6 => ?_)
        refine V_icmp_ge (pc := 24) C 46 hx3 hr6 dX12_elementsUnder_24 (by decide) (fun c24_8 => ?_) (fun c24_8 => ?_)
        · have h := ite_t h c24_8
          refine V_iload_n (pc := 46) C 2 rfl dX12_elementsUnder_46 ?_
          exact V_iret (pc := 47) C hr hlk hx2 h dX12_elementsUnder_47
        · have h := ite_f h c24_8
          refine V_iload_n (pc := 27) C 2 rfl dX12_elementsUnder_27 ?_
          refine V_aload_n (pc := 28) C 0 rfl dX12_elementsUnder_28 ?_
          refine V_aload_n (pc := 29) C 0 rfl dX12_elementsUnder_29 ?_
          refine V_iload_n (pc := 30) C 1 rfl dX12_elementsUnder_30 ?_
          refine V_iload_n (pc := 31) C 3 rfl dX12_elementsUnder_31 ?_
          obtain ⟨M9, r10, hc11, h⟩ := cal_of h
          refine V_callVI (pc := 32) C (c_X12_entry l Γ sk hsk fu hx1 hx3 hc11) cf_X12_entry lk_X12_71 ⟨rfl, rfl⟩ ⟨by dsimp only; omega, by dsimp only; omega⟩ e52 rfl rfl rfl (Nat.le_of_ble_eq_true rfl) ⟨Nat.zero_le _, Nat.zero_le _⟩ rfl dX12_elementsUnder_32 (fun hr10 => ?_)
          obtain ⟨M12, r13, hc14, h⟩ := cal_of h
          refine V_callVI (pc := 35) C (hsf hr10 hc14) cf_X12_elementsUnder lk_X12_94 ⟨rfl, rfl⟩ ⟨by dsimp only; omega, by dsimp only; omega⟩ e52 rfl rfl rfl (Nat.le_of_ble_eq_true rfl) ⟨Nat.zero_le _, Nat.zero_le _⟩ rfl dX12_elementsUnder_35 (fun hr13 => ?_)
          refine V_iadd (pc := 38) C dX12_elementsUnder_38 ?_
          refine V_istore_n (pc := 39) C (L' := [(0, vr Γ 52), (1, vi x1), (2, vi (x2 + r13)), (3, vi x3)]) rfl (by decide) dX12_elementsUnder_39 ?_
          refine V_iinc (pc := 40) C (L' := [(0, vr Γ 52), (1, vi x1), (2, vi (x2 + r13)), (3, vi (x3 + (1 : Int)))]) 3 rfl rfl (by decide) dX12_elementsUnder_40 ?_
          refine V_goto (pc := 43) C 18 dX12_elementsUnder_43 (by decide) ?_
          obtain ⟨g15, h⟩ := grd_of h
          obtain ⟨g16, h⟩ := grd_of h
          refine V_sub (L' := [(0, vr Γ 52), (1, vi x1), (2, vi (x2 + r13)), (3, vi (x3 + (1 : Int)))]) [0, 1, 2, 3] rfl (by decide) ?_
          exact ih hx1 g15 g16 h
    skip
    refine V_aload_n (pc := 0) C 0 rfl dX12_elementsUnder_0 ?_
    refine V_iload_n (pc := 1) C 1 rfl dX12_elementsUnder_1 ?_
    obtain ⟨M1, r2, hc3, h⟩ := cal_of h
    refine V_callVI (pc := 2) C (c_X12_isLeafNode l Γ sk hsk fu ha1 hc3) cf_X12_isLeafNode lk_X12_90 ⟨rfl, rfl⟩ ⟨by dsimp only; omega, by dsimp only; omega⟩ e52 rfl rfl rfl (Nat.le_of_ble_eq_true rfl) ⟨Nat.zero_le _, Nat.zero_le _⟩ rfl dX12_elementsUnder_2 (fun hr2 => ?_)
    refine V_if_eq (pc := 5) C 14 hr2 dX12_elementsUnder_5 (by decide) (fun c5_4 => ?_) (fun c5_4 => ?_)
    · have h := ite_t h c5_4
      refine V_iconst (pc := 14) C dX12_elementsUnder_14 ?_
      refine V_istore_n (pc := 15) C (L' := [(0, vr Γ 52), (1, vi a1), (2, vi (0 : Int))]) rfl (by decide) dX12_elementsUnder_15 ?_
      refine V_iconst (pc := 16) C dX12_elementsUnder_16 ?_
      refine V_istore_n (pc := 17) C (L' := [(0, vr Γ 52), (1, vi a1), (2, vi (0 : Int)), (3, vi (0 : Int))]) rfl (by decide) dX12_elementsUnder_17 ?_
      refine V_sub (L' := [(0, vr Γ 52), (1, vi a1), (2, vi (0 : Int)), (3, vi (0 : Int))]) [0, 1, 2, 3] rfl (by decide) ?_
      exact LP18 fu  ha1 (by decide) (by decide) h
    · have h := ite_f h c5_4
      refine V_aload_n (pc := 8) C 0 rfl dX12_elementsUnder_8 ?_
      refine V_iload_n (pc := 9) C 1 rfl dX12_elementsUnder_9 ?_
      obtain ⟨M17, r18, hc19, h⟩ := cal_of h
      refine V_callVI (pc := 10) C (c_X12_countOf l Γ sk hsk fu ha1 hc19) cf_X12_countOf lk_X12_79 ⟨rfl, rfl⟩ ⟨by dsimp only; omega, by dsimp only; omega⟩ e52 rfl rfl rfl (Nat.le_of_ble_eq_true rfl) ⟨Nat.zero_le _, Nat.zero_le _⟩ rfl dX12_elementsUnder_10 (fun hr18 => ?_)
      exact V_iret (pc := 13) C hr hlk hr18 h dX12_elementsUnder_13
set_option maxRecDepth 100000 in
set_option maxHeartbeats 4000000 in
theorem c_X12_replaced (l : Launch) (Γ : GG) (sk : List SD) (hsk : ExtM sk) (fu : Nat) : ∀ (d : Nat) {M M' : Mem} {a1 : Int} {a2 : Int} {a3 : Int} {a4 : Int} {r : Int} (ha1 : rng a1) (ha2 : rng a2) (ha3 : rng a3) (ha4 : rng a4) (h : f_X12_replaced fu d M a1 a2 a3 a4 = some (M', r)), MetI l yX12_replaced cX12_replaced 8 .int ({ frames := 5 * (d + 1), cells := 0, slots := 0, locals := 151 * (d + 1) } : Room) Γ sk [vr Γ 52, vi a1, vi a2, vi a3, vi a4] M M' r := by
  intro d
  induction d with
  | zero =>
    intro M M' a1 a2 a3 a4 r ha1 ha2 ha3 ha4 h
    cases h
  | succ d hsf =>
    intro M M' a1 a2 a3 a4 r ha1 ha2 ha3 ha4 h
    rw [f_X12_replaced] at h
    refine MetI_of RX12 rfl (by decide) rfl (Nat.le_of_ble_eq_true rfl) rfl ?_
    intro p e s m args below meth c C hr hlk hM
    have e52 := hsk 52 _ (by decide) rfl
    generalize hsfe : f_X12_replaced fu d = sf at h hsf
    refine V_iload_n (pc := 0) C 2 rfl dX12_replaced_0 ?_
    refine V_iconst (pc := 1) C dX12_replaced_1 ?_
    refine V_icmp_ne (pc := 2) C 16 ha2 (by decide) dX12_replaced_2 (by decide) (fun c2_1 => ?_) (fun c2_1 => ?_)
    · have h := ite_f h c2_1
      refine V_iload_n (pc := 16) C 2 rfl dX12_replaced_16 ?_
      refine V_iconst (pc := 17) C dX12_replaced_17 ?_
      refine V_isub (pc := 18) C dX12_replaced_18 ?_
      obtain ⟨g2, h⟩ := grd_of h
      obtain ⟨M3, r4, hc5, h⟩ := cal_of h
      refine V_callSI (pc := 19) C (c_X12_span l Γ sk hsk fu g2 hc5) cf_X12_span lk_X12_64 ⟨rfl, rfl⟩ ⟨by dsimp only; omega, by dsimp only; omega⟩ rfl (Nat.le_of_ble_eq_true rfl) ⟨Nat.zero_le _, Nat.zero_le _⟩ rfl dX12_replaced_19 (fun hr4 => ?_)
      refine V_istore (pc := 22) C (L' := [(0, vr Γ 52), (1, vi a1), (2, vi a2), (3, vi a3), (4, vi a4), (5, vi r4)]) rfl (by decide) dX12_replaced_22 ?_
      refine V_iload_n (pc := 24) C 3 rfl dX12_replaced_24 ?_
      refine V_iload (pc := 25) C 5 rfl dX12_replaced_25 ?_
      obtain ⟨g6, h⟩ := grd_of h
      refine V_idiv (pc := 27) C g6 dX12_replaced_27 ?_
      refine V_istore (pc := 28) C (L' := [(0, vr Γ 52), (1, vi a1), (2, vi a2), (3, vi a3), (4, vi a4), (5, vi r4), (6, vi (a3 / r4))]) rfl (by decide) dX12_replaced_28 ?_
      refine V_aload_n (pc := 30) C 0 rfl dX12_replaced_30 ?_
      refine V_aload_n (pc := 31) C 0 rfl dX12_replaced_31 ?_
      refine V_iload_n (pc := 32) C 1 rfl dX12_replaced_32 ?_
      refine V_iload (pc := 33) C 6 rfl dX12_replaced_33 ?_
      obtain ⟨g7, h⟩ := grd_of h
      obtain ⟨M8, r9, hc10, h⟩ := cal_of h
      refine V_callVI (pc := 35) C (c_X12_entry l Γ sk hsk fu ha1 g7 hc10) cf_X12_entry lk_X12_71 ⟨rfl, rfl⟩ ⟨by dsimp only; omega, by dsimp only; omega⟩ e52 rfl rfl rfl (Nat.le_of_ble_eq_true rfl) ⟨Nat.zero_le _, Nat.zero_le _⟩ rfl dX12_replaced_35 (fun hr9 => ?_)
      refine V_iload_n (pc := 38) C 2 rfl dX12_replaced_38 ?_
      refine V_iconst (pc := 39) C dX12_replaced_39 ?_
      refine V_isub (pc := 40) C dX12_replaced_40 ?_
      refine V_iload_n (pc := 41) C 3 rfl dX12_replaced_41 ?_
      refine V_iload (pc := 42) C 5 rfl dX12_replaced_42 ?_
      obtain ⟨g11, h⟩ := grd_of h
      refine V_irem (pc := 44) C g11 dX12_replaced_44 ?_
      refine V_iload (pc := 45) C 4 rfl dX12_replaced_45 ?_
      obtain ⟨g12, h⟩ := grd_of h
      obtain ⟨g13, h⟩ := grd_of h
      obtain ⟨M14, r15, hc16, h⟩ := cal_of h
      refine V_callVI (pc := 47) C (hsf hr9 g12 g13 ha4 hc16) cf_X12_replaced lk_X12_101 ⟨rfl, rfl⟩ ⟨by dsimp only; omega, by dsimp only; omega⟩ e52 rfl rfl rfl (Nat.le_of_ble_eq_true rfl) ⟨Nat.zero_le _, Nat.zero_le _⟩ rfl dX12_replaced_47 (fun hr15 => ?_)
      refine V_istore (pc := 50) C (L' := [(0, vr Γ 52), (1, vi a1), (2, vi a2), (3, vi a3), (4, vi a4), (5, vi r4), (6, vi (a3 / r4)), (7, vi r15)]) rfl (by decide) dX12_replaced_50 ?_
      refine V_aload_n (pc := 52) C 0 rfl dX12_replaced_52 ?_
      refine V_iload_n (pc := 53) C 1 rfl dX12_replaced_53 ?_
      refine V_iload (pc := 54) C 6 rfl dX12_replaced_54 ?_
      refine V_iload (pc := 56) C 7 rfl dX12_replaced_56 ?_
      refine V_iconst (pc := 58) C dX12_replaced_58 ?_
      refine V_iconst (pc := 59) C dX12_replaced_59 ?_
      obtain ⟨M17, r18, hc19, h⟩ := cal_of h
      refine V_callVI (pc := 60) C (c_X12_remake l Γ sk hsk fu ha1 g7 hr15 (by decide) (by decide) hc19) cf_X12_remake lk_X12_97 ⟨rfl, rfl⟩ ⟨by dsimp only; omega, by dsimp only; omega⟩ e52 rfl rfl rfl (Nat.le_of_ble_eq_true rfl) ⟨Nat.zero_le _, Nat.zero_le _⟩ rfl dX12_replaced_60 (fun hr18 => ?_)
      exact V_iret (pc := 63) C hr hlk hr18 h dX12_replaced_63
    · have h := ite_t h c2_1
      refine V_aload_n (pc := 5) C 0 rfl dX12_replaced_5 ?_
      refine V_iload_n (pc := 6) C 1 rfl dX12_replaced_6 ?_
      refine V_iload_n (pc := 7) C 3 rfl dX12_replaced_7 ?_
      refine V_iload (pc := 8) C 4 rfl dX12_replaced_8 ?_
      refine V_iconst (pc := 10) C dX12_replaced_10 ?_
      refine V_iconst (pc := 11) C dX12_replaced_11 ?_
      obtain ⟨M20, r21, hc22, h⟩ := cal_of h
      refine V_callVI (pc := 12) C (c_X12_remake l Γ sk hsk fu ha1 ha3 ha4 (by decide) (by decide) hc22) cf_X12_remake lk_X12_97 ⟨rfl, rfl⟩ ⟨by dsimp only; omega, by dsimp only; omega⟩ e52 rfl rfl rfl (Nat.le_of_ble_eq_true rfl) ⟨Nat.zero_le _, Nat.zero_le _⟩ rfl dX12_replaced_12 (fun hr21 => ?_)
      exact V_iret (pc := 15) C hr hlk hr21 h dX12_replaced_15
set_option maxRecDepth 100000 in
set_option maxHeartbeats 4000000 in
theorem c_X12_extended (l : Launch) (Γ : GG) (sk : List SD) (hsk : ExtM sk) (fu : Nat) : ∀ (d : Nat) {M M' : Mem} {a1 : Int} {a2 : Int} {a3 : Int} {a4 : Int} {r : Int} (ha1 : rng a1) (ha2 : rng a2) (ha3 : rng a3) (ha4 : rng a4) (h : f_X12_extended fu d M a1 a2 a3 a4 = some (M', r)), MetI l yX12_extended cX12_extended 9 .int ({ frames := 5 * (d + 1), cells := 0, slots := 0, locals := 151 * (d + 1) } : Room) Γ sk [vr Γ 52, vi a1, vi a2, vi a3, vi a4] M M' r := by
  intro d
  induction d with
  | zero =>
    intro M M' a1 a2 a3 a4 r ha1 ha2 ha3 ha4 h
    cases h
  | succ d hsf =>
    intro M M' a1 a2 a3 a4 r ha1 ha2 ha3 ha4 h
    rw [f_X12_extended] at h
    refine MetI_of RX12 rfl (by decide) rfl (Nat.le_of_ble_eq_true rfl) rfl ?_
    intro p e s m args below meth c C hr hlk hM
    have e52 := hsk 52 _ (by decide) rfl
    generalize hsfe : f_X12_extended fu d = sf at h hsf
    have JP69 : ∀ {x1 : Int} {x2 : Int} {x3 : Int} {x4 : Int} {x5 : Int} {x6 : Int} {y1 : Int} {M : Mem}, rng x1 → rng x2 → rng x3 → rng x4 → rng x5 → rng x6 → rng y1 → f_X12_extended_J69 fu sf x1 x2 x3 x4 x5 x6 y1 M = some (M', r) → VV p l e ({ frames := 5 * (d + 1 + 1), cells := 0, slots := 0, locals := 151 * (d + 1 + 1) } : Room) s m args below meth c (MQ below (PostI Γ sk M' r s.heap.size) args s 0 0 (Fr Γ sk s.heap.size)) 9 Γ sk M 0 0 69 [(0, vr Γ 52), (1, vi x1), (2, vi x2), (3, vi x3), (4, vi x4), (5, vi x5), (6, vi x6)] [vi y1, vr Γ 52] := by
      intro x1 x2 x3 x4 x5 x6 y1 M hx1 hx2 hx3 hx4 hx5 hx6 hy1 h
      unfold f_X12_extended_J69 at h
      refine V_iload_n (pc := 69) C 2 rfl dX12_extended_69 ?_
      refine V_iconst (pc := 70) C dX12_extended_70 ?_
      refine V_isub (pc := 71) C dX12_extended_71 ?_
      refine V_iload_n (pc := 72) C 3 rfl dX12_extended_72 ?_
      refine V_iload (pc := 73) C 5 rfl dX12_extended_73 ?_
      obtain ⟨g9, h⟩ := grd_of h
      refine V_irem (pc := 75) C g9 dX12_extended_75 ?_
      refine V_iload (pc := 76) C 4 rfl dX12_extended_76 ?_
      obtain ⟨g10, h⟩ := grd_of h
      obtain ⟨g11, h⟩ := grd_of h
      obtain ⟨M12, r13, hc14, h⟩ := cal_of h
      refine V_callVI (pc := 78) C (hsf hy1 g10 g11 hx4 hc14) cf_X12_extended lk_X12_105 ⟨rfl, rfl⟩ ⟨by dsimp only; omega, by dsimp only; omega⟩ e52 rfl rfl rfl (Nat.le_of_ble_eq_true rfl) ⟨Nat.zero_le _, Nat.zero_le _⟩ rfl dX12_extended_78 (fun hr13 => ?_)
      refine V_istore (pc := 81) C (L' := [(0, vr Γ 52), (1, vi x1), (2, vi x2), (3, vi x3), (4, vi x4), (5, vi x5), (6, vi x6), (8, vi r13)]) rfl (by decide) dX12_extended_81 ?_
      refine V_aload_n (pc := 83) C 0 rfl dX12_extended_83 ?_
      refine V_iload_n (pc := 84) C 1 rfl dX12_extended_84 ?_
      refine V_iload (pc := 85) C 6 rfl dX12_extended_85 ?_
      refine V_iload (pc := 87) C 7 rfl dX12_extended_87 ?_
      refine V_iconst (pc := 89) C dX12_extended_89 ?_
      refine V_iconst (pc := 90) C dX12_extended_90 ?_
      obtain ⟨M15, r16, hc17, h⟩ := cal_of h
      refine V_callVI (pc := 91) C (c_X12_remake l Γ sk hsk fu hx1 hx6 hr13 (by decide) (by decide) hc17) cf_X12_remake lk_X12_97 ⟨rfl, rfl⟩ ⟨by dsimp only; omega, by dsimp only; omega⟩ e52 rfl rfl rfl (Nat.le_of_ble_eq_true rfl) ⟨Nat.zero_le _, Nat.zero_le _⟩ rfl dX12_extended_91 (fun hr16 => ?_)
      exact V_iret (pc := 94) C hr hlk hr16 h dX12_extended_94
    have JP50 : ∀ {x1 : Int} {x2 : Int} {x3 : Int} {x4 : Int} {x5 : Int} {x6 : Int} {y0 : Int} {M : Mem}, rng x1 → rng x2 → rng x3 → rng x4 → rng x5 → rng x6 → rng y0 → f_X12_extended_J50 fu sf x1 x2 x3 x4 x5 x6 y0 M = some (M', r) → VV p l e ({ frames := 5 * (d + 1 + 1), cells := 0, slots := 0, locals := 151 * (d + 1 + 1) } : Room) s m args below meth c (MQ below (PostI Γ sk M' r s.heap.size) args s 0 0 (Fr Γ sk s.heap.size)) 9 Γ sk M 0 0 50 [(0, vr Γ 52), (1, vi x1), (2, vi x2), (3, vi x3), (4, vi x4), (5, vi x5), (6, vi x6)] [vi y0] := by
      intro x1 x2 x3 x4 x5 x6 y0 M hx1 hx2 hx3 hx4 hx5 hx6 hy0 h
      unfold f_X12_extended_J50 at h
      refine V_istore (pc := 50) C (L' := [(0, vr Γ 52), (1, vi x1), (2, vi x2), (3, vi x3), (4, vi x4), (5, vi x5), (6, vi x6), (7, vi y0)]) rfl (by decide) dX12_extended_50 ?_
      refine V_aload_n (pc := 52) C 0 rfl dX12_extended_52 ?_
      refine V_iload (pc := 53) C 7 rfl dX12_extended_53 ?_
      refine V_if_eq (pc := 55) C 68 hy0 dX12_extended_55 (by decide) (fun c55_8 => ?_) (fun c55_8 => ?_)
      · have h := ite_t h c55_8
        refine V_iconst (pc := 68) C dX12_extended_68 ?_
        refine V_sub (L' := [(0, vr Γ 52), (1, vi x1), (2, vi x2), (3, vi x3), (4, vi x4), (5, vi x5), (6, vi x6)]) [0, 1, 2, 3, 4, 5, 6] rfl (by decide) ?_
        exact JP69 hx1 hx2 hx3 hx4 hx5 hx6 (by decide) h
      · have h := ite_f h c55_8
        refine V_aload_n (pc := 58) C 0 rfl dX12_extended_58 ?_
        refine V_iload_n (pc := 59) C 1 rfl dX12_extended_59 ?_
        refine V_iload (pc := 60) C 6 rfl dX12_extended_60 ?_
        obtain ⟨M18, r19, hc20, h⟩ := cal_of h
        refine V_callVI (pc := 62) C (c_X12_entry l Γ sk hsk fu hx1 hx6 hc20) cf_X12_entry lk_X12_71 ⟨rfl, rfl⟩ ⟨by dsimp only; omega, by dsimp only; omega⟩ e52 rfl rfl rfl (Nat.le_of_ble_eq_true rfl) ⟨Nat.zero_le _, Nat.zero_le _⟩ rfl dX12_extended_62 (fun hr19 => ?_)
        refine V_goto (pc := 65) C 69 dX12_extended_65 (by decide) ?_
        refine V_sub (L' := [(0, vr Γ 52), (1, vi x1), (2, vi x2), (3, vi x3), (4, vi x4), (5, vi x5), (6, vi x6)]) [0, 1, 2, 3, 4, 5, 6] rfl (by decide) ?_
        exact JP69 hx1 hx2 hx3 hx4 hx5 hx6 hr19 h
    have JP49 : ∀ {x1 : Int} {x2 : Int} {x3 : Int} {x4 : Int} {x5 : Int} {x6 : Int} {M : Mem}, rng x1 → rng x2 → rng x3 → rng x4 → rng x5 → rng x6 → f_X12_extended_J49 fu sf x1 x2 x3 x4 x5 x6 M = some (M', r) → VV p l e ({ frames := 5 * (d + 1 + 1), cells := 0, slots := 0, locals := 151 * (d + 1 + 1) } : Room) s m args below meth c (MQ below (PostI Γ sk M' r s.heap.size) args s 0 0 (Fr Γ sk s.heap.size)) 9 Γ sk M 0 0 49 [(0, vr Γ 52), (1, vi x1), (2, vi x2), (3, vi x3), (4, vi x4), (5, vi x5), (6, vi x6)] [] := by
      intro x1 x2 x3 x4 x5 x6 M hx1 hx2 hx3 hx4 hx5 hx6 h
      unfold f_X12_extended_J49 at h
      refine V_iconst (pc := 49) C dX12_extended_49 ?_
      refine V_sub (L' := [(0, vr Γ 52), (1, vi x1), (2, vi x2), (3, vi x3), (4, vi x4), (5, vi x5), (6, vi x6)]) [0, 1, 2, 3, 4, 5, 6] rfl (by decide) ?_
      exact JP50 hx1 hx2 hx3 hx4 hx5 hx6 (by decide) h
    skip
    refine V_iload_n (pc := 0) C 2 rfl dX12_extended_0 ?_
    refine V_iconst (pc := 1) C dX12_extended_1 ?_
    refine V_icmp_ne (pc := 2) C 16 ha2 (by decide) dX12_extended_2 (by decide) (fun c2_1 => ?_) (fun c2_1 => ?_)
    · have h := ite_f h c2_1
      refine V_iload_n (pc := 16) C 2 rfl dX12_extended_16 ?_
      refine V_iconst (pc := 17) C dX12_extended_17 ?_
      refine V_isub (pc := 18) C dX12_extended_18 ?_
      obtain ⟨g2, h⟩ := grd_of h
      obtain ⟨M3, r4, hc5, h⟩ := cal_of h
      refine V_callSI (pc := 19) C (c_X12_span l Γ sk hsk fu g2 hc5) cf_X12_span lk_X12_64 ⟨rfl, rfl⟩ ⟨by dsimp only; omega, by dsimp only; omega⟩ rfl (Nat.le_of_ble_eq_true rfl) ⟨Nat.zero_le _, Nat.zero_le _⟩ rfl dX12_extended_19 (fun hr4 => ?_)
      refine V_istore (pc := 22) C (L' := [(0, vr Γ 52), (1, vi a1), (2, vi a2), (3, vi a3), (4, vi a4), (5, vi r4)]) rfl (by decide) dX12_extended_22 ?_
      refine V_iload_n (pc := 24) C 3 rfl dX12_extended_24 ?_
      refine V_iload (pc := 25) C 5 rfl dX12_extended_25 ?_
      obtain ⟨g6, h⟩ := grd_of h
      refine V_idiv (pc := 27) C g6 dX12_extended_27 ?_
      refine V_istore (pc := 28) C (L' := [(0, vr Γ 52), (1, vi a1), (2, vi a2), (3, vi a3), (4, vi a4), (5, vi r4), (6, vi (a3 / r4))]) rfl (by decide) dX12_extended_28 ?_
      refine V_iload_n (pc := 30) C 1 rfl dX12_extended_30 ?_
      refine V_iconst (pc := 31) C dX12_extended_31 ?_
      refine V_icmp_eq (pc := 32) C 49 ha1 (by decide) dX12_extended_32 (by decide) (fun c32_7 => ?_) (fun c32_7 => ?_)
      · have h := ite_t h c32_7
        obtain ⟨g21, h⟩ := grd_of h
        refine V_sub (L' := [(0, vr Γ 52), (1, vi a1), (2, vi a2), (3, vi a3), (4, vi a4), (5, vi r4), (6, vi (a3 / r4))]) [0, 1, 2, 3, 4, 5, 6] rfl (by decide) ?_
        exact JP49 ha1 ha2 ha3 ha4 hr4 g21 h
      · have h := ite_f h c32_7
        refine V_iload (pc := 35) C 6 rfl dX12_extended_35 ?_
        refine V_aload_n (pc := 37) C 0 rfl dX12_extended_37 ?_
        refine V_iload_n (pc := 38) C 1 rfl dX12_extended_38 ?_
        obtain ⟨M22, r23, hc24, h⟩ := cal_of h
        refine V_callVI (pc := 39) C (c_X12_countOf l Γ sk hsk fu ha1 hc24) cf_X12_countOf lk_X12_79 ⟨rfl, rfl⟩ ⟨by dsimp only; omega, by dsimp only; omega⟩ e52 rfl rfl rfl (Nat.le_of_ble_eq_true rfl) ⟨Nat.zero_le _, Nat.zero_le _⟩ rfl dX12_extended_39 (fun hr23 => ?_)
        obtain ⟨g25, h⟩ := grd_of h
        refine V_icmp_ge (pc := 42) C 49 g25 hr23 dX12_extended_42 (by decide) (fun c42_26 => ?_) (fun c42_26 => ?_)
        · have h := ite_t h c42_26
          refine V_sub (L' := [(0, vr Γ 52), (1, vi a1), (2, vi a2), (3, vi a3), (4, vi a4), (5, vi r4), (6, vi (a3 / r4))]) [0, 1, 2, 3, 4, 5, 6] rfl (by decide) ?_
          exact JP49 ha1 ha2 ha3 ha4 hr4 g25 h
        · have h := ite_f h c42_26
          refine V_iconst (pc := 45) C dX12_extended_45 ?_
          refine V_goto (pc := 46) C 50 dX12_extended_46 (by decide) ?_
          refine V_sub (L' := [(0, vr Γ 52), (1, vi a1), (2, vi a2), (3, vi a3), (4, vi a4), (5, vi r4), (6, vi (a3 / r4))]) [0, 1, 2, 3, 4, 5, 6] rfl (by decide) ?_
          exact JP50 ha1 ha2 ha3 ha4 hr4 g25 (by decide) h
    · have h := ite_t h c2_1
      refine V_aload_n (pc := 5) C 0 rfl dX12_extended_5 ?_
      refine V_iload_n (pc := 6) C 1 rfl dX12_extended_6 ?_
      refine V_iload_n (pc := 7) C 3 rfl dX12_extended_7 ?_
      refine V_iload (pc := 8) C 4 rfl dX12_extended_8 ?_
      refine V_iconst (pc := 10) C dX12_extended_10 ?_
      refine V_iconst (pc := 11) C dX12_extended_11 ?_
      obtain ⟨M27, r28, hc29, h⟩ := cal_of h
      refine V_callVI (pc := 12) C (c_X12_remake l Γ sk hsk fu ha1 ha3 ha4 (by decide) (by decide) hc29) cf_X12_remake lk_X12_97 ⟨rfl, rfl⟩ ⟨by dsimp only; omega, by dsimp only; omega⟩ e52 rfl rfl rfl (Nat.le_of_ble_eq_true rfl) ⟨Nat.zero_le _, Nat.zero_le _⟩ rfl dX12_extended_12 (fun hr28 => ?_)
      exact V_iret (pc := 15) C hr hlk hr28 h dX12_extended_15
set_option maxRecDepth 100000 in
set_option maxHeartbeats 4000000 in
theorem c_X12_cut (l : Launch) (Γ : GG) (sk : List SD) (hsk : ExtM sk) (fu : Nat) : ∀ (d : Nat) {M M' : Mem} {a1 : Int} {a2 : Int} {a3 : Int} {r : Int} (ha1 : rng a1) (ha2 : rng a2) (ha3 : rng a3) (h : f_X12_cut fu d M a1 a2 a3 = some (M', r)), MetI l yX12_cut cX12_cut 8 .int ({ frames := 29 * (d + 1), cells := 0, slots := 0, locals := 1001 * (d + 1) } : Room) Γ sk [vr Γ 52, vi a1, vi a2, vi a3] M M' r := by
  intro d
  induction d with
  | zero =>
    intro M M' a1 a2 a3 r ha1 ha2 ha3 h
    cases h
  | succ d hsf =>
    intro M M' a1 a2 a3 r ha1 ha2 ha3 h
    rw [f_X12_cut] at h
    refine MetI_of RX12 rfl (by decide) rfl (Nat.le_of_ble_eq_true rfl) rfl ?_
    intro p e s m args below meth c C hr hlk hM
    have e52 := hsk 52 _ (by decide) rfl
    generalize hsfe : f_X12_cut fu d = sf at h hsf
    refine V_aload_n (pc := 0) C 0 rfl dX12_cut_0 ?_
    refine V_iload_n (pc := 1) C 1 rfl dX12_cut_1 ?_
    obtain ⟨M1, r2, hc3, h⟩ := cal_of h
    refine V_callVI (pc := 2) C (c_X12_elementsUnder l Γ sk hsk fu 8 ha1 hc3) cf_X12_elementsUnder lk_X12_94 ⟨rfl, rfl⟩ ⟨by dsimp only; omega, by dsimp only; omega⟩ e52 rfl rfl rfl (Nat.le_of_ble_eq_true rfl) ⟨Nat.zero_le _, Nat.zero_le _⟩ rfl dX12_cut_2 (fun hr2 => ?_)
    refine V_iload_n (pc := 5) C 3 rfl dX12_cut_5 ?_
    refine V_icmp_ne (pc := 6) C 11 hr2 ha3 dX12_cut_6 (by decide) (fun c6_4 => ?_) (fun c6_4 => ?_)
    · have h := ite_f h c6_4
      refine V_iload_n (pc := 11) C 3 rfl dX12_cut_11 ?_
      refine V_iconst (pc := 12) C dX12_cut_12 ?_
      refine V_isub (pc := 13) C dX12_cut_13 ?_
      refine V_istore (pc := 14) C (L' := [(0, vr Γ 52), (1, vi a1), (2, vi a2), (3, vi a3), (4, vi (a3 - (1 : Int)))]) rfl (by decide) dX12_cut_14 ?_
      refine V_iload_n (pc := 16) C 2 rfl dX12_cut_16 ?_
      refine V_iconst (pc := 17) C dX12_cut_17 ?_
      refine V_icmp_ne (pc := 18) C 38 ha2 (by decide) dX12_cut_18 (by decide) (fun c18_5 => ?_) (fun c18_5 => ?_)
      · have h := ite_f h c18_5
        refine V_iload_n (pc := 38) C 2 rfl dX12_cut_38 ?_
        refine V_iconst (pc := 39) C dX12_cut_39 ?_
        refine V_isub (pc := 40) C dX12_cut_40 ?_
        obtain ⟨g6, h⟩ := grd_of h
        obtain ⟨M7, r8, hc9, h⟩ := cal_of h
        refine V_callSI (pc := 41) C (c_X12_span l Γ sk hsk fu g6 hc9) cf_X12_span lk_X12_64 ⟨rfl, rfl⟩ ⟨by dsimp only; omega, by dsimp only; omega⟩ rfl (Nat.le_of_ble_eq_true rfl) ⟨Nat.zero_le _, Nat.zero_le _⟩ rfl dX12_cut_41 (fun hr8 => ?_)
        refine V_istore (pc := 44) C (L' := [(0, vr Γ 52), (1, vi a1), (2, vi a2), (3, vi a3), (4, vi (a3 - (1 : Int))), (5, vi r8)]) rfl (by decide) dX12_cut_44 ?_
        refine V_iload (pc := 46) C 4 rfl dX12_cut_46 ?_
        refine V_iload (pc := 48) C 5 rfl dX12_cut_48 ?_
        obtain ⟨g10, h⟩ := grd_of h
        refine V_idiv (pc := 50) C g10 dX12_cut_50 ?_
        refine V_istore (pc := 51) C (L' := [(0, vr Γ 52), (1, vi a1), (2, vi a2), (3, vi a3), (4, vi (a3 - (1 : Int))), (5, vi r8), (6, vi ((a3 - (1 : Int)) / r8))]) rfl (by decide) dX12_cut_51 ?_
        refine V_aload_n (pc := 53) C 0 rfl dX12_cut_53 ?_
        refine V_aload_n (pc := 54) C 0 rfl dX12_cut_54 ?_
        refine V_iload_n (pc := 55) C 1 rfl dX12_cut_55 ?_
        refine V_iload (pc := 56) C 6 rfl dX12_cut_56 ?_
        obtain ⟨g11, h⟩ := grd_of h
        obtain ⟨M12, r13, hc14, h⟩ := cal_of h
        refine V_callVI (pc := 58) C (c_X12_entry l Γ sk hsk fu ha1 g11 hc14) cf_X12_entry lk_X12_71 ⟨rfl, rfl⟩ ⟨by dsimp only; omega, by dsimp only; omega⟩ e52 rfl rfl rfl (Nat.le_of_ble_eq_true rfl) ⟨Nat.zero_le _, Nat.zero_le _⟩ rfl dX12_cut_58 (fun hr13 => ?_)
        refine V_iload_n (pc := 61) C 2 rfl dX12_cut_61 ?_
        refine V_iconst (pc := 62) C dX12_cut_62 ?_
        refine V_isub (pc := 63) C dX12_cut_63 ?_
        refine V_iload (pc := 64) C 4 rfl dX12_cut_64 ?_
        refine V_iload (pc := 66) C 5 rfl dX12_cut_66 ?_
        obtain ⟨g15, h⟩ := grd_of h
        refine V_irem (pc := 68) C g15 dX12_cut_68 ?_
        refine V_iconst (pc := 69) C dX12_cut_69 ?_
        refine V_iadd (pc := 70) C dX12_cut_70 ?_
        obtain ⟨g16, h⟩ := grd_of h
        obtain ⟨g17, h⟩ := grd_of h
        obtain ⟨M18, r19, hc20, h⟩ := cal_of h
        refine V_callVI (pc := 71) C (hsf hr13 g16 g17 hc20) cf_X12_cut lk_X12_108 ⟨rfl, rfl⟩ ⟨by dsimp only; omega, by dsimp only; omega⟩ e52 rfl rfl rfl (Nat.le_of_ble_eq_true rfl) ⟨Nat.zero_le _, Nat.zero_le _⟩ rfl dX12_cut_71 (fun hr19 => ?_)
        refine V_istore (pc := 74) C (L' := [(0, vr Γ 52), (1, vi a1), (2, vi a2), (3, vi a3), (4, vi (a3 - (1 : Int))), (5, vi r8), (6, vi ((a3 - (1 : Int)) / r8)), (7, vi r19)]) rfl (by decide) dX12_cut_74 ?_
        refine V_aload_n (pc := 76) C 0 rfl dX12_cut_76 ?_
        refine V_iload_n (pc := 77) C 1 rfl dX12_cut_77 ?_
        refine V_iload (pc := 78) C 6 rfl dX12_cut_78 ?_
        refine V_iload (pc := 80) C 7 rfl dX12_cut_80 ?_
        refine V_iconst (pc := 82) C dX12_cut_82 ?_
        refine V_iconst (pc := 83) C dX12_cut_83 ?_
        obtain ⟨M21, r22, hc23, h⟩ := cal_of h
        refine V_callVI (pc := 84) C (c_X12_remake l Γ sk hsk fu ha1 g11 hr19 (by decide) (by decide) hc23) cf_X12_remake lk_X12_97 ⟨rfl, rfl⟩ ⟨by dsimp only; omega, by dsimp only; omega⟩ e52 rfl rfl rfl (Nat.le_of_ble_eq_true rfl) ⟨Nat.zero_le _, Nat.zero_le _⟩ rfl dX12_cut_84 (fun hr22 => ?_)
        exact V_iret (pc := 87) C hr hlk hr22 h dX12_cut_87
      · have h := ite_t h c18_5
        refine V_aload_n (pc := 21) C 0 rfl dX12_cut_21 ?_
        refine V_iload_n (pc := 22) C 1 rfl dX12_cut_22 ?_
        refine V_iload (pc := 23) C 4 rfl dX12_cut_23 ?_
        refine V_aload_n (pc := 25) C 0 rfl dX12_cut_25 ?_
        refine V_iload_n (pc := 26) C 1 rfl dX12_cut_26 ?_
        refine V_iload (pc := 27) C 4 rfl dX12_cut_27 ?_
        obtain ⟨g24, h⟩ := grd_of h
        obtain ⟨M25, r26, hc27, h⟩ := cal_of h
        refine V_callVI (pc := 29) C (c_X12_entry l Γ sk hsk fu ha1 g24 hc27) cf_X12_entry lk_X12_71 ⟨rfl, rfl⟩ ⟨by dsimp only; omega, by dsimp only; omega⟩ e52 rfl rfl rfl (Nat.le_of_ble_eq_true rfl) ⟨Nat.zero_le _, Nat.zero_le _⟩ rfl dX12_cut_29 (fun hr26 => ?_)
        refine V_iconst (pc := 32) C dX12_cut_32 ?_
        refine V_iconst (pc := 33) C dX12_cut_33 ?_
        obtain ⟨M28, r29, hc30, h⟩ := cal_of h
        refine V_callVI (pc := 34) C (c_X12_remake l Γ sk hsk fu ha1 g24 hr26 (by decide) (by decide) hc30) cf_X12_remake lk_X12_97 ⟨rfl, rfl⟩ ⟨by dsimp only; omega, by dsimp only; omega⟩ e52 rfl rfl rfl (Nat.le_of_ble_eq_true rfl) ⟨Nat.zero_le _, Nat.zero_le _⟩ rfl dX12_cut_34 (fun hr29 => ?_)
        exact V_iret (pc := 37) C hr hlk hr29 h dX12_cut_37
    · have h := ite_t h c6_4
      refine V_iload_n (pc := 9) C 1 rfl dX12_cut_9 ?_
      exact V_iret (pc := 10) C hr hlk ha1 h dX12_cut_10
set_option maxRecDepth 100000 in
set_option maxHeartbeats 4000000 in
theorem c_X12_lengthOf (l : Launch) (Γ : GG) (sk : List SD) (hsk : ExtM sk) (fu : Nat) {M M' : Mem} {a1 : Int} {r : Int} (ha1 : rng a1) (h : f_X12_lengthOf fu M a1 = some (M', r)) : MetI l yX12_lengthOf cX12_lengthOf 2 .int ({ frames := 1, cells := 0, slots := 0, locals := 20 } : Room) Γ sk [vr Γ 52, vi a1] M M' r := by
  unfold f_X12_lengthOf at h
  refine MetI_of RX12 rfl (by decide) rfl (Nat.le_of_ble_eq_true rfl) rfl ?_
  intro p e s m args below meth c C hr hlk hM
  have e52 := hsk 52 _ (by decide) rfl
  have e53 := hsk 53 _ (by decide) rfl
  refine V_aload_n (pc := 0) C 0 rfl dX12_lengthOf_0 ?_
  refine V_getR (pc := 1) C e52 rfl inX12 0 (by decide) rfl lf_X12_9 rfl dX12_lengthOf_1 ?_
  refine V_iload_n (pc := 4) C 1 rfl dX12_lengthOf_4 ?_
  obtain ⟨M1, r2, hc3, h⟩ := cal_of h
  refine V_callSI (pc := 5) C (c_X12_v l Γ sk hsk fu ha1 hc3) cf_X12_v lk_X12_112 ⟨rfl, rfl⟩ ⟨Nat.le_of_ble_eq_true rfl, Nat.le_of_ble_eq_true rfl⟩ rfl (Nat.le_of_ble_eq_true rfl) ⟨Nat.zero_le _, Nat.zero_le _⟩ rfl dX12_lengthOf_5 (fun hr2 => ?_)
  refine V_iconst (pc := 8) C dX12_lengthOf_8 ?_
  refine V_iadd (pc := 9) C dX12_lengthOf_9 ?_
  refine V_rng fun hM4 => ?_
  obtain ⟨g5, h⟩ := grd_of h
  obtain ⟨g6, h⟩ := grd_of h
  refine V_iald (pc := 10) C e53 g6 g5 dX12_lengthOf_10 ?_
  exact V_iret (pc := 11) C hr hlk (hM4 _ _) h dX12_lengthOf_11
set_option maxRecDepth 100000 in
set_option maxHeartbeats 4000000 in
theorem c_X12_root (l : Launch) (Γ : GG) (sk : List SD) (hsk : ExtM sk) (fu : Nat) {M M' : Mem} {a1 : Int} {r : Int} (ha1 : rng a1) (h : f_X12_root fu M a1 = some (M', r)) : MetI l yX12_root cX12_root 2 .int ({ frames := 1, cells := 0, slots := 0, locals := 20 } : Room) Γ sk [vr Γ 52, vi a1] M M' r := by
  unfold f_X12_root at h
  refine MetI_of RX12 rfl (by decide) rfl (Nat.le_of_ble_eq_true rfl) rfl ?_
  intro p e s m args below meth c C hr hlk hM
  have e52 := hsk 52 _ (by decide) rfl
  have e53 := hsk 53 _ (by decide) rfl
  refine V_aload_n (pc := 0) C 0 rfl dX12_root_0 ?_
  refine V_getR (pc := 1) C e52 rfl inX12 0 (by decide) rfl lf_X12_9 rfl dX12_root_1 ?_
  refine V_iload_n (pc := 4) C 1 rfl dX12_root_4 ?_
  obtain ⟨M1, r2, hc3, h⟩ := cal_of h
  refine V_callSI (pc := 5) C (c_X12_v l Γ sk hsk fu ha1 hc3) cf_X12_v lk_X12_112 ⟨rfl, rfl⟩ ⟨Nat.le_of_ble_eq_true rfl, Nat.le_of_ble_eq_true rfl⟩ rfl (Nat.le_of_ble_eq_true rfl) ⟨Nat.zero_le _, Nat.zero_le _⟩ rfl dX12_root_5 (fun hr2 => ?_)
  refine V_iconst (pc := 8) C dX12_root_8 ?_
  refine V_iadd (pc := 9) C dX12_root_9 ?_
  refine V_rng fun hM4 => ?_
  obtain ⟨g5, h⟩ := grd_of h
  obtain ⟨g6, h⟩ := grd_of h
  refine V_iald (pc := 10) C e53 g6 g5 dX12_root_10 ?_
  exact V_iret (pc := 11) C hr hlk (hM4 _ _) h dX12_root_11
set_option maxRecDepth 100000 in
set_option maxHeartbeats 4000000 in
theorem c_X12_heightOf (l : Launch) (Γ : GG) (sk : List SD) (hsk : ExtM sk) (fu : Nat) {M M' : Mem} {a1 : Int} {r : Int} (ha1 : rng a1) (h : f_X12_heightOf fu M a1 = some (M', r)) : MetI l yX12_heightOf cX12_heightOf 2 .int ({ frames := 1, cells := 0, slots := 0, locals := 20 } : Room) Γ sk [vr Γ 52, vi a1] M M' r := by
  unfold f_X12_heightOf at h
  refine MetI_of RX12 rfl (by decide) rfl (Nat.le_of_ble_eq_true rfl) rfl ?_
  intro p e s m args below meth c C hr hlk hM
  have e52 := hsk 52 _ (by decide) rfl
  have e53 := hsk 53 _ (by decide) rfl
  refine V_aload_n (pc := 0) C 0 rfl dX12_heightOf_0 ?_
  refine V_getR (pc := 1) C e52 rfl inX12 0 (by decide) rfl lf_X12_9 rfl dX12_heightOf_1 ?_
  refine V_iload_n (pc := 4) C 1 rfl dX12_heightOf_4 ?_
  obtain ⟨M1, r2, hc3, h⟩ := cal_of h
  refine V_callSI (pc := 5) C (c_X12_v l Γ sk hsk fu ha1 hc3) cf_X12_v lk_X12_112 ⟨rfl, rfl⟩ ⟨Nat.le_of_ble_eq_true rfl, Nat.le_of_ble_eq_true rfl⟩ rfl (Nat.le_of_ble_eq_true rfl) ⟨Nat.zero_le _, Nat.zero_le _⟩ rfl dX12_heightOf_5 (fun hr2 => ?_)
  refine V_iconst (pc := 8) C dX12_heightOf_8 ?_
  refine V_iadd (pc := 9) C dX12_heightOf_9 ?_
  refine V_rng fun hM4 => ?_
  obtain ⟨g5, h⟩ := grd_of h
  obtain ⟨g6, h⟩ := grd_of h
  refine V_iald (pc := 10) C e53 g6 g5 dX12_heightOf_10 ?_
  exact V_iret (pc := 11) C hr hlk (hM4 _ _) h dX12_heightOf_11
