set_option maxRecDepth 100000 in
set_option maxHeartbeats 4000000 in
theorem c_X12_cutRoot (l : Launch) (Γ : GG) (sk : List SD) (hsk : ExtM sk) (fu : Nat) {M M' : Mem} {a1 : Int} {a2 : Int} {r : Int} (ha1 : rng a1) (ha2 : rng a2) (h : f_X12_cutRoot fu M a1 a2 = some (M', r)) : MetI l yX12_cutRoot cX12_cutRoot 5 .int ({ frames := 262, cells := 0, slots := 0, locals := 9036 } : Room) Γ sk [vr Γ 52, vi a1, vi a2] M M' r := by
  unfold f_X12_cutRoot at h
  refine MetI_of RX12 rfl (by decide) rfl (Nat.le_of_ble_eq_true rfl) rfl ?_
  intro p e s m args below meth c C hr hlk hM
  have e52 := hsk 52 _ (by decide) rfl
  have LP19 : ∀ (n : Nat) {x2 : Int} {x3 : Int} {x4 : Int} {M : Mem}, rng x2 → rng x3 → rng x4 → f_X12_cutRoot_L19 fu n x2 x3 x4 M = some (M', r) → VV p l e ({ frames := 262, cells := 0, slots := 0, locals := 9036 } : Room) s m args below meth c (MQ below (PostI Γ sk M' r s.heap.size) args s 0 0 (Fr Γ sk s.heap.size)) 5 Γ sk M 0 0 19 [(0, vr Γ 52), (2, vi x2), (3, vi x3), (4, vi x4)] [] := by
    intro n
    induction n with
    | zero =>
      intro x2 x3 x4 M hx2 hx3 hx4 h
      cases h
    | succ n ih =>
      intro x2 x3 x4 M hx2 hx3 hx4 h
      rw [f_X12_cutRoot_L19] at h
      refine V_iload (pc := 19) C 3 rfl dX12_cutRoot_19 ?_
      refine V_iload_n (pc := 21) C 1 rfl dX12_cutRoot_21 ?_
      obtain ⟨M8, r9, hc10, h⟩ := cal_of h
      refine V_callSI (pc := 22) C (c_X12_heightFor l Γ sk hsk fu hx2 hc10) cf_X12_heightFor lk_X12_118 ⟨rfl, rfl⟩ ⟨Nat.le_of_ble_eq_true rfl, Nat.le_of_ble_eq_true rfl⟩ rfl (Nat.le_of_ble_eq_true rfl) ⟨Nat.zero_le _, Nat.zero_le _⟩ rfl dX12_cutRoot_22 (fun hr9 => ?_)
      refine V_icmp_le (pc := 25) C 41 hx4 hr9 dX12_cutRoot_25 (by decide) (fun c25_11 => ?_) (fun c25_11 => ?_)
      · have h := ite_t h c25_11
        refine V_aload_n (pc := 41) C 0 rfl dX12_cutRoot_41 ?_
        refine V_iload_n (pc := 42) C 2 rfl dX12_cutRoot_42 ?_
        refine V_iload_n (pc := 43) C 1 rfl dX12_cutRoot_43 ?_
        obtain ⟨M12, r13, hc14, h⟩ := cal_of h
        refine V_callSI (pc := 44) C (c_X12_heightFor l Γ sk hsk fu hx2 hc14) cf_X12_heightFor lk_X12_118 ⟨rfl, rfl⟩ ⟨Nat.le_of_ble_eq_true rfl, Nat.le_of_ble_eq_true rfl⟩ rfl (Nat.le_of_ble_eq_true rfl) ⟨Nat.zero_le _, Nat.zero_le _⟩ rfl dX12_cutRoot_44 (fun hr13 => ?_)
        refine V_iload_n (pc := 47) C 1 rfl dX12_cutRoot_47 ?_
        obtain ⟨M15, r16, hc17, h⟩ := cal_of h
        refine V_callVI (pc := 48) C (c_X12_cut l Γ sk hsk fu 8 hx3 hr13 hx2 hc17) cf_X12_cut lk_X12_108 ⟨rfl, rfl⟩ ⟨Nat.le_of_ble_eq_true rfl, Nat.le_of_ble_eq_true rfl⟩ e52 rfl rfl rfl (Nat.le_of_ble_eq_true rfl) ⟨Nat.zero_le _, Nat.zero_le _⟩ rfl dX12_cutRoot_48 (fun hr16 => ?_)
        exact V_iret (pc := 51) C hr hlk hr16 h dX12_cutRoot_51
      · have h := ite_f h c25_11
        refine V_aload_n (pc := 28) C 0 rfl dX12_cutRoot_28 ?_
        refine V_iload_n (pc := 29) C 2 rfl dX12_cutRoot_29 ?_
        refine V_iconst (pc := 30) C dX12_cutRoot_30 ?_
        obtain ⟨M18, r19, hc20, h⟩ := cal_of h
        refine V_callVI (pc := 31) C (c_X12_entry l Γ sk hsk fu hx3 (by decide) hc20) cf_X12_entry lk_X12_71 ⟨rfl, rfl⟩ ⟨Nat.le_of_ble_eq_true rfl, Nat.le_of_ble_eq_true rfl⟩ e52 rfl rfl rfl (Nat.le_of_ble_eq_true rfl) ⟨Nat.zero_le _, Nat.zero_le _⟩ rfl dX12_cutRoot_31 (fun hr19 => ?_)
        refine V_istore_n (pc := 34) C (L' := [(0, vr Γ 52), (2, vi x2), (3, vi r19), (4, vi x4)]) rfl (by decide) dX12_cutRoot_34 ?_
        refine V_iinc (pc := 35) C (L' := [(0, vr Γ 52), (2, vi x2), (3, vi r19), (4, vi (x4 + (-1 : Int)))]) 3 rfl rfl (by decide) dX12_cutRoot_35 ?_
        refine V_goto (pc := 38) C 19 dX12_cutRoot_38 (by decide) ?_
        obtain ⟨g21, h⟩ := grd_of h
        refine V_sub (L' := [(0, vr Γ 52), (2, vi x2), (3, vi r19), (4, vi (x4 + (-1 : Int)))]) [0, 1, 2, 3] rfl (by decide) ?_
        exact ih hx2 hr19 g21 h
  skip
  refine V_iload_n (pc := 0) C 2 rfl dX12_cutRoot_0 ?_
  refine V_if_ne (pc := 1) C 6 ha2 dX12_cutRoot_1 (by decide) (fun c1_1 => ?_) (fun c1_1 => ?_)
  · have h := ite_f h c1_1
    refine V_aload_n (pc := 6) C 0 rfl dX12_cutRoot_6 ?_
    refine V_iload_n (pc := 7) C 1 rfl dX12_cutRoot_7 ?_
    obtain ⟨M2, r3, hc4, h⟩ := cal_of h
    refine V_callVI (pc := 8) C (c_X12_root l Γ sk hsk fu ha1 hc4) cf_X12_root lk_X12_145 ⟨rfl, rfl⟩ ⟨Nat.le_of_ble_eq_true rfl, Nat.le_of_ble_eq_true rfl⟩ e52 rfl rfl rfl (Nat.le_of_ble_eq_true rfl) ⟨Nat.zero_le _, Nat.zero_le _⟩ rfl dX12_cutRoot_8 (fun hr3 => ?_)
    refine V_istore_n (pc := 11) C (L' := [(0, vr Γ 52), (1, vi a1), (2, vi a2), (3, vi r3)]) rfl (by decide) dX12_cutRoot_11 ?_
    refine V_aload_n (pc := 12) C 0 rfl dX12_cutRoot_12 ?_
    refine V_iload_n (pc := 13) C 1 rfl dX12_cutRoot_13 ?_
    obtain ⟨M5, r6, hc7, h⟩ := cal_of h
    refine V_callVI (pc := 14) C (c_X12_heightOf l Γ sk hsk fu ha1 hc7) cf_X12_heightOf lk_X12_148 ⟨rfl, rfl⟩ ⟨Nat.le_of_ble_eq_true rfl, Nat.le_of_ble_eq_true rfl⟩ e52 rfl rfl rfl (Nat.le_of_ble_eq_true rfl) ⟨Nat.zero_le _, Nat.zero_le _⟩ rfl dX12_cutRoot_14 (fun hr6 => ?_)
    refine V_istore (pc := 17) C (L' := [(0, vr Γ 52), (1, vi a1), (2, vi a2), (3, vi r3), (4, vi r6)]) rfl (by decide) dX12_cutRoot_17 ?_
    refine V_sub (L' := [(0, vr Γ 52), (2, vi a2), (3, vi r3), (4, vi r6)]) [0, 2, 3, 4] rfl (by decide) ?_
    exact LP19 fu  ha2 hr3 hr6 h
  · have h := ite_t h c1_1
    refine V_iconst (pc := 4) C dX12_cutRoot_4 ?_
    exact V_iret (pc := 5) C hr hlk (by decide) h dX12_cutRoot_5
set_option maxRecDepth 100000 in
set_option maxHeartbeats 4000000 in
theorem c_X12_makeTruncate (l : Launch) (Γ : GG) (sk : List SD) (hsk : ExtM sk) (fu : Nat) {M M' : Mem} {a1 : Int} {a2 : Int} {r : Int} (ha1 : rng a1) (ha2 : rng a2) (h : f_X12_makeTruncate fu M a1 a2 = some (M', r)) : MetI l yX12_makeTruncate cX12_makeTruncate 4 .int ({ frames := 263, cells := 0, slots := 0, locals := 9060 } : Room) Γ sk [vr Γ 52, vi a1, vi a2] M M' r := by
  unfold f_X12_makeTruncate at h
  refine MetI_of RX12 rfl (by decide) rfl (Nat.le_of_ble_eq_true rfl) rfl ?_
  intro p e s m args below meth c C hr hlk hM
  have e52 := hsk 52 _ (by decide) rfl
  have e53 := hsk 53 _ (by decide) rfl
  refine V_aload_n (pc := 0) C 0 rfl dX12_makeTruncate_0 ?_
  refine V_getR (pc := 1) C e52 rfl inX12 0 (by decide) rfl lf_X12_9 rfl dX12_makeTruncate_1 ?_
  refine V_iconst (pc := 4) C dX12_makeTruncate_4 ?_
  obtain ⟨g1, h⟩ := grd_of h
  refine V_iald (pc := 5) C e53 g1 (by decide) dX12_makeTruncate_5 ?_
  refine V_istore_n (pc := 6) C (L' := [(0, vr Γ 52), (1, vi a1), (2, vi a2), (3, vi (M 53 ((1 : Int) : Int).toNat))]) rfl (by decide) dX12_makeTruncate_6 ?_
  refine V_aload_n (pc := 7) C 0 rfl dX12_makeTruncate_7 ?_
  refine V_iload_n (pc := 8) C 1 rfl dX12_makeTruncate_8 ?_
  refine V_iload_n (pc := 9) C 2 rfl dX12_makeTruncate_9 ?_
  refine V_aload_n (pc := 10) C 0 rfl dX12_makeTruncate_10 ?_
  refine V_iload_n (pc := 11) C 1 rfl dX12_makeTruncate_11 ?_
  refine V_iload_n (pc := 12) C 2 rfl dX12_makeTruncate_12 ?_
  obtain ⟨M2, r3, hc4, h⟩ := cal_of h
  refine V_callVI (pc := 13) C (c_X12_cutRoot l Γ sk hsk fu ha1 ha2 hc4) cf_X12_cutRoot lk_X12_154 ⟨rfl, rfl⟩ ⟨Nat.le_of_ble_eq_true rfl, Nat.le_of_ble_eq_true rfl⟩ e52 rfl rfl rfl (Nat.le_of_ble_eq_true rfl) ⟨Nat.zero_le _, Nat.zero_le _⟩ rfl dX12_makeTruncate_13 (fun hr3 => ?_)
  refine V_iload_n (pc := 16) C 3 rfl dX12_makeTruncate_16 ?_
  obtain ⟨M5, r6, hc7, h⟩ := cal_of h
  refine V_callVI (pc := 17) C (c_X12_addVersion l Γ sk hsk fu ha1 ha2 hr3 (hM _ _) hc7) cf_X12_addVersion lk_X12_142 ⟨rfl, rfl⟩ ⟨Nat.le_of_ble_eq_true rfl, Nat.le_of_ble_eq_true rfl⟩ e52 rfl rfl rfl (Nat.le_of_ble_eq_true rfl) ⟨Nat.zero_le _, Nat.zero_le _⟩ rfl dX12_makeTruncate_17 (fun hr6 => ?_)
  exact V_iret (pc := 20) C hr hlk hr6 h dX12_makeTruncate_20
set_option maxRecDepth 100000 in
set_option maxHeartbeats 4000000 in
theorem c_X12_clearReached (l : Launch) (Γ : GG) (sk : List SD) (hsk : ExtM sk) (fu : Nat) {M M' : Mem}  {r : Int}  (h : f_X12_clearReached fu M  = some (M', r)) : MetV l yX12_clearReached cX12_clearReached 2 ({ frames := 0, cells := 0, slots := 0, locals := 0 } : Room) Γ sk [vr Γ 52] M M' := by
  unfold f_X12_clearReached at h
  refine MetV_of RX12 rfl (by decide) rfl (Nat.le_of_ble_eq_true rfl) rfl ?_
  intro p e s m args below meth c C hr hlk hM
  have e52 := hsk 52 _ (by decide) rfl
  have e60 := hsk 60 _ (by decide) rfl
  have LP2 : ∀ (n : Nat) {x1 : Int} {M : Mem}, rng x1 → f_X12_clearReached_L2 fu n x1 M = some (M', r) → VV p l e ({ frames := 0, cells := 0, slots := 0, locals := 0 } : Room) s m args below meth c (MQ below (PostV Γ sk M' s.heap.size) args s 0 0 (Fr Γ sk s.heap.size)) 2 Γ sk M 0 0 2 [(0, vr Γ 52), (1, vi x1)] [] := by
    intro n
    induction n with
    | zero =>
      intro x1 M hx1 h
      cases h
    | succ n ih =>
      intro x1 M hx1 h
      rw [f_X12_clearReached_L2] at h
      refine V_iload_n (pc := 2) C 1 rfl dX12_clearReached_2 ?_
      refine V_sipush (pc := 3) C dX12_clearReached_3 rfl ?_
      refine V_icmp_ge (pc := 6) C 22 hx1 (by decide) dX12_clearReached_6 (by decide) (fun c6_1 => ?_) (fun c6_1 => ?_)
      · have h := ite_t h c6_1
        exact V_vret (pc := 22) C hr hlk h dX12_clearReached_22
      · have h := ite_f h c6_1
        refine V_aload_n (pc := 9) C 0 rfl dX12_clearReached_9 ?_
        refine V_getR (pc := 10) C e52 rfl inX12 11 (by decide) rfl lf_X12_32 rfl dX12_clearReached_10 ?_
        refine V_iload_n (pc := 13) C 1 rfl dX12_clearReached_13 ?_
        refine V_iconst (pc := 14) C dX12_clearReached_14 ?_
        obtain ⟨g2, h⟩ := grd_of h
        refine V_iast (pc := 15) C (by decide) e60 g2 hx1 (by decide) dX12_clearReached_15 ?_
        refine V_iinc (pc := 16) C (L' := [(0, vr Γ 52), (1, vi (x1 + (1 : Int)))]) 1 rfl rfl (by decide) dX12_clearReached_16 ?_
        refine V_goto (pc := 19) C 2 dX12_clearReached_19 (by decide) ?_
        obtain ⟨g3, h⟩ := grd_of h
        refine V_sub (L' := [(0, vr Γ 52), (1, vi (x1 + (1 : Int)))]) [0, 1] rfl (by decide) ?_
        exact ih g3 h
  skip
  refine V_iconst (pc := 0) C dX12_clearReached_0 ?_
  refine V_istore_n (pc := 1) C (L' := [(0, vr Γ 52), (1, vi (0 : Int))]) rfl (by decide) dX12_clearReached_1 ?_
  refine V_sub (L' := [(0, vr Γ 52), (1, vi (0 : Int))]) [0, 1] rfl (by decide) ?_
  exact LP2 fu  (by decide) h
set_option maxRecDepth 100000 in
set_option maxHeartbeats 4000000 in
theorem c_X12_reach (l : Launch) (Γ : GG) (sk : List SD) (hsk : ExtM sk) (fu : Nat) : ∀ (d : Nat) {M M' : Mem} {a1 : Int} {r : Int} (ha1 : rng a1) (h : f_X12_reach fu d M a1 = some (M', r)), MetV l yX12_reach cX12_reach 3 ({ frames := 3 * (d + 1), cells := 0, slots := 0, locals := 102 * (d + 1) } : Room) Γ sk [vr Γ 52, vi a1] M M' := by
  intro d
  induction d with
  | zero =>
    intro M M' a1 r ha1 h
    cases h
  | succ d hsf =>
    intro M M' a1 r ha1 h
    rw [f_X12_reach] at h
    refine MetV_of RX12 rfl (by decide) rfl (Nat.le_of_ble_eq_true rfl) rfl ?_
    intro p e s m args below meth c C hr hlk hM
    have e52 := hsk 52 _ (by decide) rfl
    have e60 := hsk 60 _ (by decide) rfl
    generalize hsfe : f_X12_reach fu d = sf at h hsf
    have LP27 : ∀ (n : Nat) {x1 : Int} {x2 : Int} {M : Mem}, rng x1 → rng x2 → f_X12_reach_L27 fu sf n x1 x2 M = some (M', r) → VV p l e ({ frames := 3 * (d + 1 + 1), cells := 0, slots := 0, locals := 102 * (d + 1 + 1) } : Room) s m args below meth c (MQ below (PostV Γ sk M' s.heap.size) args s 0 0 (Fr Γ sk s.heap.size)) 3 Γ sk M 0 0 27 [(0, vr Γ 52), (1, vi x1), (2, vi x2)] [] := by
      intro n
      induction n with
      | zero =>
        intro x1 x2 M hx1 hx2 h
        cases h
      | succ n ih =>
        intro x1 x2 M hx1 hx2 h
        rw [f_X12_reach_L27] at h
        refine V_iload_n (pc := 27) C 2 rfl dX12_reach_27 ?_
        refine V_aload_n (pc := 28) C 0 rfl dX12_reach_28 ?_
        refine V_iload_n (pc := 29) C 1 rfl dX12_reach_29 ?_
        obtain ⟨M9, r10, hc11, h⟩ := cal_of h
        refine V_callVI (pc := 30) C (c_X12_countOf l Γ sk hsk fu hx1 hc11) cf_X12_countOf lk_X12_79 ⟨rfl, rfl⟩ ⟨by dsimp only; omega, by dsimp only; omega⟩ e52 rfl rfl rfl (Nat.le_of_ble_eq_true rfl) ⟨Nat.zero_le _, Nat.zero_le _⟩ rfl dX12_reach_30 (fun hr10 => ?_)
        refine V_icmp_ge (pc := 33) C 52 hx2 hr10 dX12_reach_33 (by decide) (fun c33_12 => ?_) (fun c33_12 => ?_)
        · have h := ite_t h c33_12
          exact V_vret (pc := 52) C hr hlk h dX12_reach_52
        · have h := ite_f h c33_12
          refine V_aload_n (pc := 36) C 0 rfl dX12_reach_36 ?_
          refine V_aload_n (pc := 37) C 0 rfl dX12_reach_37 ?_
          refine V_iload_n (pc := 38) C 1 rfl dX12_reach_38 ?_
          refine V_iload_n (pc := 39) C 2 rfl dX12_reach_39 ?_
          obtain ⟨M13, r14, hc15, h⟩ := cal_of h
          refine V_callVI (pc := 40) C (c_X12_entry l Γ sk hsk fu hx1 hx2 hc15) cf_X12_entry lk_X12_71 ⟨rfl, rfl⟩ ⟨by dsimp only; omega, by dsimp only; omega⟩ e52 rfl rfl rfl (Nat.le_of_ble_eq_true rfl) ⟨Nat.zero_le _, Nat.zero_le _⟩ rfl dX12_reach_40 (fun hr14 => ?_)
          obtain ⟨M16, r17, hc18, h⟩ := cal_of h
          refine V_callVV (pc := 43) C (hsf hr14 hc18) cf_X12_reach lk_X12_157 ⟨rfl, rfl⟩ ⟨by dsimp only; omega, by dsimp only; omega⟩ e52 rfl rfl rfl (Nat.le_of_ble_eq_true rfl) ⟨Nat.zero_le _, Nat.zero_le _⟩ rfl dX12_reach_43 ?_
          refine V_iinc (pc := 46) C (L' := [(0, vr Γ 52), (1, vi x1), (2, vi (x2 + (1 : Int)))]) 2 rfl rfl (by decide) dX12_reach_46 ?_
          refine V_goto (pc := 49) C 27 dX12_reach_49 (by decide) ?_
          obtain ⟨g19, h⟩ := grd_of h
          refine V_sub (L' := [(0, vr Γ 52), (1, vi x1), (2, vi (x2 + (1 : Int)))]) [0, 1, 2] rfl (by decide) ?_
          exact ih hx1 g19 h
    skip
    refine V_iload_n (pc := 0) C 1 rfl dX12_reach_0 ?_
    refine V_iconst (pc := 1) C dX12_reach_1 ?_
    refine V_icmp_ne (pc := 2) C 6 ha1 (by decide) dX12_reach_2 (by decide) (fun c2_1 => ?_) (fun c2_1 => ?_)
    · have h := ite_f h c2_1
      refine V_aload_n (pc := 6) C 0 rfl dX12_reach_6 ?_
      refine V_getR (pc := 7) C e52 rfl inX12 11 (by decide) rfl lf_X12_32 rfl dX12_reach_7 ?_
      refine V_iload_n (pc := 10) C 1 rfl dX12_reach_10 ?_
      refine V_dup2 (pc := 11) C rfl rfl dX12_reach_11 ?_
      obtain ⟨g2, h⟩ := grd_of h
      refine V_iald (pc := 12) C e60 g2 ha1 dX12_reach_12 ?_
      refine V_iconst (pc := 13) C dX12_reach_13 ?_
      refine V_iadd (pc := 14) C dX12_reach_14 ?_
      obtain ⟨g3, h⟩ := grd_of h
      obtain ⟨g4, h⟩ := grd_of h
      refine V_iast (pc := 15) C (by decide) e60 g3 ha1 g4 dX12_reach_15 ?_
      refine V_aload_n (pc := 16) C 0 rfl dX12_reach_16 ?_
      refine V_iload_n (pc := 17) C 1 rfl dX12_reach_17 ?_
      obtain ⟨M5, r6, hc7, h⟩ := cal_of h
      refine V_callVI (pc := 18) C (c_X12_isLeafNode l Γ sk hsk fu ha1 hc7) cf_X12_isLeafNode lk_X12_90 ⟨rfl, rfl⟩ ⟨by dsimp only; omega, by dsimp only; omega⟩ e52 rfl rfl rfl (Nat.le_of_ble_eq_true rfl) ⟨Nat.zero_le _, Nat.zero_le _⟩ rfl dX12_reach_18 (fun hr6 => ?_)
      refine V_if_eq (pc := 21) C 25 hr6 dX12_reach_21 (by decide) (fun c21_8 => ?_) (fun c21_8 => ?_)
      · have h := ite_t h c21_8
        refine V_iconst (pc := 25) C dX12_reach_25 ?_
        refine V_istore_n (pc := 26) C (L' := [(0, vr Γ 52), (1, vi a1), (2, vi (0 : Int))]) rfl (by decide) dX12_reach_26 ?_
        refine V_sub (L' := [(0, vr Γ 52), (1, vi a1), (2, vi (0 : Int))]) [0, 1, 2] rfl (by decide) ?_
        exact LP27 fu  ha1 (by decide) h
      · have h := ite_f h c21_8
        exact V_vret (pc := 24) C hr hlk h dX12_reach_24
    · have h := ite_t h c2_1
      exact V_vret (pc := 5) C hr hlk h dX12_reach_5
set_option maxRecDepth 100000 in
set_option maxHeartbeats 4000000 in
theorem c_X12_reachAll (l : Launch) (Γ : GG) (sk : List SD) (hsk : ExtM sk) (fu : Nat) {M M' : Mem}  {r : Int}  (h : f_X12_reachAll fu M  = some (M', r)) : MetV l yX12_reachAll cX12_reachAll 2 ({ frames := 28, cells := 0, slots := 0, locals := 940 } : Room) Γ sk [vr Γ 52] M M' := by
  unfold f_X12_reachAll at h
  refine MetV_of RX12 rfl (by decide) rfl (Nat.le_of_ble_eq_true rfl) rfl ?_
  intro p e s m args below meth c C hr hlk hM
  have e52 := hsk 52 _ (by decide) rfl
  have e53 := hsk 53 _ (by decide) rfl
  have LP6 : ∀ (n : Nat) {x1 : Int} {M : Mem}, rng x1 → f_X12_reachAll_L6 fu n x1 M = some (M', r) → VV p l e ({ frames := 28, cells := 0, slots := 0, locals := 940 } : Room) s m args below meth c (MQ below (PostV Γ sk M' s.heap.size) args s 0 0 (Fr Γ sk s.heap.size)) 2 Γ sk M 0 0 6 [(0, vr Γ 52), (1, vi x1)] [] := by
    intro n
    induction n with
    | zero =>
      intro x1 M hx1 h
      cases h
    | succ n ih =>
      intro x1 M hx1 h
      rw [f_X12_reachAll_L6] at h
      refine V_iload_n (pc := 6) C 1 rfl dX12_reachAll_6 ?_
      refine V_aload_n (pc := 7) C 0 rfl dX12_reachAll_7 ?_
      refine V_getR (pc := 8) C e52 rfl inX12 0 (by decide) rfl lf_X12_9 rfl dX12_reachAll_8 ?_
      refine V_iconst (pc := 11) C dX12_reachAll_11 ?_
      refine V_rng fun hM4 => ?_
      obtain ⟨g5, h⟩ := grd_of h
      refine V_iald (pc := 12) C e53 g5 (by decide) dX12_reachAll_12 ?_
      refine V_icmp_ge (pc := 13) C 39 hx1 (hM4 _ _) dX12_reachAll_13 (by decide) (fun c13_6 => ?_) (fun c13_6 => ?_)
      · have h := ite_t h c13_6
        exact V_vret (pc := 39) C hr hlk h dX12_reachAll_39
      · have h := ite_f h c13_6
        refine V_aload_n (pc := 16) C 0 rfl dX12_reachAll_16 ?_
        refine V_iload_n (pc := 17) C 1 rfl dX12_reachAll_17 ?_
        obtain ⟨M7, r8, hc9, h⟩ := cal_of h
        refine V_callVI (pc := 18) C (c_X12_isGone l Γ sk hsk fu hx1 hc9) cf_X12_isGone lk_X12_164 ⟨rfl, rfl⟩ ⟨Nat.le_of_ble_eq_true rfl, Nat.le_of_ble_eq_true rfl⟩ e52 rfl rfl rfl (Nat.le_of_ble_eq_true rfl) ⟨Nat.zero_le _, Nat.zero_le _⟩ rfl dX12_reachAll_18 (fun hr8 => ?_)
        refine V_if_ne (pc := 21) C 33 hr8 dX12_reachAll_21 (by decide) (fun c21_10 => ?_) (fun c21_10 => ?_)
        · have h := ite_f h c21_10
          refine V_iinc (pc := 33) C (L' := [(0, vr Γ 52), (1, vi (x1 + (1 : Int)))]) 1 rfl rfl (by decide) dX12_reachAll_33 ?_
          refine V_goto (pc := 36) C 6 dX12_reachAll_36 (by decide) ?_
          obtain ⟨g11, h⟩ := grd_of h
          refine V_sub (L' := [(0, vr Γ 52), (1, vi (x1 + (1 : Int)))]) [0, 1] rfl (by decide) ?_
          exact ih g11 h
        · have h := ite_t h c21_10
          refine V_aload_n (pc := 24) C 0 rfl dX12_reachAll_24 ?_
          refine V_aload_n (pc := 25) C 0 rfl dX12_reachAll_25 ?_
          refine V_iload_n (pc := 26) C 1 rfl dX12_reachAll_26 ?_
          obtain ⟨M12, r13, hc14, h⟩ := cal_of h
          refine V_callVI (pc := 27) C (c_X12_root l Γ sk hsk fu hx1 hc14) cf_X12_root lk_X12_145 ⟨rfl, rfl⟩ ⟨Nat.le_of_ble_eq_true rfl, Nat.le_of_ble_eq_true rfl⟩ e52 rfl rfl rfl (Nat.le_of_ble_eq_true rfl) ⟨Nat.zero_le _, Nat.zero_le _⟩ rfl dX12_reachAll_27 (fun hr13 => ?_)
          obtain ⟨M15, r16, hc17, h⟩ := cal_of h
          refine V_callVV (pc := 30) C (c_X12_reach l Γ sk hsk fu 8 hr13 hc17) cf_X12_reach lk_X12_157 ⟨rfl, rfl⟩ ⟨Nat.le_of_ble_eq_true rfl, Nat.le_of_ble_eq_true rfl⟩ e52 rfl rfl rfl (Nat.le_of_ble_eq_true rfl) ⟨Nat.zero_le _, Nat.zero_le _⟩ rfl dX12_reachAll_30 ?_
          refine V_iinc (pc := 33) C (L' := [(0, vr Γ 52), (1, vi (x1 + (1 : Int)))]) 1 rfl rfl (by decide) dX12_reachAll_33 ?_
          refine V_goto (pc := 36) C 6 dX12_reachAll_36 (by decide) ?_
          obtain ⟨g18, h⟩ := grd_of h
          refine V_sub (L' := [(0, vr Γ 52), (1, vi (x1 + (1 : Int)))]) [0, 1] rfl (by decide) ?_
          exact ih g18 h
  skip
  refine V_aload_n (pc := 0) C 0 rfl dX12_reachAll_0 ?_
  obtain ⟨M1, r2, hc3, h⟩ := cal_of h
  refine V_callVV (pc := 1) C (c_X12_clearReached l Γ sk hsk fu hc3) cf_X12_clearReached lk_X12_161 ⟨rfl, rfl⟩ ⟨Nat.le_of_ble_eq_true rfl, Nat.le_of_ble_eq_true rfl⟩ e52 rfl rfl rfl (Nat.le_of_ble_eq_true rfl) ⟨Nat.zero_le _, Nat.zero_le _⟩ rfl dX12_reachAll_1 ?_
  refine V_iconst (pc := 4) C dX12_reachAll_4 ?_
  refine V_istore_n (pc := 5) C (L' := [(0, vr Γ 52), (1, vi (0 : Int))]) rfl (by decide) dX12_reachAll_5 ?_
  refine V_sub (L' := [(0, vr Γ 52), (1, vi (0 : Int))]) [0, 1] rfl (by decide) ?_
  exact LP6 fu  (by decide) h
set_option maxRecDepth 100000 in
set_option maxHeartbeats 4000000 in
theorem c_X12_appendWord (l : Launch) (Γ : GG) (sk : List SD) (hsk : ExtM sk) (fu : Nat) {M M' : Mem} {a1 : Int} {r : Int} (ha1 : rng a1) (h : f_X12_appendWord fu M a1 = some (M', r)) : MetV l yX12_appendWord cX12_appendWord 3 ({ frames := 0, cells := 0, slots := 0, locals := 0 } : Room) Γ sk [vr Γ 52, vi a1] M M' := by
  unfold f_X12_appendWord at h
  refine MetV_of RX12 rfl (by decide) rfl (Nat.le_of_ble_eq_true rfl) rfl ?_
  intro p e s m args below meth c C hr hlk hM
  have e52 := hsk 52 _ (by decide) rfl
  have e61 := hsk 61 _ (by decide) rfl
  have LP2 : ∀ (n : Nat) {x1 : Int} {x2 : Int} {M : Mem}, rng x1 → rng x2 → f_X12_appendWord_L2 fu n x1 x2 M = some (M', r) → VV p l e ({ frames := 0, cells := 0, slots := 0, locals := 0 } : Room) s m args below meth c (MQ below (PostV Γ sk M' s.heap.size) args s 0 0 (Fr Γ sk s.heap.size)) 3 Γ sk M 0 0 2 [(0, vr Γ 52), (1, vi x1), (2, vi x2)] [] := by
    intro n
    induction n with
    | zero =>
      intro x1 x2 M hx1 hx2 h
      cases h
    | succ n ih =>
      intro x1 x2 M hx1 hx2 h
      rw [f_X12_appendWord_L2] at h
      refine V_iload_n (pc := 2) C 2 rfl dX12_appendWord_2 ?_
      refine V_if_lt (pc := 3) C 38 hx2 dX12_appendWord_3 (by decide) (fun c3_1 => ?_) (fun c3_1 => ?_)
      · have h := ite_t h c3_1
        exact V_vret (pc := 38) C hr hlk h dX12_appendWord_38
      · have h := ite_f h c3_1
        refine V_aload_n (pc := 6) C 0 rfl dX12_appendWord_6 ?_
        refine V_getR (pc := 7) C e52 rfl inX12 12 (by decide) rfl lf_X12_35 rfl dX12_appendWord_7 ?_
        refine V_aload_n (pc := 10) C 0 rfl dX12_appendWord_10 ?_
        refine V_rng fun hM2 => ?_
        refine V_getI (pc := 11) C e52 rfl inX12 13 (by decide) rfl lf_X12_180 rfl dX12_appendWord_11 ?_
        refine V_iload_n (pc := 14) C 1 rfl dX12_appendWord_14 ?_
        refine V_bipush (pc := 15) C dX12_appendWord_15 rfl ?_
        refine V_iload_n (pc := 17) C 2 rfl dX12_appendWord_17 ?_
        refine V_imul (pc := 18) C dX12_appendWord_18 ?_
        obtain ⟨g3, h⟩ := grd_of h
        refine V_ishr (pc := 19) C (y := (8 : Int) * x2) hx1 g3 dX12_appendWord_19 ?_
        obtain ⟨g4, h⟩ := grd_of h
        refine V_i2b (pc := 20) C g4 dX12_appendWord_20 ?_
        obtain ⟨g5, h⟩ := grd_of h
        obtain ⟨g6, h⟩ := grd_of h
        refine V_bast (pc := 21) C (by decide) e61 g5 (hM2 _ _) g6 dX12_appendWord_21 ?_
        refine V_aload_n (pc := 22) C 0 rfl dX12_appendWord_22 ?_
        refine V_dup (pc := 23) C rfl dX12_appendWord_23 ?_
        refine V_rng fun hM7 => ?_
        refine V_getI (pc := 24) C e52 rfl inX12 13 (by decide) rfl lf_X12_180 rfl dX12_appendWord_24 ?_
        refine V_iconst (pc := 27) C dX12_appendWord_27 ?_
        refine V_iadd (pc := 28) C dX12_appendWord_28 ?_
        obtain ⟨g8, h⟩ := grd_of h
        refine V_putI (pc := 29) C (by decide) e52 rfl inX12 tyX12 tyX12_ok nmX12 13 (by decide) rfl rfl lf_X12_180 rfl g8 rfl dX12_appendWord_29 ?_
        refine V_iinc (pc := 32) C (L' := [(0, vr Γ 52), (1, vi x1), (2, vi (x2 + (-1 : Int)))]) 2 rfl rfl (by decide) dX12_appendWord_32 ?_
        refine V_goto (pc := 35) C 2 dX12_appendWord_35 (by decide) ?_
        obtain ⟨g9, h⟩ := grd_of h
        refine V_sub (L' := [(0, vr Γ 52), (1, vi x1), (2, vi (x2 + (-1 : Int)))]) [0, 1, 2] rfl (by decide) ?_
        exact ih hx1 g9 h
  skip
  refine V_iconst (pc := 0) C dX12_appendWord_0 ?_
  refine V_istore_n (pc := 1) C (L' := [(0, vr Γ 52), (1, vi a1), (2, vi (3 : Int))]) rfl (by decide) dX12_appendWord_1 ?_
  refine V_sub (L' := [(0, vr Γ 52), (1, vi a1), (2, vi (3 : Int))]) [0, 1, 2] rfl (by decide) ?_
  exact LP2 fu  ha1 (by decide) h
set_option maxRecDepth 100000 in
set_option maxHeartbeats 4000000 in
theorem c_X12_appendInput (l : Launch) (Γ : GG) (sk : List SD) (hsk : ExtM sk) (fu : Nat) {M M' : Mem} {a1 : Int} {a2 : Int} {a3 : Int} {a4 : Int} {a5 : Int} {r : Int} (ha1 : rng a1) (ha2 : rng a2) (ha3 : rng a3) (ha4 : rng a4) (ha5 : rng a5) (h : f_X12_appendInput fu M a1 a2 a3 a4 a5 = some (M', r)) : MetI l yX12_appendInput cX12_appendInput 6 .int ({ frames := 1, cells := 0, slots := 0, locals := 22 } : Room) Γ sk [vr Γ 52, vi a1, vi a2, vi a3, vi a4, vi a5] M M' r := by
  unfold f_X12_appendInput at h
  refine MetI_of RX12 rfl (by decide) rfl (Nat.le_of_ble_eq_true rfl) rfl ?_
  intro p e s m args below meth c C hr hlk hM
  have e52 := hsk 52 _ (by decide) rfl
  refine V_aload_n (pc := 0) C 0 rfl dX12_appendInput_0 ?_
  refine V_iconst (pc := 1) C dX12_appendInput_1 ?_
  refine V_putI (pc := 2) C (by decide) e52 rfl inX12 tyX12 tyX12_ok nmX12 6 (by decide) rfl rfl lf_X12_58 rfl (by decide) rfl dX12_appendInput_2 ?_
  refine V_aload_n (pc := 5) C 0 rfl dX12_appendInput_5 ?_
  refine V_rng fun hM1 => ?_
  refine V_getI (pc := 6) C e52 rfl inX12 13 (by decide) rfl lf_X12_180 rfl dX12_appendInput_6 ?_
  refine V_sipush (pc := 9) C dX12_appendInput_9 rfl ?_
  refine V_icmp_le (pc := 12) C 17 (hM1 _ _) (by decide) dX12_appendInput_12 (by decide) (fun c12_2 => ?_) (fun c12_2 => ?_)
  · have h := ite_t h c12_2
    refine V_aload_n (pc := 17) C 0 rfl dX12_appendInput_17 ?_
    refine V_iload_n (pc := 18) C 1 rfl dX12_appendInput_18 ?_
    obtain ⟨M3, r4, hc5, h⟩ := cal_of h
    refine V_callVV (pc := 19) C (c_X12_appendWord l Γ sk hsk fu ha1 hc5) cf_X12_appendWord lk_X12_183 ⟨rfl, rfl⟩ ⟨Nat.le_of_ble_eq_true rfl, Nat.le_of_ble_eq_true rfl⟩ e52 rfl rfl rfl (Nat.le_of_ble_eq_true rfl) ⟨Nat.zero_le _, Nat.zero_le _⟩ rfl dX12_appendInput_19 ?_
    refine V_aload_n (pc := 22) C 0 rfl dX12_appendInput_22 ?_
    refine V_iload_n (pc := 23) C 2 rfl dX12_appendInput_23 ?_
    obtain ⟨M6, r7, hc8, h⟩ := cal_of h
    refine V_callVV (pc := 24) C (c_X12_appendWord l Γ sk hsk fu ha2 hc8) cf_X12_appendWord lk_X12_183 ⟨rfl, rfl⟩ ⟨Nat.le_of_ble_eq_true rfl, Nat.le_of_ble_eq_true rfl⟩ e52 rfl rfl rfl (Nat.le_of_ble_eq_true rfl) ⟨Nat.zero_le _, Nat.zero_le _⟩ rfl dX12_appendInput_24 ?_
    refine V_aload_n (pc := 27) C 0 rfl dX12_appendInput_27 ?_
    refine V_iload_n (pc := 28) C 3 rfl dX12_appendInput_28 ?_
    obtain ⟨M9, r10, hc11, h⟩ := cal_of h
    refine V_callVV (pc := 29) C (c_X12_appendWord l Γ sk hsk fu ha3 hc11) cf_X12_appendWord lk_X12_183 ⟨rfl, rfl⟩ ⟨Nat.le_of_ble_eq_true rfl, Nat.le_of_ble_eq_true rfl⟩ e52 rfl rfl rfl (Nat.le_of_ble_eq_true rfl) ⟨Nat.zero_le _, Nat.zero_le _⟩ rfl dX12_appendInput_29 ?_
    refine V_aload_n (pc := 32) C 0 rfl dX12_appendInput_32 ?_
    refine V_iload (pc := 33) C 4 rfl dX12_appendInput_33 ?_
    obtain ⟨M12, r13, hc14, h⟩ := cal_of h
    refine V_callVV (pc := 35) C (c_X12_appendWord l Γ sk hsk fu ha4 hc14) cf_X12_appendWord lk_X12_183 ⟨rfl, rfl⟩ ⟨Nat.le_of_ble_eq_true rfl, Nat.le_of_ble_eq_true rfl⟩ e52 rfl rfl rfl (Nat.le_of_ble_eq_true rfl) ⟨Nat.zero_le _, Nat.zero_le _⟩ rfl dX12_appendInput_35 ?_
    refine V_aload_n (pc := 38) C 0 rfl dX12_appendInput_38 ?_
    refine V_iload (pc := 39) C 5 rfl dX12_appendInput_39 ?_
    obtain ⟨M15, r16, hc17, h⟩ := cal_of h
    refine V_callVV (pc := 41) C (c_X12_appendWord l Γ sk hsk fu ha5 hc17) cf_X12_appendWord lk_X12_183 ⟨rfl, rfl⟩ ⟨Nat.le_of_ble_eq_true rfl, Nat.le_of_ble_eq_true rfl⟩ e52 rfl rfl rfl (Nat.le_of_ble_eq_true rfl) ⟨Nat.zero_le _, Nat.zero_le _⟩ rfl dX12_appendInput_41 ?_
    refine V_aload_n (pc := 44) C 0 rfl dX12_appendInput_44 ?_
    refine V_rng fun hM18 => ?_
    refine V_getI (pc := 45) C e52 rfl inX12 13 (by decide) rfl lf_X12_180 rfl dX12_appendInput_45 ?_
    exact V_iret (pc := 48) C hr hlk (hM18 _ _) h dX12_appendInput_48
  · have h := ite_f h c12_2
    refine V_iconst (pc := 15) C dX12_appendInput_15 ?_
    exact V_iret (pc := 16) C hr hlk (by decide) h dX12_appendInput_16
set_option maxRecDepth 100000 in
set_option maxHeartbeats 4000000 in
theorem c_X12_errorCode (l : Launch) (Γ : GG) (sk : List SD) (hsk : ExtM sk) (fu : Nat) {M M' : Mem}  {r : Int}  (h : f_X12_errorCode fu M  = some (M', r)) : MetI l yX12_errorCode cX12_errorCode 1 .int ({ frames := 0, cells := 0, slots := 0, locals := 0 } : Room) Γ sk [vr Γ 52] M M' r := by
  unfold f_X12_errorCode at h
  refine MetI_of RX12 rfl (by decide) rfl (Nat.le_of_ble_eq_true rfl) rfl ?_
  intro p e s m args below meth c C hr hlk hM
  have e52 := hsk 52 _ (by decide) rfl
  refine V_aload_n (pc := 0) C 0 rfl dX12_errorCode_0 ?_
  refine V_iconst (pc := 1) C dX12_errorCode_1 ?_
  refine V_putI (pc := 2) C (by decide) e52 rfl inX12 tyX12 tyX12_ok nmX12 6 (by decide) rfl rfl lf_X12_58 rfl (by decide) rfl dX12_errorCode_2 ?_
  refine V_aload_n (pc := 5) C 0 rfl dX12_errorCode_5 ?_
  refine V_rng fun hM1 => ?_
  refine V_getI (pc := 6) C e52 rfl inX12 14 (by decide) rfl lf_X12_186 rfl dX12_errorCode_6 ?_
  exact V_iret (pc := 9) C hr hlk (hM1 _ _) h dX12_errorCode_9
set_option maxRecDepth 100000 in
set_option maxHeartbeats 4000000 in
theorem c_X12_errorOffset (l : Launch) (Γ : GG) (sk : List SD) (hsk : ExtM sk) (fu : Nat) {M M' : Mem}  {r : Int}  (h : f_X12_errorOffset fu M  = some (M', r)) : MetI l yX12_errorOffset cX12_errorOffset 1 .int ({ frames := 0, cells := 0, slots := 0, locals := 0 } : Room) Γ sk [vr Γ 52] M M' r := by
  unfold f_X12_errorOffset at h
  refine MetI_of RX12 rfl (by decide) rfl (Nat.le_of_ble_eq_true rfl) rfl ?_
  intro p e s m args below meth c C hr hlk hM
  have e52 := hsk 52 _ (by decide) rfl
  refine V_aload_n (pc := 0) C 0 rfl dX12_errorOffset_0 ?_
  refine V_iconst (pc := 1) C dX12_errorOffset_1 ?_
  refine V_putI (pc := 2) C (by decide) e52 rfl inX12 tyX12 tyX12_ok nmX12 6 (by decide) rfl rfl lf_X12_58 rfl (by decide) rfl dX12_errorOffset_2 ?_
  refine V_aload_n (pc := 5) C 0 rfl dX12_errorOffset_5 ?_
  refine V_rng fun hM1 => ?_
  refine V_getI (pc := 6) C e52 rfl inX12 15 (by decide) rfl lf_X12_39 rfl dX12_errorOffset_6 ?_
  exact V_iret (pc := 9) C hr hlk (hM1 _ _) h dX12_errorOffset_9
set_option maxRecDepth 100000 in
set_option maxHeartbeats 4000000 in
theorem c_X12_expect (l : Launch) (Γ : GG) (sk : List SD) (hsk : ExtM sk) (fu : Nat) {M M' : Mem} {a1 : Int} {a2 : Int} {r : Int} (ha1 : rng a1) (ha2 : rng a2) (h : f_X12_expect fu M a1 a2 = some (M', r)) : MetV l yX12_expect cX12_expect 3 ({ frames := 0, cells := 0, slots := 0, locals := 0 } : Room) Γ sk [vr Γ 52, vi a1, vi a2] M M' := by
  unfold f_X12_expect at h
  refine MetV_of RX12 rfl (by decide) rfl (Nat.le_of_ble_eq_true rfl) rfl ?_
  intro p e s m args below meth c C hr hlk hM
  have e52 := hsk 52 _ (by decide) rfl
  refine V_aload_n (pc := 0) C 0 rfl dX12_expect_0 ?_
  refine V_getI (pc := 1) C e52 rfl inX12 20 (by decide) rfl lf_X12_197 rfl dX12_expect_1 ?_
  refine V_if_ne (pc := 4) C 24 (hM _ _) dX12_expect_4 (by decide) (fun c4_1 => ?_) (fun c4_1 => ?_)
  · have h := ite_f h c4_1
    exact V_vret (pc := 24) C hr hlk h dX12_expect_24
  · have h := ite_t h c4_1
    refine V_iload_n (pc := 7) C 1 rfl dX12_expect_7 ?_
    refine V_if_ne (pc := 8) C 24 ha1 dX12_expect_8 (by decide) (fun c8_2 => ?_) (fun c8_2 => ?_)
    · have h := ite_f h c8_2
      exact V_vret (pc := 24) C hr hlk h dX12_expect_24
    · have h := ite_t h c8_2
      refine V_aload_n (pc := 11) C 0 rfl dX12_expect_11 ?_
      refine V_iload_n (pc := 12) C 2 rfl dX12_expect_12 ?_
      refine V_putI (pc := 13) C (by decide) e52 rfl inX12 tyX12 tyX12_ok nmX12 20 (by decide) rfl rfl lf_X12_197 rfl ha2 rfl dX12_expect_13 ?_
      refine V_aload_n (pc := 16) C 0 rfl dX12_expect_16 ?_
      refine V_aload_n (pc := 17) C 0 rfl dX12_expect_17 ?_
      refine V_rng fun hM3 => ?_
      refine V_getI (pc := 18) C e52 rfl inX12 16 (by decide) rfl lf_X12_203 rfl dX12_expect_18 ?_
      refine V_putI (pc := 21) C (by decide) e52 rfl inX12 tyX12 tyX12_ok nmX12 21 (by decide) rfl rfl lf_X12_218 rfl (hM3 _ _) rfl dX12_expect_21 ?_
      exact V_vret (pc := 24) C hr hlk h dX12_expect_24
set_option maxRecDepth 100000 in
set_option maxHeartbeats 4000000 in
theorem c_X12_endText (l : Launch) (Γ : GG) (sk : List SD) (hsk : ExtM sk) (fu : Nat) {M M' : Mem}  {r : Int}  (h : f_X12_endText fu M  = some (M', r)) : MetV l yX12_endText cX12_endText 1 ({ frames := 0, cells := 0, slots := 0, locals := 0 } : Room) Γ sk [vr Γ 52] M M' := by
  unfold f_X12_endText at h
  refine MetV_of RX12 rfl (by decide) rfl (Nat.le_of_ble_eq_true rfl) rfl ?_
  intro p e s m args below meth c C hr hlk hM
  have e52 := hsk 52 _ (by decide) rfl
  refine V_aload_n (pc := 0) C 0 rfl dX12_endText_0 ?_
  refine V_aload_n (pc := 1) C 0 rfl dX12_endText_1 ?_
  refine V_getI (pc := 2) C e52 rfl inX12 20 (by decide) rfl lf_X12_197 rfl dX12_endText_2 ?_
  refine V_putI (pc := 5) C (by decide) e52 rfl inX12 tyX12 tyX12_ok nmX12 14 (by decide) rfl rfl lf_X12_186 rfl (hM _ _) rfl dX12_endText_5 ?_
  refine V_aload_n (pc := 8) C 0 rfl dX12_endText_8 ?_
  refine V_aload_n (pc := 9) C 0 rfl dX12_endText_9 ?_
  refine V_rng fun hM1 => ?_
  refine V_getI (pc := 10) C e52 rfl inX12 20 (by decide) rfl lf_X12_197 rfl dX12_endText_10 ?_
  refine V_if_ne (pc := 13) C 20 (hM1 _ _) dX12_endText_13 (by decide) (fun c13_2 => ?_) (fun c13_2 => ?_)
  · have h := ite_f h c13_2
    refine V_aload_n (pc := 20) C 0 rfl dX12_endText_20 ?_
    refine V_getI (pc := 21) C e52 rfl inX12 21 (by decide) rfl lf_X12_218 rfl dX12_endText_21 ?_
    refine V_putI (pc := 24) C (by decide) e52 rfl inX12 tyX12 tyX12_ok nmX12 15 (by decide) rfl rfl lf_X12_39 rfl (hM1 _ _) rfl dX12_endText_24 ?_
    refine V_aload_n (pc := 27) C 0 rfl dX12_endText_27 ?_
    refine V_iconst (pc := 28) C dX12_endText_28 ?_
    refine V_putI (pc := 29) C (by decide) e52 rfl inX12 tyX12 tyX12_ok nmX12 13 (by decide) rfl rfl lf_X12_180 rfl (by decide) rfl dX12_endText_29 ?_
    exact V_vret (pc := 32) C hr hlk h dX12_endText_32
  · have h := ite_t h c13_2
    refine V_iconst (pc := 16) C dX12_endText_16 ?_
    refine V_goto (pc := 17) C 24 dX12_endText_17 (by decide) ?_
    refine V_putI (pc := 24) C (by decide) e52 rfl inX12 tyX12 tyX12_ok nmX12 15 (by decide) rfl rfl lf_X12_39 rfl (by decide) rfl dX12_endText_24 ?_
    refine V_aload_n (pc := 27) C 0 rfl dX12_endText_27 ?_
    refine V_iconst (pc := 28) C dX12_endText_28 ?_
    refine V_putI (pc := 29) C (by decide) e52 rfl inX12 tyX12 tyX12_ok nmX12 13 (by decide) rfl rfl lf_X12_180 rfl (by decide) rfl dX12_endText_29 ?_
    exact V_vret (pc := 32) C hr hlk h dX12_endText_32
set_option maxRecDepth 100000 in
set_option maxHeartbeats 4000000 in
theorem c_X12_isWord (l : Launch) (Γ : GG) (sk : List SD) (hsk : ExtM sk) (fu : Nat) {M M' : Mem} {q1 : Nat} {r : Int} (hq1 : q1 < lensL.length) (h : f_X12_isWord fu M q1 = some (M', r)) : MetI l yX12_isWord cX12_isWord 3 .boolean ({ frames := 12, cells := 0, slots := 0, locals := 400 } : Room) Γ sk [vr Γ 52, vs Γ q1] M M' r := by
  unfold f_X12_isWord at h
  refine MetI_of RX12 rfl (by decide) rfl (Nat.le_of_ble_eq_true rfl) rfl ?_
  intro p e s m args below meth c C hr hlk hM
  have e52 := hsk 52 _ (by decide) rfl
  have e61 := hsk 61 _ (by decide) rfl
  have LP35 : ∀ (n : Nat) {x2 : Int} {M : Mem}, rng x2 → f_X12_isWord_L35 fu q1 n x2 M = some (M', r) → VV p l e ({ frames := 12, cells := 0, slots := 0, locals := 400 } : Room) s m args below meth c (MQ below (PostI Γ sk M' r s.heap.size) args s 0 0 (Fr Γ sk s.heap.size)) 3 Γ sk M 0 0 35 [(0, vr Γ 52), (1, vs Γ q1), (2, vi x2)] [] := by
    intro n
    induction n with
    | zero =>
      intro x2 M hx2 h
      cases h
    | succ n ih =>
      intro x2 M hx2 h
      rw [f_X12_isWord_L35] at h
      refine V_iload_n (pc := 35) C 2 rfl dX12_isWord_35 ?_
      refine V_aload_n (pc := 36) C 1 rfl dX12_isWord_36 ?_
      refine V_slen (pc := 37) C hq1 lk_X12_224 ⟨Nat.le_of_ble_eq_true rfl, Nat.le_of_ble_eq_true rfl⟩ ⟨Nat.zero_le _, Nat.zero_le _⟩ (Nat.le_of_ble_eq_true rfl) dX12_isWord_37 ?_
      refine V_icmp_ge (pc := 40) C 70 hx2 (slen_rng _) dX12_isWord_40 (by decide) (fun c40_5 => ?_) (fun c40_5 => ?_)
      · have h := ite_t h c40_5
        refine V_iconst (pc := 70) C dX12_isWord_70 ?_
        exact V_zret (pc := 71) C hr hlk (by decide) h dX12_isWord_71
      · have h := ite_f h c40_5
        refine V_aload_n (pc := 43) C 0 rfl dX12_isWord_43 ?_
        refine V_getR (pc := 44) C e52 rfl inX12 12 (by decide) rfl lf_X12_35 rfl dX12_isWord_44 ?_
        refine V_aload_n (pc := 47) C 0 rfl dX12_isWord_47 ?_
        refine V_rng fun hM6 => ?_
        refine V_getI (pc := 48) C e52 rfl inX12 16 (by decide) rfl lf_X12_203 rfl dX12_isWord_48 ?_
        refine V_iload_n (pc := 51) C 2 rfl dX12_isWord_51 ?_
        refine V_iadd (pc := 52) C dX12_isWord_52 ?_
        obtain ⟨g7, h⟩ := grd_of h
        obtain ⟨g8, h⟩ := grd_of h
        refine V_bald (pc := 53) C e61 g8 g7 dX12_isWord_53 ?_
        refine V_aload_n (pc := 54) C 1 rfl dX12_isWord_54 ?_
        refine V_iload_n (pc := 55) C 2 rfl dX12_isWord_55 ?_
        obtain ⟨g9, h⟩ := grd_of h
        refine V_schar (pc := 56) C hq1 g9 hx2 lk_X12_228 ⟨Nat.le_of_ble_eq_true rfl, Nat.le_of_ble_eq_true rfl⟩ ⟨Nat.zero_le _, Nat.zero_le _⟩ (Nat.le_of_ble_eq_true rfl) dX12_isWord_56 ?_
        refine V_icmp_eq (pc := 59) C 64 (hM6 _ _) (schar_rng _ _) dX12_isWord_59 (by decide) (fun c59_10 => ?_) (fun c59_10 => ?_)
        · have h := ite_t h c59_10
          refine V_iinc (pc := 64) C (L' := [(0, vr Γ 52), (1, vs Γ q1), (2, vi (x2 + (1 : Int)))]) 2 rfl rfl (by decide) dX12_isWord_64 ?_
          refine V_goto (pc := 67) C 35 dX12_isWord_67 (by decide) ?_
          obtain ⟨g11, h⟩ := grd_of h
          refine V_sub (L' := [(0, vr Γ 52), (1, vs Γ q1), (2, vi (x2 + (1 : Int)))]) [0, 1, 2] rfl (by decide) ?_
          exact ih g11 h
        · have h := ite_f h c59_10
          refine V_iconst (pc := 62) C dX12_isWord_62 ?_
          exact V_zret (pc := 63) C hr hlk (by decide) h dX12_isWord_63
  skip
  refine V_aload_n (pc := 0) C 0 rfl dX12_isWord_0 ?_
  refine V_getI (pc := 1) C e52 rfl inX12 20 (by decide) rfl lf_X12_197 rfl dX12_isWord_1 ?_
  refine V_if_gt (pc := 4) C 31 (hM _ _) dX12_isWord_4 (by decide) (fun c4_1 => ?_) (fun c4_1 => ?_)
  · have h := ite_t h c4_1
    refine V_iconst (pc := 31) C dX12_isWord_31 ?_
    exact V_zret (pc := 32) C hr hlk (by decide) h dX12_isWord_32
  · have h := ite_f h c4_1
    refine V_aload_n (pc := 7) C 0 rfl dX12_isWord_7 ?_
    refine V_getI (pc := 8) C e52 rfl inX12 18 (by decide) rfl lf_X12_206 rfl dX12_isWord_8 ?_
    refine V_iconst (pc := 11) C dX12_isWord_11 ?_
    refine V_icmp_ne (pc := 12) C 31 (hM _ _) (by decide) dX12_isWord_12 (by decide) (fun c12_2 => ?_) (fun c12_2 => ?_)
    · have h := ite_f h c12_2
      refine V_iconst (pc := 31) C dX12_isWord_31 ?_
      exact V_zret (pc := 32) C hr hlk (by decide) h dX12_isWord_32
    · have h := ite_t h c12_2
      refine V_aload_n (pc := 15) C 0 rfl dX12_isWord_15 ?_
      refine V_getI (pc := 16) C e52 rfl inX12 17 (by decide) rfl lf_X12_200 rfl dX12_isWord_16 ?_
      refine V_aload_n (pc := 19) C 0 rfl dX12_isWord_19 ?_
      refine V_getI (pc := 20) C e52 rfl inX12 16 (by decide) rfl lf_X12_203 rfl dX12_isWord_20 ?_
      refine V_isub (pc := 23) C dX12_isWord_23 ?_
      refine V_aload_n (pc := 24) C 1 rfl dX12_isWord_24 ?_
      refine V_slen (pc := 25) C hq1 lk_X12_224 ⟨Nat.le_of_ble_eq_true rfl, Nat.le_of_ble_eq_true rfl⟩ ⟨Nat.zero_le _, Nat.zero_le _⟩ (Nat.le_of_ble_eq_true rfl) dX12_isWord_25 ?_
      obtain ⟨g3, h⟩ := grd_of h
      refine V_icmp_eq (pc := 28) C 33 g3 (slen_rng _) dX12_isWord_28 (by decide) (fun c28_4 => ?_) (fun c28_4 => ?_)
      · have h := ite_t h c28_4
        refine V_iconst (pc := 33) C dX12_isWord_33 ?_
        refine V_istore_n (pc := 34) C (L' := [(0, vr Γ 52), (1, vs Γ q1), (2, vi (0 : Int))]) rfl (by decide) dX12_isWord_34 ?_
        refine V_sub (L' := [(0, vr Γ 52), (1, vs Γ q1), (2, vi (0 : Int))]) [0, 1, 2] rfl (by decide) ?_
        exact LP35 fu  (by decide) h
      · have h := ite_f h c28_4
        refine V_iconst (pc := 31) C dX12_isWord_31 ?_
        exact V_zret (pc := 32) C hr hlk (by decide) h dX12_isWord_32
set_option maxRecDepth 100000 in
set_option maxHeartbeats 4000000 in
theorem c_X12_statementKind (l : Launch) (Γ : GG) (sk : List SD) (hsk : ExtM sk) (fu : Nat) {M M' : Mem}  {r : Int}  (h : f_X12_statementKind fu M  = some (M', r)) : MetI l yX12_statementKind cX12_statementKind 1 .int ({ frames := 13, cells := 0, slots := 0, locals := 422 } : Room) Γ sk [vr Γ 52] M M' r := by
  unfold f_X12_statementKind at h
  refine MetI_of RX12 rfl (by decide) rfl (Nat.le_of_ble_eq_true rfl) rfl ?_
  intro p e s m args below meth c C hr hlk hM
  have e52 := hsk 52 _ (by decide) rfl
  refine V_aload_n (pc := 0) C 0 rfl dX12_statementKind_0 ?_
  refine V_ldcSw (pc := 1) C (q := 2) (C.2.2.2.2.2.2.2.2.2.2.2 _ (List.mem_of_getElem? (i := 14) (by decide +kernel) : (RX12, 266, "set", 2) ∈ strL)) dX12_statementKind_1 ?_
  obtain ⟨M1, r2, hc3, h⟩ := cal_of h
  refine V_callVI (pc := 4) C (c_X12_isWord l Γ sk hsk fu (by decide) hc3) cf_X12_isWord lk_X12_238 ⟨rfl, rfl⟩ ⟨Nat.le_of_ble_eq_true rfl, Nat.le_of_ble_eq_true rfl⟩ e52 rfl rfl rfl (Nat.le_of_ble_eq_true rfl) ⟨Nat.zero_le _, Nat.zero_le _⟩ rfl dX12_statementKind_4 (fun hr2 => ?_)
  refine V_if_eq (pc := 7) C 12 hr2 dX12_statementKind_7 (by decide) (fun c7_4 => ?_) (fun c7_4 => ?_)
  · have h := ite_t h c7_4
    refine V_aload_n (pc := 12) C 0 rfl dX12_statementKind_12 ?_
    refine V_ldcSw (pc := 13) C (q := 3) (C.2.2.2.2.2.2.2.2.2.2.2 _ (List.mem_of_getElem? (i := 15) (by decide +kernel) : (RX12, 268, "append", 3) ∈ strL)) dX12_statementKind_13 ?_
    obtain ⟨M5, r6, hc7, h⟩ := cal_of h
    refine V_callVI (pc := 16) C (c_X12_isWord l Γ sk hsk fu (by decide) hc7) cf_X12_isWord lk_X12_238 ⟨rfl, rfl⟩ ⟨Nat.le_of_ble_eq_true rfl, Nat.le_of_ble_eq_true rfl⟩ e52 rfl rfl rfl (Nat.le_of_ble_eq_true rfl) ⟨Nat.zero_le _, Nat.zero_le _⟩ rfl dX12_statementKind_16 (fun hr6 => ?_)
    refine V_if_eq (pc := 19) C 24 hr6 dX12_statementKind_19 (by decide) (fun c19_8 => ?_) (fun c19_8 => ?_)
    · have h := ite_t h c19_8
      refine V_aload_n (pc := 24) C 0 rfl dX12_statementKind_24 ?_
      refine V_ldcSw (pc := 25) C (q := 4) (C.2.2.2.2.2.2.2.2.2.2.2 _ (List.mem_of_getElem? (i := 16) (by decide +kernel) : (RX12, 270, "truncate", 4) ∈ strL)) dX12_statementKind_25 ?_
      obtain ⟨M9, r10, hc11, h⟩ := cal_of h
      refine V_callVI (pc := 28) C (c_X12_isWord l Γ sk hsk fu (by decide) hc11) cf_X12_isWord lk_X12_238 ⟨rfl, rfl⟩ ⟨Nat.le_of_ble_eq_true rfl, Nat.le_of_ble_eq_true rfl⟩ e52 rfl rfl rfl (Nat.le_of_ble_eq_true rfl) ⟨Nat.zero_le _, Nat.zero_le _⟩ rfl dX12_statementKind_28 (fun hr10 => ?_)
      refine V_if_eq (pc := 31) C 36 hr10 dX12_statementKind_31 (by decide) (fun c31_12 => ?_) (fun c31_12 => ?_)
      · have h := ite_t h c31_12
        refine V_aload_n (pc := 36) C 0 rfl dX12_statementKind_36 ?_
        refine V_ldcSw (pc := 37) C (q := 5) (C.2.2.2.2.2.2.2.2.2.2.2 _ (List.mem_of_getElem? (i := 17) (by decide +kernel) : (RX12, 272, "release", 5) ∈ strL)) dX12_statementKind_37 ?_
        obtain ⟨M13, r14, hc15, h⟩ := cal_of h
        refine V_callVI (pc := 40) C (c_X12_isWord l Γ sk hsk fu (by decide) hc15) cf_X12_isWord lk_X12_238 ⟨rfl, rfl⟩ ⟨Nat.le_of_ble_eq_true rfl, Nat.le_of_ble_eq_true rfl⟩ e52 rfl rfl rfl (Nat.le_of_ble_eq_true rfl) ⟨Nat.zero_le _, Nat.zero_le _⟩ rfl dX12_statementKind_40 (fun hr14 => ?_)
        refine V_if_eq (pc := 43) C 48 hr14 dX12_statementKind_43 (by decide) (fun c43_16 => ?_) (fun c43_16 => ?_)
        · have h := ite_t h c43_16
          refine V_aload_n (pc := 48) C 0 rfl dX12_statementKind_48 ?_
          refine V_ldcSw (pc := 49) C (q := 6) (C.2.2.2.2.2.2.2.2.2.2.2 _ (List.mem_of_getElem? (i := 18) (by decide +kernel) : (RX12, 274, "collect", 6) ∈ strL)) dX12_statementKind_49 ?_
          obtain ⟨M17, r18, hc19, h⟩ := cal_of h
          refine V_callVI (pc := 52) C (c_X12_isWord l Γ sk hsk fu (by decide) hc19) cf_X12_isWord lk_X12_238 ⟨rfl, rfl⟩ ⟨Nat.le_of_ble_eq_true rfl, Nat.le_of_ble_eq_true rfl⟩ e52 rfl rfl rfl (Nat.le_of_ble_eq_true rfl) ⟨Nat.zero_le _, Nat.zero_le _⟩ rfl dX12_statementKind_52 (fun hr18 => ?_)
          refine V_if_eq (pc := 55) C 62 hr18 dX12_statementKind_55 (by decide) (fun c55_20 => ?_) (fun c55_20 => ?_)
          · have h := ite_t h c55_20
            refine V_iconst (pc := 62) C dX12_statementKind_62 ?_
            exact V_iret (pc := 63) C hr hlk (by decide) h dX12_statementKind_63
          · have h := ite_f h c55_20
            refine V_iconst (pc := 58) C dX12_statementKind_58 ?_
            refine V_goto (pc := 59) C 63 dX12_statementKind_59 (by decide) ?_
            exact V_iret (pc := 63) C hr hlk (by decide) h dX12_statementKind_63
        · have h := ite_f h c43_16
          refine V_iconst (pc := 46) C dX12_statementKind_46 ?_
          exact V_iret (pc := 47) C hr hlk (by decide) h dX12_statementKind_47
      · have h := ite_f h c31_12
        refine V_iconst (pc := 34) C dX12_statementKind_34 ?_
        exact V_iret (pc := 35) C hr hlk (by decide) h dX12_statementKind_35
    · have h := ite_f h c19_8
      refine V_iconst (pc := 22) C dX12_statementKind_22 ?_
      exact V_iret (pc := 23) C hr hlk (by decide) h dX12_statementKind_23
  · have h := ite_f h c7_4
    refine V_iconst (pc := 10) C dX12_statementKind_10 ?_
    exact V_iret (pc := 11) C hr hlk (by decide) h dX12_statementKind_11
set_option maxRecDepth 100000 in
set_option maxHeartbeats 4000000 in
theorem c_X12_hasRoom (l : Launch) (Γ : GG) (sk : List SD) (hsk : ExtM sk) (fu : Nat) {M M' : Mem}  {r : Int}  (h : f_X12_hasRoom fu M  = some (M', r)) : MetI l yX12_hasRoom cX12_hasRoom 1 .boolean ({ frames := 0, cells := 0, slots := 0, locals := 0 } : Room) Γ sk [vr Γ 52] M M' r := by
  unfold f_X12_hasRoom at h
  refine MetI_of RX12 rfl (by decide) rfl (Nat.le_of_ble_eq_true rfl) rfl ?_
  intro p e s m args below meth c C hr hlk hM
  have e52 := hsk 52 _ (by decide) rfl
  have e53 := hsk 53 _ (by decide) rfl
  refine V_aload_n (pc := 0) C 0 rfl dX12_hasRoom_0 ?_
  refine V_getR (pc := 1) C e52 rfl inX12 0 (by decide) rfl lf_X12_9 rfl dX12_hasRoom_1 ?_
  refine V_iconst (pc := 4) C dX12_hasRoom_4 ?_
  obtain ⟨g1, h⟩ := grd_of h
  refine V_iald (pc := 5) C e53 g1 (by decide) dX12_hasRoom_5 ?_
  refine V_bipush (pc := 6) C dX12_hasRoom_6 rfl ?_
  refine V_icmp_ge (pc := 8) C 15 (hM _ _) (by decide) dX12_hasRoom_8 (by decide) (fun c8_2 => ?_) (fun c8_2 => ?_)
  · have h := ite_t h c8_2
    refine V_iconst (pc := 15) C dX12_hasRoom_15 ?_
    exact V_zret (pc := 16) C hr hlk (by decide) h dX12_hasRoom_16
  · have h := ite_f h c8_2
    refine V_iconst (pc := 11) C dX12_hasRoom_11 ?_
    refine V_goto (pc := 12) C 16 dX12_hasRoom_12 (by decide) ?_
    exact V_zret (pc := 16) C hr hlk (by decide) h dX12_hasRoom_16
set_option maxRecDepth 100000 in
set_option maxHeartbeats 4000000 in
theorem c_X12_versionCount (l : Launch) (Γ : GG) (sk : List SD) (hsk : ExtM sk) (fu : Nat) {M M' : Mem}  {r : Int}  (h : f_X12_versionCount fu M  = some (M', r)) : MetI l yX12_versionCount cX12_versionCount 1 .int ({ frames := 0, cells := 0, slots := 0, locals := 0 } : Room) Γ sk [vr Γ 52] M M' r := by
  unfold f_X12_versionCount at h
  refine MetI_of RX12 rfl (by decide) rfl (Nat.le_of_ble_eq_true rfl) rfl ?_
  intro p e s m args below meth c C hr hlk hM
  have e52 := hsk 52 _ (by decide) rfl
  have e53 := hsk 53 _ (by decide) rfl
  refine V_aload_n (pc := 0) C 0 rfl dX12_versionCount_0 ?_
  refine V_iconst (pc := 1) C dX12_versionCount_1 ?_
  refine V_putI (pc := 2) C (by decide) e52 rfl inX12 tyX12 tyX12_ok nmX12 6 (by decide) rfl rfl lf_X12_58 rfl (by decide) rfl dX12_versionCount_2 ?_
  refine V_aload_n (pc := 5) C 0 rfl dX12_versionCount_5 ?_
  refine V_getR (pc := 6) C e52 rfl inX12 0 (by decide) rfl lf_X12_9 rfl dX12_versionCount_6 ?_
  refine V_iconst (pc := 9) C dX12_versionCount_9 ?_
  refine V_rng fun hM1 => ?_
  obtain ⟨g2, h⟩ := grd_of h
  refine V_iald (pc := 10) C e53 g2 (by decide) dX12_versionCount_10 ?_
  exact V_iret (pc := 11) C hr hlk (hM1 _ _) h dX12_versionCount_11
set_option maxRecDepth 100000 in
set_option maxHeartbeats 4000000 in
theorem c_X12_liveCount (l : Launch) (Γ : GG) (sk : List SD) (hsk : ExtM sk) (fu : Nat) {M M' : Mem}  {r : Int}  (h : f_X12_liveCount fu M  = some (M', r)) : MetI l yX12_liveCount cX12_liveCount 3 .int ({ frames := 2, cells := 0, slots := 0, locals := 41 } : Room) Γ sk [vr Γ 52] M M' r := by
  unfold f_X12_liveCount at h
  refine MetI_of RX12 rfl (by decide) rfl (Nat.le_of_ble_eq_true rfl) rfl ?_
  intro p e s m args below meth c C hr hlk hM
  have e52 := hsk 52 _ (by decide) rfl
  have e53 := hsk 53 _ (by decide) rfl
  have LP9 : ∀ (n : Nat) {x1 : Int} {x2 : Int} {M : Mem}, rng x1 → rng x2 → f_X12_liveCount_L9 fu n x1 x2 M = some (M', r) → VV p l e ({ frames := 2, cells := 0, slots := 0, locals := 41 } : Room) s m args below meth c (MQ below (PostI Γ sk M' r s.heap.size) args s 0 0 (Fr Γ sk s.heap.size)) 3 Γ sk M 0 0 9 [(0, vr Γ 52), (1, vi x1), (2, vi x2)] [] := by
    intro n
    induction n with
    | zero =>
      intro x1 x2 M hx1 hx2 h
      cases h
    | succ n ih =>
      intro x1 x2 M hx1 hx2 h
      rw [f_X12_liveCount_L9] at h
      refine V_iload_n (pc := 9) C 2 rfl dX12_liveCount_9 ?_
      refine V_aload_n (pc := 10) C 0 rfl dX12_liveCount_10 ?_
      refine V_getR (pc := 11) C e52 rfl inX12 0 (by decide) rfl lf_X12_9 rfl dX12_liveCount_11 ?_
      refine V_iconst (pc := 14) C dX12_liveCount_14 ?_
      refine V_rng fun hM1 => ?_
      obtain ⟨g2, h⟩ := grd_of h
      refine V_iald (pc := 15) C e53 g2 (by decide) dX12_liveCount_15 ?_
      refine V_icmp_ge (pc := 16) C 44 hx2 (hM1 _ _) dX12_liveCount_16 (by decide) (fun c16_3 => ?_) (fun c16_3 => ?_)
      · have h := ite_t h c16_3
        refine V_iload_n (pc := 44) C 1 rfl dX12_liveCount_44 ?_
        exact V_iret (pc := 45) C hr hlk hx1 h dX12_liveCount_45
      · have h := ite_f h c16_3
        refine V_iload_n (pc := 19) C 1 rfl dX12_liveCount_19 ?_
        refine V_aload_n (pc := 20) C 0 rfl dX12_liveCount_20 ?_
        refine V_iload_n (pc := 21) C 2 rfl dX12_liveCount_21 ?_
        obtain ⟨M4, r5, hc6, h⟩ := cal_of h
        refine V_callVI (pc := 22) C (c_X12_isGone l Γ sk hsk fu hx2 hc6) cf_X12_isGone lk_X12_164 ⟨rfl, rfl⟩ ⟨Nat.le_of_ble_eq_true rfl, Nat.le_of_ble_eq_true rfl⟩ e52 rfl rfl rfl (Nat.le_of_ble_eq_true rfl) ⟨Nat.zero_le _, Nat.zero_le _⟩ rfl dX12_liveCount_22 (fun hr5 => ?_)
        refine V_if_ne (pc := 25) C 32 hr5 dX12_liveCount_25 (by decide) (fun c25_7 => ?_) (fun c25_7 => ?_)
        · have h := ite_f h c25_7
          refine V_iconst (pc := 32) C dX12_liveCount_32 ?_
          obtain ⟨M8, r9, hc10, h⟩ := cal_of h
          refine V_callSI (pc := 33) C (c_X12_one l Γ sk hsk fu (by decide) hc10) cf_X12_one lk_X12_75 ⟨rfl, rfl⟩ ⟨Nat.le_of_ble_eq_true rfl, Nat.le_of_ble_eq_true rfl⟩ rfl (Nat.le_of_ble_eq_true rfl) ⟨Nat.zero_le _, Nat.zero_le _⟩ rfl dX12_liveCount_33 (fun hr9 => ?_)
          refine V_iadd (pc := 36) C dX12_liveCount_36 ?_
          refine V_istore_n (pc := 37) C (L' := [(0, vr Γ 52), (1, vi (x1 + r9)), (2, vi x2)]) rfl (by decide) dX12_liveCount_37 ?_
          refine V_iinc (pc := 38) C (L' := [(0, vr Γ 52), (1, vi (x1 + r9)), (2, vi (x2 + (1 : Int)))]) 2 rfl rfl (by decide) dX12_liveCount_38 ?_
          refine V_goto (pc := 41) C 9 dX12_liveCount_41 (by decide) ?_
          obtain ⟨g11, h⟩ := grd_of h
          obtain ⟨g12, h⟩ := grd_of h
          refine V_sub (L' := [(0, vr Γ 52), (1, vi (x1 + r9)), (2, vi (x2 + (1 : Int)))]) [0, 1, 2] rfl (by decide) ?_
          exact ih g11 g12 h
        · have h := ite_t h c25_7
          refine V_iconst (pc := 28) C dX12_liveCount_28 ?_
          refine V_goto (pc := 29) C 33 dX12_liveCount_29 (by decide) ?_
          obtain ⟨M13, r14, hc15, h⟩ := cal_of h
          refine V_callSI (pc := 33) C (c_X12_one l Γ sk hsk fu (by decide) hc15) cf_X12_one lk_X12_75 ⟨rfl, rfl⟩ ⟨Nat.le_of_ble_eq_true rfl, Nat.le_of_ble_eq_true rfl⟩ rfl (Nat.le_of_ble_eq_true rfl) ⟨Nat.zero_le _, Nat.zero_le _⟩ rfl dX12_liveCount_33 (fun hr14 => ?_)
          refine V_iadd (pc := 36) C dX12_liveCount_36 ?_
          refine V_istore_n (pc := 37) C (L' := [(0, vr Γ 52), (1, vi (x1 + r14)), (2, vi x2)]) rfl (by decide) dX12_liveCount_37 ?_
          refine V_iinc (pc := 38) C (L' := [(0, vr Γ 52), (1, vi (x1 + r14)), (2, vi (x2 + (1 : Int)))]) 2 rfl rfl (by decide) dX12_liveCount_38 ?_
          refine V_goto (pc := 41) C 9 dX12_liveCount_41 (by decide) ?_
          obtain ⟨g16, h⟩ := grd_of h
          obtain ⟨g17, h⟩ := grd_of h
          refine V_sub (L' := [(0, vr Γ 52), (1, vi (x1 + r14)), (2, vi (x2 + (1 : Int)))]) [0, 1, 2] rfl (by decide) ?_
          exact ih g16 g17 h
  skip
  refine V_aload_n (pc := 0) C 0 rfl dX12_liveCount_0 ?_
  refine V_iconst (pc := 1) C dX12_liveCount_1 ?_
  refine V_putI (pc := 2) C (by decide) e52 rfl inX12 tyX12 tyX12_ok nmX12 6 (by decide) rfl rfl lf_X12_58 rfl (by decide) rfl dX12_liveCount_2 ?_
  refine V_iconst (pc := 5) C dX12_liveCount_5 ?_
  refine V_istore_n (pc := 6) C (L' := [(0, vr Γ 52), (1, vi (0 : Int))]) rfl (by decide) dX12_liveCount_6 ?_
  refine V_iconst (pc := 7) C dX12_liveCount_7 ?_
  refine V_istore_n (pc := 8) C (L' := [(0, vr Γ 52), (1, vi (0 : Int)), (2, vi (0 : Int))]) rfl (by decide) dX12_liveCount_8 ?_
  refine V_sub (L' := [(0, vr Γ 52), (1, vi (0 : Int)), (2, vi (0 : Int))]) [0, 1, 2] rfl (by decide) ?_
  exact LP9 fu  (by decide) (by decide) h
set_option maxRecDepth 100000 in
set_option maxHeartbeats 4000000 in
theorem c_X12_depth (l : Launch) (Γ : GG) (sk : List SD) (hsk : ExtM sk) (fu : Nat) {M M' : Mem} {a1 : Int} {r : Int} (ha1 : rng a1) (h : f_X12_depth fu M a1 = some (M', r)) : MetI l yX12_depth cX12_depth 4 .int ({ frames := 1, cells := 0, slots := 0, locals := 20 } : Room) Γ sk [vr Γ 52, vi a1] M M' r := by
  unfold f_X12_depth at h
  refine MetI_of RX12 rfl (by decide) rfl (Nat.le_of_ble_eq_true rfl) rfl ?_
  intro p e s m args below meth c C hr hlk hM
  have e52 := hsk 52 _ (by decide) rfl
  have e53 := hsk 53 _ (by decide) rfl
  have LP14 : ∀ (n : Nat) {x2 : Int} {x3 : Int} {M : Mem}, rng x2 → rng x3 → f_X12_depth_L14 fu n x2 x3 M = some (M', r) → VV p l e ({ frames := 1, cells := 0, slots := 0, locals := 20 } : Room) s m args below meth c (MQ below (PostI Γ sk M' r s.heap.size) args s 0 0 (Fr Γ sk s.heap.size)) 4 Γ sk M 0 0 14 [(0, vr Γ 52), (2, vi x2), (3, vi x3)] [] := by
    intro n
    induction n with
    | zero =>
      intro x2 x3 M hx2 hx3 h
      cases h
    | succ n ih =>
      intro x2 x3 M hx2 hx3 h
      rw [f_X12_depth_L14] at h
      refine V_iload_n (pc := 14) C 2 rfl dX12_depth_14 ?_
      refine V_iconst (pc := 15) C dX12_depth_15 ?_
      refine V_icmp_eq (pc := 16) C 37 hx3 (by decide) dX12_depth_16 (by decide) (fun c16_7 => ?_) (fun c16_7 => ?_)
      · have h := ite_t h c16_7
        refine V_iload_n (pc := 37) C 1 rfl dX12_depth_37 ?_
        exact V_iret (pc := 38) C hr hlk hx2 h dX12_depth_38
      · have h := ite_f h c16_7
        refine V_iinc (pc := 19) C (L' := [(0, vr Γ 52), (2, vi (x2 + (1 : Int))), (3, vi x3)]) 1 rfl rfl (by decide) dX12_depth_19 ?_
        refine V_aload_n (pc := 22) C 0 rfl dX12_depth_22 ?_
        refine V_getR (pc := 23) C e52 rfl inX12 0 (by decide) rfl lf_X12_9 rfl dX12_depth_23 ?_
        refine V_iload_n (pc := 26) C 2 rfl dX12_depth_26 ?_
        obtain ⟨M8, r9, hc10, h⟩ := cal_of h
        refine V_callSI (pc := 27) C (c_X12_v l Γ sk hsk fu hx3 hc10) cf_X12_v lk_X12_112 ⟨rfl, rfl⟩ ⟨Nat.le_of_ble_eq_true rfl, Nat.le_of_ble_eq_true rfl⟩ rfl (Nat.le_of_ble_eq_true rfl) ⟨Nat.zero_le _, Nat.zero_le _⟩ rfl dX12_depth_27 (fun hr9 => ?_)
        refine V_iconst (pc := 30) C dX12_depth_30 ?_
        refine V_iadd (pc := 31) C dX12_depth_31 ?_
        refine V_rng fun hM11 => ?_
        obtain ⟨g12, h⟩ := grd_of h
        obtain ⟨g13, h⟩ := grd_of h
        refine V_iald (pc := 32) C e53 g13 g12 dX12_depth_32 ?_
        refine V_istore_n (pc := 33) C (L' := [(0, vr Γ 52), (2, vi (x2 + (1 : Int))), (3, vi (M8 53 (r9 + (3 : Int) : Int).toNat))]) rfl (by decide) dX12_depth_33 ?_
        refine V_goto (pc := 34) C 14 dX12_depth_34 (by decide) ?_
        obtain ⟨g14, h⟩ := grd_of h
        refine V_sub (L' := [(0, vr Γ 52), (2, vi (x2 + (1 : Int))), (3, vi (M8 53 (r9 + (3 : Int) : Int).toNat))]) [0, 1, 2] rfl (by decide) ?_
        exact ih g14 (hM11 _ _) h
  skip
  refine V_iconst (pc := 0) C dX12_depth_0 ?_
  refine V_istore_n (pc := 1) C (L' := [(0, vr Γ 52), (1, vi a1), (2, vi (0 : Int))]) rfl (by decide) dX12_depth_1 ?_
  refine V_aload_n (pc := 2) C 0 rfl dX12_depth_2 ?_
  refine V_getR (pc := 3) C e52 rfl inX12 0 (by decide) rfl lf_X12_9 rfl dX12_depth_3 ?_
  refine V_iload_n (pc := 6) C 1 rfl dX12_depth_6 ?_
  obtain ⟨M1, r2, hc3, h⟩ := cal_of h
  refine V_callSI (pc := 7) C (c_X12_v l Γ sk hsk fu ha1 hc3) cf_X12_v lk_X12_112 ⟨rfl, rfl⟩ ⟨Nat.le_of_ble_eq_true rfl, Nat.le_of_ble_eq_true rfl⟩ rfl (Nat.le_of_ble_eq_true rfl) ⟨Nat.zero_le _, Nat.zero_le _⟩ rfl dX12_depth_7 (fun hr2 => ?_)
  refine V_iconst (pc := 10) C dX12_depth_10 ?_
  refine V_iadd (pc := 11) C dX12_depth_11 ?_
  refine V_rng fun hM4 => ?_
  obtain ⟨g5, h⟩ := grd_of h
  obtain ⟨g6, h⟩ := grd_of h
  refine V_iald (pc := 12) C e53 g6 g5 dX12_depth_12 ?_
  refine V_istore_n (pc := 13) C (L' := [(0, vr Γ 52), (1, vi a1), (2, vi (0 : Int)), (3, vi (M1 53 (r2 + (3 : Int) : Int).toNat))]) rfl (by decide) dX12_depth_13 ?_
  refine V_sub (L' := [(0, vr Γ 52), (2, vi (0 : Int)), (3, vi (M1 53 (r2 + (3 : Int) : Int).toNat))]) [0, 2, 3] rfl (by decide) ?_
  exact LP14 fu  (by decide) (hM4 _ _) h
