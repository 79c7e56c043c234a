set_option maxRecDepth 100000 in
set_option maxHeartbeats 4000000 in
theorem c_X12_append (l : Launch) (Γ : GG) (sk : List SD) (hsk : ExtM sk) (fu : Nat) {M M' : Mem} {a1 : Int} {a2 : Int} {r : Int} (ha1 : rng a1) (ha2 : rng a2) (h : f_X12_append fu M a1 a2 = some (M', r)) : MetI l yX12_append cX12_append 6 .int ({ frames := 48, cells := 0, slots := 0, locals := 1438 } : Room) Γ sk [vr Γ 52, vi a1, vi a2] M M' r := by
  unfold f_X12_append at h
  refine MetI_of RX12 rfl (by decide) rfl (Nat.le_of_ble_eq_true rfl) rfl ?_
  intro p e s m args below meth c C hr hlk hM
  have e52 := hsk 52 _ (by decide) rfl
  have JP53 : ∀ {x1 : Int} {x2 : Int} {x3 : Int} {x4 : Int} {y0 : Int} {M : Mem}, rng x1 → rng x2 → rng x3 → rng x4 → rng y0 → f_X12_append_J53 fu x1 x2 x3 x4 y0 M = some (M', r) → VV p l e ({ frames := 48, cells := 0, slots := 0, locals := 1438 } : Room) s m args below meth c (MQ below (PostI Γ sk M' r s.heap.size) args s 0 0 (Fr Γ sk s.heap.size)) 6 Γ sk M 0 0 53 [(0, vr Γ 52), (1, vi x1), (2, vi x2), (3, vi x3), (4, vi x4)] [vi y0] := by
    intro x1 x2 x3 x4 y0 M hx1 hx2 hx3 hx4 hy0 h
    unfold f_X12_append_J53 at h
    refine V_istore (pc := 53) C (L' := [(0, vr Γ 52), (1, vi x1), (2, vi x2), (3, vi x3), (4, vi x4), (5, vi y0)]) rfl (by decide) dX12_append_53 ?_
    refine V_aload_n (pc := 55) C 0 rfl dX12_append_55 ?_
    refine V_iload_n (pc := 56) C 3 rfl dX12_append_56 ?_
    refine V_iload (pc := 57) C 4 rfl dX12_append_57 ?_
    refine V_iload (pc := 59) C 5 rfl dX12_append_59 ?_
    obtain ⟨M8, r9, hc10, h⟩ := cal_of h
    refine V_callVI (pc := 61) C (c_X12_check l Γ sk hsk fu hx3 hx4 hy0 hc10) cf_X12_check lk_X12_330 ⟨rfl, rfl⟩ ⟨Nat.le_of_ble_eq_true rfl, Nat.le_of_ble_eq_true rfl⟩ e52 rfl rfl rfl (Nat.le_of_ble_eq_true rfl) ⟨Nat.zero_le _, Nat.zero_le _⟩ rfl dX12_append_61 (fun hr9 => ?_)
    refine V_if_ne (pc := 64) C 69 hr9 dX12_append_64 (by decide) (fun c64_11 => ?_) (fun c64_11 => ?_)
    · have h := ite_f h c64_11
      refine V_aload_n (pc := 69) C 0 rfl dX12_append_69 ?_
      obtain ⟨M12, r13, hc14, h⟩ := cal_of h
      refine V_callVV (pc := 70) C (c_X12_remember l Γ sk hsk fu hc14) cf_X12_remember lk_X12_324 ⟨rfl, rfl⟩ ⟨Nat.le_of_ble_eq_true rfl, Nat.le_of_ble_eq_true rfl⟩ e52 rfl rfl rfl (Nat.le_of_ble_eq_true rfl) ⟨Nat.zero_le _, Nat.zero_le _⟩ rfl dX12_append_70 ?_
      refine V_aload_n (pc := 73) C 0 rfl dX12_append_73 ?_
      refine V_iload_n (pc := 74) C 1 rfl dX12_append_74 ?_
      refine V_iload_n (pc := 75) C 2 rfl dX12_append_75 ?_
      obtain ⟨M15, r16, hc17, h⟩ := cal_of h
      refine V_callVI (pc := 76) C (c_X12_makeAppend l Γ sk hsk fu hx1 hx2 hc17) cf_X12_makeAppend lk_X12_298 ⟨rfl, rfl⟩ ⟨Nat.le_of_ble_eq_true rfl, Nat.le_of_ble_eq_true rfl⟩ e52 rfl rfl rfl (Nat.le_of_ble_eq_true rfl) ⟨Nat.zero_le _, Nat.zero_le _⟩ rfl dX12_append_76 (fun hr16 => ?_)
      exact V_iret (pc := 79) C hr hlk hr16 h dX12_append_79
    · have h := ite_t h c64_11
      refine V_iconst (pc := 67) C dX12_append_67 ?_
      exact V_iret (pc := 68) C hr hlk (by decide) h dX12_append_68
  have JP52 : ∀ {x1 : Int} {x2 : Int} {x3 : Int} {x4 : Int} {M : Mem}, rng x1 → rng x2 → rng x3 → rng x4 → f_X12_append_J52 fu x1 x2 x3 x4 M = some (M', r) → VV p l e ({ frames := 48, cells := 0, slots := 0, locals := 1438 } : Room) s m args below meth c (MQ below (PostI Γ sk M' r s.heap.size) args s 0 0 (Fr Γ sk s.heap.size)) 6 Γ sk M 0 0 52 [(0, vr Γ 52), (1, vi x1), (2, vi x2), (3, vi x3), (4, vi x4)] [] := by
    intro x1 x2 x3 x4 M hx1 hx2 hx3 hx4 h
    unfold f_X12_append_J52 at h
    refine V_iconst (pc := 52) C dX12_append_52 ?_
    refine V_sub (L' := [(0, vr Γ 52), (1, vi x1), (2, vi x2), (3, vi x3), (4, vi x4)]) [0, 1, 2, 3, 4] rfl (by decide) ?_
    exact JP53 hx1 hx2 hx3 hx4 (by decide) h
  skip
  refine V_aload_n (pc := 0) C 0 rfl dX12_append_0 ?_
  refine V_iload_n (pc := 1) C 1 rfl dX12_append_1 ?_
  obtain ⟨M1, r2, hc3, h⟩ := cal_of h
  refine V_callVI (pc := 2) C (c_X12_isVersion l Γ sk hsk fu ha1 hc3) cf_X12_isVersion lk_X12_285 ⟨rfl, rfl⟩ ⟨Nat.le_of_ble_eq_true rfl, Nat.le_of_ble_eq_true rfl⟩ e52 rfl rfl rfl (Nat.le_of_ble_eq_true rfl) ⟨Nat.zero_le _, Nat.zero_le _⟩ rfl dX12_append_2 (fun hr2 => ?_)
  refine V_istore_n (pc := 5) C (L' := [(0, vr Γ 52), (1, vi a1), (2, vi a2), (3, vi r2)]) rfl (by decide) dX12_append_5 ?_
  refine V_iload_n (pc := 6) C 2 rfl dX12_append_6 ?_
  refine V_i2l (pc := 7) C ha2 dX12_append_7 ?_
  refine V_ldc2 (pc := 8) C (x := (-999 : Int)) lc_X12_379 rfl dX12_append_8 ?_
  refine V_ldc2 (pc := 11) C (x := (999 : Int)) lc_X12_381 rfl dX12_append_11 ?_
  obtain ⟨M4, r5, hc6, h⟩ := cal_of h
  refine V_callSI (pc := 14) C (c_X12_isWithin l Γ sk hsk fu ha2 (by decide) (by decide) hc6) cf_X12_isWithin lk_X12_167 ⟨rfl, rfl⟩ ⟨Nat.le_of_ble_eq_true rfl, Nat.le_of_ble_eq_true rfl⟩ rfl (Nat.le_of_ble_eq_true rfl) ⟨Nat.zero_le _, Nat.zero_le _⟩ rfl dX12_append_14 (fun hr5 => ?_)
  refine V_istore (pc := 17) C (L' := [(0, vr Γ 52), (1, vi a1), (2, vi a2), (3, vi r2), (4, vi r5)]) rfl (by decide) dX12_append_17 ?_
  refine V_iload_n (pc := 19) C 3 rfl dX12_append_19 ?_
  refine V_if_eq (pc := 20) C 52 hr2 dX12_append_20 (by decide) (fun c20_7 => ?_) (fun c20_7 => ?_)
  · have h := ite_t h c20_7
    refine V_sub (L' := [(0, vr Γ 52), (1, vi a1), (2, vi a2), (3, vi r2), (4, vi r5)]) [0, 1, 2, 3, 4] rfl (by decide) ?_
    exact JP52 ha1 ha2 hr2 hr5 h
  · have h := ite_f h c20_7
    refine V_aload_n (pc := 23) C 0 rfl dX12_append_23 ?_
    refine V_iload_n (pc := 24) C 1 rfl dX12_append_24 ?_
    obtain ⟨M18, r19, hc20, h⟩ := cal_of h
    refine V_callVI (pc := 25) C (c_X12_isGone l Γ sk hsk fu ha1 hc20) cf_X12_isGone lk_X12_164 ⟨rfl, rfl⟩ ⟨Nat.le_of_ble_eq_true rfl, Nat.le_of_ble_eq_true rfl⟩ e52 rfl rfl rfl (Nat.le_of_ble_eq_true rfl) ⟨Nat.zero_le _, Nat.zero_le _⟩ rfl dX12_append_25 (fun hr19 => ?_)
    refine V_if_ne (pc := 28) C 52 hr19 dX12_append_28 (by decide) (fun c28_21 => ?_) (fun c28_21 => ?_)
    · have h := ite_f h c28_21
      refine V_sub (L' := [(0, vr Γ 52), (1, vi a1), (2, vi a2), (3, vi r2), (4, vi r5)]) [0, 1, 2, 3, 4] rfl (by decide) ?_
      exact JP52 ha1 ha2 hr2 hr5 h
    · have h := ite_t h c28_21
      refine V_aload_n (pc := 31) C 0 rfl dX12_append_31 ?_
      refine V_iload_n (pc := 32) C 1 rfl dX12_append_32 ?_
      obtain ⟨M22, r23, hc24, h⟩ := cal_of h
      refine V_callVI (pc := 33) C (c_X12_lengthOf l Γ sk hsk fu ha1 hc24) cf_X12_lengthOf lk_X12_121 ⟨rfl, rfl⟩ ⟨Nat.le_of_ble_eq_true rfl, Nat.le_of_ble_eq_true rfl⟩ e52 rfl rfl rfl (Nat.le_of_ble_eq_true rfl) ⟨Nat.zero_le _, Nat.zero_le _⟩ rfl dX12_append_33 (fun hr23 => ?_)
      refine V_bipush (pc := 36) C dX12_append_36 rfl ?_
      refine V_icmp_ge (pc := 38) C 52 hr23 (by decide) dX12_append_38 (by decide) (fun c38_25 => ?_) (fun c38_25 => ?_)
      · have h := ite_t h c38_25
        refine V_sub (L' := [(0, vr Γ 52), (1, vi a1), (2, vi a2), (3, vi r2), (4, vi r5)]) [0, 1, 2, 3, 4] rfl (by decide) ?_
        exact JP52 ha1 ha2 hr2 hr5 h
      · have h := ite_f h c38_25
        refine V_aload_n (pc := 41) C 0 rfl dX12_append_41 ?_
        obtain ⟨M26, r27, hc28, h⟩ := cal_of h
        refine V_callVI (pc := 42) C (c_X12_hasRoom l Γ sk hsk fu hc28) cf_X12_hasRoom lk_X12_291 ⟨rfl, rfl⟩ ⟨Nat.le_of_ble_eq_true rfl, Nat.le_of_ble_eq_true rfl⟩ e52 rfl rfl rfl (Nat.le_of_ble_eq_true rfl) ⟨Nat.zero_le _, Nat.zero_le _⟩ rfl dX12_append_42 (fun hr27 => ?_)
        refine V_if_eq (pc := 45) C 52 hr27 dX12_append_45 (by decide) (fun c45_29 => ?_) (fun c45_29 => ?_)
        · have h := ite_t h c45_29
          refine V_sub (L' := [(0, vr Γ 52), (1, vi a1), (2, vi a2), (3, vi r2), (4, vi r5)]) [0, 1, 2, 3, 4] rfl (by decide) ?_
          exact JP52 ha1 ha2 hr2 hr5 h
        · have h := ite_f h c45_29
          refine V_iconst (pc := 48) C dX12_append_48 ?_
          refine V_goto (pc := 49) C 53 dX12_append_49 (by decide) ?_
          refine V_sub (L' := [(0, vr Γ 52), (1, vi a1), (2, vi a2), (3, vi r2), (4, vi r5)]) [0, 1, 2, 3, 4] rfl (by decide) ?_
          exact JP53 ha1 ha2 hr2 hr5 (by decide) h
set_option maxRecDepth 100000 in
set_option maxHeartbeats 4000000 in
theorem c_X12_truncate (l : Launch) (Γ : GG) (sk : List SD) (hsk : ExtM sk) (fu : Nat) {M M' : Mem} {a1 : Int} {a2 : Int} {r : Int} (ha1 : rng a1) (ha2 : rng a2) (h : f_X12_truncate fu M a1 a2 = some (M', r)) : MetI l yX12_truncate cX12_truncate 5 .int ({ frames := 264, cells := 0, slots := 0, locals := 9083 } : Room) Γ sk [vr Γ 52, vi a1, vi a2] M M' r := by
  unfold f_X12_truncate at h
  refine MetI_of RX12 rfl (by decide) rfl (Nat.le_of_ble_eq_true rfl) rfl ?_
  intro p e s m args below meth c C hr hlk hM
  have e52 := hsk 52 _ (by decide) rfl
  have JP67 : ∀ {x1 : Int} {x2 : Int} {y1 : Int} {y2 : Int} {y3 : Int} {M : Mem}, rng x1 → rng x2 → rng y1 → rng y2 → rng y3 → f_X12_truncate_J67 fu x1 x2 y1 y2 y3 M = some (M', r) → VV p l e ({ frames := 264, cells := 0, slots := 0, locals := 9083 } : Room) s m args below meth c (MQ below (PostI Γ sk M' r s.heap.size) args s 0 0 (Fr Γ sk s.heap.size)) 5 Γ sk M 0 0 67 [(0, vr Γ 52), (1, vi x1), (2, vi x2)] [vi y3, vi y2, vi y1, vr Γ 52] := by
    intro x1 x2 y1 y2 y3 M hx1 hx2 hy1 hy2 hy3 h
    unfold f_X12_truncate_J67 at h
    obtain ⟨M6, r7, hc8, h⟩ := cal_of h
    refine V_callVI (pc := 67) C (c_X12_check l Γ sk hsk fu hy1 hy2 hy3 hc8) cf_X12_check lk_X12_330 ⟨rfl, rfl⟩ ⟨Nat.le_of_ble_eq_true rfl, Nat.le_of_ble_eq_true rfl⟩ e52 rfl rfl rfl (Nat.le_of_ble_eq_true rfl) ⟨Nat.zero_le _, Nat.zero_le _⟩ rfl dX12_truncate_67 (fun hr7 => ?_)
    refine V_if_ne (pc := 70) C 75 hr7 dX12_truncate_70 (by decide) (fun c70_9 => ?_) (fun c70_9 => ?_)
    · have h := ite_f h c70_9
      refine V_aload_n (pc := 75) C 0 rfl dX12_truncate_75 ?_
      obtain ⟨M10, r11, hc12, h⟩ := cal_of h
      refine V_callVV (pc := 76) C (c_X12_remember l Γ sk hsk fu hc12) cf_X12_remember lk_X12_324 ⟨rfl, rfl⟩ ⟨Nat.le_of_ble_eq_true rfl, Nat.le_of_ble_eq_true rfl⟩ e52 rfl rfl rfl (Nat.le_of_ble_eq_true rfl) ⟨Nat.zero_le _, Nat.zero_le _⟩ rfl dX12_truncate_76 ?_
      refine V_aload_n (pc := 79) C 0 rfl dX12_truncate_79 ?_
      refine V_iload_n (pc := 80) C 1 rfl dX12_truncate_80 ?_
      refine V_iload_n (pc := 81) C 2 rfl dX12_truncate_81 ?_
      obtain ⟨M13, r14, hc15, h⟩ := cal_of h
      refine V_callVI (pc := 82) C (c_X12_makeTruncate l Γ sk hsk fu hx1 hx2 hc15) cf_X12_makeTruncate lk_X12_301 ⟨rfl, rfl⟩ ⟨Nat.le_of_ble_eq_true rfl, Nat.le_of_ble_eq_true rfl⟩ e52 rfl rfl rfl (Nat.le_of_ble_eq_true rfl) ⟨Nat.zero_le _, Nat.zero_le _⟩ rfl dX12_truncate_82 (fun hr14 => ?_)
      exact V_iret (pc := 85) C hr hlk hr14 h dX12_truncate_85
    · have h := ite_t h c70_9
      refine V_iconst (pc := 73) C dX12_truncate_73 ?_
      exact V_iret (pc := 74) C hr hlk (by decide) h dX12_truncate_74
  have JP66 : ∀ {x1 : Int} {x2 : Int} {y1 : Int} {y2 : Int} {M : Mem}, rng x1 → rng x2 → rng y1 → rng y2 → f_X12_truncate_J66 fu x1 x2 y1 y2 M = some (M', r) → VV p l e ({ frames := 264, cells := 0, slots := 0, locals := 9083 } : Room) s m args below meth c (MQ below (PostI Γ sk M' r s.heap.size) args s 0 0 (Fr Γ sk s.heap.size)) 5 Γ sk M 0 0 66 [(0, vr Γ 52), (1, vi x1), (2, vi x2)] [vi y2, vi y1, vr Γ 52] := by
    intro x1 x2 y1 y2 M hx1 hx2 hy1 hy2 h
    unfold f_X12_truncate_J66 at h
    refine V_iconst (pc := 66) C dX12_truncate_66 ?_
    refine V_sub (L' := [(0, vr Γ 52), (1, vi x1), (2, vi x2)]) [0, 1, 2] rfl (by decide) ?_
    exact JP67 hx1 hx2 hy1 hy2 (by decide) h
  have JP36 : ∀ {x1 : Int} {x2 : Int} {x3 : Int} {y0 : Int} {M : Mem}, rng x1 → rng x2 → rng x3 → rng y0 → f_X12_truncate_J36 fu x1 x2 x3 y0 M = some (M', r) → VV p l e ({ frames := 264, cells := 0, slots := 0, locals := 9083 } : Room) s m args below meth c (MQ below (PostI Γ sk M' r s.heap.size) args s 0 0 (Fr Γ sk s.heap.size)) 5 Γ sk M 0 0 36 [(0, vr Γ 52), (1, vi x1), (2, vi x2), (3, vi x3)] [vi y0] := by
    intro x1 x2 x3 y0 M hx1 hx2 hx3 hy0 h
    unfold f_X12_truncate_J36 at h
    refine V_istore (pc := 36) C (L' := [(0, vr Γ 52), (1, vi x1), (2, vi x2), (3, vi x3), (4, vi y0)]) rfl (by decide) dX12_truncate_36 ?_
    refine V_aload_n (pc := 38) C 0 rfl dX12_truncate_38 ?_
    refine V_iload_n (pc := 39) C 3 rfl dX12_truncate_39 ?_
    refine V_iload (pc := 40) C 4 rfl dX12_truncate_40 ?_
    refine V_iload (pc := 42) C 4 rfl dX12_truncate_42 ?_
    refine V_if_eq (pc := 44) C 66 hy0 dX12_truncate_44 (by decide) (fun c44_5 => ?_) (fun c44_5 => ?_)
    · have h := ite_t h c44_5
      refine V_sub (L' := [(0, vr Γ 52), (1, vi x1), (2, vi x2)]) [0, 1, 2] rfl (by decide) ?_
      exact JP66 hx1 hx2 hx3 hy0 h
    · have h := ite_f h c44_5
      refine V_aload_n (pc := 47) C 0 rfl dX12_truncate_47 ?_
      refine V_iload_n (pc := 48) C 1 rfl dX12_truncate_48 ?_
      obtain ⟨M16, r17, hc18, h⟩ := cal_of h
      refine V_callVI (pc := 49) C (c_X12_isGone l Γ sk hsk fu hx1 hc18) cf_X12_isGone lk_X12_164 ⟨rfl, rfl⟩ ⟨Nat.le_of_ble_eq_true rfl, Nat.le_of_ble_eq_true rfl⟩ e52 rfl rfl rfl (Nat.le_of_ble_eq_true rfl) ⟨Nat.zero_le _, Nat.zero_le _⟩ rfl dX12_truncate_49 (fun hr17 => ?_)
      refine V_if_ne (pc := 52) C 66 hr17 dX12_truncate_52 (by decide) (fun c52_19 => ?_) (fun c52_19 => ?_)
      · have h := ite_f h c52_19
        refine V_sub (L' := [(0, vr Γ 52), (1, vi x1), (2, vi x2)]) [0, 1, 2] rfl (by decide) ?_
        exact JP66 hx1 hx2 hx3 hy0 h
      · have h := ite_t h c52_19
        refine V_aload_n (pc := 55) C 0 rfl dX12_truncate_55 ?_
        obtain ⟨M20, r21, hc22, h⟩ := cal_of h
        refine V_callVI (pc := 56) C (c_X12_hasRoom l Γ sk hsk fu hc22) cf_X12_hasRoom lk_X12_291 ⟨rfl, rfl⟩ ⟨Nat.le_of_ble_eq_true rfl, Nat.le_of_ble_eq_true rfl⟩ e52 rfl rfl rfl (Nat.le_of_ble_eq_true rfl) ⟨Nat.zero_le _, Nat.zero_le _⟩ rfl dX12_truncate_56 (fun hr21 => ?_)
        refine V_if_eq (pc := 59) C 66 hr21 dX12_truncate_59 (by decide) (fun c59_23 => ?_) (fun c59_23 => ?_)
        · have h := ite_t h c59_23
          refine V_sub (L' := [(0, vr Γ 52), (1, vi x1), (2, vi x2)]) [0, 1, 2] rfl (by decide) ?_
          exact JP66 hx1 hx2 hx3 hy0 h
        · have h := ite_f h c59_23
          refine V_iconst (pc := 62) C dX12_truncate_62 ?_
          refine V_goto (pc := 63) C 67 dX12_truncate_63 (by decide) ?_
          refine V_sub (L' := [(0, vr Γ 52), (1, vi x1), (2, vi x2)]) [0, 1, 2] rfl (by decide) ?_
          exact JP67 hx1 hx2 hx3 hy0 (by decide) h
  have JP35 : ∀ {x1 : Int} {x2 : Int} {x3 : Int} {M : Mem}, rng x1 → rng x2 → rng x3 → f_X12_truncate_J35 fu x1 x2 x3 M = some (M', r) → VV p l e ({ frames := 264, cells := 0, slots := 0, locals := 9083 } : Room) s m args below meth c (MQ below (PostI Γ sk M' r s.heap.size) args s 0 0 (Fr Γ sk s.heap.size)) 5 Γ sk M 0 0 35 [(0, vr Γ 52), (1, vi x1), (2, vi x2), (3, vi x3)] [] := by
    intro x1 x2 x3 M hx1 hx2 hx3 h
    unfold f_X12_truncate_J35 at h
    refine V_iconst (pc := 35) C dX12_truncate_35 ?_
    refine V_sub (L' := [(0, vr Γ 52), (1, vi x1), (2, vi x2), (3, vi x3)]) [0, 1, 2, 3] rfl (by decide) ?_
    exact JP36 hx1 hx2 hx3 (by decide) h
  have JP31 : ∀ {x1 : Int} {x2 : Int} {x3 : Int} {M : Mem}, rng x1 → rng x2 → rng x3 → f_X12_truncate_J31 fu x1 x2 x3 M = some (M', r) → VV p l e ({ frames := 264, cells := 0, slots := 0, locals := 9083 } : Room) s m args below meth c (MQ below (PostI Γ sk M' r s.heap.size) args s 0 0 (Fr Γ sk s.heap.size)) 5 Γ sk M 0 0 31 [(0, vr Γ 52), (1, vi x1), (2, vi x2), (3, vi x3)] [] := by
    intro x1 x2 x3 M hx1 hx2 hx3 h
    unfold f_X12_truncate_J31 at h
    refine V_iconst (pc := 31) C dX12_truncate_31 ?_
    refine V_goto (pc := 32) C 36 dX12_truncate_32 (by decide) ?_
    refine V_sub (L' := [(0, vr Γ 52), (1, vi x1), (2, vi x2), (3, vi x3)]) [0, 1, 2, 3] rfl (by decide) ?_
    exact JP36 hx1 hx2 hx3 (by decide) h
  skip
  refine V_aload_n (pc := 0) C 0 rfl dX12_truncate_0 ?_
  refine V_iload_n (pc := 1) C 1 rfl dX12_truncate_1 ?_
  obtain ⟨M1, r2, hc3, h⟩ := cal_of h
  refine V_callVI (pc := 2) C (c_X12_isVersion l Γ sk hsk fu ha1 hc3) cf_X12_isVersion lk_X12_285 ⟨rfl, rfl⟩ ⟨Nat.le_of_ble_eq_true rfl, Nat.le_of_ble_eq_true rfl⟩ e52 rfl rfl rfl (Nat.le_of_ble_eq_true rfl) ⟨Nat.zero_le _, Nat.zero_le _⟩ rfl dX12_truncate_2 (fun hr2 => ?_)
  refine V_istore_n (pc := 5) C (L' := [(0, vr Γ 52), (1, vi a1), (2, vi a2), (3, vi r2)]) rfl (by decide) dX12_truncate_5 ?_
  refine V_iload_n (pc := 6) C 3 rfl dX12_truncate_6 ?_
  refine V_if_eq (pc := 7) C 35 hr2 dX12_truncate_7 (by decide) (fun c7_4 => ?_) (fun c7_4 => ?_)
  · have h := ite_t h c7_4
    refine V_sub (L' := [(0, vr Γ 52), (1, vi a1), (2, vi a2), (3, vi r2)]) [0, 1, 2, 3] rfl (by decide) ?_
    exact JP35 ha1 ha2 hr2 h
  · have h := ite_f h c7_4
    refine V_iload_n (pc := 10) C 2 rfl dX12_truncate_10 ?_
    refine V_if_lt (pc := 11) C 35 ha2 dX12_truncate_11 (by decide) (fun c11_24 => ?_) (fun c11_24 => ?_)
    · have h := ite_t h c11_24
      refine V_sub (L' := [(0, vr Γ 52), (1, vi a1), (2, vi a2), (3, vi r2)]) [0, 1, 2, 3] rfl (by decide) ?_
      exact JP35 ha1 ha2 hr2 h
    · have h := ite_f h c11_24
      refine V_aload_n (pc := 14) C 0 rfl dX12_truncate_14 ?_
      refine V_iload_n (pc := 15) C 1 rfl dX12_truncate_15 ?_
      obtain ⟨M25, r26, hc27, h⟩ := cal_of h
      refine V_callVI (pc := 16) C (c_X12_isGone l Γ sk hsk fu ha1 hc27) cf_X12_isGone lk_X12_164 ⟨rfl, rfl⟩ ⟨Nat.le_of_ble_eq_true rfl, Nat.le_of_ble_eq_true rfl⟩ e52 rfl rfl rfl (Nat.le_of_ble_eq_true rfl) ⟨Nat.zero_le _, Nat.zero_le _⟩ rfl dX12_truncate_16 (fun hr26 => ?_)
      refine V_if_ne (pc := 19) C 31 hr26 dX12_truncate_19 (by decide) (fun c19_28 => ?_) (fun c19_28 => ?_)
      · have h := ite_f h c19_28
        refine V_sub (L' := [(0, vr Γ 52), (1, vi a1), (2, vi a2), (3, vi r2)]) [0, 1, 2, 3] rfl (by decide) ?_
        exact JP31 ha1 ha2 hr2 h
      · have h := ite_t h c19_28
        refine V_iload_n (pc := 22) C 2 rfl dX12_truncate_22 ?_
        refine V_aload_n (pc := 23) C 0 rfl dX12_truncate_23 ?_
        refine V_iload_n (pc := 24) C 1 rfl dX12_truncate_24 ?_
        obtain ⟨M29, r30, hc31, h⟩ := cal_of h
        refine V_callVI (pc := 25) C (c_X12_lengthOf l Γ sk hsk fu ha1 hc31) cf_X12_lengthOf lk_X12_121 ⟨rfl, rfl⟩ ⟨Nat.le_of_ble_eq_true rfl, Nat.le_of_ble_eq_true rfl⟩ e52 rfl rfl rfl (Nat.le_of_ble_eq_true rfl) ⟨Nat.zero_le _, Nat.zero_le _⟩ rfl dX12_truncate_25 (fun hr30 => ?_)
        refine V_icmp_gt (pc := 28) C 35 ha2 hr30 dX12_truncate_28 (by decide) (fun c28_32 => ?_) (fun c28_32 => ?_)
        · have h := ite_t h c28_32
          refine V_sub (L' := [(0, vr Γ 52), (1, vi a1), (2, vi a2), (3, vi r2)]) [0, 1, 2, 3] rfl (by decide) ?_
          exact JP35 ha1 ha2 hr2 h
        · have h := ite_f h c28_32
          refine V_sub (L' := [(0, vr Γ 52), (1, vi a1), (2, vi a2), (3, vi r2)]) [0, 1, 2, 3] rfl (by decide) ?_
          exact JP31 ha1 ha2 hr2 h
set_option maxRecDepth 100000 in
set_option maxHeartbeats 4000000 in
theorem c_X12_release (l : Launch) (Γ : GG) (sk : List SD) (hsk : ExtM sk) (fu : Nat) {M M' : Mem} {a1 : Int} {r : Int} (ha1 : rng a1) (h : f_X12_release fu M a1 = some (M', r)) : MetI l yX12_release cX12_release 2 .int ({ frames := 31, cells := 0, slots := 0, locals := 1004 } : Room) Γ sk [vr Γ 52, vi a1] M M' r := by
  unfold f_X12_release at h
  refine MetI_of RX12 rfl (by decide) rfl (Nat.le_of_ble_eq_true rfl) rfl ?_
  intro p e s m args below meth c C hr hlk hM
  have e52 := hsk 52 _ (by decide) rfl
  refine V_aload_n (pc := 0) C 0 rfl dX12_release_0 ?_
  refine V_iload_n (pc := 1) C 1 rfl dX12_release_1 ?_
  obtain ⟨M1, r2, hc3, h⟩ := cal_of h
  refine V_callVI (pc := 2) C (c_X12_checkLive l Γ sk hsk fu ha1 hc3) cf_X12_checkLive lk_X12_343 ⟨rfl, rfl⟩ ⟨Nat.le_of_ble_eq_true rfl, Nat.le_of_ble_eq_true rfl⟩ e52 rfl rfl rfl (Nat.le_of_ble_eq_true rfl) ⟨Nat.zero_le _, Nat.zero_le _⟩ rfl dX12_release_2 (fun hr2 => ?_)
  refine V_if_ne (pc := 5) C 10 hr2 dX12_release_5 (by decide) (fun c5_4 => ?_) (fun c5_4 => ?_)
  · have h := ite_f h c5_4
    refine V_aload_n (pc := 10) C 0 rfl dX12_release_10 ?_
    obtain ⟨M5, r6, hc7, h⟩ := cal_of h
    refine V_callVV (pc := 11) C (c_X12_remember l Γ sk hsk fu hc7) cf_X12_remember lk_X12_324 ⟨rfl, rfl⟩ ⟨Nat.le_of_ble_eq_true rfl, Nat.le_of_ble_eq_true rfl⟩ e52 rfl rfl rfl (Nat.le_of_ble_eq_true rfl) ⟨Nat.zero_le _, Nat.zero_le _⟩ rfl dX12_release_11 ?_
    refine V_aload_n (pc := 14) C 0 rfl dX12_release_14 ?_
    refine V_iload_n (pc := 15) C 1 rfl dX12_release_15 ?_
    obtain ⟨M8, r9, hc10, h⟩ := cal_of h
    refine V_callVI (pc := 16) C (c_X12_releaseVersion l Γ sk hsk fu ha1 hc10) cf_X12_releaseVersion lk_X12_315 ⟨rfl, rfl⟩ ⟨Nat.le_of_ble_eq_true rfl, Nat.le_of_ble_eq_true rfl⟩ e52 rfl rfl rfl (Nat.le_of_ble_eq_true rfl) ⟨Nat.zero_le _, Nat.zero_le _⟩ rfl dX12_release_16 (fun hr9 => ?_)
    exact V_iret (pc := 19) C hr hlk hr9 h dX12_release_19
  · have h := ite_t h c5_4
    refine V_iconst (pc := 8) C dX12_release_8 ?_
    exact V_iret (pc := 9) C hr hlk (by decide) h dX12_release_9
set_option maxRecDepth 100000 in
set_option maxHeartbeats 4000000 in
theorem c_X12_collect (l : Launch) (Γ : GG) (sk : List SD) (hsk : ExtM sk) (fu : Nat) {M M' : Mem}  {r : Int}  (h : f_X12_collect fu M  = some (M', r)) : MetI l yX12_collect cX12_collect 1 .int ({ frames := 31, cells := 0, slots := 0, locals := 1005 } : Room) Γ sk [vr Γ 52] M M' r := by
  unfold f_X12_collect at h
  refine MetI_of RX12 rfl (by decide) rfl (Nat.le_of_ble_eq_true rfl) rfl ?_
  intro p e s m args below meth c C hr hlk hM
  have e52 := hsk 52 _ (by decide) rfl
  refine V_aload_n (pc := 0) C 0 rfl dX12_collect_0 ?_
  refine V_iconst (pc := 1) C dX12_collect_1 ?_
  refine V_putI (pc := 2) C (by decide) e52 rfl inX12 tyX12 tyX12_ok nmX12 6 (by decide) rfl rfl lf_X12_58 rfl (by decide) rfl dX12_collect_2 ?_
  refine V_aload_n (pc := 5) C 0 rfl dX12_collect_5 ?_
  obtain ⟨M1, r2, hc3, h⟩ := cal_of h
  refine V_callVV (pc := 6) C (c_X12_remember l Γ sk hsk fu hc3) cf_X12_remember lk_X12_324 ⟨rfl, rfl⟩ ⟨Nat.le_of_ble_eq_true rfl, Nat.le_of_ble_eq_true rfl⟩ e52 rfl rfl rfl (Nat.le_of_ble_eq_true rfl) ⟨Nat.zero_le _, Nat.zero_le _⟩ rfl dX12_collect_6 ?_
  refine V_aload_n (pc := 9) C 0 rfl dX12_collect_9 ?_
  obtain ⟨M4, r5, hc6, h⟩ := cal_of h
  refine V_callVI (pc := 10) C (c_X12_collectAll l Γ sk hsk fu hc6) cf_X12_collectAll lk_X12_318 ⟨rfl, rfl⟩ ⟨Nat.le_of_ble_eq_true rfl, Nat.le_of_ble_eq_true rfl⟩ e52 rfl rfl rfl (Nat.le_of_ble_eq_true rfl) ⟨Nat.zero_le _, Nat.zero_le _⟩ rfl dX12_collect_10 (fun hr5 => ?_)
  exact V_iret (pc := 13) C hr hlk hr5 h dX12_collect_13
set_option maxRecDepth 100000 in
set_option maxHeartbeats 4000000 in
theorem c_X12_undo (l : Launch) (Γ : GG) (sk : List SD) (hsk : ExtM sk) (fu : Nat) {M M' : Mem}  {r : Int}  (h : f_X12_undo fu M  = some (M', r)) : MetI l yX12_undo cX12_undo 2 .int ({ frames := 1, cells := 0, slots := 0, locals := 23 } : Room) Γ sk [vr Γ 52] M M' r := by
  unfold f_X12_undo at h
  refine MetI_of RX12 rfl (by decide) rfl (Nat.le_of_ble_eq_true rfl) rfl ?_
  intro p e s m args below meth c C hr hlk hM
  have e52 := hsk 52 _ (by decide) rfl
  have e53 := hsk 53 _ (by decide) rfl
  have e56 := hsk 56 _ (by decide) rfl
  have LP35 : ∀ (n : Nat) {x1 : Int} {M : Mem}, rng x1 → f_X12_undo_L35 fu n x1 M = some (M', r) → VV p l e ({ frames := 1, cells := 0, slots := 0, locals := 23 } : Room) s m args below meth c (MQ below (PostI Γ sk M' r s.heap.size) args s 0 0 (Fr Γ sk s.heap.size)) 2 Γ sk M 0 0 35 [(0, vr Γ 52), (1, vi x1)] [] := by
    intro n
    induction n with
    | zero =>
      intro x1 M hx1 h
      cases h
    | succ n ih =>
      intro x1 M hx1 h
      rw [f_X12_undo_L35] at h
      refine V_iload_n (pc := 35) C 1 rfl dX12_undo_35 ?_
      refine V_sipush (pc := 36) C dX12_undo_36 rfl ?_
      refine V_icmp_ge (pc := 39) C 69 hx1 (by decide) dX12_undo_39 (by decide) (fun c39_8 => ?_) (fun c39_8 => ?_)
      · have h := ite_t h c39_8
        refine V_aload_n (pc := 69) C 0 rfl dX12_undo_69 ?_
        refine V_rng fun hM9 => ?_
        refine V_getI (pc := 70) C e52 rfl inX12 4 (by decide) rfl lf_X12_61 rfl dX12_undo_70 ?_
        exact V_iret (pc := 73) C hr hlk (hM9 _ _) h dX12_undo_73
      · have h := ite_f h c39_8
        refine V_aload_n (pc := 42) C 0 rfl dX12_undo_42 ?_
        refine V_getR (pc := 43) C e52 rfl inX12 0 (by decide) rfl lf_X12_9 rfl dX12_undo_43 ?_
        refine V_iload_n (pc := 46) C 1 rfl dX12_undo_46 ?_
        refine V_aload_n (pc := 47) C 0 rfl dX12_undo_47 ?_
        refine V_getR (pc := 48) C e52 rfl inX12 3 (by decide) rfl lf_X12_20 rfl dX12_undo_48 ?_
        refine V_sipush (pc := 51) C dX12_undo_51 rfl ?_
        refine V_aload_n (pc := 54) C 0 rfl dX12_undo_54 ?_
        refine V_rng fun hM10 => ?_
        refine V_getI (pc := 55) C e52 rfl inX12 4 (by decide) rfl lf_X12_61 rfl dX12_undo_55 ?_
        refine V_imul (pc := 58) C dX12_undo_58 ?_
        refine V_iload_n (pc := 59) C 1 rfl dX12_undo_59 ?_
        refine V_iadd (pc := 60) C dX12_undo_60 ?_
        obtain ⟨g11, h⟩ := grd_of h
        obtain ⟨g12, h⟩ := grd_of h
        refine V_iald (pc := 61) C e56 g12 g11 dX12_undo_61 ?_
        obtain ⟨g13, h⟩ := grd_of h
        refine V_iast (pc := 62) C (by decide) e53 g13 hx1 (hM10 _ _) dX12_undo_62 ?_
        refine V_iinc (pc := 63) C (L' := [(0, vr Γ 52), (1, vi (x1 + (1 : Int)))]) 1 rfl rfl (by decide) dX12_undo_63 ?_
        refine V_goto (pc := 66) C 35 dX12_undo_66 (by decide) ?_
        obtain ⟨g14, h⟩ := grd_of h
        refine V_sub (L' := [(0, vr Γ 52), (1, vi (x1 + (1 : Int)))]) [0, 1] rfl (by decide) ?_
        exact ih g14 h
  have JP13 : ∀ {y1 : Int} {M : Mem}, rng y1 → f_X12_undo_J13 fu y1 M = some (M', r) → VV p l e ({ frames := 1, cells := 0, slots := 0, locals := 23 } : Room) s m args below meth c (MQ below (PostI Γ sk M' r s.heap.size) args s 0 0 (Fr Γ sk s.heap.size)) 2 Γ sk M 0 0 13 [(0, vr Γ 52)] [vi y1, vr Γ 52] := by
    intro y1 M hy1 h
    unfold f_X12_undo_J13 at h
    refine V_iconst (pc := 13) C dX12_undo_13 ?_
    refine V_iconst (pc := 14) C dX12_undo_14 ?_
    obtain ⟨M2, r3, hc4, h⟩ := cal_of h
    refine V_callVI (pc := 15) C (c_X12_check l Γ sk hsk fu hy1 (by decide) (by decide) hc4) cf_X12_check lk_X12_330 ⟨rfl, rfl⟩ ⟨Nat.le_of_ble_eq_true rfl, Nat.le_of_ble_eq_true rfl⟩ e52 rfl rfl rfl (Nat.le_of_ble_eq_true rfl) ⟨Nat.zero_le _, Nat.zero_le _⟩ rfl dX12_undo_15 (fun hr3 => ?_)
    refine V_if_ne (pc := 18) C 23 hr3 dX12_undo_18 (by decide) (fun c18_5 => ?_) (fun c18_5 => ?_)
    · have h := ite_f h c18_5
      refine V_aload_n (pc := 23) C 0 rfl dX12_undo_23 ?_
      refine V_dup (pc := 24) C rfl dX12_undo_24 ?_
      refine V_rng fun hM6 => ?_
      refine V_getI (pc := 25) C e52 rfl inX12 4 (by decide) rfl lf_X12_61 rfl dX12_undo_25 ?_
      refine V_iconst (pc := 28) C dX12_undo_28 ?_
      refine V_isub (pc := 29) C dX12_undo_29 ?_
      obtain ⟨g7, h⟩ := grd_of h
      refine V_putI (pc := 30) C (by decide) e52 rfl inX12 tyX12 tyX12_ok nmX12 4 (by decide) rfl rfl lf_X12_61 rfl g7 rfl dX12_undo_30 ?_
      refine V_iconst (pc := 33) C dX12_undo_33 ?_
      refine V_istore_n (pc := 34) C (L' := [(0, vr Γ 52), (1, vi (0 : Int))]) rfl (by decide) dX12_undo_34 ?_
      refine V_sub (L' := [(0, vr Γ 52), (1, vi (0 : Int))]) [0, 1] rfl (by decide) ?_
      exact LP35 fu  (by decide) h
    · have h := ite_t h c18_5
      refine V_iconst (pc := 21) C dX12_undo_21 ?_
      exact V_iret (pc := 22) C hr hlk (by decide) h dX12_undo_22
  skip
  refine V_aload_n (pc := 0) C 0 rfl dX12_undo_0 ?_
  refine V_aload_n (pc := 1) C 0 rfl dX12_undo_1 ?_
  refine V_getI (pc := 2) C e52 rfl inX12 4 (by decide) rfl lf_X12_61 rfl dX12_undo_2 ?_
  refine V_if_le (pc := 5) C 12 (hM _ _) dX12_undo_5 (by decide) (fun c5_1 => ?_) (fun c5_1 => ?_)
  · have h := ite_t h c5_1
    refine V_iconst (pc := 12) C dX12_undo_12 ?_
    refine V_sub (L' := [(0, vr Γ 52)]) [0] rfl (by decide) ?_
    exact JP13 (by decide) h
  · have h := ite_f h c5_1
    refine V_iconst (pc := 8) C dX12_undo_8 ?_
    refine V_goto (pc := 9) C 13 dX12_undo_9 (by decide) ?_
    refine V_sub (L' := [(0, vr Γ 52)]) [0] rfl (by decide) ?_
    exact JP13 (by decide) h
set_option maxRecDepth 100000 in
set_option maxHeartbeats 4000000 in
theorem c_X12_write (l : Launch) (Γ : GG) (sk : List SD) (hsk : ExtM sk) (fu : Nat) {M M' : Mem} {a1 : Int} {r : Int} (ha1 : rng a1) (h : f_X12_write fu M a1 = some (M', r)) : MetV l yX12_write cX12_write 2 ({ frames := 0, cells := 0, slots := 0, locals := 0 } : Room) Γ sk [vr Γ 52, vi a1] M M' := by
  unfold f_X12_write at h
  refine MetV_of RX12 rfl (by decide) rfl (Nat.le_of_ble_eq_true rfl) rfl ?_
  intro p e s m args below meth c C hr hlk hM
  have e52 := hsk 52 _ (by decide) rfl
  have e64 := hsk 64 _ (by decide) rfl
  refine V_aload_n (pc := 0) C 0 rfl dX12_write_0 ?_
  refine V_getR (pc := 1) C e52 rfl inX12 26 (by decide) rfl lf_X12_49 rfl dX12_write_1 ?_
  refine V_aload_n (pc := 4) C 0 rfl dX12_write_4 ?_
  refine V_getI (pc := 5) C e52 rfl inX12 27 (by decide) rfl lf_X12_402 rfl dX12_write_5 ?_
  refine V_iload_n (pc := 8) C 1 rfl dX12_write_8 ?_
  refine V_i2b (pc := 9) C ha1 dX12_write_9 ?_
  obtain ⟨g1, h⟩ := grd_of h
  obtain ⟨g2, h⟩ := grd_of h
  refine V_bast (pc := 10) C (by decide) e64 g1 (hM _ _) g2 dX12_write_10 ?_
  refine V_aload_n (pc := 11) C 0 rfl dX12_write_11 ?_
  refine V_dup (pc := 12) C rfl dX12_write_12 ?_
  refine V_rng fun hM3 => ?_
  refine V_getI (pc := 13) C e52 rfl inX12 27 (by decide) rfl lf_X12_402 rfl dX12_write_13 ?_
  refine V_iconst (pc := 16) C dX12_write_16 ?_
  refine V_iadd (pc := 17) C dX12_write_17 ?_
  obtain ⟨g4, h⟩ := grd_of h
  refine V_putI (pc := 18) C (by decide) e52 rfl inX12 tyX12 tyX12_ok nmX12 27 (by decide) rfl rfl lf_X12_402 rfl g4 rfl dX12_write_18 ?_
  exact V_vret (pc := 21) C hr hlk h dX12_write_21
set_option maxRecDepth 100000 in
set_option maxHeartbeats 4000000 in
theorem c_X12_writeNumber (l : Launch) (Γ : GG) (sk : List SD) (hsk : ExtM sk) (fu : Nat) {M M' : Mem} {a1 : Int} {r : Int} (ha1 : rng a1) (h : f_X12_writeNumber fu M a1 = some (M', r)) : MetV l yX12_writeNumber cX12_writeNumber 3 ({ frames := 1, cells := 0, slots := 0, locals := 30 } : Room) Γ sk [vr Γ 52, vi a1] M M' := by
  unfold f_X12_writeNumber at h
  refine MetV_of RX12 rfl (by decide) rfl (Nat.le_of_ble_eq_true rfl) rfl ?_
  intro p e s m args below meth c C hr hlk hM
  have e52 := hsk 52 _ (by decide) rfl
  have JP52 : ∀ {x2 : Int} {M : Mem}, rng x2 → f_X12_writeNumber_J52 fu x2 M = some (M', r) → VV p l e ({ frames := 1, cells := 0, slots := 0, locals := 30 } : Room) s m args below meth c (MQ below (PostV Γ sk M' s.heap.size) args s 0 0 (Fr Γ sk s.heap.size)) 3 Γ sk M 0 0 52 [(0, vr Γ 52), (2, vi x2)] [] := by
    intro x2 M hx2 h
    unfold f_X12_writeNumber_J52 at h
    refine V_aload_n (pc := 52) C 0 rfl dX12_writeNumber_52 ?_
    refine V_bipush (pc := 53) C dX12_writeNumber_53 rfl ?_
    refine V_iload_n (pc := 55) C 1 rfl dX12_writeNumber_55 ?_
    refine V_bipush (pc := 56) C dX12_writeNumber_56 rfl ?_
    obtain ⟨g4, h⟩ := grd_of h
    refine V_irem (pc := 58) C g4 dX12_writeNumber_58 ?_
    refine V_iadd (pc := 59) C dX12_writeNumber_59 ?_
    obtain ⟨g5, h⟩ := grd_of h
    obtain ⟨M6, r7, hc8, h⟩ := cal_of h
    refine V_callVV (pc := 60) C (c_X12_write l Γ sk hsk fu g5 hc8) cf_X12_write lk_X12_408 ⟨rfl, rfl⟩ ⟨Nat.le_of_ble_eq_true rfl, Nat.le_of_ble_eq_true rfl⟩ e52 rfl rfl rfl (Nat.le_of_ble_eq_true rfl) ⟨Nat.zero_le _, Nat.zero_le _⟩ rfl dX12_writeNumber_60 ?_
    exact V_vret (pc := 63) C hr hlk h dX12_writeNumber_63
  have JP32 : ∀ {x2 : Int} {M : Mem}, rng x2 → f_X12_writeNumber_J32 fu x2 M = some (M', r) → VV p l e ({ frames := 1, cells := 0, slots := 0, locals := 30 } : Room) s m args below meth c (MQ below (PostV Γ sk M' s.heap.size) args s 0 0 (Fr Γ sk s.heap.size)) 3 Γ sk M 0 0 32 [(0, vr Γ 52), (2, vi x2)] [] := by
    intro x2 M hx2 h
    unfold f_X12_writeNumber_J32 at h
    refine V_iload_n (pc := 32) C 1 rfl dX12_writeNumber_32 ?_
    refine V_bipush (pc := 33) C dX12_writeNumber_33 rfl ?_
    refine V_icmp_le (pc := 35) C 52 hx2 (by decide) dX12_writeNumber_35 (by decide) (fun c35_3 => ?_) (fun c35_3 => ?_)
    · have h := ite_t h c35_3
      refine V_sub (L' := [(0, vr Γ 52), (2, vi x2)]) [0, 1] rfl (by decide) ?_
      exact JP52 hx2 h
    · have h := ite_f h c35_3
      refine V_aload_n (pc := 38) C 0 rfl dX12_writeNumber_38 ?_
      refine V_bipush (pc := 39) C dX12_writeNumber_39 rfl ?_
      refine V_iload_n (pc := 41) C 1 rfl dX12_writeNumber_41 ?_
      refine V_bipush (pc := 42) C dX12_writeNumber_42 rfl ?_
      obtain ⟨g9, h⟩ := grd_of h
      refine V_idiv (pc := 44) C g9 dX12_writeNumber_44 ?_
      refine V_bipush (pc := 45) C dX12_writeNumber_45 rfl ?_
      obtain ⟨g10, h⟩ := grd_of h
      refine V_irem (pc := 47) C g10 dX12_writeNumber_47 ?_
      refine V_iadd (pc := 48) C dX12_writeNumber_48 ?_
      obtain ⟨g11, h⟩ := grd_of h
      obtain ⟨M12, r13, hc14, h⟩ := cal_of h
      refine V_callVV (pc := 49) C (c_X12_write l Γ sk hsk fu g11 hc14) cf_X12_write lk_X12_408 ⟨rfl, rfl⟩ ⟨Nat.le_of_ble_eq_true rfl, Nat.le_of_ble_eq_true rfl⟩ e52 rfl rfl rfl (Nat.le_of_ble_eq_true rfl) ⟨Nat.zero_le _, Nat.zero_le _⟩ rfl dX12_writeNumber_49 ?_
      refine V_sub (L' := [(0, vr Γ 52), (2, vi x2)]) [0, 1] rfl (by decide) ?_
      exact JP52 hx2 h
  have JP15 : ∀ {x2 : Int} {M : Mem}, rng x2 → f_X12_writeNumber_J15 fu x2 M = some (M', r) → VV p l e ({ frames := 1, cells := 0, slots := 0, locals := 30 } : Room) s m args below meth c (MQ below (PostV Γ sk M' s.heap.size) args s 0 0 (Fr Γ sk s.heap.size)) 3 Γ sk M 0 0 15 [(0, vr Γ 52), (2, vi x2)] [] := by
    intro x2 M hx2 h
    unfold f_X12_writeNumber_J15 at h
    refine V_iload_n (pc := 15) C 1 rfl dX12_writeNumber_15 ?_
    refine V_bipush (pc := 16) C dX12_writeNumber_16 rfl ?_
    refine V_icmp_le (pc := 18) C 32 hx2 (by decide) dX12_writeNumber_18 (by decide) (fun c18_2 => ?_) (fun c18_2 => ?_)
    · have h := ite_t h c18_2
      refine V_sub (L' := [(0, vr Γ 52), (2, vi x2)]) [0, 1] rfl (by decide) ?_
      exact JP32 hx2 h
    · have h := ite_f h c18_2
      refine V_aload_n (pc := 21) C 0 rfl dX12_writeNumber_21 ?_
      refine V_bipush (pc := 22) C dX12_writeNumber_22 rfl ?_
      refine V_iload_n (pc := 24) C 1 rfl dX12_writeNumber_24 ?_
      refine V_bipush (pc := 25) C dX12_writeNumber_25 rfl ?_
      obtain ⟨g15, h⟩ := grd_of h
      refine V_idiv (pc := 27) C g15 dX12_writeNumber_27 ?_
      refine V_iadd (pc := 28) C dX12_writeNumber_28 ?_
      obtain ⟨g16, h⟩ := grd_of h
      obtain ⟨M17, r18, hc19, h⟩ := cal_of h
      refine V_callVV (pc := 29) C (c_X12_write l Γ sk hsk fu g16 hc19) cf_X12_write lk_X12_408 ⟨rfl, rfl⟩ ⟨Nat.le_of_ble_eq_true rfl, Nat.le_of_ble_eq_true rfl⟩ e52 rfl rfl rfl (Nat.le_of_ble_eq_true rfl) ⟨Nat.zero_le _, Nat.zero_le _⟩ rfl dX12_writeNumber_29 ?_
      refine V_sub (L' := [(0, vr Γ 52), (2, vi x2)]) [0, 1] rfl (by decide) ?_
      exact JP32 hx2 h
  skip
  refine V_iload_n (pc := 0) C 1 rfl dX12_writeNumber_0 ?_
  refine V_abs (pc := 1) C lk_X12_405 math_abs ha1 ⟨Nat.le_of_ble_eq_true rfl, Nat.le_of_ble_eq_true rfl⟩ ⟨Nat.zero_le _, Nat.zero_le _⟩ (Nat.le_of_ble_eq_true rfl) dX12_writeNumber_1 ?_
  refine V_istore_n (pc := 4) C (L' := [(0, vr Γ 52), (1, vi a1), (2, vi (iabs a1))]) rfl (by decide) dX12_writeNumber_4 ?_
  refine V_iload_n (pc := 5) C 1 rfl dX12_writeNumber_5 ?_
  refine V_if_ge (pc := 6) C 15 ha1 dX12_writeNumber_6 (by decide) (fun c6_1 => ?_) (fun c6_1 => ?_)
  · have h := ite_t h c6_1
    obtain ⟨g20, h⟩ := grd_of h
    refine V_sub (L' := [(0, vr Γ 52), (2, vi (iabs a1))]) [0, 2] rfl (by decide) ?_
    exact JP15 g20 h
  · have h := ite_f h c6_1
    refine V_aload_n (pc := 9) C 0 rfl dX12_writeNumber_9 ?_
    refine V_bipush (pc := 10) C dX12_writeNumber_10 rfl ?_
    obtain ⟨M21, r22, hc23, h⟩ := cal_of h
    refine V_callVV (pc := 12) C (c_X12_write l Γ sk hsk fu (by decide) hc23) cf_X12_write lk_X12_408 ⟨rfl, rfl⟩ ⟨Nat.le_of_ble_eq_true rfl, Nat.le_of_ble_eq_true rfl⟩ e52 rfl rfl rfl (Nat.le_of_ble_eq_true rfl) ⟨Nat.zero_le _, Nat.zero_le _⟩ rfl dX12_writeNumber_12 ?_
    obtain ⟨g24, h⟩ := grd_of h
    refine V_sub (L' := [(0, vr Γ 52), (2, vi (iabs a1))]) [0, 2] rfl (by decide) ?_
    exact JP15 g24 h
set_option maxRecDepth 100000 in
set_option maxHeartbeats 4000000 in
theorem c_X12_writeVersion (l : Launch) (Γ : GG) (sk : List SD) (hsk : ExtM sk) (fu : Nat) {M M' : Mem} {a1 : Int} {r : Int} (ha1 : rng a1) (h : f_X12_writeVersion fu M a1 = some (M', r)) : MetI l yX12_writeVersion cX12_writeVersion 3 .int ({ frames := 3, cells := 0, slots := 0, locals := 68 } : Room) Γ sk [vr Γ 52, vi a1] M M' r := by
  unfold f_X12_writeVersion at h
  refine MetI_of RX12 rfl (by decide) rfl (Nat.le_of_ble_eq_true rfl) rfl ?_
  intro p e s m args below meth c C hr hlk hM
  have e52 := hsk 52 _ (by decide) rfl
  have JP53 : ∀ (k23 : Int → Int → Mem → Option (Mem × Int)) (_ : ∀ (x1 : Int) (x2 : Int) (M : Mem), rng x1 → rng x2 → k23 x1 x2 M = some (M', r) → VV p l e ({ frames := 3, cells := 0, slots := 0, locals := 68 } : Room) s m args below meth c (MQ below (PostI Γ sk M' r s.heap.size) args s 0 0 (Fr Γ sk s.heap.size)) 3 Γ sk M 0 0 23 [(0, vr Γ 52), (1, vi x1), (2, vi x2)] []) {x1 : Int} {x2 : Int} {M : Mem}, rng x1 → rng x2 → f_X12_writeVersion_J53 fu k23 x1 x2 M = some (M', r) → VV p l e ({ frames := 3, cells := 0, slots := 0, locals := 68 } : Room) s m args below meth c (MQ below (PostI Γ sk M' r s.heap.size) args s 0 0 (Fr Γ sk s.heap.size)) 3 Γ sk M 0 0 53 [(0, vr Γ 52), (1, vi x1), (2, vi x2)] [] := by
    intro k23 hkk23 x1 x2 M hx1 hx2 h
    unfold f_X12_writeVersion_J53 at h
    refine V_aload_n (pc := 53) C 0 rfl dX12_writeVersion_53 ?_
    refine V_aload_n (pc := 54) C 0 rfl dX12_writeVersion_54 ?_
    refine V_iload_n (pc := 55) C 1 rfl dX12_writeVersion_55 ?_
    refine V_iload_n (pc := 56) C 2 rfl dX12_writeVersion_56 ?_
    obtain ⟨M17, r18, hc19, h⟩ := cal_of h
    refine V_callVI (pc := 57) C (c_X12_element l Γ sk hsk fu hx1 hx2 hc19) cf_X12_element lk_X12_129 ⟨rfl, rfl⟩ ⟨Nat.le_of_ble_eq_true rfl, Nat.le_of_ble_eq_true rfl⟩ e52 rfl rfl rfl (Nat.le_of_ble_eq_true rfl) ⟨Nat.zero_le _, Nat.zero_le _⟩ rfl dX12_writeVersion_57 (fun hr18 => ?_)
    obtain ⟨M20, r21, hc22, h⟩ := cal_of h
    refine V_callVV (pc := 60) C (c_X12_writeNumber l Γ sk hsk fu hr18 hc22) cf_X12_writeNumber lk_X12_411 ⟨rfl, rfl⟩ ⟨Nat.le_of_ble_eq_true rfl, Nat.le_of_ble_eq_true rfl⟩ e52 rfl rfl rfl (Nat.le_of_ble_eq_true rfl) ⟨Nat.zero_le _, Nat.zero_le _⟩ rfl dX12_writeVersion_60 ?_
    refine V_iinc (pc := 63) C (L' := [(0, vr Γ 52), (1, vi x1), (2, vi (x2 + (1 : Int)))]) 2 rfl rfl (by decide) dX12_writeVersion_63 ?_
    refine V_goto (pc := 66) C 23 dX12_writeVersion_66 (by decide) ?_
    obtain ⟨g23, h⟩ := grd_of h
    refine V_sub (L' := [(0, vr Γ 52), (1, vi x1), (2, vi (x2 + (1 : Int)))]) [0, 1, 2] rfl (by decide) ?_
    exact hkk23 _ _ _ hx1 g23 h
  have JP50 : ∀ (k23 : Int → Int → Mem → Option (Mem × Int)) (_ : ∀ (x1 : Int) (x2 : Int) (M : Mem), rng x1 → rng x2 → k23 x1 x2 M = some (M', r) → VV p l e ({ frames := 3, cells := 0, slots := 0, locals := 68 } : Room) s m args below meth c (MQ below (PostI Γ sk M' r s.heap.size) args s 0 0 (Fr Γ sk s.heap.size)) 3 Γ sk M 0 0 23 [(0, vr Γ 52), (1, vi x1), (2, vi x2)] []) {x1 : Int} {x2 : Int} {y1 : Int} {M : Mem}, rng x1 → rng x2 → rng y1 → f_X12_writeVersion_J50 fu k23 x1 x2 y1 M = some (M', r) → VV p l e ({ frames := 3, cells := 0, slots := 0, locals := 68 } : Room) s m args below meth c (MQ below (PostI Γ sk M' r s.heap.size) args s 0 0 (Fr Γ sk s.heap.size)) 3 Γ sk M 0 0 50 [(0, vr Γ 52), (1, vi x1), (2, vi x2)] [vi y1, vr Γ 52] := by
    intro k23 hkk23 x1 x2 y1 M hx1 hx2 hy1 h
    unfold f_X12_writeVersion_J50 at h
    obtain ⟨M27, r28, hc29, h⟩ := cal_of h
    refine V_callVV (pc := 50) C (c_X12_write l Γ sk hsk fu hy1 hc29) cf_X12_write lk_X12_408 ⟨rfl, rfl⟩ ⟨Nat.le_of_ble_eq_true rfl, Nat.le_of_ble_eq_true rfl⟩ e52 rfl rfl rfl (Nat.le_of_ble_eq_true rfl) ⟨Nat.zero_le _, Nat.zero_le _⟩ rfl dX12_writeVersion_50 ?_
    refine V_sub (L' := [(0, vr Γ 52), (1, vi x1), (2, vi x2)]) [0, 1, 2] rfl (by decide) ?_
    exact JP53 _ (fun _ _ _ hz0 hz1 hz => hkk23 _ _ _ hz0 hz1 hz) hx1 hx2 h
  have LP23 : ∀ (n : Nat) {x1 : Int} {x2 : Int} {M : Mem}, rng x1 → rng x2 → f_X12_writeVersion_L23 fu n x1 x2 M = some (M', r) → VV p l e ({ frames := 3, cells := 0, slots := 0, locals := 68 } : Room) s m args below meth c (MQ below (PostI Γ sk M' r s.heap.size) args s 0 0 (Fr Γ sk s.heap.size)) 3 Γ sk M 0 0 23 [(0, vr Γ 52), (1, vi x1), (2, vi x2)] [] := by
    intro n
    induction n with
    | zero =>
      intro x1 x2 M hx1 hx2 h
      cases h
    | succ n ih =>
      intro x1 x2 M hx1 hx2 h
      rw [f_X12_writeVersion_L23] at h
      refine V_iload_n (pc := 23) C 2 rfl dX12_writeVersion_23 ?_
      refine V_aload_n (pc := 24) C 0 rfl dX12_writeVersion_24 ?_
      refine V_iload_n (pc := 25) C 1 rfl dX12_writeVersion_25 ?_
      obtain ⟨M8, r9, hc10, h⟩ := cal_of h
      refine V_callVI (pc := 26) C (c_X12_lengthOf l Γ sk hsk fu hx1 hc10) cf_X12_lengthOf lk_X12_121 ⟨rfl, rfl⟩ ⟨Nat.le_of_ble_eq_true rfl, Nat.le_of_ble_eq_true rfl⟩ e52 rfl rfl rfl (Nat.le_of_ble_eq_true rfl) ⟨Nat.zero_le _, Nat.zero_le _⟩ rfl dX12_writeVersion_26 (fun hr9 => ?_)
      refine V_icmp_ge (pc := 29) C 69 hx2 hr9 dX12_writeVersion_29 (by decide) (fun c29_11 => ?_) (fun c29_11 => ?_)
      · have h := ite_t h c29_11
        refine V_aload_n (pc := 69) C 0 rfl dX12_writeVersion_69 ?_
        refine V_bipush (pc := 70) C dX12_writeVersion_70 rfl ?_
        obtain ⟨M12, r13, hc14, h⟩ := cal_of h
        refine V_callVV (pc := 72) C (c_X12_write l Γ sk hsk fu (by decide) hc14) cf_X12_write lk_X12_408 ⟨rfl, rfl⟩ ⟨Nat.le_of_ble_eq_true rfl, Nat.le_of_ble_eq_true rfl⟩ e52 rfl rfl rfl (Nat.le_of_ble_eq_true rfl) ⟨Nat.zero_le _, Nat.zero_le _⟩ rfl dX12_writeVersion_72 ?_
        refine V_aload_n (pc := 75) C 0 rfl dX12_writeVersion_75 ?_
        refine V_rng fun hM15 => ?_
        refine V_getI (pc := 76) C e52 rfl inX12 27 (by decide) rfl lf_X12_402 rfl dX12_writeVersion_76 ?_
        exact V_iret (pc := 79) C hr hlk (hM15 _ _) h dX12_writeVersion_79
      · have h := ite_f h c29_11
        refine V_iload_n (pc := 32) C 2 rfl dX12_writeVersion_32 ?_
        refine V_if_le (pc := 33) C 53 hx2 dX12_writeVersion_33 (by decide) (fun c33_16 => ?_) (fun c33_16 => ?_)
        · have h := ite_t h c33_16
          refine V_sub (L' := [(0, vr Γ 52), (1, vi x1), (2, vi x2)]) [0, 1, 2] rfl (by decide) ?_
          exact JP53 _ (fun _ _ _ hz0 hz1 hz => ih hz0 hz1 hz) hx1 hx2 h
        · have h := ite_f h c33_16
          refine V_aload_n (pc := 36) C 0 rfl dX12_writeVersion_36 ?_
          refine V_iload_n (pc := 37) C 2 rfl dX12_writeVersion_37 ?_
          refine V_iconst (pc := 38) C dX12_writeVersion_38 ?_
          obtain ⟨g24, h⟩ := grd_of h
          refine V_irem (pc := 39) C g24 dX12_writeVersion_39 ?_
          obtain ⟨g25, h⟩ := grd_of h
          refine V_if_ne (pc := 40) C 48 g25 dX12_writeVersion_40 (by decide) (fun c40_26 => ?_) (fun c40_26 => ?_)
          · have h := ite_f h c40_26
            refine V_bipush (pc := 48) C dX12_writeVersion_48 rfl ?_
            refine V_sub (L' := [(0, vr Γ 52), (1, vi x1), (2, vi x2)]) [0, 1, 2] rfl (by decide) ?_
            exact JP50 _ (fun _ _ _ hz0 hz1 hz => ih hz0 hz1 hz) hx1 hx2 (by decide) h
          · have h := ite_t h c40_26
            refine V_bipush (pc := 43) C dX12_writeVersion_43 rfl ?_
            refine V_goto (pc := 45) C 50 dX12_writeVersion_45 (by decide) ?_
            refine V_sub (L' := [(0, vr Γ 52), (1, vi x1), (2, vi x2)]) [0, 1, 2] rfl (by decide) ?_
            exact JP50 _ (fun _ _ _ hz0 hz1 hz => ih hz0 hz1 hz) hx1 hx2 (by decide) h
  skip
  refine V_aload_n (pc := 0) C 0 rfl dX12_writeVersion_0 ?_
  refine V_iload_n (pc := 1) C 1 rfl dX12_writeVersion_1 ?_
  obtain ⟨M1, r2, hc3, h⟩ := cal_of h
  refine V_callVI (pc := 2) C (c_X12_checkLive l Γ sk hsk fu ha1 hc3) cf_X12_checkLive lk_X12_343 ⟨rfl, rfl⟩ ⟨Nat.le_of_ble_eq_true rfl, Nat.le_of_ble_eq_true rfl⟩ e52 rfl rfl rfl (Nat.le_of_ble_eq_true rfl) ⟨Nat.zero_le _, Nat.zero_le _⟩ rfl dX12_writeVersion_2 (fun hr2 => ?_)
  refine V_if_ne (pc := 5) C 10 hr2 dX12_writeVersion_5 (by decide) (fun c5_4 => ?_) (fun c5_4 => ?_)
  · have h := ite_f h c5_4
    refine V_aload_n (pc := 10) C 0 rfl dX12_writeVersion_10 ?_
    refine V_iconst (pc := 11) C dX12_writeVersion_11 ?_
    refine V_putI (pc := 12) C (by decide) e52 rfl inX12 tyX12 tyX12_ok nmX12 27 (by decide) rfl rfl lf_X12_402 rfl (by decide) rfl dX12_writeVersion_12 ?_
    refine V_aload_n (pc := 15) C 0 rfl dX12_writeVersion_15 ?_
    refine V_bipush (pc := 16) C dX12_writeVersion_16 rfl ?_
    obtain ⟨M5, r6, hc7, h⟩ := cal_of h
    refine V_callVV (pc := 18) C (c_X12_write l Γ sk hsk fu (by decide) hc7) cf_X12_write lk_X12_408 ⟨rfl, rfl⟩ ⟨Nat.le_of_ble_eq_true rfl, Nat.le_of_ble_eq_true rfl⟩ e52 rfl rfl rfl (Nat.le_of_ble_eq_true rfl) ⟨Nat.zero_le _, Nat.zero_le _⟩ rfl dX12_writeVersion_18 ?_
    refine V_iconst (pc := 21) C dX12_writeVersion_21 ?_
    refine V_istore_n (pc := 22) C (L' := [(0, vr Γ 52), (1, vi a1), (2, vi (0 : Int))]) rfl (by decide) dX12_writeVersion_22 ?_
    refine V_sub (L' := [(0, vr Γ 52), (1, vi a1), (2, vi (0 : Int))]) [0, 1, 2] rfl (by decide) ?_
    exact LP23 fu  ha1 (by decide) h
  · have h := ite_t h c5_4
    refine V_iconst (pc := 8) C dX12_writeVersion_8 ?_
    exact V_iret (pc := 9) C hr hlk (by decide) h dX12_writeVersion_9
set_option maxRecDepth 100000 in
set_option maxHeartbeats 4000000 in
theorem c_X12_outputByte (l : Launch) (Γ : GG) (sk : List SD) (hsk : ExtM sk) (fu : Nat) {M M' : Mem} {a1 : Int} {r : Int} (ha1 : rng a1) (h : f_X12_outputByte fu M a1 = some (M', r)) : MetI l yX12_outputByte cX12_outputByte 2 .int ({ frames := 1, cells := 0, slots := 0, locals := 25 } : Room) Γ sk [vr Γ 52, vi a1] M M' r := by
  unfold f_X12_outputByte at h
  refine MetI_of RX12 rfl (by decide) rfl (Nat.le_of_ble_eq_true rfl) rfl ?_
  intro p e s m args below meth c C hr hlk hM
  have e52 := hsk 52 _ (by decide) rfl
  have e64 := hsk 64 _ (by decide) rfl
  refine V_aload_n (pc := 0) C 0 rfl dX12_outputByte_0 ?_
  refine V_iconst (pc := 1) C dX12_outputByte_1 ?_
  refine V_putI (pc := 2) C (by decide) e52 rfl inX12 tyX12 tyX12_ok nmX12 6 (by decide) rfl rfl lf_X12_58 rfl (by decide) rfl dX12_outputByte_2 ?_
  refine V_iload_n (pc := 5) C 1 rfl dX12_outputByte_5 ?_
  refine V_i2l (pc := 6) C ha1 dX12_outputByte_6 ?_
  refine V_lconst (pc := 7) C (x := (0 : Int)) dX12_outputByte_7 rfl ?_
  refine V_aload_n (pc := 8) C 0 rfl dX12_outputByte_8 ?_
  refine V_rng fun hM1 => ?_
  refine V_getI (pc := 9) C e52 rfl inX12 27 (by decide) rfl lf_X12_402 rfl dX12_outputByte_9 ?_
  refine V_iconst (pc := 12) C dX12_outputByte_12 ?_
  refine V_isub (pc := 13) C dX12_outputByte_13 ?_
  obtain ⟨g2, h⟩ := grd_of h
  refine V_i2l (pc := 14) C g2 dX12_outputByte_14 ?_
  obtain ⟨M3, r4, hc5, h⟩ := cal_of h
  refine V_callSI (pc := 15) C (c_X12_isWithin l Γ sk hsk fu ha1 (by decide) g2 hc5) cf_X12_isWithin lk_X12_167 ⟨rfl, rfl⟩ ⟨Nat.le_of_ble_eq_true rfl, Nat.le_of_ble_eq_true rfl⟩ rfl (Nat.le_of_ble_eq_true rfl) ⟨Nat.zero_le _, Nat.zero_le _⟩ rfl dX12_outputByte_15 (fun hr4 => ?_)
  refine V_if_eq (pc := 18) C 30 hr4 dX12_outputByte_18 (by decide) (fun c18_6 => ?_) (fun c18_6 => ?_)
  · have h := ite_t h c18_6
    refine V_iconst (pc := 30) C dX12_outputByte_30 ?_
    exact V_iret (pc := 31) C hr hlk (by decide) h dX12_outputByte_31
  · have h := ite_f h c18_6
    refine V_aload_n (pc := 21) C 0 rfl dX12_outputByte_21 ?_
    refine V_getR (pc := 22) C e52 rfl inX12 26 (by decide) rfl lf_X12_49 rfl dX12_outputByte_22 ?_
    refine V_iload_n (pc := 25) C 1 rfl dX12_outputByte_25 ?_
    refine V_rng fun hM7 => ?_
    obtain ⟨g8, h⟩ := grd_of h
    refine V_bald (pc := 26) C e64 g8 ha1 dX12_outputByte_26 ?_
    refine V_goto (pc := 27) C 31 dX12_outputByte_27 (by decide) ?_
    exact V_iret (pc := 31) C hr hlk (hM7 _ _) h dX12_outputByte_31
set_option maxRecDepth 100000 in
set_option maxHeartbeats 4000000 in
theorem c_X12_saveState (l : Launch) (Γ : GG) (sk : List SD) (hsk : ExtM sk) (fu : Nat) {M M' : Mem}  {r : Int}  (h : f_X12_saveState fu M  = some (M', r)) : MetI l yX12_saveState cX12_saveState 1 .int ({ frames := 1, cells := 0, slots := 0, locals := 22 } : Room) Γ sk [vr Γ 52] M M' r := by
  unfold f_X12_saveState at h
  refine MetI_of RX12 rfl (by decide) rfl (Nat.le_of_ble_eq_true rfl) rfl ?_
  intro p e s m args below meth c C hr hlk hM
  have e52 := hsk 52 _ (by decide) rfl
  have e53 := hsk 53 _ (by decide) rfl
  have e55 := hsk 55 _ (by decide) rfl
  refine V_aload_n (pc := 0) C 0 rfl dX12_saveState_0 ?_
  refine V_iconst (pc := 1) C dX12_saveState_1 ?_
  refine V_putI (pc := 2) C (by decide) e52 rfl inX12 tyX12 tyX12_ok nmX12 6 (by decide) rfl rfl lf_X12_58 rfl (by decide) rfl dX12_saveState_2 ?_
  refine V_aload_n (pc := 5) C 0 rfl dX12_saveState_5 ?_
  refine V_aload_n (pc := 6) C 0 rfl dX12_saveState_6 ?_
  refine V_getR (pc := 7) C e52 rfl inX12 2 (by decide) rfl lf_X12_16 rfl dX12_saveState_7 ?_
  obtain ⟨M1, r2, hc3, h⟩ := cal_of h
  refine V_callVV (pc := 10) C (c_X12_copyTo l Γ sk hsk fu e55 (by decide) (by decide) hc3) cf_X12_copyTo lk_X12_414 ⟨rfl, rfl⟩ ⟨Nat.le_of_ble_eq_true rfl, Nat.le_of_ble_eq_true rfl⟩ e52 rfl rfl rfl (Nat.le_of_ble_eq_true rfl) ⟨Nat.zero_le _, Nat.zero_le _⟩ rfl dX12_saveState_10 ?_
  refine V_aload_n (pc := 13) C 0 rfl dX12_saveState_13 ?_
  refine V_iconst (pc := 14) C dX12_saveState_14 ?_
  obtain ⟨g4, h⟩ := grd_of h
  refine V_putZ (pc := 15) C (by decide) e52 rfl inX12 tyX12 tyX12_ok nmX12 5 (by decide) rfl rfl lf_X12_262 rfl g4 rfl dX12_saveState_15 ?_
  refine V_aload_n (pc := 18) C 0 rfl dX12_saveState_18 ?_
  refine V_getR (pc := 19) C e52 rfl inX12 0 (by decide) rfl lf_X12_9 rfl dX12_saveState_19 ?_
  refine V_iconst (pc := 22) C dX12_saveState_22 ?_
  refine V_rng fun hM5 => ?_
  obtain ⟨g6, h⟩ := grd_of h
  refine V_iald (pc := 23) C e53 g6 (by decide) dX12_saveState_23 ?_
  exact V_iret (pc := 24) C hr hlk (hM5 _ _) h dX12_saveState_24
set_option maxRecDepth 100000 in
set_option maxHeartbeats 4000000 in
theorem c_X12_copyFrom (l : Launch) (Γ : GG) (sk : List SD) (hsk : ExtM sk) (fu : Nat) {M M' : Mem} {k1 : Nat} {n1 : Nat} {r : Int} (hk1 : sk[k1]? = some (.inl (0, n1))) (hn1 : n1 ≤ 2147483647) (h : f_X12_copyFrom fu M k1 n1 = some (M', r)) : MetV l yX12_copyFrom cX12_copyFrom 3 ({ frames := 0, cells := 0, slots := 0, locals := 0 } : Room) Γ sk [vr Γ 52, vr Γ k1] M M' := by
  unfold f_X12_copyFrom at h
  refine MetV_of RX12 rfl (by decide) rfl (Nat.le_of_ble_eq_true rfl) rfl ?_
  intro p e s m args below meth c C hr hlk hM
  have e52 := hsk 52 _ (by decide) rfl
  have e53 := hsk 53 _ (by decide) rfl
  have LP2 : ∀ (n : Nat) {x2 : Int} {M : Mem}, rng x2 → f_X12_copyFrom_L2 fu k1 n1 n x2 M = some (M', r) → VV p l e ({ frames := 0, cells := 0, slots := 0, locals := 0 } : Room) s m args below meth c (MQ below (PostV Γ sk M' s.heap.size) args s 0 0 (Fr Γ sk s.heap.size)) 3 Γ sk M 0 0 2 [(0, vr Γ 52), (1, vr Γ k1), (2, vi x2)] [] := by
    intro n
    induction n with
    | zero =>
      intro x2 M hx2 h
      cases h
    | succ n ih =>
      intro x2 M hx2 h
      rw [f_X12_copyFrom_L2] at h
      refine V_iload_n (pc := 2) C 2 rfl dX12_copyFrom_2 ?_
      refine V_sipush (pc := 3) C dX12_copyFrom_3 rfl ?_
      refine V_icmp_ge (pc := 6) C 24 hx2 (by decide) dX12_copyFrom_6 (by decide) (fun c6_1 => ?_) (fun c6_1 => ?_)
      · have h := ite_t h c6_1
        exact V_vret (pc := 24) C hr hlk h dX12_copyFrom_24
      · have h := ite_f h c6_1
        refine V_aload_n (pc := 9) C 0 rfl dX12_copyFrom_9 ?_
        refine V_getR (pc := 10) C e52 rfl inX12 0 (by decide) rfl lf_X12_9 rfl dX12_copyFrom_10 ?_
        refine V_iload_n (pc := 13) C 2 rfl dX12_copyFrom_13 ?_
        refine V_aload_n (pc := 14) C 1 rfl dX12_copyFrom_14 ?_
        refine V_iload_n (pc := 15) C 2 rfl dX12_copyFrom_15 ?_
        refine V_rng fun hM2 => ?_
        obtain ⟨g3, h⟩ := grd_of h
        refine V_iald (pc := 16) C hk1 g3 hx2 dX12_copyFrom_16 ?_
        obtain ⟨g4, h⟩ := grd_of h
        refine V_iast (pc := 17) C (by decide) e53 g4 hx2 (hM2 _ _) dX12_copyFrom_17 ?_
        refine V_iinc (pc := 18) C (L' := [(0, vr Γ 52), (1, vr Γ k1), (2, vi (x2 + (1 : Int)))]) 2 rfl rfl (by decide) dX12_copyFrom_18 ?_
        refine V_goto (pc := 21) C 2 dX12_copyFrom_21 (by decide) ?_
        obtain ⟨g5, h⟩ := grd_of h
        refine V_sub (L' := [(0, vr Γ 52), (1, vr Γ k1), (2, vi (x2 + (1 : Int)))]) [0, 1, 2] rfl (by decide) ?_
        exact ih g5 h
  skip
  refine V_iconst (pc := 0) C dX12_copyFrom_0 ?_
  refine V_istore_n (pc := 1) C (L' := [(0, vr Γ 52), (1, vr Γ k1), (2, vi (0 : Int))]) rfl (by decide) dX12_copyFrom_1 ?_
  refine V_sub (L' := [(0, vr Γ 52), (1, vr Γ k1), (2, vi (0 : Int))]) [0, 1, 2] rfl (by decide) ?_
  exact LP2 fu  (by decide) h
set_option maxRecDepth 100000 in
set_option maxHeartbeats 4000000 in
theorem c_X12_restoreState (l : Launch) (Γ : GG) (sk : List SD) (hsk : ExtM sk) (fu : Nat) {M M' : Mem}  {r : Int}  (h : f_X12_restoreState fu M  = some (M', r)) : MetI l yX12_restoreState cX12_restoreState 1 .int ({ frames := 1, cells := 0, slots := 0, locals := 23 } : Room) Γ sk [vr Γ 52] M M' r := by
  unfold f_X12_restoreState at h
  refine MetI_of RX12 rfl (by decide) rfl (Nat.le_of_ble_eq_true rfl) rfl ?_
  intro p e s m args below meth c C hr hlk hM
  have e52 := hsk 52 _ (by decide) rfl
  have e53 := hsk 53 _ (by decide) rfl
  have e55 := hsk 55 _ (by decide) rfl
  refine V_aload_n (pc := 0) C 0 rfl dX12_restoreState_0 ?_
  refine V_aload_n (pc := 1) C 0 rfl dX12_restoreState_1 ?_
  refine V_getI (pc := 2) C e52 rfl inX12 5 (by decide) rfl lf_X12_262 rfl dX12_restoreState_2 ?_
  refine V_iconst (pc := 5) C dX12_restoreState_5 ?_
  refine V_iconst (pc := 6) C dX12_restoreState_6 ?_
  obtain ⟨M1, r2, hc3, h⟩ := cal_of h
  refine V_callVI (pc := 7) C (c_X12_check l Γ sk hsk fu (hM _ _) (by decide) (by decide) hc3) cf_X12_check lk_X12_330 ⟨rfl, rfl⟩ ⟨Nat.le_of_ble_eq_true rfl, Nat.le_of_ble_eq_true rfl⟩ e52 rfl rfl rfl (Nat.le_of_ble_eq_true rfl) ⟨Nat.zero_le _, Nat.zero_le _⟩ rfl dX12_restoreState_7 (fun hr2 => ?_)
  refine V_if_ne (pc := 10) C 15 hr2 dX12_restoreState_10 (by decide) (fun c10_4 => ?_) (fun c10_4 => ?_)
  · have h := ite_f h c10_4
    refine V_aload_n (pc := 15) C 0 rfl dX12_restoreState_15 ?_
    refine V_aload_n (pc := 16) C 0 rfl dX12_restoreState_16 ?_
    refine V_getR (pc := 17) C e52 rfl inX12 2 (by decide) rfl lf_X12_16 rfl dX12_restoreState_17 ?_
    obtain ⟨M5, r6, hc7, h⟩ := cal_of h
    refine V_callVV (pc := 20) C (c_X12_copyFrom l Γ sk hsk fu e55 (by decide) hc7) cf_X12_copyFrom lk_X12_418 ⟨rfl, rfl⟩ ⟨Nat.le_of_ble_eq_true rfl, Nat.le_of_ble_eq_true rfl⟩ e52 rfl rfl rfl (Nat.le_of_ble_eq_true rfl) ⟨Nat.zero_le _, Nat.zero_le _⟩ rfl dX12_restoreState_20 ?_
    refine V_aload_n (pc := 23) C 0 rfl dX12_restoreState_23 ?_
    refine V_iconst (pc := 24) C dX12_restoreState_24 ?_
    refine V_putI (pc := 25) C (by decide) e52 rfl inX12 tyX12 tyX12_ok nmX12 4 (by decide) rfl rfl lf_X12_61 rfl (by decide) rfl dX12_restoreState_25 ?_
    refine V_aload_n (pc := 28) C 0 rfl dX12_restoreState_28 ?_
    refine V_getR (pc := 29) C e52 rfl inX12 0 (by decide) rfl lf_X12_9 rfl dX12_restoreState_29 ?_
    refine V_iconst (pc := 32) C dX12_restoreState_32 ?_
    refine V_rng fun hM8 => ?_
    obtain ⟨g9, h⟩ := grd_of h
    refine V_iald (pc := 33) C e53 g9 (by decide) dX12_restoreState_33 ?_
    exact V_iret (pc := 34) C hr hlk (hM8 _ _) h dX12_restoreState_34
  · have h := ite_t h c10_4
    refine V_iconst (pc := 13) C dX12_restoreState_13 ?_
    exact V_iret (pc := 14) C hr hlk (by decide) h dX12_restoreState_14
set_option maxRecDepth 100000 in
set_option maxHeartbeats 4000000 in
theorem c_X11_appendInput (l : Launch) (Γ : GG) (sk : List SD) (hsk : Ext sk) (fu : Nat) {M M' : Mem} {a1 : Int} {a2 : Int} {a3 : Int} {a4 : Int} {a5 : Int} {r : Int} (ha1 : rng a1) (ha2 : rng a2) (ha3 : rng a3) (ha4 : rng a4) (ha5 : rng a5) (h : f_X11_appendInput fu M a1 a2 a3 a4 a5 = some (M', r)) : MetI l yX11_appendInput cX11_appendInput 6 .int ({ frames := 3, cells := 0, slots := 0, locals := 64 } : Room) Γ sk [vr Γ 3, vi a1, vi a2, vi a3, vi a4, vi a5] M M' r := by
  unfold f_X11_appendInput at h
  refine MetI_of RX11 rfl (by decide) rfl (Nat.le_of_ble_eq_true rfl) rfl ?_
  intro p e s m args below meth c C hr hlk hM
  have e3 := hsk 3 _ (by decide) rfl
  have e43 := hsk 43 _ (by decide) rfl
  refine V_aload_n (pc := 0) C 0 rfl dX11_appendInput_0 ?_
  refine V_getR (pc := 1) C e3 rfl inX11 6 (by decide) rfl lf_X11_47 rfl dX11_appendInput_1 ?_
  obtain ⟨M1, r2, hc3, h⟩ := cal_of h
  refine V_callVI (pc := 4) C (c_X2_hasRoomForBlock l Γ sk hsk fu hc3) cf_X2_hasRoomForBlock lk_X11_91 ⟨rfl, rfl⟩ ⟨Nat.le_of_ble_eq_true rfl, Nat.le_of_ble_eq_true rfl⟩ e43 rfl rfl rfl (Nat.le_of_ble_eq_true rfl) ⟨Nat.zero_le _, Nat.zero_le _⟩ rfl dX11_appendInput_4 (fun hr2 => ?_)
  refine V_if_ne (pc := 7) C 12 hr2 dX11_appendInput_7 (by decide) (fun c7_4 => ?_) (fun c7_4 => ?_)
  · have h := ite_f h c7_4
    refine V_aload_n (pc := 12) C 0 rfl dX11_appendInput_12 ?_
    refine V_getR (pc := 13) C e3 rfl inX11 6 (by decide) rfl lf_X11_47 rfl dX11_appendInput_13 ?_
    refine V_iload_n (pc := 16) C 1 rfl dX11_appendInput_16 ?_
    obtain ⟨M5, r6, hc7, h⟩ := cal_of h
    refine V_callVV (pc := 17) C (c_X2_addWord l Γ sk hsk fu ha1 hc7) cf_X2_addWord lk_X11_95 ⟨rfl, rfl⟩ ⟨Nat.le_of_ble_eq_true rfl, Nat.le_of_ble_eq_true rfl⟩ e43 rfl rfl rfl (Nat.le_of_ble_eq_true rfl) ⟨Nat.zero_le _, Nat.zero_le _⟩ rfl dX11_appendInput_17 ?_
    refine V_aload_n (pc := 20) C 0 rfl dX11_appendInput_20 ?_
    refine V_getR (pc := 21) C e3 rfl inX11 6 (by decide) rfl lf_X11_47 rfl dX11_appendInput_21 ?_
    refine V_iload_n (pc := 24) C 2 rfl dX11_appendInput_24 ?_
    obtain ⟨M8, r9, hc10, h⟩ := cal_of h
    refine V_callVV (pc := 25) C (c_X2_addWord l Γ sk hsk fu ha2 hc10) cf_X2_addWord lk_X11_95 ⟨rfl, rfl⟩ ⟨Nat.le_of_ble_eq_true rfl, Nat.le_of_ble_eq_true rfl⟩ e43 rfl rfl rfl (Nat.le_of_ble_eq_true rfl) ⟨Nat.zero_le _, Nat.zero_le _⟩ rfl dX11_appendInput_25 ?_
    refine V_aload_n (pc := 28) C 0 rfl dX11_appendInput_28 ?_
    refine V_getR (pc := 29) C e3 rfl inX11 6 (by decide) rfl lf_X11_47 rfl dX11_appendInput_29 ?_
    refine V_iload_n (pc := 32) C 3 rfl dX11_appendInput_32 ?_
    obtain ⟨M11, r12, hc13, h⟩ := cal_of h
    refine V_callVV (pc := 33) C (c_X2_addWord l Γ sk hsk fu ha3 hc13) cf_X2_addWord lk_X11_95 ⟨rfl, rfl⟩ ⟨Nat.le_of_ble_eq_true rfl, Nat.le_of_ble_eq_true rfl⟩ e43 rfl rfl rfl (Nat.le_of_ble_eq_true rfl) ⟨Nat.zero_le _, Nat.zero_le _⟩ rfl dX11_appendInput_33 ?_
    refine V_aload_n (pc := 36) C 0 rfl dX11_appendInput_36 ?_
    refine V_getR (pc := 37) C e3 rfl inX11 6 (by decide) rfl lf_X11_47 rfl dX11_appendInput_37 ?_
    refine V_iload (pc := 40) C 4 rfl dX11_appendInput_40 ?_
    obtain ⟨M14, r15, hc16, h⟩ := cal_of h
    refine V_callVV (pc := 42) C (c_X2_addWord l Γ sk hsk fu ha4 hc16) cf_X2_addWord lk_X11_95 ⟨rfl, rfl⟩ ⟨Nat.le_of_ble_eq_true rfl, Nat.le_of_ble_eq_true rfl⟩ e43 rfl rfl rfl (Nat.le_of_ble_eq_true rfl) ⟨Nat.zero_le _, Nat.zero_le _⟩ rfl dX11_appendInput_42 ?_
    refine V_aload_n (pc := 45) C 0 rfl dX11_appendInput_45 ?_
    refine V_getR (pc := 46) C e3 rfl inX11 6 (by decide) rfl lf_X11_47 rfl dX11_appendInput_46 ?_
    refine V_iload (pc := 49) C 5 rfl dX11_appendInput_49 ?_
    obtain ⟨M17, r18, hc19, h⟩ := cal_of h
    refine V_callVV (pc := 51) C (c_X2_addWord l Γ sk hsk fu ha5 hc19) cf_X2_addWord lk_X11_95 ⟨rfl, rfl⟩ ⟨Nat.le_of_ble_eq_true rfl, Nat.le_of_ble_eq_true rfl⟩ e43 rfl rfl rfl (Nat.le_of_ble_eq_true rfl) ⟨Nat.zero_le _, Nat.zero_le _⟩ rfl dX11_appendInput_51 ?_
    refine V_aload_n (pc := 54) C 0 rfl dX11_appendInput_54 ?_
    refine V_getR (pc := 55) C e3 rfl inX11 6 (by decide) rfl lf_X11_47 rfl dX11_appendInput_55 ?_
    refine V_rng fun hM20 => ?_
    refine V_getI (pc := 58) C e43 rfl inX2 0 (by decide) rfl lf_X11_99 rfl dX11_appendInput_58 ?_
    exact V_iret (pc := 61) C hr hlk (hM20 _ _) h dX11_appendInput_61
  · have h := ite_t h c7_4
    refine V_iconst (pc := 10) C dX11_appendInput_10 ?_
    exact V_iret (pc := 11) C hr hlk (by decide) h dX11_appendInput_11
