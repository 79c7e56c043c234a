set_option maxRecDepth 100000 in
set_option maxHeartbeats 4000000 in
theorem c_X8_makeShorter (l : Launch) (Γ : GG) (sk : List SD) (hsk : Ext sk) (fu : Nat) {M M' : Mem} {a1 : Int} {a2 : Int} {r : Int} (ha1 : rng a1) (ha2 : rng a2) (h : f_X8_makeShorter fu M a1 a2 = some (M', r)) : MetI l yX8_makeShorter cX8_makeShorter 5 .int ({ frames := 37, cells := 0, slots := 0, locals := 1285 } : Room) Γ sk [vr Γ 4, vi a1, vi a2] M M' r := by
  unfold f_X8_makeShorter at h
  refine MetI_of RX8 rfl (by decide) rfl (Nat.le_of_ble_eq_true rfl) rfl ?_
  intro p e s m args below meth c C hr hlk hM
  have e4 := hsk 4 _ (by decide) rfl
  have e5 := hsk 5 _ (by decide) rfl
  have e10 := hsk 10 _ (by decide) rfl
  have JP35 : ∀ {x1 : Int} {x2 : Int} {x3 : Int} {x4 : Int} {M : Mem}, rng x1 → rng x2 → rng x3 → rng x4 → f_X8_makeShorter_J35 fu x1 x2 x3 x4 M = some (M', r) → VV p l e ({ frames := 37, cells := 0, slots := 0, locals := 1285 } : Room) s m args below meth c (MQ below (PostI Γ sk M' r s.heap.size) args s 0 0 (Fr Γ sk s.heap.size)) 5 Γ sk M 0 0 35 [(0, vr Γ 4), (1, vi x1), (2, vi x2), (3, vi x3), (4, vi x4)] [] := by
    intro x1 x2 x3 x4 M hx1 hx2 hx3 hx4 h
    unfold f_X8_makeShorter_J35 at h
    refine V_aload_n (pc := 35) C 0 rfl dX8_makeShorter_35 ?_
    refine V_getR (pc := 36) C e4 rfl inX8 1 (by decide) rfl lf_X8_21 rfl dX8_makeShorter_36 ?_
    refine V_iload_n (pc := 39) C 1 rfl dX8_makeShorter_39 ?_
    refine V_iload (pc := 40) C 4 rfl dX8_makeShorter_40 ?_
    refine V_iload_n (pc := 42) C 2 rfl dX8_makeShorter_42 ?_
    refine V_aload_n (pc := 43) C 0 rfl dX8_makeShorter_43 ?_
    refine V_getR (pc := 44) C e4 rfl inX8 0 (by decide) rfl lf_X8_12 rfl dX8_makeShorter_44 ?_
    refine V_rng fun hM2 => ?_
    refine V_getI (pc := 47) C e5 rfl inX3 0 (by decide) rfl lf_X8_32 rfl dX8_makeShorter_47 ?_
    refine V_iload_n (pc := 50) C 3 rfl dX8_makeShorter_50 ?_
    refine V_isub (pc := 51) C dX8_makeShorter_51 ?_
    refine V_iconst (pc := 52) C dX8_makeShorter_52 ?_
    refine V_iconst (pc := 53) C dX8_makeShorter_53 ?_
    obtain ⟨g3, h⟩ := grd_of h
    obtain ⟨M4, r5, hc6, h⟩ := cal_of h
    refine V_callVI (pc := 54) C (c_X10_add l Γ sk hsk fu hx1 hx4 hx2 g3 (by decide) (by decide) hc6) cf_X10_add lk_X8_88 ⟨rfl, rfl⟩ ⟨Nat.le_of_ble_eq_true rfl, Nat.le_of_ble_eq_true rfl⟩ e10 rfl rfl rfl (Nat.le_of_ble_eq_true rfl) ⟨Nat.zero_le _, Nat.zero_le _⟩ rfl dX8_makeShorter_54 (fun hr5 => ?_)
    exact V_iret (pc := 57) C hr hlk hr5 h dX8_makeShorter_57
  skip
  refine V_aload_n (pc := 0) C 0 rfl dX8_makeShorter_0 ?_
  refine V_getR (pc := 1) C e4 rfl inX8 0 (by decide) rfl lf_X8_12 rfl dX8_makeShorter_1 ?_
  refine V_getI (pc := 4) C e5 rfl inX3 0 (by decide) rfl lf_X8_32 rfl dX8_makeShorter_4 ?_
  refine V_istore_n (pc := 7) C (L' := [(0, vr Γ 4), (1, vi a1), (2, vi a2), (3, vi (M 5 0))]) rfl (by decide) dX8_makeShorter_7 ?_
  refine V_iconst (pc := 8) C dX8_makeShorter_8 ?_
  refine V_istore (pc := 9) C (L' := [(0, vr Γ 4), (1, vi a1), (2, vi a2), (3, vi (M 5 0)), (4, vi (-1 : Int))]) rfl (by decide) dX8_makeShorter_9 ?_
  refine V_iload_n (pc := 11) C 2 rfl dX8_makeShorter_11 ?_
  refine V_if_le (pc := 12) C 35 ha2 dX8_makeShorter_12 (by decide) (fun c12_1 => ?_) (fun c12_1 => ?_)
  · have h := ite_t h c12_1
    refine V_sub (L' := [(0, vr Γ 4), (1, vi a1), (2, vi a2), (3, vi (M 5 0)), (4, vi (-1 : Int))]) [0, 1, 2, 3, 4] rfl (by decide) ?_
    exact JP35 ha1 ha2 (hM _ _) (by decide) h
  · have h := ite_f h c12_1
    refine V_aload_n (pc := 15) C 0 rfl dX8_makeShorter_15 ?_
    refine V_aload_n (pc := 16) C 0 rfl dX8_makeShorter_16 ?_
    refine V_iload_n (pc := 17) C 1 rfl dX8_makeShorter_17 ?_
    refine V_iload_n (pc := 18) C 2 rfl dX8_makeShorter_18 ?_
    obtain ⟨M7, r8, hc9, h⟩ := cal_of h
    refine V_callNI (pc := 19) C (c_X11_heightFor l Γ sk hsk fu ha2 hc9) cf_X11_heightFor ln_X8_40 ⟨rfl, rfl⟩ ⟨Nat.le_of_ble_eq_true rfl, Nat.le_of_ble_eq_true rfl⟩ rfl (Nat.le_of_ble_eq_true rfl) ⟨Nat.zero_le _, Nat.zero_le _⟩ rfl dX8_makeShorter_19 (fun hr8 => ?_)
    obtain ⟨M10, r11, hc12, h⟩ := cal_of h
    refine V_callVI (pc := 22) C (c_X8_firstNodeAt l Γ sk hsk fu ha1 hr8 hc12) cf_X8_firstNodeAt lk_X8_95 ⟨rfl, rfl⟩ ⟨Nat.le_of_ble_eq_true rfl, Nat.le_of_ble_eq_true rfl⟩ e4 rfl rfl rfl (Nat.le_of_ble_eq_true rfl) ⟨Nat.zero_le _, Nat.zero_le _⟩ rfl dX8_makeShorter_22 (fun hr11 => ?_)
    refine V_iload_n (pc := 25) C 2 rfl dX8_makeShorter_25 ?_
    obtain ⟨M13, r14, hc15, h⟩ := cal_of h
    refine V_callNI (pc := 26) C (c_X11_heightFor l Γ sk hsk fu ha2 hc15) cf_X11_heightFor ln_X8_40 ⟨rfl, rfl⟩ ⟨Nat.le_of_ble_eq_true rfl, Nat.le_of_ble_eq_true rfl⟩ rfl (Nat.le_of_ble_eq_true rfl) ⟨Nat.zero_le _, Nat.zero_le _⟩ rfl dX8_makeShorter_26 (fun hr14 => ?_)
    refine V_iload_n (pc := 29) C 2 rfl dX8_makeShorter_29 ?_
    obtain ⟨M16, r17, hc18, h⟩ := cal_of h
    refine V_callVI (pc := 30) C (c_X8_copyWithFirst l Γ sk hsk fu 8 hr11 hr14 ha2 hc18) cf_X8_copyWithFirst lk_X8_98 ⟨rfl, rfl⟩ ⟨Nat.le_of_ble_eq_true rfl, Nat.le_of_ble_eq_true rfl⟩ e4 rfl rfl rfl (Nat.le_of_ble_eq_true rfl) ⟨Nat.zero_le _, Nat.zero_le _⟩ rfl dX8_makeShorter_30 (fun hr17 => ?_)
    refine V_istore (pc := 33) C (L' := [(0, vr Γ 4), (1, vi a1), (2, vi a2), (3, vi (M 5 0)), (4, vi r17)]) rfl (by decide) dX8_makeShorter_33 ?_
    refine V_sub (L' := [(0, vr Γ 4), (1, vi a1), (2, vi a2), (3, vi (M 5 0)), (4, vi r17)]) [0, 1, 2, 3, 4] rfl (by decide) ?_
    exact JP35 ha1 ha2 (hM _ _) hr17 h
set_option maxRecDepth 100000 in
set_option maxHeartbeats 4000000 in
theorem c_X5_clear (l : Launch) (Γ : GG) (sk : List SD) (hsk : Ext sk) (fu : Nat) {M M' : Mem}  {r : Int}  (h : f_X5_clear fu M  = some (M', r)) : MetV l yX5_clear cX5_clear 2 ({ frames := 0, cells := 0, slots := 0, locals := 0 } : Room) Γ sk [vr Γ 34] M M' := by
  unfold f_X5_clear at h
  refine MetV_of RX5 rfl (by decide) rfl (Nat.le_of_ble_eq_true rfl) rfl ?_
  intro p e s m args below meth c C hr hlk hM
  have e34 := hsk 34 _ (by decide) rfl
  have e35 := hsk 35 _ (by decide) rfl
  have LP2 : ∀ (n : Nat) {x1 : Int} {M : Mem}, rng x1 → f_X5_clear_L2 fu n x1 M = some (M', r) → VV p l e ({ frames := 0, cells := 0, slots := 0, locals := 0 } : Room) s m args below meth c (MQ below (PostV Γ sk M' s.heap.size) args s 0 0 (Fr Γ sk s.heap.size)) 2 Γ sk M 0 0 2 [(0, vr Γ 34), (1, vi x1)] [] := by
    intro n
    induction n with
    | zero =>
      intro x1 M hx1 h
      cases h
    | succ n ih =>
      intro x1 M hx1 h
      rw [f_X5_clear_L2] at h
      refine V_iload_n (pc := 2) C 1 rfl dX5_clear_2 ?_
      refine V_aload_n (pc := 3) C 0 rfl dX5_clear_3 ?_
      refine V_getR (pc := 4) C e34 rfl inX5 1 (by decide) rfl lf_X5_9 rfl dX5_clear_4 ?_
      refine V_alen (pc := 7) C e35 dX5_clear_7 ?_
      refine V_icmp_ge (pc := 8) C 24 hx1 (by decide) dX5_clear_8 (by decide) (fun c8_1 => ?_) (fun c8_1 => ?_)
      · have h := ite_t h c8_1
        exact V_vret (pc := 24) C hr hlk h dX5_clear_24
      · have h := ite_f h c8_1
        refine V_aload_n (pc := 11) C 0 rfl dX5_clear_11 ?_
        refine V_getR (pc := 12) C e34 rfl inX5 1 (by decide) rfl lf_X5_9 rfl dX5_clear_12 ?_
        refine V_iload_n (pc := 15) C 1 rfl dX5_clear_15 ?_
        refine V_iconst (pc := 16) C dX5_clear_16 ?_
        obtain ⟨g2, h⟩ := grd_of h
        obtain ⟨g3, h⟩ := grd_of h
        refine V_zast (pc := 17) C (by decide) e35 g2 hx1 g3 dX5_clear_17 ?_
        refine V_iinc (pc := 18) C (L' := [(0, vr Γ 34), (1, vi (x1 + (1 : Int)))]) 1 rfl rfl (by decide) dX5_clear_18 ?_
        refine V_goto (pc := 21) C 2 dX5_clear_21 (by decide) ?_
        obtain ⟨g4, h⟩ := grd_of h
        refine V_sub (L' := [(0, vr Γ 34), (1, vi (x1 + (1 : Int)))]) [0, 1] rfl (by decide) ?_
        exact ih g4 h
  skip
  refine V_iconst (pc := 0) C dX5_clear_0 ?_
  refine V_istore_n (pc := 1) C (L' := [(0, vr Γ 34), (1, vi (0 : Int))]) rfl (by decide) dX5_clear_1 ?_
  refine V_sub (L' := [(0, vr Γ 34), (1, vi (0 : Int))]) [0, 1] rfl (by decide) ?_
  exact LP2 fu  (by decide) h
set_option maxRecDepth 100000 in
set_option maxHeartbeats 4000000 in
theorem c_X5_visit (l : Launch) (Γ : GG) (sk : List SD) (hsk : Ext sk) (fu : Nat) : ∀ (d : Nat) {M M' : Mem} {a1 : Int} {a2 : Int} {r : Int} (ha1 : rng a1) (ha2 : rng a2) (h : f_X5_visit fu d M a1 a2 = some (M', r)), MetV l yX5_visit cX5_visit 4 ({ frames := 3 * (d + 1), cells := 0, slots := 0, locals := 103 * (d + 1) } : Room) Γ sk [vr Γ 34, vi a1, vi a2] M M' := by
  intro d
  induction d with
  | zero =>
    intro M M' a1 a2 r ha1 ha2 h
    cases h
  | succ d hsf =>
    intro M M' a1 a2 r ha1 ha2 h
    rw [f_X5_visit] at h
    refine MetV_of RX5 rfl (by decide) rfl (Nat.le_of_ble_eq_true rfl) rfl ?_
    intro p e s m args below meth c C hr hlk hM
    have e4 := hsk 4 _ (by decide) rfl
    have e5 := hsk 5 _ (by decide) rfl
    have e34 := hsk 34 _ (by decide) rfl
    have e35 := hsk 35 _ (by decide) rfl
    generalize hsfe : f_X5_visit fu d = sf at h hsf
    have LP28 : ∀ (n : Nat) {x1 : Int} {x2 : Int} {x3 : Int} {M : Mem}, rng x1 → rng x2 → rng x3 → f_X5_visit_L28 fu sf n x1 x2 x3 M = some (M', r) → VV p l e ({ frames := 3 * (d + 1 + 1), cells := 0, slots := 0, locals := 103 * (d + 1 + 1) } : Room) s m args below meth c (MQ below (PostV Γ sk M' s.heap.size) args s 0 0 (Fr Γ sk s.heap.size)) 4 Γ sk M 0 0 28 [(0, vr Γ 34), (1, vi x1), (2, vi x2), (3, vi x3)] [] := by
      intro n
      induction n with
      | zero =>
        intro x1 x2 x3 M hx1 hx2 hx3 h
        cases h
      | succ n ih =>
        intro x1 x2 x3 M hx1 hx2 hx3 h
        rw [f_X5_visit_L28] at h
        refine V_iload_n (pc := 28) C 2 rfl dX5_visit_28 ?_
        refine V_iconst (pc := 29) C dX5_visit_29 ?_
        refine V_icmp_le (pc := 30) C 73 hx2 (by decide) dX5_visit_30 (by decide) (fun c30_9 => ?_) (fun c30_9 => ?_)
        · have h := ite_t h c30_9
          exact V_vret (pc := 73) C hr hlk h dX5_visit_73
        · have h := ite_f h c30_9
          refine V_iload_n (pc := 33) C 3 rfl dX5_visit_33 ?_
          refine V_aload_n (pc := 34) C 0 rfl dX5_visit_34 ?_
          refine V_getR (pc := 35) C e34 rfl inX5 0 (by decide) rfl lf_X5_15 rfl dX5_visit_35 ?_
          refine V_getR (pc := 38) C e4 rfl inX8 0 (by decide) rfl lf_X5_23 rfl dX5_visit_38 ?_
          refine V_iload_n (pc := 41) C 1 rfl dX5_visit_41 ?_
          obtain ⟨M10, r11, hc12, h⟩ := cal_of h
          refine V_callVI (pc := 42) C (c_X3_fillAt l Γ sk hsk fu hx1 hc12) cf_X3_fillAt lk_X5_92 ⟨rfl, rfl⟩ ⟨by dsimp only; omega, by dsimp only; omega⟩ e5 rfl rfl rfl (Nat.le_of_ble_eq_true rfl) ⟨Nat.zero_le _, Nat.zero_le _⟩ rfl dX5_visit_42 (fun hr11 => ?_)
          refine V_icmp_ge (pc := 45) C 73 hx3 hr11 dX5_visit_45 (by decide) (fun c45_13 => ?_) (fun c45_13 => ?_)
          · have h := ite_t h c45_13
            exact V_vret (pc := 73) C hr hlk h dX5_visit_73
          · have h := ite_f h c45_13
            refine V_aload_n (pc := 48) C 0 rfl dX5_visit_48 ?_
            refine V_aload_n (pc := 49) C 0 rfl dX5_visit_49 ?_
            refine V_getR (pc := 50) C e34 rfl inX5 0 (by decide) rfl lf_X5_15 rfl dX5_visit_50 ?_
            refine V_getR (pc := 53) C e4 rfl inX8 0 (by decide) rfl lf_X5_23 rfl dX5_visit_53 ?_
            refine V_iload_n (pc := 56) C 1 rfl dX5_visit_56 ?_
            refine V_iload_n (pc := 57) C 3 rfl dX5_visit_57 ?_
            obtain ⟨M14, r15, hc16, h⟩ := cal_of h
            refine V_callVI (pc := 58) C (c_X3_entryAt l Γ sk hsk fu hx1 hx3 hc16) cf_X3_entryAt lk_X5_95 ⟨rfl, rfl⟩ ⟨by dsimp only; omega, by dsimp only; omega⟩ e5 rfl rfl rfl (Nat.le_of_ble_eq_true rfl) ⟨Nat.zero_le _, Nat.zero_le _⟩ rfl dX5_visit_58 (fun hr15 => ?_)
            refine V_iload_n (pc := 61) C 2 rfl dX5_visit_61 ?_
            refine V_iconst (pc := 62) C dX5_visit_62 ?_
            refine V_isub (pc := 63) C dX5_visit_63 ?_
            obtain ⟨g17, h⟩ := grd_of h
            obtain ⟨M18, r19, hc20, h⟩ := cal_of h
            refine V_callVV (pc := 64) C (hsf hr15 g17 hc20) cf_X5_visit lk_X5_75 ⟨rfl, rfl⟩ ⟨by dsimp only; omega, by dsimp only; omega⟩ e34 rfl rfl rfl (Nat.le_of_ble_eq_true rfl) ⟨Nat.zero_le _, Nat.zero_le _⟩ rfl dX5_visit_64 ?_
            refine V_iinc (pc := 67) C (L' := [(0, vr Γ 34), (1, vi x1), (2, vi x2), (3, vi (x3 + (1 : Int)))]) 3 rfl rfl (by decide) dX5_visit_67 ?_
            refine V_goto (pc := 70) C 28 dX5_visit_70 (by decide) ?_
            obtain ⟨g21, h⟩ := grd_of h
            refine V_sub (L' := [(0, vr Γ 34), (1, vi x1), (2, vi x2), (3, vi (x3 + (1 : Int)))]) [0, 1, 2, 3] rfl (by decide) ?_
            exact ih hx1 hx2 g21 h
    skip
    refine V_iload_n (pc := 0) C 2 rfl dX5_visit_0 ?_
    refine V_iconst (pc := 1) C dX5_visit_1 ?_
    refine V_icmp_lt (pc := 2) C 16 ha2 (by decide) dX5_visit_2 (by decide) (fun c2_1 => ?_) (fun c2_1 => ?_)
    · have h := ite_t h c2_1
      exact V_vret (pc := 16) C hr hlk h dX5_visit_16
    · have h := ite_f h c2_1
      refine V_aload_n (pc := 5) C 0 rfl dX5_visit_5 ?_
      refine V_getR (pc := 6) C e34 rfl inX5 1 (by decide) rfl lf_X5_9 rfl dX5_visit_6 ?_
      refine V_iload_n (pc := 9) C 1 rfl dX5_visit_9 ?_
      obtain ⟨M2, r3, hc4, h⟩ := cal_of h
      refine V_callNI (pc := 10) C (c_X11_flagAt l Γ sk hsk fu e35 (by decide) ha1 hc4) cf_X11_flagAt ln_X5_88 ⟨rfl, rfl⟩ ⟨by dsimp only; omega, by dsimp only; omega⟩ rfl (Nat.le_of_ble_eq_true rfl) ⟨Nat.zero_le _, Nat.zero_le _⟩ rfl dX5_visit_10 (fun hr3 => ?_)
      refine V_if_eq (pc := 13) C 17 hr3 dX5_visit_13 (by decide) (fun c13_5 => ?_) (fun c13_5 => ?_)
      · have h := ite_t h c13_5
        refine V_aload_n (pc := 17) C 0 rfl dX5_visit_17 ?_
        refine V_getR (pc := 18) C e34 rfl inX5 1 (by decide) rfl lf_X5_9 rfl dX5_visit_18 ?_
        refine V_iload_n (pc := 21) C 1 rfl dX5_visit_21 ?_
        refine V_iconst (pc := 22) C dX5_visit_22 ?_
        obtain ⟨M6, r7, hc8, h⟩ := cal_of h
        refine V_callNV (pc := 23) C (c_X11_putFlag l Γ sk hsk fu e35 (by decide) (by decide) ha1 (by decide) hc8) cf_X11_putFlag ln_X5_52 ⟨rfl, rfl⟩ ⟨by dsimp only; omega, by dsimp only; omega⟩ rfl (Nat.le_of_ble_eq_true rfl) ⟨Nat.zero_le _, Nat.zero_le _⟩ rfl dX5_visit_23 ?_
        refine V_iconst (pc := 26) C dX5_visit_26 ?_
        refine V_istore_n (pc := 27) C (L' := [(0, vr Γ 34), (1, vi a1), (2, vi a2), (3, vi (0 : Int))]) rfl (by decide) dX5_visit_27 ?_
        refine V_sub (L' := [(0, vr Γ 34), (1, vi a1), (2, vi a2), (3, vi (0 : Int))]) [0, 1, 2, 3] rfl (by decide) ?_
        exact LP28 fu  ha1 ha2 (by decide) h
      · have h := ite_f h c13_5
        exact V_vret (pc := 16) C hr hlk h dX5_visit_16
set_option maxRecDepth 100000 in
set_option maxHeartbeats 4000000 in
theorem c_X5_searchWithout (l : Launch) (Γ : GG) (sk : List SD) (hsk : Ext sk) (fu : Nat) {M M' : Mem} {a1 : Int} {r : Int} (ha1 : rng a1) (h : f_X5_searchWithout fu M a1 = some (M', r)) : MetV l yX5_searchWithout cX5_searchWithout 3 ({ frames := 28, cells := 0, slots := 0, locals := 950 } : Room) Γ sk [vr Γ 34, vi a1] M M' := by
  unfold f_X5_searchWithout at h
  refine MetV_of RX5 rfl (by decide) rfl (Nat.le_of_ble_eq_true rfl) rfl ?_
  intro p e s m args below meth c C hr hlk hM
  have e4 := hsk 4 _ (by decide) rfl
  have e10 := hsk 10 _ (by decide) rfl
  have e34 := hsk 34 _ (by decide) rfl
  have LP6 : ∀ (n : Nat) {x1 : Int} {x2 : Int} {M : Mem}, rng x1 → rng x2 → f_X5_searchWithout_L6 fu n x1 x2 M = some (M', r) → VV p l e ({ frames := 28, cells := 0, slots := 0, locals := 950 } : Room) s m args below meth c (MQ below (PostV Γ sk M' s.heap.size) args s 0 0 (Fr Γ sk s.heap.size)) 3 Γ sk M 0 0 6 [(0, vr Γ 34), (1, vi x1), (2, vi x2)] [] := by
    intro n
    induction n with
    | zero =>
      intro x1 x2 M hx1 hx2 h
      cases h
    | succ n ih =>
      intro x1 x2 M hx1 hx2 h
      rw [f_X5_searchWithout_L6] at h
      refine V_iload_n (pc := 6) C 2 rfl dX5_searchWithout_6 ?_
      refine V_aload_n (pc := 7) C 0 rfl dX5_searchWithout_7 ?_
      refine V_getR (pc := 8) C e34 rfl inX5 0 (by decide) rfl lf_X5_15 rfl dX5_searchWithout_8 ?_
      refine V_getR (pc := 11) C e4 rfl inX8 1 (by decide) rfl lf_X5_63 rfl dX5_searchWithout_11 ?_
      refine V_rng fun hM4 => ?_
      refine V_getI (pc := 14) C e10 rfl inX10 0 (by decide) rfl lf_X5_82 rfl dX5_searchWithout_14 ?_
      refine V_icmp_ge (pc := 17) C 68 hx2 (hM4 _ _) dX5_searchWithout_17 (by decide) (fun c17_5 => ?_) (fun c17_5 => ?_)
      · have h := ite_t h c17_5
        exact V_vret (pc := 68) C hr hlk h dX5_searchWithout_68
      · have h := ite_f h c17_5
        refine V_iload_n (pc := 20) C 2 rfl dX5_searchWithout_20 ?_
        refine V_iload_n (pc := 21) C 1 rfl dX5_searchWithout_21 ?_
        refine V_icmp_eq (pc := 22) C 62 hx2 hx1 dX5_searchWithout_22 (by decide) (fun c22_6 => ?_) (fun c22_6 => ?_)
        · have h := ite_t h c22_6
          refine V_iinc (pc := 62) C (L' := [(0, vr Γ 34), (1, vi x1), (2, vi (x2 + (1 : Int)))]) 2 rfl rfl (by decide) dX5_searchWithout_62 ?_
          refine V_goto (pc := 65) C 6 dX5_searchWithout_65 (by decide) ?_
          obtain ⟨g7, h⟩ := grd_of h
          refine V_sub (L' := [(0, vr Γ 34), (1, vi x1), (2, vi (x2 + (1 : Int)))]) [0, 1, 2] rfl (by decide) ?_
          exact ih hx1 g7 h
        · have h := ite_f h c22_6
          refine V_aload_n (pc := 25) C 0 rfl dX5_searchWithout_25 ?_
          refine V_getR (pc := 26) C e34 rfl inX5 0 (by decide) rfl lf_X5_15 rfl dX5_searchWithout_26 ?_
          refine V_getR (pc := 29) C e4 rfl inX8 1 (by decide) rfl lf_X5_63 rfl dX5_searchWithout_29 ?_
          refine V_iload_n (pc := 32) C 2 rfl dX5_searchWithout_32 ?_
          obtain ⟨M8, r9, hc10, h⟩ := cal_of h
          refine V_callVI (pc := 33) C (c_X10_isLive l Γ sk hsk fu hx2 hc10) cf_X10_isLive lk_X5_85 ⟨rfl, rfl⟩ ⟨Nat.le_of_ble_eq_true rfl, Nat.le_of_ble_eq_true rfl⟩ e10 rfl rfl rfl (Nat.le_of_ble_eq_true rfl) ⟨Nat.zero_le _, Nat.zero_le _⟩ rfl dX5_searchWithout_33 (fun hr9 => ?_)
          refine V_if_eq (pc := 36) C 62 hr9 dX5_searchWithout_36 (by decide) (fun c36_11 => ?_) (fun c36_11 => ?_)
          · have h := ite_t h c36_11
            refine V_iinc (pc := 62) C (L' := [(0, vr Γ 34), (1, vi x1), (2, vi (x2 + (1 : Int)))]) 2 rfl rfl (by decide) dX5_searchWithout_62 ?_
            refine V_goto (pc := 65) C 6 dX5_searchWithout_65 (by decide) ?_
            obtain ⟨g12, h⟩ := grd_of h
            refine V_sub (L' := [(0, vr Γ 34), (1, vi x1), (2, vi (x2 + (1 : Int)))]) [0, 1, 2] rfl (by decide) ?_
            exact ih hx1 g12 h
          · have h := ite_f h c36_11
            refine V_aload_n (pc := 39) C 0 rfl dX5_searchWithout_39 ?_
            refine V_aload_n (pc := 40) C 0 rfl dX5_searchWithout_40 ?_
            refine V_getR (pc := 41) C e34 rfl inX5 0 (by decide) rfl lf_X5_15 rfl dX5_searchWithout_41 ?_
            refine V_getR (pc := 44) C e4 rfl inX8 1 (by decide) rfl lf_X5_63 rfl dX5_searchWithout_44 ?_
            refine V_iload_n (pc := 47) C 2 rfl dX5_searchWithout_47 ?_
            obtain ⟨M13, r14, hc15, h⟩ := cal_of h
            refine V_callVI (pc := 48) C (c_X10_rootAt l Γ sk hsk fu hx2 hc15) cf_X10_rootAt lk_X5_67 ⟨rfl, rfl⟩ ⟨Nat.le_of_ble_eq_true rfl, Nat.le_of_ble_eq_true rfl⟩ e10 rfl rfl rfl (Nat.le_of_ble_eq_true rfl) ⟨Nat.zero_le _, Nat.zero_le _⟩ rfl dX5_searchWithout_48 (fun hr14 => ?_)
            refine V_aload_n (pc := 51) C 0 rfl dX5_searchWithout_51 ?_
            refine V_getR (pc := 52) C e34 rfl inX5 0 (by decide) rfl lf_X5_15 rfl dX5_searchWithout_52 ?_
            refine V_iload_n (pc := 55) C 2 rfl dX5_searchWithout_55 ?_
            obtain ⟨M16, r17, hc18, h⟩ := cal_of h
            refine V_callVI (pc := 56) C (c_X8_heightAt l Γ sk hsk fu hx2 hc18) cf_X8_heightAt lk_X5_72 ⟨rfl, rfl⟩ ⟨Nat.le_of_ble_eq_true rfl, Nat.le_of_ble_eq_true rfl⟩ e4 rfl rfl rfl (Nat.le_of_ble_eq_true rfl) ⟨Nat.zero_le _, Nat.zero_le _⟩ rfl dX5_searchWithout_56 (fun hr17 => ?_)
            obtain ⟨M19, r20, hc21, h⟩ := cal_of h
            refine V_callVV (pc := 59) C (c_X5_visit l Γ sk hsk fu 8 hr14 hr17 hc21) cf_X5_visit lk_X5_75 ⟨rfl, rfl⟩ ⟨Nat.le_of_ble_eq_true rfl, Nat.le_of_ble_eq_true rfl⟩ e34 rfl rfl rfl (Nat.le_of_ble_eq_true rfl) ⟨Nat.zero_le _, Nat.zero_le _⟩ rfl dX5_searchWithout_59 ?_
            refine V_iinc (pc := 62) C (L' := [(0, vr Γ 34), (1, vi x1), (2, vi (x2 + (1 : Int)))]) 2 rfl rfl (by decide) dX5_searchWithout_62 ?_
            refine V_goto (pc := 65) C 6 dX5_searchWithout_65 (by decide) ?_
            obtain ⟨g22, h⟩ := grd_of h
            refine V_sub (L' := [(0, vr Γ 34), (1, vi x1), (2, vi (x2 + (1 : Int)))]) [0, 1, 2] rfl (by decide) ?_
            exact ih hx1 g22 h
  skip
  refine V_aload_n (pc := 0) C 0 rfl dX5_searchWithout_0 ?_
  obtain ⟨M1, r2, hc3, h⟩ := cal_of h
  refine V_callVV (pc := 1) C (c_X5_clear l Γ sk hsk fu hc3) cf_X5_clear lk_X5_60 ⟨rfl, rfl⟩ ⟨Nat.le_of_ble_eq_true rfl, Nat.le_of_ble_eq_true rfl⟩ e34 rfl rfl rfl (Nat.le_of_ble_eq_true rfl) ⟨Nat.zero_le _, Nat.zero_le _⟩ rfl dX5_searchWithout_1 ?_
  refine V_iconst (pc := 4) C dX5_searchWithout_4 ?_
  refine V_istore_n (pc := 5) C (L' := [(0, vr Γ 34), (1, vi a1), (2, vi (0 : Int))]) rfl (by decide) dX5_searchWithout_5 ?_
  refine V_sub (L' := [(0, vr Γ 34), (1, vi a1), (2, vi (0 : Int))]) [0, 1, 2] rfl (by decide) ?_
  exact LP6 fu  ha1 (by decide) h
set_option maxRecDepth 100000 in
set_option maxHeartbeats 4000000 in
theorem c_X5_has (l : Launch) (Γ : GG) (sk : List SD) (hsk : Ext sk) (fu : Nat) {M M' : Mem} {a1 : Int} {r : Int} (ha1 : rng a1) (h : f_X5_has fu M a1 = some (M', r)) : MetI l yX5_has cX5_has 2 .boolean ({ frames := 1, cells := 0, slots := 0, locals := 21 } : Room) Γ sk [vr Γ 34, vi a1] M M' r := by
  unfold f_X5_has at h
  refine MetI_of RX5 rfl (by decide) rfl (Nat.le_of_ble_eq_true rfl) rfl ?_
  intro p e s m args below meth c C hr hlk hM
  have e34 := hsk 34 _ (by decide) rfl
  have e35 := hsk 35 _ (by decide) rfl
  refine V_aload_n (pc := 0) C 0 rfl dX5_has_0 ?_
  refine V_getR (pc := 1) C e34 rfl inX5 1 (by decide) rfl lf_X5_9 rfl dX5_has_1 ?_
  refine V_iload_n (pc := 4) C 1 rfl dX5_has_4 ?_
  obtain ⟨M1, r2, hc3, h⟩ := cal_of h
  refine V_callNI (pc := 5) C (c_X11_flagAt l Γ sk hsk fu e35 (by decide) ha1 hc3) cf_X11_flagAt ln_X5_88 ⟨rfl, rfl⟩ ⟨Nat.le_of_ble_eq_true rfl, Nat.le_of_ble_eq_true rfl⟩ rfl (Nat.le_of_ble_eq_true rfl) ⟨Nat.zero_le _, Nat.zero_le _⟩ rfl dX5_has_5 (fun hr2 => ?_)
  obtain ⟨g4, h⟩ := grd_of h
  exact V_zret (pc := 8) C hr hlk g4 h dX5_has_8
set_option maxRecDepth 100000 in
set_option maxHeartbeats 4000000 in
theorem c_X5_countReached (l : Launch) (Γ : GG) (sk : List SD) (hsk : Ext sk) (fu : Nat) {M M' : Mem}  {r : Int}  (h : f_X5_countReached fu M  = some (M', r)) : MetI l yX5_countReached cX5_countReached 3 .int ({ frames := 2, cells := 0, slots := 0, locals := 42 } : Room) Γ sk [vr Γ 34] M M' r := by
  unfold f_X5_countReached at h
  refine MetI_of RX5 rfl (by decide) rfl (Nat.le_of_ble_eq_true rfl) rfl ?_
  intro p e s m args below meth c C hr hlk hM
  have e4 := hsk 4 _ (by decide) rfl
  have e5 := hsk 5 _ (by decide) rfl
  have e34 := hsk 34 _ (by decide) rfl
  have LP4 : ∀ (n : Nat) {x1 : Int} {x2 : Int} {M : Mem}, rng x1 → rng x2 → f_X5_countReached_L4 fu n x1 x2 M = some (M', r) → VV p l e ({ frames := 2, cells := 0, slots := 0, locals := 42 } : Room) s m args below meth c (MQ below (PostI Γ sk M' r s.heap.size) args s 0 0 (Fr Γ sk s.heap.size)) 3 Γ sk M 0 0 4 [(0, vr Γ 34), (1, vi x1), (2, vi x2)] [] := by
    intro n
    induction n with
    | zero =>
      intro x1 x2 M hx1 hx2 h
      cases h
    | succ n ih =>
      intro x1 x2 M hx1 hx2 h
      rw [f_X5_countReached_L4] at h
      refine V_iload_n (pc := 4) C 2 rfl dX5_countReached_4 ?_
      refine V_aload_n (pc := 5) C 0 rfl dX5_countReached_5 ?_
      refine V_getR (pc := 6) C e34 rfl inX5 0 (by decide) rfl lf_X5_15 rfl dX5_countReached_6 ?_
      refine V_getR (pc := 9) C e4 rfl inX8 0 (by decide) rfl lf_X5_23 rfl dX5_countReached_9 ?_
      refine V_rng fun hM1 => ?_
      refine V_getI (pc := 12) C e5 rfl inX3 0 (by decide) rfl lf_X5_38 rfl dX5_countReached_12 ?_
      refine V_icmp_ge (pc := 15) C 35 hx2 (hM1 _ _) dX5_countReached_15 (by decide) (fun c15_2 => ?_) (fun c15_2 => ?_)
      · have h := ite_t h c15_2
        refine V_iload_n (pc := 35) C 1 rfl dX5_countReached_35 ?_
        exact V_iret (pc := 36) C hr hlk hx1 h dX5_countReached_36
      · have h := ite_f h c15_2
        refine V_aload_n (pc := 18) C 0 rfl dX5_countReached_18 ?_
        refine V_iload_n (pc := 19) C 2 rfl dX5_countReached_19 ?_
        obtain ⟨M3, r4, hc5, h⟩ := cal_of h
        refine V_callVI (pc := 20) C (c_X5_has l Γ sk hsk fu hx2 hc5) cf_X5_has lk_X5_46 ⟨rfl, rfl⟩ ⟨Nat.le_of_ble_eq_true rfl, Nat.le_of_ble_eq_true rfl⟩ e34 rfl rfl rfl (Nat.le_of_ble_eq_true rfl) ⟨Nat.zero_le _, Nat.zero_le _⟩ rfl dX5_countReached_20 (fun hr4 => ?_)
        refine V_if_eq (pc := 23) C 29 hr4 dX5_countReached_23 (by decide) (fun c23_6 => ?_) (fun c23_6 => ?_)
        · have h := ite_t h c23_6
          refine V_iinc (pc := 29) C (L' := [(0, vr Γ 34), (1, vi x1), (2, vi (x2 + (1 : Int)))]) 2 rfl rfl (by decide) dX5_countReached_29 ?_
          refine V_goto (pc := 32) C 4 dX5_countReached_32 (by decide) ?_
          obtain ⟨g7, h⟩ := grd_of h
          refine V_sub (L' := [(0, vr Γ 34), (1, vi x1), (2, vi (x2 + (1 : Int)))]) [0, 1, 2] rfl (by decide) ?_
          exact ih hx1 g7 h
        · have h := ite_f h c23_6
          refine V_iinc (pc := 26) C (L' := [(0, vr Γ 34), (1, vi (x1 + (1 : Int))), (2, vi x2)]) 1 rfl rfl (by decide) dX5_countReached_26 ?_
          refine V_iinc (pc := 29) C (L' := [(0, vr Γ 34), (1, vi (x1 + (1 : Int))), (2, vi (x2 + (1 : Int)))]) 2 rfl rfl (by decide) dX5_countReached_29 ?_
          refine V_goto (pc := 32) C 4 dX5_countReached_32 (by decide) ?_
          obtain ⟨g8, h⟩ := grd_of h
          obtain ⟨g9, h⟩ := grd_of h
          refine V_sub (L' := [(0, vr Γ 34), (1, vi (x1 + (1 : Int))), (2, vi (x2 + (1 : Int)))]) [0, 1, 2] rfl (by decide) ?_
          exact ih g8 g9 h
  skip
  refine V_iconst (pc := 0) C dX5_countReached_0 ?_
  refine V_istore_n (pc := 1) C (L' := [(0, vr Γ 34), (1, vi (0 : Int))]) rfl (by decide) dX5_countReached_1 ?_
  refine V_iconst (pc := 2) C dX5_countReached_2 ?_
  refine V_istore_n (pc := 3) C (L' := [(0, vr Γ 34), (1, vi (0 : Int)), (2, vi (0 : Int))]) rfl (by decide) dX5_countReached_3 ?_
  refine V_sub (L' := [(0, vr Γ 34), (1, vi (0 : Int)), (2, vi (0 : Int))]) [0, 1, 2] rfl (by decide) ?_
  exact LP4 fu  (by decide) (by decide) h
set_option maxRecDepth 100000 in
set_option maxHeartbeats 4000000 in
theorem c_X5_countGarbage (l : Launch) (Γ : GG) (sk : List SD) (hsk : Ext sk) (fu : Nat) {M M' : Mem}  {r : Int}  (h : f_X5_countGarbage fu M  = some (M', r)) : MetI l yX5_countGarbage cX5_countGarbage 1 .int ({ frames := 29, cells := 0, slots := 0, locals := 972 } : Room) Γ sk [vr Γ 34] M M' r := by
  unfold f_X5_countGarbage at h
  refine MetI_of RX5 rfl (by decide) rfl (Nat.le_of_ble_eq_true rfl) rfl ?_
  intro p e s m args below meth c C hr hlk hM
  have e4 := hsk 4 _ (by decide) rfl
  have e5 := hsk 5 _ (by decide) rfl
  have e34 := hsk 34 _ (by decide) rfl
  refine V_aload_n (pc := 0) C 0 rfl dX5_countGarbage_0 ?_
  refine V_iconst (pc := 1) C dX5_countGarbage_1 ?_
  obtain ⟨M1, r2, hc3, h⟩ := cal_of h
  refine V_callVV (pc := 2) C (c_X5_searchWithout l Γ sk hsk fu (by decide) hc3) cf_X5_searchWithout lk_X5_19 ⟨rfl, rfl⟩ ⟨Nat.le_of_ble_eq_true rfl, Nat.le_of_ble_eq_true rfl⟩ e34 rfl rfl rfl (Nat.le_of_ble_eq_true rfl) ⟨Nat.zero_le _, Nat.zero_le _⟩ rfl dX5_countGarbage_2 ?_
  refine V_aload_n (pc := 5) C 0 rfl dX5_countGarbage_5 ?_
  refine V_getR (pc := 6) C e34 rfl inX5 0 (by decide) rfl lf_X5_15 rfl dX5_countGarbage_6 ?_
  refine V_getR (pc := 9) C e4 rfl inX8 0 (by decide) rfl lf_X5_23 rfl dX5_countGarbage_9 ?_
  obtain ⟨M4, r5, hc6, h⟩ := cal_of h
  refine V_callVI (pc := 12) C (c_X3_countStored l Γ sk hsk fu hc6) cf_X3_countStored lk_X5_29 ⟨rfl, rfl⟩ ⟨Nat.le_of_ble_eq_true rfl, Nat.le_of_ble_eq_true rfl⟩ e5 rfl rfl rfl (Nat.le_of_ble_eq_true rfl) ⟨Nat.zero_le _, Nat.zero_le _⟩ rfl dX5_countGarbage_12 (fun hr5 => ?_)
  refine V_aload_n (pc := 15) C 0 rfl dX5_countGarbage_15 ?_
  obtain ⟨M7, r8, hc9, h⟩ := cal_of h
  refine V_callVI (pc := 16) C (c_X5_countReached l Γ sk hsk fu hc9) cf_X5_countReached lk_X5_35 ⟨rfl, rfl⟩ ⟨Nat.le_of_ble_eq_true rfl, Nat.le_of_ble_eq_true rfl⟩ e34 rfl rfl rfl (Nat.le_of_ble_eq_true rfl) ⟨Nat.zero_le _, Nat.zero_le _⟩ rfl dX5_countGarbage_16 (fun hr8 => ?_)
  refine V_isub (pc := 19) C dX5_countGarbage_19 ?_
  obtain ⟨g10, h⟩ := grd_of h
  exact V_iret (pc := 20) C hr hlk g10 h dX5_countGarbage_20
set_option maxRecDepth 100000 in
set_option maxHeartbeats 4000000 in
theorem c_X5_removeGarbage (l : Launch) (Γ : GG) (sk : List SD) (hsk : Ext sk) (fu : Nat) {M M' : Mem}  {r : Int}  (h : f_X5_removeGarbage fu M  = some (M', r)) : MetI l yX5_removeGarbage cX5_removeGarbage 3 .int ({ frames := 29, cells := 0, slots := 0, locals := 972 } : Room) Γ sk [vr Γ 34] M M' r := by
  unfold f_X5_removeGarbage at h
  refine MetI_of RX5 rfl (by decide) rfl (Nat.le_of_ble_eq_true rfl) rfl ?_
  intro p e s m args below meth c C hr hlk hM
  have e4 := hsk 4 _ (by decide) rfl
  have e5 := hsk 5 _ (by decide) rfl
  have e9 := hsk 9 _ (by decide) rfl
  have e34 := hsk 34 _ (by decide) rfl
  have LP9 : ∀ (n : Nat) {x1 : Int} {x2 : Int} {M : Mem}, rng x1 → rng x2 → f_X5_removeGarbage_L9 fu n x1 x2 M = some (M', r) → VV p l e ({ frames := 29, cells := 0, slots := 0, locals := 972 } : Room) s m args below meth c (MQ below (PostI Γ sk M' r s.heap.size) args s 0 0 (Fr Γ sk s.heap.size)) 3 Γ sk M 0 0 9 [(0, vr Γ 34), (1, vi x1), (2, vi x2)] [] := by
    intro n
    induction n with
    | zero =>
      intro x1 x2 M hx1 hx2 h
      cases h
    | succ n ih =>
      intro x1 x2 M hx1 hx2 h
      rw [f_X5_removeGarbage_L9] at h
      refine V_iload_n (pc := 9) C 2 rfl dX5_removeGarbage_9 ?_
      refine V_aload_n (pc := 10) C 0 rfl dX5_removeGarbage_10 ?_
      refine V_getR (pc := 11) C e34 rfl inX5 0 (by decide) rfl lf_X5_15 rfl dX5_removeGarbage_11 ?_
      refine V_getR (pc := 14) C e4 rfl inX8 0 (by decide) rfl lf_X5_23 rfl dX5_removeGarbage_14 ?_
      refine V_rng fun hM4 => ?_
      refine V_getI (pc := 17) C e5 rfl inX3 0 (by decide) rfl lf_X5_38 rfl dX5_removeGarbage_17 ?_
      refine V_icmp_ge (pc := 20) C 69 hx2 (hM4 _ _) dX5_removeGarbage_20 (by decide) (fun c20_5 => ?_) (fun c20_5 => ?_)
      · have h := ite_t h c20_5
        refine V_iload_n (pc := 69) C 1 rfl dX5_removeGarbage_69 ?_
        exact V_iret (pc := 70) C hr hlk hx1 h dX5_removeGarbage_70
      · have h := ite_f h c20_5
        refine V_aload_n (pc := 23) C 0 rfl dX5_removeGarbage_23 ?_
        refine V_getR (pc := 24) C e34 rfl inX5 0 (by decide) rfl lf_X5_15 rfl dX5_removeGarbage_24 ?_
        refine V_getR (pc := 27) C e4 rfl inX8 0 (by decide) rfl lf_X5_23 rfl dX5_removeGarbage_27 ?_
        refine V_iload_n (pc := 30) C 2 rfl dX5_removeGarbage_30 ?_
        obtain ⟨M6, r7, hc8, h⟩ := cal_of h
        refine V_callVI (pc := 31) C (c_X3_isStored l Γ sk hsk fu hx2 hc8) cf_X3_isStored lk_X5_42 ⟨rfl, rfl⟩ ⟨Nat.le_of_ble_eq_true rfl, Nat.le_of_ble_eq_true rfl⟩ e5 rfl rfl rfl (Nat.le_of_ble_eq_true rfl) ⟨Nat.zero_le _, Nat.zero_le _⟩ rfl dX5_removeGarbage_31 (fun hr7 => ?_)
        refine V_if_eq (pc := 34) C 63 hr7 dX5_removeGarbage_34 (by decide) (fun c34_9 => ?_) (fun c34_9 => ?_)
        · have h := ite_t h c34_9
          refine V_iinc (pc := 63) C (L' := [(0, vr Γ 34), (1, vi x1), (2, vi (x2 + (1 : Int)))]) 2 rfl rfl (by decide) dX5_removeGarbage_63 ?_
          refine V_goto (pc := 66) C 9 dX5_removeGarbage_66 (by decide) ?_
          obtain ⟨g10, h⟩ := grd_of h
          refine V_sub (L' := [(0, vr Γ 34), (1, vi x1), (2, vi (x2 + (1 : Int)))]) [0, 1, 2] rfl (by decide) ?_
          exact ih hx1 g10 h
        · have h := ite_f h c34_9
          refine V_aload_n (pc := 37) C 0 rfl dX5_removeGarbage_37 ?_
          refine V_iload_n (pc := 38) C 2 rfl dX5_removeGarbage_38 ?_
          obtain ⟨M11, r12, hc13, h⟩ := cal_of h
          refine V_callVI (pc := 39) C (c_X5_has l Γ sk hsk fu hx2 hc13) cf_X5_has lk_X5_46 ⟨rfl, rfl⟩ ⟨Nat.le_of_ble_eq_true rfl, Nat.le_of_ble_eq_true rfl⟩ e34 rfl rfl rfl (Nat.le_of_ble_eq_true rfl) ⟨Nat.zero_le _, Nat.zero_le _⟩ rfl dX5_removeGarbage_39 (fun hr12 => ?_)
          refine V_if_ne (pc := 42) C 63 hr12 dX5_removeGarbage_42 (by decide) (fun c42_14 => ?_) (fun c42_14 => ?_)
          · have h := ite_f h c42_14
            refine V_iinc (pc := 63) C (L' := [(0, vr Γ 34), (1, vi x1), (2, vi (x2 + (1 : Int)))]) 2 rfl rfl (by decide) dX5_removeGarbage_63 ?_
            refine V_goto (pc := 66) C 9 dX5_removeGarbage_66 (by decide) ?_
            obtain ⟨g15, h⟩ := grd_of h
            refine V_sub (L' := [(0, vr Γ 34), (1, vi x1), (2, vi (x2 + (1 : Int)))]) [0, 1, 2] rfl (by decide) ?_
            exact ih hx1 g15 h
          · have h := ite_t h c42_14
            refine V_aload_n (pc := 45) C 0 rfl dX5_removeGarbage_45 ?_
            refine V_getR (pc := 46) C e34 rfl inX5 0 (by decide) rfl lf_X5_15 rfl dX5_removeGarbage_46 ?_
            refine V_getR (pc := 49) C e4 rfl inX8 0 (by decide) rfl lf_X5_23 rfl dX5_removeGarbage_49 ?_
            refine V_getR (pc := 52) C e5 rfl inX3 4 (by decide) rfl lf_X5_49 rfl dX5_removeGarbage_52 ?_
            refine V_iload_n (pc := 55) C 2 rfl dX5_removeGarbage_55 ?_
            refine V_iconst (pc := 56) C dX5_removeGarbage_56 ?_
            obtain ⟨M16, r17, hc18, h⟩ := cal_of h
            refine V_callNV (pc := 57) C (c_X11_putFlag l Γ sk hsk fu e9 (by decide) (by decide) hx2 (by decide) hc18) cf_X11_putFlag ln_X5_52 ⟨rfl, rfl⟩ ⟨Nat.le_of_ble_eq_true rfl, Nat.le_of_ble_eq_true rfl⟩ rfl (Nat.le_of_ble_eq_true rfl) ⟨Nat.zero_le _, Nat.zero_le _⟩ rfl dX5_removeGarbage_57 ?_
            refine V_iinc (pc := 60) C (L' := [(0, vr Γ 34), (1, vi (x1 + (1 : Int))), (2, vi x2)]) 1 rfl rfl (by decide) dX5_removeGarbage_60 ?_
            refine V_iinc (pc := 63) C (L' := [(0, vr Γ 34), (1, vi (x1 + (1 : Int))), (2, vi (x2 + (1 : Int)))]) 2 rfl rfl (by decide) dX5_removeGarbage_63 ?_
            refine V_goto (pc := 66) C 9 dX5_removeGarbage_66 (by decide) ?_
            obtain ⟨g19, h⟩ := grd_of h
            obtain ⟨g20, h⟩ := grd_of h
            refine V_sub (L' := [(0, vr Γ 34), (1, vi (x1 + (1 : Int))), (2, vi (x2 + (1 : Int)))]) [0, 1, 2] rfl (by decide) ?_
            exact ih g19 g20 h
  skip
  refine V_aload_n (pc := 0) C 0 rfl dX5_removeGarbage_0 ?_
  refine V_iconst (pc := 1) C dX5_removeGarbage_1 ?_
  obtain ⟨M1, r2, hc3, h⟩ := cal_of h
  refine V_callVV (pc := 2) C (c_X5_searchWithout l Γ sk hsk fu (by decide) hc3) cf_X5_searchWithout lk_X5_19 ⟨rfl, rfl⟩ ⟨Nat.le_of_ble_eq_true rfl, Nat.le_of_ble_eq_true rfl⟩ e34 rfl rfl rfl (Nat.le_of_ble_eq_true rfl) ⟨Nat.zero_le _, Nat.zero_le _⟩ rfl dX5_removeGarbage_2 ?_
  refine V_iconst (pc := 5) C dX5_removeGarbage_5 ?_
  refine V_istore_n (pc := 6) C (L' := [(0, vr Γ 34), (1, vi (0 : Int))]) rfl (by decide) dX5_removeGarbage_6 ?_
  refine V_iconst (pc := 7) C dX5_removeGarbage_7 ?_
  refine V_istore_n (pc := 8) C (L' := [(0, vr Γ 34), (1, vi (0 : Int)), (2, vi (0 : Int))]) rfl (by decide) dX5_removeGarbage_8 ?_
  refine V_sub (L' := [(0, vr Γ 34), (1, vi (0 : Int)), (2, vi (0 : Int))]) [0, 1, 2] rfl (by decide) ?_
  exact LP9 fu  (by decide) (by decide) h
set_option maxRecDepth 100000 in
set_option maxHeartbeats 4000000 in
theorem c_X5_countReachedWithout (l : Launch) (Γ : GG) (sk : List SD) (hsk : Ext sk) (fu : Nat) {M M' : Mem} {a1 : Int} {r : Int} (ha1 : rng a1) (h : f_X5_countReachedWithout fu M a1 = some (M', r)) : MetI l yX5_countReachedWithout cX5_countReachedWithout 2 .int ({ frames := 29, cells := 0, slots := 0, locals := 972 } : Room) Γ sk [vr Γ 34, vi a1] M M' r := by
  unfold f_X5_countReachedWithout at h
  refine MetI_of RX5 rfl (by decide) rfl (Nat.le_of_ble_eq_true rfl) rfl ?_
  intro p e s m args below meth c C hr hlk hM
  have e34 := hsk 34 _ (by decide) rfl
  refine V_aload_n (pc := 0) C 0 rfl dX5_countReachedWithout_0 ?_
  refine V_iload_n (pc := 1) C 1 rfl dX5_countReachedWithout_1 ?_
  obtain ⟨M1, r2, hc3, h⟩ := cal_of h
  refine V_callVV (pc := 2) C (c_X5_searchWithout l Γ sk hsk fu ha1 hc3) cf_X5_searchWithout lk_X5_19 ⟨rfl, rfl⟩ ⟨Nat.le_of_ble_eq_true rfl, Nat.le_of_ble_eq_true rfl⟩ e34 rfl rfl rfl (Nat.le_of_ble_eq_true rfl) ⟨Nat.zero_le _, Nat.zero_le _⟩ rfl dX5_countReachedWithout_2 ?_
  refine V_aload_n (pc := 5) C 0 rfl dX5_countReachedWithout_5 ?_
  obtain ⟨M4, r5, hc6, h⟩ := cal_of h
  refine V_callVI (pc := 6) C (c_X5_countReached l Γ sk hsk fu hc6) cf_X5_countReached lk_X5_35 ⟨rfl, rfl⟩ ⟨Nat.le_of_ble_eq_true rfl, Nat.le_of_ble_eq_true rfl⟩ e34 rfl rfl rfl (Nat.le_of_ble_eq_true rfl) ⟨Nat.zero_le _, Nat.zero_le _⟩ rfl dX5_countReachedWithout_6 (fun hr5 => ?_)
  exact V_iret (pc := 9) C hr hlk hr5 h dX5_countReachedWithout_9
set_option maxRecDepth 100000 in
set_option maxHeartbeats 4000000 in
theorem c_X5_countExclusive (l : Launch) (Γ : GG) (sk : List SD) (hsk : Ext sk) (fu : Nat) {M M' : Mem} {a1 : Int} {r : Int} (ha1 : rng a1) (h : f_X5_countExclusive fu M a1 = some (M', r)) : MetI l yX5_countExclusive cX5_countExclusive 2 .int ({ frames := 30, cells := 0, slots := 0, locals := 993 } : Room) Γ sk [vr Γ 34, vi a1] M M' r := by
  unfold f_X5_countExclusive at h
  refine MetI_of RX5 rfl (by decide) rfl (Nat.le_of_ble_eq_true rfl) rfl ?_
  intro p e s m args below meth c C hr hlk hM
  have e34 := hsk 34 _ (by decide) rfl
  refine V_aload_n (pc := 0) C 0 rfl dX5_countExclusive_0 ?_
  refine V_iconst (pc := 1) C dX5_countExclusive_1 ?_
  obtain ⟨M1, r2, hc3, h⟩ := cal_of h
  refine V_callVI (pc := 2) C (c_X5_countReachedWithout l Γ sk hsk fu (by decide) hc3) cf_X5_countReachedWithout lk_X5_56 ⟨rfl, rfl⟩ ⟨Nat.le_of_ble_eq_true rfl, Nat.le_of_ble_eq_true rfl⟩ e34 rfl rfl rfl (Nat.le_of_ble_eq_true rfl) ⟨Nat.zero_le _, Nat.zero_le _⟩ rfl dX5_countExclusive_2 (fun hr2 => ?_)
  refine V_aload_n (pc := 5) C 0 rfl dX5_countExclusive_5 ?_
  refine V_iload_n (pc := 6) C 1 rfl dX5_countExclusive_6 ?_
  obtain ⟨M4, r5, hc6, h⟩ := cal_of h
  refine V_callVI (pc := 7) C (c_X5_countReachedWithout l Γ sk hsk fu ha1 hc6) cf_X5_countReachedWithout lk_X5_56 ⟨rfl, rfl⟩ ⟨Nat.le_of_ble_eq_true rfl, Nat.le_of_ble_eq_true rfl⟩ e34 rfl rfl rfl (Nat.le_of_ble_eq_true rfl) ⟨Nat.zero_le _, Nat.zero_le _⟩ rfl dX5_countExclusive_7 (fun hr5 => ?_)
  refine V_isub (pc := 10) C dX5_countExclusive_10 ?_
  obtain ⟨g7, h⟩ := grd_of h
  exact V_iret (pc := 11) C hr hlk g7 h dX5_countExclusive_11
set_option maxRecDepth 100000 in
set_option maxHeartbeats 4000000 in
theorem c_X0_holdChildren (l : Launch) (Γ : GG) (sk : List SD) (hsk : Ext sk) (fu : Nat) {M M' : Mem} {a1 : Int} {r : Int} (ha1 : rng a1) (h : f_X0_holdChildren fu M a1 = some (M', r)) : MetV l yX0_holdChildren cX0_holdChildren 3 ({ frames := 3, cells := 0, slots := 0, locals := 65 } : Room) Γ sk [vr Γ 36, vi a1] M M' := by
  unfold f_X0_holdChildren at h
  refine MetV_of RX0 rfl (by decide) rfl (Nat.le_of_ble_eq_true rfl) rfl ?_
  intro p e s m args below meth c C hr hlk hM
  have e4 := hsk 4 _ (by decide) rfl
  have e5 := hsk 5 _ (by decide) rfl
  have e36 := hsk 36 _ (by decide) rfl
  have e37 := hsk 37 _ (by decide) rfl
  have LP2 : ∀ (n : Nat) {x1 : Int} {x2 : Int} {M : Mem}, rng x1 → rng x2 → f_X0_holdChildren_L2 fu n x1 x2 M = some (M', r) → VV p l e ({ frames := 3, cells := 0, slots := 0, locals := 65 } : Room) s m args below meth c (MQ below (PostV Γ sk M' s.heap.size) args s 0 0 (Fr Γ sk s.heap.size)) 3 Γ sk M 0 0 2 [(0, vr Γ 36), (1, vi x1), (2, vi x2)] [] := by
    intro n
    induction n with
    | zero =>
      intro x1 x2 M hx1 hx2 h
      cases h
    | succ n ih =>
      intro x1 x2 M hx1 hx2 h
      rw [f_X0_holdChildren_L2] at h
      refine V_iload_n (pc := 2) C 2 rfl dX0_holdChildren_2 ?_
      refine V_aload_n (pc := 3) C 0 rfl dX0_holdChildren_3 ?_
      refine V_getR (pc := 4) C e36 rfl inX0 0 (by decide) rfl lf_X0_15 rfl dX0_holdChildren_4 ?_
      refine V_getR (pc := 7) C e4 rfl inX8 0 (by decide) rfl lf_X0_53 rfl dX0_holdChildren_7 ?_
      refine V_iload_n (pc := 10) C 1 rfl dX0_holdChildren_10 ?_
      obtain ⟨M1, r2, hc3, h⟩ := cal_of h
      refine V_callVI (pc := 11) C (c_X3_fillAt l Γ sk hsk fu hx1 hc3) cf_X3_fillAt lk_X0_80 ⟨rfl, rfl⟩ ⟨Nat.le_of_ble_eq_true rfl, Nat.le_of_ble_eq_true rfl⟩ e5 rfl rfl rfl (Nat.le_of_ble_eq_true rfl) ⟨Nat.zero_le _, Nat.zero_le _⟩ rfl dX0_holdChildren_11 (fun hr2 => ?_)
      refine V_icmp_ge (pc := 14) C 43 hx2 hr2 dX0_holdChildren_14 (by decide) (fun c14_4 => ?_) (fun c14_4 => ?_)
      · have h := ite_t h c14_4
        exact V_vret (pc := 43) C hr hlk h dX0_holdChildren_43
      · have h := ite_f h c14_4
        refine V_aload_n (pc := 17) C 0 rfl dX0_holdChildren_17 ?_
        refine V_getR (pc := 18) C e36 rfl inX0 2 (by decide) rfl lf_X0_9 rfl dX0_holdChildren_18 ?_
        refine V_aload_n (pc := 21) C 0 rfl dX0_holdChildren_21 ?_
        refine V_getR (pc := 22) C e36 rfl inX0 0 (by decide) rfl lf_X0_15 rfl dX0_holdChildren_22 ?_
        refine V_getR (pc := 25) C e4 rfl inX8 0 (by decide) rfl lf_X0_53 rfl dX0_holdChildren_25 ?_
        refine V_iload_n (pc := 28) C 1 rfl dX0_holdChildren_28 ?_
        refine V_iload_n (pc := 29) C 2 rfl dX0_holdChildren_29 ?_
        obtain ⟨M5, r6, hc7, h⟩ := cal_of h
        refine V_callVI (pc := 30) C (c_X3_childAt l Γ sk hsk fu hx1 hx2 hc7) cf_X3_childAt lk_X0_124 ⟨rfl, rfl⟩ ⟨Nat.le_of_ble_eq_true rfl, Nat.le_of_ble_eq_true rfl⟩ e5 rfl rfl rfl (Nat.le_of_ble_eq_true rfl) ⟨Nat.zero_le _, Nat.zero_le _⟩ rfl dX0_holdChildren_30 (fun hr6 => ?_)
        refine V_iconst (pc := 33) C dX0_holdChildren_33 ?_
        obtain ⟨M8, r9, hc10, h⟩ := cal_of h
        refine V_callNV (pc := 34) C (c_X11_putFlag l Γ sk hsk fu e37 (by decide) (by decide) hr6 (by decide) hc10) cf_X11_putFlag ln_X0_117 ⟨rfl, rfl⟩ ⟨Nat.le_of_ble_eq_true rfl, Nat.le_of_ble_eq_true rfl⟩ rfl (Nat.le_of_ble_eq_true rfl) ⟨Nat.zero_le _, Nat.zero_le _⟩ rfl dX0_holdChildren_34 ?_
        refine V_iinc (pc := 37) C (L' := [(0, vr Γ 36), (1, vi x1), (2, vi (x2 + (1 : Int)))]) 2 rfl rfl (by decide) dX0_holdChildren_37 ?_
        refine V_goto (pc := 40) C 2 dX0_holdChildren_40 (by decide) ?_
        obtain ⟨g11, h⟩ := grd_of h
        refine V_sub (L' := [(0, vr Γ 36), (1, vi x1), (2, vi (x2 + (1 : Int)))]) [0, 1, 2] rfl (by decide) ?_
        exact ih hx1 g11 h
  skip
  refine V_iconst (pc := 0) C dX0_holdChildren_0 ?_
  refine V_istore_n (pc := 1) C (L' := [(0, vr Γ 36), (1, vi a1), (2, vi (0 : Int))]) rfl (by decide) dX0_holdChildren_1 ?_
  refine V_sub (L' := [(0, vr Γ 36), (1, vi a1), (2, vi (0 : Int))]) [0, 1, 2] rfl (by decide) ?_
  exact LP2 fu  ha1 (by decide) h
set_option maxRecDepth 100000 in
set_option maxHeartbeats 4000000 in
theorem c_X0_followReferences (l : Launch) (Γ : GG) (sk : List SD) (hsk : Ext sk) (fu : Nat) {M M' : Mem}  {r : Int}  (h : f_X0_followReferences fu M  = some (M', r)) : MetV l yX0_followReferences cX0_followReferences 2 ({ frames := 4, cells := 0, slots := 0, locals := 87 } : Room) Γ sk [vr Γ 36] M M' := by
  unfold f_X0_followReferences at h
  refine MetV_of RX0 rfl (by decide) rfl (Nat.le_of_ble_eq_true rfl) rfl ?_
  intro p e s m args below meth c C hr hlk hM
  have e4 := hsk 4 _ (by decide) rfl
  have e5 := hsk 5 _ (by decide) rfl
  have e10 := hsk 10 _ (by decide) rfl
  have e36 := hsk 36 _ (by decide) rfl
  have e37 := hsk 37 _ (by decide) rfl
  have LP63 : ∀ (n : Nat) {x1 : Int} {M : Mem}, rng x1 → f_X0_followReferences_L63 fu n x1 M = some (M', r) → VV p l e ({ frames := 4, cells := 0, slots := 0, locals := 87 } : Room) s m args below meth c (MQ below (PostV Γ sk M' s.heap.size) args s 0 0 (Fr Γ sk s.heap.size)) 2 Γ sk M 0 0 63 [(0, vr Γ 36), (1, vi x1)] [] := by
    intro n
    induction n with
    | zero =>
      intro x1 M hx1 h
      cases h
    | succ n ih =>
      intro x1 M hx1 h
      rw [f_X0_followReferences_L63] at h
      refine V_iload_n (pc := 63) C 1 rfl dX0_followReferences_63 ?_
      refine V_if_lt (pc := 64) C 103 hx1 dX0_followReferences_64 (by decide) (fun c64_3 => ?_) (fun c64_3 => ?_)
      · have h := ite_t h c64_3
        exact V_vret (pc := 103) C hr hlk h dX0_followReferences_103
      · have h := ite_f h c64_3
        refine V_aload_n (pc := 67) C 0 rfl dX0_followReferences_67 ?_
        refine V_getR (pc := 68) C e36 rfl inX0 0 (by decide) rfl lf_X0_15 rfl dX0_followReferences_68 ?_
        refine V_getR (pc := 71) C e4 rfl inX8 0 (by decide) rfl lf_X0_53 rfl dX0_followReferences_71 ?_
        refine V_iload_n (pc := 74) C 1 rfl dX0_followReferences_74 ?_
        obtain ⟨M4, r5, hc6, h⟩ := cal_of h
        refine V_callVI (pc := 75) C (c_X3_isStored l Γ sk hsk fu hx1 hc6) cf_X3_isStored lk_X0_83 ⟨rfl, rfl⟩ ⟨Nat.le_of_ble_eq_true rfl, Nat.le_of_ble_eq_true rfl⟩ e5 rfl rfl rfl (Nat.le_of_ble_eq_true rfl) ⟨Nat.zero_le _, Nat.zero_le _⟩ rfl dX0_followReferences_75 (fun hr5 => ?_)
        refine V_if_eq (pc := 78) C 97 hr5 dX0_followReferences_78 (by decide) (fun c78_7 => ?_) (fun c78_7 => ?_)
        · have h := ite_t h c78_7
          refine V_iinc (pc := 97) C (L' := [(0, vr Γ 36), (1, vi (x1 + (-1 : Int)))]) 1 rfl rfl (by decide) dX0_followReferences_97 ?_
          refine V_goto (pc := 100) C 63 dX0_followReferences_100 (by decide) ?_
          obtain ⟨g8, h⟩ := grd_of h
          refine V_sub (L' := [(0, vr Γ 36), (1, vi (x1 + (-1 : Int)))]) [0, 1] rfl (by decide) ?_
          exact ih g8 h
        · have h := ite_f h c78_7
          refine V_aload_n (pc := 81) C 0 rfl dX0_followReferences_81 ?_
          refine V_getR (pc := 82) C e36 rfl inX0 2 (by decide) rfl lf_X0_9 rfl dX0_followReferences_82 ?_
          refine V_iload_n (pc := 85) C 1 rfl dX0_followReferences_85 ?_
          obtain ⟨M9, r10, hc11, h⟩ := cal_of h
          refine V_callNI (pc := 86) C (c_X11_flagAt l Γ sk hsk fu e37 (by decide) hx1 hc11) cf_X11_flagAt ln_X0_107 ⟨rfl, rfl⟩ ⟨Nat.le_of_ble_eq_true rfl, Nat.le_of_ble_eq_true rfl⟩ rfl (Nat.le_of_ble_eq_true rfl) ⟨Nat.zero_le _, Nat.zero_le _⟩ rfl dX0_followReferences_86 (fun hr10 => ?_)
          refine V_if_eq (pc := 89) C 97 hr10 dX0_followReferences_89 (by decide) (fun c89_12 => ?_) (fun c89_12 => ?_)
          · have h := ite_t h c89_12
            refine V_iinc (pc := 97) C (L' := [(0, vr Γ 36), (1, vi (x1 + (-1 : Int)))]) 1 rfl rfl (by decide) dX0_followReferences_97 ?_
            refine V_goto (pc := 100) C 63 dX0_followReferences_100 (by decide) ?_
            obtain ⟨g13, h⟩ := grd_of h
            refine V_sub (L' := [(0, vr Γ 36), (1, vi (x1 + (-1 : Int)))]) [0, 1] rfl (by decide) ?_
            exact ih g13 h
          · have h := ite_f h c89_12
            refine V_aload_n (pc := 92) C 0 rfl dX0_followReferences_92 ?_
            refine V_iload_n (pc := 93) C 1 rfl dX0_followReferences_93 ?_
            obtain ⟨M14, r15, hc16, h⟩ := cal_of h
            refine V_callVV (pc := 94) C (c_X0_holdChildren l Γ sk hsk fu hx1 hc16) cf_X0_holdChildren lk_X0_121 ⟨rfl, rfl⟩ ⟨Nat.le_of_ble_eq_true rfl, Nat.le_of_ble_eq_true rfl⟩ e36 rfl rfl rfl (Nat.le_of_ble_eq_true rfl) ⟨Nat.zero_le _, Nat.zero_le _⟩ rfl dX0_followReferences_94 ?_
            refine V_iinc (pc := 97) C (L' := [(0, vr Γ 36), (1, vi (x1 + (-1 : Int)))]) 1 rfl rfl (by decide) dX0_followReferences_97 ?_
            refine V_goto (pc := 100) C 63 dX0_followReferences_100 (by decide) ?_
            obtain ⟨g17, h⟩ := grd_of h
            refine V_sub (L' := [(0, vr Γ 36), (1, vi (x1 + (-1 : Int)))]) [0, 1] rfl (by decide) ?_
            exact ih g17 h
  have LP13 : ∀ (n : Nat) {x1 : Int} {M : Mem}, rng x1 → f_X0_followReferences_L13 fu n x1 M = some (M', r) → VV p l e ({ frames := 4, cells := 0, slots := 0, locals := 87 } : Room) s m args below meth c (MQ below (PostV Γ sk M' s.heap.size) args s 0 0 (Fr Γ sk s.heap.size)) 2 Γ sk M 0 0 13 [(0, vr Γ 36), (1, vi x1)] [] := by
    intro n
    induction n with
    | zero =>
      intro x1 M hx1 h
      cases h
    | succ n ih =>
      intro x1 M hx1 h
      rw [f_X0_followReferences_L13] at h
      refine V_iload_n (pc := 13) C 1 rfl dX0_followReferences_13 ?_
      refine V_if_lt (pc := 14) C 50 hx1 dX0_followReferences_14 (by decide) (fun c14_1 => ?_) (fun c14_1 => ?_)
      · have h := ite_t h c14_1
        refine V_aload_n (pc := 50) C 0 rfl dX0_followReferences_50 ?_
        refine V_getR (pc := 51) C e36 rfl inX0 0 (by decide) rfl lf_X0_15 rfl dX0_followReferences_51 ?_
        refine V_getR (pc := 54) C e4 rfl inX8 0 (by decide) rfl lf_X0_53 rfl dX0_followReferences_54 ?_
        refine V_rng fun hM2 => ?_
        refine V_getI (pc := 57) C e5 rfl inX3 0 (by decide) rfl lf_X0_57 rfl dX0_followReferences_57 ?_
        refine V_iconst (pc := 60) C dX0_followReferences_60 ?_
        refine V_isub (pc := 61) C dX0_followReferences_61 ?_
        refine V_istore_n (pc := 62) C (L' := [(0, vr Γ 36), (1, vi ((M 5 0) - (1 : Int)))]) rfl (by decide) dX0_followReferences_62 ?_
        obtain ⟨g18, h⟩ := grd_of h
        refine V_sub (L' := [(0, vr Γ 36), (1, vi ((M 5 0) - (1 : Int)))]) [0, 1] rfl (by decide) ?_
        exact LP63 fu  g18 h
      · have h := ite_f h c14_1
        refine V_aload_n (pc := 17) C 0 rfl dX0_followReferences_17 ?_
        refine V_getR (pc := 18) C e36 rfl inX0 2 (by decide) rfl lf_X0_9 rfl dX0_followReferences_18 ?_
        refine V_iload_n (pc := 21) C 1 rfl dX0_followReferences_21 ?_
        refine V_aload_n (pc := 22) C 0 rfl dX0_followReferences_22 ?_
        refine V_getR (pc := 23) C e36 rfl inX0 0 (by decide) rfl lf_X0_15 rfl dX0_followReferences_23 ?_
        refine V_getR (pc := 26) C e4 rfl inX8 1 (by decide) rfl lf_X0_23 rfl dX0_followReferences_26 ?_
        refine V_iload_n (pc := 29) C 1 rfl dX0_followReferences_29 ?_
        obtain ⟨M19, r20, hc21, h⟩ := cal_of h
        refine V_callVI (pc := 30) C (c_X10_countLiveRoots l Γ sk hsk fu hx1 hc21) cf_X10_countLiveRoots lk_X0_114 ⟨rfl, rfl⟩ ⟨Nat.le_of_ble_eq_true rfl, Nat.le_of_ble_eq_true rfl⟩ e10 rfl rfl rfl (Nat.le_of_ble_eq_true rfl) ⟨Nat.zero_le _, Nat.zero_le _⟩ rfl dX0_followReferences_30 (fun hr20 => ?_)
        refine V_if_le (pc := 33) C 40 hr20 dX0_followReferences_33 (by decide) (fun c33_22 => ?_) (fun c33_22 => ?_)
        · have h := ite_t h c33_22
          refine V_iconst (pc := 40) C dX0_followReferences_40 ?_
          obtain ⟨M23, r24, hc25, h⟩ := cal_of h
          refine V_callNV (pc := 41) C (c_X11_putFlag l Γ sk hsk fu e37 (by decide) (by decide) hx1 (by decide) hc25) cf_X11_putFlag ln_X0_117 ⟨rfl, rfl⟩ ⟨Nat.le_of_ble_eq_true rfl, Nat.le_of_ble_eq_true rfl⟩ rfl (Nat.le_of_ble_eq_true rfl) ⟨Nat.zero_le _, Nat.zero_le _⟩ rfl dX0_followReferences_41 ?_
          refine V_iinc (pc := 44) C (L' := [(0, vr Γ 36), (1, vi (x1 + (-1 : Int)))]) 1 rfl rfl (by decide) dX0_followReferences_44 ?_
          refine V_goto (pc := 47) C 13 dX0_followReferences_47 (by decide) ?_
          obtain ⟨g26, h⟩ := grd_of h
          refine V_sub (L' := [(0, vr Γ 36), (1, vi (x1 + (-1 : Int)))]) [0, 1] rfl (by decide) ?_
          exact ih g26 h
        · have h := ite_f h c33_22
          refine V_iconst (pc := 36) C dX0_followReferences_36 ?_
          refine V_goto (pc := 37) C 41 dX0_followReferences_37 (by decide) ?_
          obtain ⟨M27, r28, hc29, h⟩ := cal_of h
          refine V_callNV (pc := 41) C (c_X11_putFlag l Γ sk hsk fu e37 (by decide) (by decide) hx1 (by decide) hc29) cf_X11_putFlag ln_X0_117 ⟨rfl, rfl⟩ ⟨Nat.le_of_ble_eq_true rfl, Nat.le_of_ble_eq_true rfl⟩ rfl (Nat.le_of_ble_eq_true rfl) ⟨Nat.zero_le _, Nat.zero_le _⟩ rfl dX0_followReferences_41 ?_
          refine V_iinc (pc := 44) C (L' := [(0, vr Γ 36), (1, vi (x1 + (-1 : Int)))]) 1 rfl rfl (by decide) dX0_followReferences_44 ?_
          refine V_goto (pc := 47) C 13 dX0_followReferences_47 (by decide) ?_
          obtain ⟨g30, h⟩ := grd_of h
          refine V_sub (L' := [(0, vr Γ 36), (1, vi (x1 + (-1 : Int)))]) [0, 1] rfl (by decide) ?_
          exact ih g30 h
  skip
  refine V_aload_n (pc := 0) C 0 rfl dX0_followReferences_0 ?_
  refine V_getR (pc := 1) C e36 rfl inX0 0 (by decide) rfl lf_X0_15 rfl dX0_followReferences_1 ?_
  refine V_getR (pc := 4) C e4 rfl inX8 0 (by decide) rfl lf_X0_53 rfl dX0_followReferences_4 ?_
  refine V_getI (pc := 7) C e5 rfl inX3 0 (by decide) rfl lf_X0_57 rfl dX0_followReferences_7 ?_
  refine V_iconst (pc := 10) C dX0_followReferences_10 ?_
  refine V_isub (pc := 11) C dX0_followReferences_11 ?_
  refine V_istore_n (pc := 12) C (L' := [(0, vr Γ 36), (1, vi ((M 5 0) - (1 : Int)))]) rfl (by decide) dX0_followReferences_12 ?_
  obtain ⟨g31, h⟩ := grd_of h
  refine V_sub (L' := [(0, vr Γ 36), (1, vi ((M 5 0) - (1 : Int)))]) [0, 1] rfl (by decide) ?_
  exact LP13 fu  g31 h
set_option maxRecDepth 100000 in
set_option maxHeartbeats 4000000 in
theorem c_X0_referencesPass (l : Launch) (Γ : GG) (sk : List SD) (hsk : Ext sk) (fu : Nat) {M M' : Mem}  {r : Int}  (h : f_X0_referencesPass fu M  = some (M', r)) : MetI l yX0_referencesPass cX0_referencesPass 2 .boolean ({ frames := 29, cells := 0, slots := 0, locals := 972 } : Room) Γ sk [vr Γ 36] M M' r := by
  unfold f_X0_referencesPass at h
  refine MetI_of RX0 rfl (by decide) rfl (Nat.le_of_ble_eq_true rfl) rfl ?_
  intro p e s m args below meth c C hr hlk hM
  have e4 := hsk 4 _ (by decide) rfl
  have e5 := hsk 5 _ (by decide) rfl
  have e34 := hsk 34 _ (by decide) rfl
  have e36 := hsk 36 _ (by decide) rfl
  have e37 := hsk 37 _ (by decide) rfl
  have LP14 : ∀ (n : Nat) {x1 : Int} {M : Mem}, rng x1 → f_X0_referencesPass_L14 fu n x1 M = some (M', r) → VV p l e ({ frames := 29, cells := 0, slots := 0, locals := 972 } : Room) s m args below meth c (MQ below (PostI Γ sk M' r s.heap.size) args s 0 0 (Fr Γ sk s.heap.size)) 2 Γ sk M 0 0 14 [(0, vr Γ 36), (1, vi x1)] [] := by
    intro n
    induction n with
    | zero =>
      intro x1 M hx1 h
      cases h
    | succ n ih =>
      intro x1 M hx1 h
      rw [f_X0_referencesPass_L14] at h
      refine V_iload_n (pc := 14) C 1 rfl dX0_referencesPass_14 ?_
      refine V_aload_n (pc := 15) C 0 rfl dX0_referencesPass_15 ?_
      refine V_getR (pc := 16) C e36 rfl inX0 0 (by decide) rfl lf_X0_15 rfl dX0_referencesPass_16 ?_
      refine V_getR (pc := 19) C e4 rfl inX8 0 (by decide) rfl lf_X0_53 rfl dX0_referencesPass_19 ?_
      refine V_rng fun hM7 => ?_
      refine V_getI (pc := 22) C e5 rfl inX3 0 (by decide) rfl lf_X0_57 rfl dX0_referencesPass_22 ?_
      refine V_icmp_ge (pc := 25) C 55 hx1 (hM7 _ _) dX0_referencesPass_25 (by decide) (fun c25_8 => ?_) (fun c25_8 => ?_)
      · have h := ite_t h c25_8
        refine V_iconst (pc := 55) C dX0_referencesPass_55 ?_
        exact V_zret (pc := 56) C hr hlk (by decide) h dX0_referencesPass_56
      · have h := ite_f h c25_8
        refine V_aload_n (pc := 28) C 0 rfl dX0_referencesPass_28 ?_
        refine V_getR (pc := 29) C e36 rfl inX0 2 (by decide) rfl lf_X0_9 rfl dX0_referencesPass_29 ?_
        refine V_iload_n (pc := 32) C 1 rfl dX0_referencesPass_32 ?_
        obtain ⟨M9, r10, hc11, h⟩ := cal_of h
        refine V_callNI (pc := 33) C (c_X11_flagAt l Γ sk hsk fu e37 (by decide) hx1 hc11) cf_X11_flagAt ln_X0_107 ⟨rfl, rfl⟩ ⟨Nat.le_of_ble_eq_true rfl, Nat.le_of_ble_eq_true rfl⟩ rfl (Nat.le_of_ble_eq_true rfl) ⟨Nat.zero_le _, Nat.zero_le _⟩ rfl dX0_referencesPass_33 (fun hr10 => ?_)
        refine V_aload_n (pc := 36) C 0 rfl dX0_referencesPass_36 ?_
        refine V_getR (pc := 37) C e36 rfl inX0 1 (by decide) rfl lf_X0_19 rfl dX0_referencesPass_37 ?_
        refine V_iload_n (pc := 40) C 1 rfl dX0_referencesPass_40 ?_
        obtain ⟨M12, r13, hc14, h⟩ := cal_of h
        refine V_callVI (pc := 41) C (c_X5_has l Γ sk hsk fu hx1 hc14) cf_X5_has lk_X0_111 ⟨rfl, rfl⟩ ⟨Nat.le_of_ble_eq_true rfl, Nat.le_of_ble_eq_true rfl⟩ e34 rfl rfl rfl (Nat.le_of_ble_eq_true rfl) ⟨Nat.zero_le _, Nat.zero_le _⟩ rfl dX0_referencesPass_41 (fun hr13 => ?_)
        refine V_icmp_eq (pc := 44) C 49 hr10 hr13 dX0_referencesPass_44 (by decide) (fun c44_15 => ?_) (fun c44_15 => ?_)
        · have h := ite_t h c44_15
          refine V_iinc (pc := 49) C (L' := [(0, vr Γ 36), (1, vi (x1 + (1 : Int)))]) 1 rfl rfl (by decide) dX0_referencesPass_49 ?_
          refine V_goto (pc := 52) C 14 dX0_referencesPass_52 (by decide) ?_
          obtain ⟨g16, h⟩ := grd_of h
          refine V_sub (L' := [(0, vr Γ 36), (1, vi (x1 + (1 : Int)))]) [0, 1] rfl (by decide) ?_
          exact ih g16 h
        · have h := ite_f h c44_15
          refine V_iconst (pc := 47) C dX0_referencesPass_47 ?_
          exact V_zret (pc := 48) C hr hlk (by decide) h dX0_referencesPass_48
  skip
  refine V_aload_n (pc := 0) C 0 rfl dX0_referencesPass_0 ?_
  refine V_getR (pc := 1) C e36 rfl inX0 1 (by decide) rfl lf_X0_19 rfl dX0_referencesPass_1 ?_
  refine V_iconst (pc := 4) C dX0_referencesPass_4 ?_
  obtain ⟨M1, r2, hc3, h⟩ := cal_of h
  refine V_callVV (pc := 5) C (c_X5_searchWithout l Γ sk hsk fu (by decide) hc3) cf_X5_searchWithout lk_X0_98 ⟨rfl, rfl⟩ ⟨Nat.le_of_ble_eq_true rfl, Nat.le_of_ble_eq_true rfl⟩ e34 rfl rfl rfl (Nat.le_of_ble_eq_true rfl) ⟨Nat.zero_le _, Nat.zero_le _⟩ rfl dX0_referencesPass_5 ?_
  refine V_aload_n (pc := 8) C 0 rfl dX0_referencesPass_8 ?_
  obtain ⟨M4, r5, hc6, h⟩ := cal_of h
  refine V_callVV (pc := 9) C (c_X0_followReferences l Γ sk hsk fu hc6) cf_X0_followReferences lk_X0_104 ⟨rfl, rfl⟩ ⟨Nat.le_of_ble_eq_true rfl, Nat.le_of_ble_eq_true rfl⟩ e36 rfl rfl rfl (Nat.le_of_ble_eq_true rfl) ⟨Nat.zero_le _, Nat.zero_le _⟩ rfl dX0_referencesPass_9 ?_
  refine V_iconst (pc := 12) C dX0_referencesPass_12 ?_
  refine V_istore_n (pc := 13) C (L' := [(0, vr Γ 36), (1, vi (0 : Int))]) rfl (by decide) dX0_referencesPass_13 ?_
  refine V_sub (L' := [(0, vr Γ 36), (1, vi (0 : Int))]) [0, 1] rfl (by decide) ?_
  exact LP14 fu  (by decide) h
