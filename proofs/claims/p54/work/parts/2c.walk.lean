set_option maxRecDepth 100000 in
set_option maxHeartbeats 4000000 in
theorem c_X8_begin (l : Launch) (Γ : GG) (sk : List SD) (hsk : Ext sk) (fu : Nat) {M M' : Mem} {k1 : Nat} {n1 : Nat} {a2 : Int} {r : Int} (hk1 : sk[k1]? = some (.inl (0, n1))) (hn1 : n1 ≤ 2147483647) (ha2 : rng a2) (h : f_X8_begin fu M k1 n1 a2 = some (M', r)) : MetV l yX8_begin cX8_begin 6 ({ frames := 3, cells := 0, slots := 0, locals := 79 } : Room) Γ sk [vr Γ 4, vr Γ k1, vi a2] M M' := by
  unfold f_X8_begin at h
  refine MetV_of RX8 rfl (by decide) rfl (Nat.le_of_ble_eq_true rfl) rfl ?_
  intro p e s m args below meth c C hr hlk hM
  have e4 := hsk 4 _ (by decide) rfl
  have e5 := hsk 5 _ (by decide) rfl
  have e10 := hsk 10 _ (by decide) rfl
  have JP72 : ∀ {x2 : Int} {y0 : Int} {M : Mem}, rng x2 → rng y0 → f_X8_begin_J72 fu k1 n1 x2 y0 M = some (M', r) → VV p l e ({ frames := 3, cells := 0, slots := 0, locals := 79 } : Room) s m args below meth c (MQ below (PostV Γ sk M' s.heap.size) args s 0 0 (Fr Γ sk s.heap.size)) 6 Γ sk M 0 0 72 [(0, vr Γ 4), (1, vr Γ k1), (2, vi x2)] [vi y0] := by
    intro x2 y0 M hx2 hy0 h
    unfold f_X8_begin_J72 at h
    refine V_istore (pc := 72) C (L' := [(0, vr Γ 4), (1, vr Γ k1), (2, vi x2), (4, vi y0)]) rfl (by decide) dX8_begin_72 ?_
    refine V_aload_n (pc := 74) C 0 rfl dX8_begin_74 ?_
    refine V_getR (pc := 75) C e4 rfl inX8 1 (by decide) rfl lf_X8_21 rfl dX8_begin_75 ?_
    refine V_aload_n (pc := 78) C 1 rfl dX8_begin_78 ?_
    refine V_iload_n (pc := 79) C 2 rfl dX8_begin_79 ?_
    refine V_iload (pc := 80) C 3 rfl dX8_begin_80 ?_
    refine V_aload_n (pc := 82) C 0 rfl dX8_begin_82 ?_
    refine V_getR (pc := 83) C e4 rfl inX8 0 (by decide) rfl lf_X8_12 rfl dX8_begin_83 ?_
    refine V_rng fun hM10 => ?_
    refine V_getI (pc := 86) C e5 rfl inX3 0 (by decide) rfl lf_X8_32 rfl dX8_begin_86 ?_
    obtain ⟨M11, r12, hc13, h⟩ := cal_of h
    refine V_callVV (pc := 89) C (c_X10_begin l Γ sk hsk fu hk1 hn1 hx2 hy0 (hM10 _ _) hc13) cf_X10_begin lk_X8_48 ⟨rfl, rfl⟩ ⟨Nat.le_of_ble_eq_true rfl, Nat.le_of_ble_eq_true rfl⟩ e10 rfl rfl rfl (Nat.le_of_ble_eq_true rfl) ⟨Nat.zero_le _, Nat.zero_le _⟩ rfl dX8_begin_89 ?_
    exact V_vret (pc := 92) C hr hlk h dX8_begin_92
  have LP19 : ∀ (n : Nat) {x2 : Int} {x3 : Int} {x4 : Int} {M : Mem}, rng x2 → rng x3 → rng x4 → f_X8_begin_L19 fu k1 n1 n x2 x3 x4 M = some (M', r) → VV p l e ({ frames := 3, cells := 0, slots := 0, locals := 79 } : Room) s m args below meth c (MQ below (PostV Γ sk M' s.heap.size) args s 0 0 (Fr Γ sk s.heap.size)) 6 Γ sk M 0 0 19 [(0, vr Γ 4), (1, vr Γ k1), (2, vi x2), (3, vi x3), (4, vi x4)] [] := by
    intro n
    induction n with
    | zero =>
      intro x2 x3 x4 M hx2 hx3 hx4 h
      cases h
    | succ n ih =>
      intro x2 x3 x4 M hx2 hx3 hx4 h
      rw [f_X8_begin_L19] at h
      refine V_iload (pc := 19) C 4 rfl dX8_begin_19 ?_
      refine V_iload_n (pc := 21) C 2 rfl dX8_begin_21 ?_
      obtain ⟨M4, r5, hc6, h⟩ := cal_of h
      refine V_callNI (pc := 22) C (c_X11_heightFor l Γ sk hsk fu hx2 hc6) cf_X11_heightFor ln_X8_40 ⟨rfl, rfl⟩ ⟨Nat.le_of_ble_eq_true rfl, Nat.le_of_ble_eq_true rfl⟩ rfl (Nat.le_of_ble_eq_true rfl) ⟨Nat.zero_le _, Nat.zero_le _⟩ rfl dX8_begin_22 (fun hr5 => ?_)
      refine V_icmp_gt (pc := 25) C 55 hx4 hr5 dX8_begin_25 (by decide) (fun c25_7 => ?_) (fun c25_7 => ?_)
      · have h := ite_t h c25_7
        refine V_iload_n (pc := 55) C 2 rfl dX8_begin_55 ?_
        refine V_if_ne (pc := 56) C 63 hx2 dX8_begin_56 (by decide) (fun c56_8 => ?_) (fun c56_8 => ?_)
        · have h := ite_f h c56_8
          refine V_aload_n (pc := 63) C 0 rfl dX8_begin_63 ?_
          refine V_getR (pc := 64) C e4 rfl inX8 0 (by decide) rfl lf_X8_12 rfl dX8_begin_64 ?_
          refine V_rng fun hM9 => ?_
          refine V_getI (pc := 67) C e5 rfl inX3 0 (by decide) rfl lf_X8_32 rfl dX8_begin_67 ?_
          refine V_iconst (pc := 70) C dX8_begin_70 ?_
          refine V_isub (pc := 71) C dX8_begin_71 ?_
          obtain ⟨g14, h⟩ := grd_of h
          refine V_sub (L' := [(0, vr Γ 4), (1, vr Γ k1), (2, vi x2)]) [0, 1, 2] rfl (by decide) ?_
          exact JP72 hx2 g14 h
        · have h := ite_t h c56_8
          refine V_iconst (pc := 59) C dX8_begin_59 ?_
          refine V_goto (pc := 60) C 72 dX8_begin_60 (by decide) ?_
          refine V_sub (L' := [(0, vr Γ 4), (1, vr Γ k1), (2, vi x2)]) [0, 1, 2] rfl (by decide) ?_
          exact JP72 hx2 (by decide) h
      · have h := ite_f h c25_7
        refine V_aload_n (pc := 28) C 0 rfl dX8_begin_28 ?_
        refine V_getR (pc := 29) C e4 rfl inX8 0 (by decide) rfl lf_X8_12 rfl dX8_begin_29 ?_
        refine V_rng fun hM15 => ?_
        refine V_getI (pc := 32) C e5 rfl inX3 0 (by decide) rfl lf_X8_32 rfl dX8_begin_32 ?_
        refine V_istore (pc := 35) C (L' := [(0, vr Γ 4), (1, vr Γ k1), (2, vi x2), (3, vi x3), (4, vi x4), (5, vi (M4 5 0))]) rfl (by decide) dX8_begin_35 ?_
        refine V_aload_n (pc := 37) C 0 rfl dX8_begin_37 ?_
        refine V_iload (pc := 38) C 4 rfl dX8_begin_38 ?_
        refine V_iload_n (pc := 40) C 3 rfl dX8_begin_40 ?_
        refine V_iload (pc := 41) C 5 rfl dX8_begin_41 ?_
        obtain ⟨M16, r17, hc18, h⟩ := cal_of h
        refine V_callVV (pc := 43) C (c_X8_addParents l Γ sk hsk fu hx4 hx3 (hM15 _ _) hc18) cf_X8_addParents lk_X8_44 ⟨rfl, rfl⟩ ⟨Nat.le_of_ble_eq_true rfl, Nat.le_of_ble_eq_true rfl⟩ e4 rfl rfl rfl (Nat.le_of_ble_eq_true rfl) ⟨Nat.zero_le _, Nat.zero_le _⟩ rfl dX8_begin_43 ?_
        refine V_iload (pc := 46) C 5 rfl dX8_begin_46 ?_
        refine V_istore_n (pc := 48) C (L' := [(0, vr Γ 4), (1, vr Γ k1), (2, vi x2), (3, vi (M4 5 0)), (4, vi x4), (5, vi (M4 5 0))]) rfl (by decide) dX8_begin_48 ?_
        refine V_iinc (pc := 49) C (L' := [(0, vr Γ 4), (1, vr Γ k1), (2, vi x2), (3, vi (M4 5 0)), (4, vi (x4 + (1 : Int))), (5, vi (M4 5 0))]) 4 rfl rfl (by decide) dX8_begin_49 ?_
        refine V_goto (pc := 52) C 19 dX8_begin_52 (by decide) ?_
        obtain ⟨g19, h⟩ := grd_of h
        refine V_sub (L' := [(0, vr Γ 4), (1, vr Γ k1), (2, vi x2), (3, vi (M4 5 0)), (4, vi (x4 + (1 : Int)))]) [0, 1, 2, 3, 4] rfl (by decide) ?_
        exact ih hx2 (hM15 _ _) g19 h
  skip
  refine V_aload_n (pc := 0) C 0 rfl dX8_begin_0 ?_
  refine V_getR (pc := 1) C e4 rfl inX8 0 (by decide) rfl lf_X8_12 rfl dX8_begin_1 ?_
  refine V_iconst (pc := 4) C dX8_begin_4 ?_
  refine V_putI (pc := 5) C (by decide) e5 rfl inX3 tyX3 tyX3_ok nmX3 0 (by decide) rfl rfl lf_X8_32 rfl (by decide) rfl dX8_begin_5 ?_
  refine V_aload_n (pc := 8) C 0 rfl dX8_begin_8 ?_
  refine V_aload_n (pc := 9) C 1 rfl dX8_begin_9 ?_
  refine V_iload_n (pc := 10) C 2 rfl dX8_begin_10 ?_
  obtain ⟨M1, r2, hc3, h⟩ := cal_of h
  refine V_callVV (pc := 11) C (c_X8_addLeaves l Γ sk hsk fu hk1 hn1 ha2 hc3) cf_X8_addLeaves lk_X8_36 ⟨rfl, rfl⟩ ⟨Nat.le_of_ble_eq_true rfl, Nat.le_of_ble_eq_true rfl⟩ e4 rfl rfl rfl (Nat.le_of_ble_eq_true rfl) ⟨Nat.zero_le _, Nat.zero_le _⟩ rfl dX8_begin_11 ?_
  refine V_iconst (pc := 14) C dX8_begin_14 ?_
  refine V_istore_n (pc := 15) C (L' := [(0, vr Γ 4), (1, vr Γ k1), (2, vi a2), (3, vi (0 : Int))]) rfl (by decide) dX8_begin_15 ?_
  refine V_iconst (pc := 16) C dX8_begin_16 ?_
  refine V_istore (pc := 17) C (L' := [(0, vr Γ 4), (1, vr Γ k1), (2, vi a2), (3, vi (0 : Int)), (4, vi (2 : Int))]) rfl (by decide) dX8_begin_17 ?_
  refine V_sub (L' := [(0, vr Γ 4), (1, vr Γ k1), (2, vi a2), (3, vi (0 : Int)), (4, vi (2 : Int))]) [0, 1, 2, 3, 4] rfl (by decide) ?_
  exact LP19 fu  ha2 (by decide) (by decide) h
set_option maxRecDepth 100000 in
set_option maxHeartbeats 4000000 in
theorem c_X8_heightAt (l : Launch) (Γ : GG) (sk : List SD) (hsk : Ext sk) (fu : Nat) {M M' : Mem} {a1 : Int} {r : Int} (ha1 : rng a1) (h : f_X8_heightAt fu M a1 = some (M', r)) : MetI l yX8_heightAt cX8_heightAt 2 .int ({ frames := 2, cells := 0, slots := 0, locals := 42 } : Room) Γ sk [vr Γ 4, vi a1] M M' r := by
  unfold f_X8_heightAt at h
  refine MetI_of RX8 rfl (by decide) rfl (Nat.le_of_ble_eq_true rfl) rfl ?_
  intro p e s m args below meth c C hr hlk hM
  have e4 := hsk 4 _ (by decide) rfl
  have e10 := hsk 10 _ (by decide) rfl
  refine V_aload_n (pc := 0) C 0 rfl dX8_heightAt_0 ?_
  refine V_getR (pc := 1) C e4 rfl inX8 1 (by decide) rfl lf_X8_21 rfl dX8_heightAt_1 ?_
  refine V_iload_n (pc := 4) C 1 rfl dX8_heightAt_4 ?_
  obtain ⟨M1, r2, hc3, h⟩ := cal_of h
  refine V_callVI (pc := 5) C (c_X10_sizeAt l Γ sk hsk fu ha1 hc3) cf_X10_sizeAt lk_X8_66 ⟨rfl, rfl⟩ ⟨Nat.le_of_ble_eq_true rfl, Nat.le_of_ble_eq_true rfl⟩ e10 rfl rfl rfl (Nat.le_of_ble_eq_true rfl) ⟨Nat.zero_le _, Nat.zero_le _⟩ rfl dX8_heightAt_5 (fun hr2 => ?_)
  obtain ⟨M4, r5, hc6, h⟩ := cal_of h
  refine V_callNI (pc := 8) C (c_X11_heightFor l Γ sk hsk fu hr2 hc6) cf_X11_heightFor ln_X8_40 ⟨rfl, rfl⟩ ⟨Nat.le_of_ble_eq_true rfl, Nat.le_of_ble_eq_true rfl⟩ rfl (Nat.le_of_ble_eq_true rfl) ⟨Nat.zero_le _, Nat.zero_le _⟩ rfl dX8_heightAt_8 (fun hr5 => ?_)
  exact V_iret (pc := 11) C hr hlk hr5 h dX8_heightAt_11
set_option maxRecDepth 100000 in
set_option maxHeartbeats 4000000 in
theorem c_X8_leafAt (l : Launch) (Γ : GG) (sk : List SD) (hsk : Ext sk) (fu : Nat) {M M' : Mem} {a1 : Int} {a2 : Int} {r : Int} (ha1 : rng a1) (ha2 : rng a2) (h : f_X8_leafAt fu M a1 a2 = some (M', r)) : MetI l yX8_leafAt cX8_leafAt 5 .int ({ frames := 3, cells := 0, slots := 0, locals := 63 } : Room) Γ sk [vr Γ 4, vi a1, vi a2] M M' r := by
  unfold f_X8_leafAt at h
  refine MetI_of RX8 rfl (by decide) rfl (Nat.le_of_ble_eq_true rfl) rfl ?_
  intro p e s m args below meth c C hr hlk hM
  have e4 := hsk 4 _ (by decide) rfl
  have e5 := hsk 5 _ (by decide) rfl
  have e10 := hsk 10 _ (by decide) rfl
  have LP16 : ∀ (n : Nat) {x2 : Int} {x3 : Int} {x4 : Int} {M : Mem}, rng x2 → rng x3 → rng x4 → f_X8_leafAt_L16 fu n x2 x3 x4 M = some (M', r) → VV p l e ({ frames := 3, cells := 0, slots := 0, locals := 63 } : Room) s m args below meth c (MQ below (PostI Γ sk M' r s.heap.size) args s 0 0 (Fr Γ sk s.heap.size)) 5 Γ sk M 0 0 16 [(0, vr Γ 4), (2, vi x2), (3, vi x3), (4, vi x4)] [] := by
    intro n
    induction n with
    | zero =>
      intro x2 x3 x4 M hx2 hx3 hx4 h
      cases h
    | succ n ih =>
      intro x2 x3 x4 M hx2 hx3 hx4 h
      rw [f_X8_leafAt_L16] at h
      refine V_iload (pc := 16) C 3 rfl dX8_leafAt_16 ?_
      refine V_iconst (pc := 18) C dX8_leafAt_18 ?_
      refine V_icmp_le (pc := 19) C 43 hx4 (by decide) dX8_leafAt_19 (by decide) (fun c19_7 => ?_) (fun c19_7 => ?_)
      · have h := ite_t h c19_7
        refine V_iload_n (pc := 43) C 2 rfl dX8_leafAt_43 ?_
        exact V_iret (pc := 44) C hr hlk hx3 h dX8_leafAt_44
      · have h := ite_f h c19_7
        refine V_aload_n (pc := 22) C 0 rfl dX8_leafAt_22 ?_
        refine V_getR (pc := 23) C e4 rfl inX8 0 (by decide) rfl lf_X8_12 rfl dX8_leafAt_23 ?_
        refine V_iload_n (pc := 26) C 2 rfl dX8_leafAt_26 ?_
        refine V_iload (pc := 27) C 3 rfl dX8_leafAt_27 ?_
        refine V_iload_n (pc := 29) C 1 rfl dX8_leafAt_29 ?_
        obtain ⟨M8, r9, hc10, h⟩ := cal_of h
        refine V_callNI (pc := 30) C (c_X11_positionIn l Γ sk hsk fu hx4 hx2 hc10) cf_X11_positionIn ln_X8_52 ⟨rfl, rfl⟩ ⟨Nat.le_of_ble_eq_true rfl, Nat.le_of_ble_eq_true rfl⟩ rfl (Nat.le_of_ble_eq_true rfl) ⟨Nat.zero_le _, Nat.zero_le _⟩ rfl dX8_leafAt_30 (fun hr9 => ?_)
        obtain ⟨M11, r12, hc13, h⟩ := cal_of h
        refine V_callVI (pc := 33) C (c_X3_entryAt l Γ sk hsk fu hx3 hr9 hc13) cf_X3_entryAt lk_X8_75 ⟨rfl, rfl⟩ ⟨Nat.le_of_ble_eq_true rfl, Nat.le_of_ble_eq_true rfl⟩ e5 rfl rfl rfl (Nat.le_of_ble_eq_true rfl) ⟨Nat.zero_le _, Nat.zero_le _⟩ rfl dX8_leafAt_33 (fun hr12 => ?_)
        refine V_istore_n (pc := 36) C (L' := [(0, vr Γ 4), (2, vi x2), (3, vi r12), (4, vi x4)]) rfl (by decide) dX8_leafAt_36 ?_
        refine V_iinc (pc := 37) C (L' := [(0, vr Γ 4), (2, vi x2), (3, vi r12), (4, vi (x4 + (-1 : Int)))]) 3 rfl rfl (by decide) dX8_leafAt_37 ?_
        refine V_goto (pc := 40) C 16 dX8_leafAt_40 (by decide) ?_
        obtain ⟨g14, h⟩ := grd_of h
        refine V_sub (L' := [(0, vr Γ 4), (2, vi x2), (3, vi r12), (4, vi (x4 + (-1 : Int)))]) [0, 1, 2, 3] rfl (by decide) ?_
        exact ih hx2 hr12 g14 h
  skip
  refine V_aload_n (pc := 0) C 0 rfl dX8_leafAt_0 ?_
  refine V_getR (pc := 1) C e4 rfl inX8 1 (by decide) rfl lf_X8_21 rfl dX8_leafAt_1 ?_
  refine V_iload_n (pc := 4) C 1 rfl dX8_leafAt_4 ?_
  obtain ⟨M1, r2, hc3, h⟩ := cal_of h
  refine V_callVI (pc := 5) C (c_X10_rootAt l Γ sk hsk fu ha1 hc3) cf_X10_rootAt lk_X8_69 ⟨rfl, rfl⟩ ⟨Nat.le_of_ble_eq_true rfl, Nat.le_of_ble_eq_true rfl⟩ e10 rfl rfl rfl (Nat.le_of_ble_eq_true rfl) ⟨Nat.zero_le _, Nat.zero_le _⟩ rfl dX8_leafAt_5 (fun hr2 => ?_)
  refine V_istore_n (pc := 8) C (L' := [(0, vr Γ 4), (1, vi a1), (2, vi a2), (3, vi r2)]) rfl (by decide) dX8_leafAt_8 ?_
  refine V_aload_n (pc := 9) C 0 rfl dX8_leafAt_9 ?_
  refine V_iload_n (pc := 10) C 1 rfl dX8_leafAt_10 ?_
  obtain ⟨M4, r5, hc6, h⟩ := cal_of h
  refine V_callVI (pc := 11) C (c_X8_heightAt l Γ sk hsk fu ha1 hc6) cf_X8_heightAt lk_X8_72 ⟨rfl, rfl⟩ ⟨Nat.le_of_ble_eq_true rfl, Nat.le_of_ble_eq_true rfl⟩ e4 rfl rfl rfl (Nat.le_of_ble_eq_true rfl) ⟨Nat.zero_le _, Nat.zero_le _⟩ rfl dX8_leafAt_11 (fun hr5 => ?_)
  refine V_istore (pc := 14) C (L' := [(0, vr Γ 4), (1, vi a1), (2, vi a2), (3, vi r2), (4, vi r5)]) rfl (by decide) dX8_leafAt_14 ?_
  refine V_sub (L' := [(0, vr Γ 4), (2, vi a2), (3, vi r2), (4, vi r5)]) [0, 2, 3, 4] rfl (by decide) ?_
  exact LP16 fu  ha2 hr2 hr5 h
set_option maxRecDepth 100000 in
set_option maxHeartbeats 4000000 in
theorem c_X8_elementAt (l : Launch) (Γ : GG) (sk : List SD) (hsk : Ext sk) (fu : Nat) {M M' : Mem} {a1 : Int} {a2 : Int} {r : Int} (ha1 : rng a1) (ha2 : rng a2) (h : f_X8_elementAt fu M a1 a2 = some (M', r)) : MetI l yX8_elementAt cX8_elementAt 3 .int ({ frames := 4, cells := 0, slots := 0, locals := 87 } : Room) Γ sk [vr Γ 4, vi a1, vi a2] M M' r := by
  unfold f_X8_elementAt at h
  refine MetI_of RX8 rfl (by decide) rfl (Nat.le_of_ble_eq_true rfl) rfl ?_
  intro p e s m args below meth c C hr hlk hM
  have e4 := hsk 4 _ (by decide) rfl
  have e5 := hsk 5 _ (by decide) rfl
  refine V_aload_n (pc := 0) C 0 rfl dX8_elementAt_0 ?_
  refine V_getR (pc := 1) C e4 rfl inX8 0 (by decide) rfl lf_X8_12 rfl dX8_elementAt_1 ?_
  refine V_aload_n (pc := 4) C 0 rfl dX8_elementAt_4 ?_
  refine V_iload_n (pc := 5) C 1 rfl dX8_elementAt_5 ?_
  refine V_iload_n (pc := 6) C 2 rfl dX8_elementAt_6 ?_
  obtain ⟨M1, r2, hc3, h⟩ := cal_of h
  refine V_callVI (pc := 7) C (c_X8_leafAt l Γ sk hsk fu ha1 ha2 hc3) cf_X8_leafAt lk_X8_78 ⟨rfl, rfl⟩ ⟨Nat.le_of_ble_eq_true rfl, Nat.le_of_ble_eq_true rfl⟩ e4 rfl rfl rfl (Nat.le_of_ble_eq_true rfl) ⟨Nat.zero_le _, Nat.zero_le _⟩ rfl dX8_elementAt_7 (fun hr2 => ?_)
  refine V_iconst (pc := 10) C dX8_elementAt_10 ?_
  refine V_iload_n (pc := 11) C 2 rfl dX8_elementAt_11 ?_
  obtain ⟨M4, r5, hc6, h⟩ := cal_of h
  refine V_callNI (pc := 12) C (c_X11_positionIn l Γ sk hsk fu (by decide) ha2 hc6) cf_X11_positionIn ln_X8_52 ⟨rfl, rfl⟩ ⟨Nat.le_of_ble_eq_true rfl, Nat.le_of_ble_eq_true rfl⟩ rfl (Nat.le_of_ble_eq_true rfl) ⟨Nat.zero_le _, Nat.zero_le _⟩ rfl dX8_elementAt_12 (fun hr5 => ?_)
  obtain ⟨M7, r8, hc9, h⟩ := cal_of h
  refine V_callVI (pc := 15) C (c_X3_entryAt l Γ sk hsk fu hr2 hr5 hc9) cf_X3_entryAt lk_X8_75 ⟨rfl, rfl⟩ ⟨Nat.le_of_ble_eq_true rfl, Nat.le_of_ble_eq_true rfl⟩ e5 rfl rfl rfl (Nat.le_of_ble_eq_true rfl) ⟨Nat.zero_le _, Nat.zero_le _⟩ rfl dX8_elementAt_15 (fun hr8 => ?_)
  exact V_iret (pc := 18) C hr hlk hr8 h dX8_elementAt_18
set_option maxRecDepth 100000 in
set_option maxHeartbeats 4000000 in
theorem c_X8_addUp (l : Launch) (Γ : GG) (sk : List SD) (hsk : Ext sk) (fu : Nat) {M M' : Mem} {a1 : Int} {r : Int} (ha1 : rng a1) (h : f_X8_addUp fu M a1 = some (M', r)) : MetI l yX8_addUp cX8_addUp 4 .int ({ frames := 5, cells := 0, slots := 0, locals := 109 } : Room) Γ sk [vr Γ 4, vi a1] M M' r := by
  unfold f_X8_addUp at h
  refine MetI_of RX8 rfl (by decide) rfl (Nat.le_of_ble_eq_true rfl) rfl ?_
  intro p e s m args below meth c C hr hlk hM
  have e4 := hsk 4 _ (by decide) rfl
  have e10 := hsk 10 _ (by decide) rfl
  have LP4 : ∀ (n : Nat) {x1 : Int} {x2 : Int} {x3 : Int} {M : Mem}, rng x1 → rng x2 → rng x3 → f_X8_addUp_L4 fu n x1 x2 x3 M = some (M', r) → VV p l e ({ frames := 5, cells := 0, slots := 0, locals := 109 } : Room) s m args below meth c (MQ below (PostI Γ sk M' r s.heap.size) args s 0 0 (Fr Γ sk s.heap.size)) 4 Γ sk M 0 0 4 [(0, vr Γ 4), (1, vi x1), (2, vi x2), (3, vi x3)] [] := by
    intro n
    induction n with
    | zero =>
      intro x1 x2 x3 M hx1 hx2 hx3 h
      cases h
    | succ n ih =>
      intro x1 x2 x3 M hx1 hx2 hx3 h
      rw [f_X8_addUp_L4] at h
      refine V_iload_n (pc := 4) C 3 rfl dX8_addUp_4 ?_
      refine V_aload_n (pc := 5) C 0 rfl dX8_addUp_5 ?_
      refine V_getR (pc := 6) C e4 rfl inX8 1 (by decide) rfl lf_X8_21 rfl dX8_addUp_6 ?_
      refine V_iload_n (pc := 9) C 1 rfl dX8_addUp_9 ?_
      obtain ⟨M1, r2, hc3, h⟩ := cal_of h
      refine V_callVI (pc := 10) C (c_X10_sizeAt l Γ sk hsk fu hx1 hc3) cf_X10_sizeAt lk_X8_66 ⟨rfl, rfl⟩ ⟨Nat.le_of_ble_eq_true rfl, Nat.le_of_ble_eq_true rfl⟩ e10 rfl rfl rfl (Nat.le_of_ble_eq_true rfl) ⟨Nat.zero_le _, Nat.zero_le _⟩ rfl dX8_addUp_10 (fun hr2 => ?_)
      refine V_icmp_ge (pc := 13) C 31 hx3 hr2 dX8_addUp_13 (by decide) (fun c13_4 => ?_) (fun c13_4 => ?_)
      · have h := ite_t h c13_4
        refine V_iload_n (pc := 31) C 2 rfl dX8_addUp_31 ?_
        exact V_iret (pc := 32) C hr hlk hx2 h dX8_addUp_32
      · have h := ite_f h c13_4
        refine V_iload_n (pc := 16) C 2 rfl dX8_addUp_16 ?_
        refine V_aload_n (pc := 17) C 0 rfl dX8_addUp_17 ?_
        refine V_iload_n (pc := 18) C 1 rfl dX8_addUp_18 ?_
        refine V_iload_n (pc := 19) C 3 rfl dX8_addUp_19 ?_
        obtain ⟨M5, r6, hc7, h⟩ := cal_of h
        refine V_callVI (pc := 20) C (c_X8_elementAt l Γ sk hsk fu hx1 hx3 hc7) cf_X8_elementAt lk_X8_81 ⟨rfl, rfl⟩ ⟨Nat.le_of_ble_eq_true rfl, Nat.le_of_ble_eq_true rfl⟩ e4 rfl rfl rfl (Nat.le_of_ble_eq_true rfl) ⟨Nat.zero_le _, Nat.zero_le _⟩ rfl dX8_addUp_20 (fun hr6 => ?_)
        refine V_iadd (pc := 23) C dX8_addUp_23 ?_
        refine V_istore_n (pc := 24) C (L' := [(0, vr Γ 4), (1, vi x1), (2, vi (x2 + r6)), (3, vi x3)]) rfl (by decide) dX8_addUp_24 ?_
        refine V_iinc (pc := 25) C (L' := [(0, vr Γ 4), (1, vi x1), (2, vi (x2 + r6)), (3, vi (x3 + (1 : Int)))]) 3 rfl rfl (by decide) dX8_addUp_25 ?_
        refine V_goto (pc := 28) C 4 dX8_addUp_28 (by decide) ?_
        obtain ⟨g8, h⟩ := grd_of h
        obtain ⟨g9, h⟩ := grd_of h
        refine V_sub (L' := [(0, vr Γ 4), (1, vi x1), (2, vi (x2 + r6)), (3, vi (x3 + (1 : Int)))]) [0, 1, 2, 3] rfl (by decide) ?_
        exact ih hx1 g8 g9 h
  skip
  refine V_iconst (pc := 0) C dX8_addUp_0 ?_
  refine V_istore_n (pc := 1) C (L' := [(0, vr Γ 4), (1, vi a1), (2, vi (0 : Int))]) rfl (by decide) dX8_addUp_1 ?_
  refine V_iconst (pc := 2) C dX8_addUp_2 ?_
  refine V_istore_n (pc := 3) C (L' := [(0, vr Γ 4), (1, vi a1), (2, vi (0 : Int)), (3, vi (0 : Int))]) rfl (by decide) dX8_addUp_3 ?_
  refine V_sub (L' := [(0, vr Γ 4), (1, vi a1), (2, vi (0 : Int)), (3, vi (0 : Int))]) [0, 1, 2, 3] rfl (by decide) ?_
  exact LP4 fu  ha1 (by decide) (by decide) h
set_option maxRecDepth 100000 in
set_option maxHeartbeats 4000000 in
theorem c_X8_copyWithElement (l : Launch) (Γ : GG) (sk : List SD) (hsk : Ext sk) (fu : Nat) : ∀ (d : Nat) {M M' : Mem} {a1 : Int} {a2 : Int} {a3 : Int} {a4 : Int} {r : Int} (ha1 : rng a1) (ha2 : rng a2) (ha3 : rng a3) (ha4 : rng a4) (h : f_X8_copyWithElement fu d M a1 a2 a3 a4 = some (M', r)), MetI l yX8_copyWithElement cX8_copyWithElement 7 .int ({ frames := 4 * (d + 1), cells := 0, slots := 0, locals := 140 * (d + 1) } : Room) Γ sk [vr Γ 4, vi a1, vi a2, vi a3, vi a4] M M' r := by
  intro d
  induction d with
  | zero =>
    intro M M' a1 a2 a3 a4 r ha1 ha2 ha3 ha4 h
    cases h
  | succ d hsf =>
    intro M M' a1 a2 a3 a4 r ha1 ha2 ha3 ha4 h
    rw [f_X8_copyWithElement] at h
    refine MetI_of RX8 rfl (by decide) rfl (Nat.le_of_ble_eq_true rfl) rfl ?_
    intro p e s m args below meth c C hr hlk hM
    have e4 := hsk 4 _ (by decide) rfl
    have e5 := hsk 5 _ (by decide) rfl
    generalize hsfe : f_X8_copyWithElement fu d = sf at h hsf
    have JP38 : ∀ {x1 : Int} {x2 : Int} {x5 : Int} {x6 : Int} {M : Mem}, rng x1 → rng x2 → rng x5 → rng x6 → f_X8_copyWithElement_J38 fu sf x1 x2 x5 x6 M = some (M', r) → VV p l e ({ frames := 4 * (d + 1 + 1), cells := 0, slots := 0, locals := 140 * (d + 1 + 1) } : Room) s m args below meth c (MQ below (PostI Γ sk M' r s.heap.size) args s 0 0 (Fr Γ sk s.heap.size)) 7 Γ sk M 0 0 38 [(0, vr Γ 4), (1, vi x1), (2, vi x2), (5, vi x5), (6, vi x6)] [] := by
      intro x1 x2 x5 x6 M hx1 hx2 hx5 hx6 h
      unfold f_X8_copyWithElement_J38 at h
      refine V_aload_n (pc := 38) C 0 rfl dX8_copyWithElement_38 ?_
      refine V_getR (pc := 39) C e4 rfl inX8 0 (by decide) rfl lf_X8_12 rfl dX8_copyWithElement_39 ?_
      refine V_iload_n (pc := 42) C 1 rfl dX8_copyWithElement_42 ?_
      refine V_iload_n (pc := 43) C 2 rfl dX8_copyWithElement_43 ?_
      refine V_aload_n (pc := 44) C 0 rfl dX8_copyWithElement_44 ?_
      refine V_getR (pc := 45) C e4 rfl inX8 0 (by decide) rfl lf_X8_12 rfl dX8_copyWithElement_45 ?_
      refine V_iload_n (pc := 48) C 1 rfl dX8_copyWithElement_48 ?_
      obtain ⟨M5, r6, hc7, h⟩ := cal_of h
      refine V_callVI (pc := 49) C (c_X3_fillAt l Γ sk hsk fu hx1 hc7) cf_X3_fillAt lk_X8_104 ⟨rfl, rfl⟩ ⟨by dsimp only; omega, by dsimp only; omega⟩ e5 rfl rfl rfl (Nat.le_of_ble_eq_true rfl) ⟨Nat.zero_le _, Nat.zero_le _⟩ rfl dX8_copyWithElement_49 (fun hr6 => ?_)
      refine V_iload (pc := 52) C 3 rfl dX8_copyWithElement_52 ?_
      refine V_iload (pc := 54) C 4 rfl dX8_copyWithElement_54 ?_
      obtain ⟨M8, r9, hc10, h⟩ := cal_of h
      refine V_callVI (pc := 56) C (c_X3_addCopy l Γ sk hsk fu hx1 hx2 hr6 hx5 hx6 hc10) cf_X3_addCopy lk_X8_107 ⟨rfl, rfl⟩ ⟨by dsimp only; omega, by dsimp only; omega⟩ e5 rfl rfl rfl (Nat.le_of_ble_eq_true rfl) ⟨Nat.zero_le _, Nat.zero_le _⟩ rfl dX8_copyWithElement_56 (fun hr9 => ?_)
      exact V_iret (pc := 59) C hr hlk hr9 h dX8_copyWithElement_59
    skip
    refine V_iload_n (pc := 0) C 2 rfl dX8_copyWithElement_0 ?_
    refine V_iload_n (pc := 1) C 3 rfl dX8_copyWithElement_1 ?_
    obtain ⟨M1, r2, hc3, h⟩ := cal_of h
    refine V_callNI (pc := 2) C (c_X11_positionIn l Γ sk hsk fu ha2 ha3 hc3) cf_X11_positionIn ln_X8_52 ⟨rfl, rfl⟩ ⟨by dsimp only; omega, by dsimp only; omega⟩ rfl (Nat.le_of_ble_eq_true rfl) ⟨Nat.zero_le _, Nat.zero_le _⟩ rfl dX8_copyWithElement_2 (fun hr2 => ?_)
    refine V_istore (pc := 5) C (L' := [(0, vr Γ 4), (1, vi a1), (2, vi a2), (3, vi a3), (4, vi a4), (5, vi r2)]) rfl (by decide) dX8_copyWithElement_5 ?_
    refine V_iload (pc := 7) C 4 rfl dX8_copyWithElement_7 ?_
    refine V_istore (pc := 9) C (L' := [(0, vr Γ 4), (1, vi a1), (2, vi a2), (3, vi a3), (4, vi a4), (5, vi r2), (6, vi a4)]) rfl (by decide) dX8_copyWithElement_9 ?_
    refine V_iload_n (pc := 11) C 2 rfl dX8_copyWithElement_11 ?_
    refine V_iconst (pc := 12) C dX8_copyWithElement_12 ?_
    refine V_icmp_le (pc := 13) C 38 ha2 (by decide) dX8_copyWithElement_13 (by decide) (fun c13_4 => ?_) (fun c13_4 => ?_)
    · have h := ite_t h c13_4
      refine V_sub (L' := [(0, vr Γ 4), (1, vi a1), (2, vi a2), (5, vi r2), (6, vi a4)]) [0, 1, 2, 5, 6] rfl (by decide) ?_
      exact JP38 ha1 ha2 hr2 ha4 h
    · have h := ite_f h c13_4
      refine V_aload_n (pc := 16) C 0 rfl dX8_copyWithElement_16 ?_
      refine V_aload_n (pc := 17) C 0 rfl dX8_copyWithElement_17 ?_
      refine V_getR (pc := 18) C e4 rfl inX8 0 (by decide) rfl lf_X8_12 rfl dX8_copyWithElement_18 ?_
      refine V_iload_n (pc := 21) C 1 rfl dX8_copyWithElement_21 ?_
      refine V_iload (pc := 22) C 5 rfl dX8_copyWithElement_22 ?_
      obtain ⟨M11, r12, hc13, h⟩ := cal_of h
      refine V_callVI (pc := 24) C (c_X3_childAt l Γ sk hsk fu ha1 hr2 hc13) cf_X3_childAt lk_X8_101 ⟨rfl, rfl⟩ ⟨by dsimp only; omega, by dsimp only; omega⟩ e5 rfl rfl rfl (Nat.le_of_ble_eq_true rfl) ⟨Nat.zero_le _, Nat.zero_le _⟩ rfl dX8_copyWithElement_24 (fun hr12 => ?_)
      refine V_iload_n (pc := 27) C 2 rfl dX8_copyWithElement_27 ?_
      refine V_iconst (pc := 28) C dX8_copyWithElement_28 ?_
      refine V_isub (pc := 29) C dX8_copyWithElement_29 ?_
      refine V_iload_n (pc := 30) C 3 rfl dX8_copyWithElement_30 ?_
      refine V_iload (pc := 31) C 4 rfl dX8_copyWithElement_31 ?_
      obtain ⟨g14, h⟩ := grd_of h
      obtain ⟨M15, r16, hc17, h⟩ := cal_of h
      refine V_callVI (pc := 33) C (hsf hr12 g14 ha3 ha4 hc17) cf_X8_copyWithElement lk_X8_84 ⟨rfl, rfl⟩ ⟨by dsimp only; omega, by dsimp only; omega⟩ e4 rfl rfl rfl (Nat.le_of_ble_eq_true rfl) ⟨Nat.zero_le _, Nat.zero_le _⟩ rfl dX8_copyWithElement_33 (fun hr16 => ?_)
      refine V_istore (pc := 36) C (L' := [(0, vr Γ 4), (1, vi a1), (2, vi a2), (3, vi a3), (4, vi a4), (5, vi r2), (6, vi r16)]) rfl (by decide) dX8_copyWithElement_36 ?_
      refine V_sub (L' := [(0, vr Γ 4), (1, vi a1), (2, vi a2), (5, vi r2), (6, vi r16)]) [0, 1, 2, 5, 6] rfl (by decide) ?_
      exact JP38 ha1 ha2 hr2 hr16 h
set_option maxRecDepth 100000 in
set_option maxHeartbeats 4000000 in
theorem c_X8_makeWithElement (l : Launch) (Γ : GG) (sk : List SD) (hsk : Ext sk) (fu : Nat) {M M' : Mem} {a1 : Int} {a2 : Int} {a3 : Int} {r : Int} (ha1 : rng a1) (ha2 : rng a2) (ha3 : rng a3) (h : f_X8_makeWithElement fu M a1 a2 a3 = some (M', r)) : MetI l yX8_makeWithElement cX8_makeWithElement 6 .int ({ frames := 37, cells := 0, slots := 0, locals := 1286 } : Room) Γ sk [vr Γ 4, vi a1, vi a2, vi a3] M M' r := by
  unfold f_X8_makeWithElement at h
  refine MetI_of RX8 rfl (by decide) rfl (Nat.le_of_ble_eq_true rfl) rfl ?_
  intro p e s m args below meth c C hr hlk hM
  have e4 := hsk 4 _ (by decide) rfl
  have e5 := hsk 5 _ (by decide) rfl
  have e10 := hsk 10 _ (by decide) rfl
  have JP44 : ∀ {x1 : Int} {x2 : Int} {x3 : Int} {x4 : Int} {x5 : Int} {M : Mem}, rng x1 → rng x2 → rng x3 → rng x4 → rng x5 → f_X8_makeWithElement_J44 fu x1 x2 x3 x4 x5 M = some (M', r) → VV p l e ({ frames := 37, cells := 0, slots := 0, locals := 1286 } : Room) s m args below meth c (MQ below (PostI Γ sk M' r s.heap.size) args s 0 0 (Fr Γ sk s.heap.size)) 6 Γ sk M 0 0 44 [(0, vr Γ 4), (1, vi x1), (2, vi x2), (3, vi x3), (4, vi x4), (5, vi x5)] [] := by
    intro x1 x2 x3 x4 x5 M hx1 hx2 hx3 hx4 hx5 h
    unfold f_X8_makeWithElement_J44 at h
    refine V_aload_n (pc := 44) C 0 rfl dX8_makeWithElement_44 ?_
    refine V_getR (pc := 45) C e4 rfl inX8 1 (by decide) rfl lf_X8_21 rfl dX8_makeWithElement_45 ?_
    refine V_iload_n (pc := 48) C 1 rfl dX8_makeWithElement_48 ?_
    refine V_iload (pc := 49) C 5 rfl dX8_makeWithElement_49 ?_
    refine V_aload_n (pc := 51) C 0 rfl dX8_makeWithElement_51 ?_
    refine V_getR (pc := 52) C e4 rfl inX8 1 (by decide) rfl lf_X8_21 rfl dX8_makeWithElement_52 ?_
    refine V_iload_n (pc := 55) C 1 rfl dX8_makeWithElement_55 ?_
    obtain ⟨M8, r9, hc10, h⟩ := cal_of h
    refine V_callVI (pc := 56) C (c_X10_sizeAt l Γ sk hsk fu hx1 hc10) cf_X10_sizeAt lk_X8_66 ⟨rfl, rfl⟩ ⟨Nat.le_of_ble_eq_true rfl, Nat.le_of_ble_eq_true rfl⟩ e10 rfl rfl rfl (Nat.le_of_ble_eq_true rfl) ⟨Nat.zero_le _, Nat.zero_le _⟩ rfl dX8_makeWithElement_56 (fun hr9 => ?_)
    refine V_aload_n (pc := 59) C 0 rfl dX8_makeWithElement_59 ?_
    refine V_getR (pc := 60) C e4 rfl inX8 0 (by decide) rfl lf_X8_12 rfl dX8_makeWithElement_60 ?_
    refine V_rng fun hM11 => ?_
    refine V_getI (pc := 63) C e5 rfl inX3 0 (by decide) rfl lf_X8_32 rfl dX8_makeWithElement_63 ?_
    refine V_iload (pc := 66) C 4 rfl dX8_makeWithElement_66 ?_
    refine V_isub (pc := 68) C dX8_makeWithElement_68 ?_
    refine V_iload_n (pc := 69) C 2 rfl dX8_makeWithElement_69 ?_
    refine V_iload_n (pc := 70) C 3 rfl dX8_makeWithElement_70 ?_
    obtain ⟨g12, h⟩ := grd_of h
    obtain ⟨M13, r14, hc15, h⟩ := cal_of h
    refine V_callVI (pc := 71) C (c_X10_add l Γ sk hsk fu hx1 hx5 hr9 g12 hx2 hx3 hc15) cf_X10_add lk_X8_88 ⟨rfl, rfl⟩ ⟨Nat.le_of_ble_eq_true rfl, Nat.le_of_ble_eq_true rfl⟩ e10 rfl rfl rfl (Nat.le_of_ble_eq_true rfl) ⟨Nat.zero_le _, Nat.zero_le _⟩ rfl dX8_makeWithElement_71 (fun hr14 => ?_)
    exact V_iret (pc := 74) C hr hlk hr14 h dX8_makeWithElement_74
  skip
  refine V_aload_n (pc := 0) C 0 rfl dX8_makeWithElement_0 ?_
  refine V_getR (pc := 1) C e4 rfl inX8 0 (by decide) rfl lf_X8_12 rfl dX8_makeWithElement_1 ?_
  refine V_getI (pc := 4) C e5 rfl inX3 0 (by decide) rfl lf_X8_32 rfl dX8_makeWithElement_4 ?_
  refine V_istore (pc := 7) C (L' := [(0, vr Γ 4), (1, vi a1), (2, vi a2), (3, vi a3), (4, vi (M 5 0))]) rfl (by decide) dX8_makeWithElement_7 ?_
  refine V_aload_n (pc := 9) C 0 rfl dX8_makeWithElement_9 ?_
  refine V_getR (pc := 10) C e4 rfl inX8 1 (by decide) rfl lf_X8_21 rfl dX8_makeWithElement_10 ?_
  refine V_iload_n (pc := 13) C 1 rfl dX8_makeWithElement_13 ?_
  obtain ⟨M1, r2, hc3, h⟩ := cal_of h
  refine V_callVI (pc := 14) C (c_X10_rootAt l Γ sk hsk fu ha1 hc3) cf_X10_rootAt lk_X8_69 ⟨rfl, rfl⟩ ⟨Nat.le_of_ble_eq_true rfl, Nat.le_of_ble_eq_true rfl⟩ e10 rfl rfl rfl (Nat.le_of_ble_eq_true rfl) ⟨Nat.zero_le _, Nat.zero_le _⟩ rfl dX8_makeWithElement_14 (fun hr2 => ?_)
  refine V_istore (pc := 17) C (L' := [(0, vr Γ 4), (1, vi a1), (2, vi a2), (3, vi a3), (4, vi (M 5 0)), (5, vi r2)]) rfl (by decide) dX8_makeWithElement_17 ?_
  refine V_aload_n (pc := 19) C 0 rfl dX8_makeWithElement_19 ?_
  refine V_iload_n (pc := 20) C 1 rfl dX8_makeWithElement_20 ?_
  refine V_iload_n (pc := 21) C 2 rfl dX8_makeWithElement_21 ?_
  obtain ⟨M4, r5, hc6, h⟩ := cal_of h
  refine V_callVI (pc := 22) C (c_X8_elementAt l Γ sk hsk fu ha1 ha2 hc6) cf_X8_elementAt lk_X8_81 ⟨rfl, rfl⟩ ⟨Nat.le_of_ble_eq_true rfl, Nat.le_of_ble_eq_true rfl⟩ e4 rfl rfl rfl (Nat.le_of_ble_eq_true rfl) ⟨Nat.zero_le _, Nat.zero_le _⟩ rfl dX8_makeWithElement_22 (fun hr5 => ?_)
  refine V_iload_n (pc := 25) C 3 rfl dX8_makeWithElement_25 ?_
  refine V_icmp_eq (pc := 26) C 44 hr5 ha3 dX8_makeWithElement_26 (by decide) (fun c26_7 => ?_) (fun c26_7 => ?_)
  · have h := ite_t h c26_7
    refine V_sub (L' := [(0, vr Γ 4), (1, vi a1), (2, vi a2), (3, vi a3), (4, vi (M 5 0)), (5, vi r2)]) [0, 1, 2, 3, 4, 5] rfl (by decide) ?_
    exact JP44 ha1 ha2 ha3 (hM _ _) hr2 h
  · have h := ite_f h c26_7
    refine V_aload_n (pc := 29) C 0 rfl dX8_makeWithElement_29 ?_
    refine V_iload (pc := 30) C 5 rfl dX8_makeWithElement_30 ?_
    refine V_aload_n (pc := 32) C 0 rfl dX8_makeWithElement_32 ?_
    refine V_iload_n (pc := 33) C 1 rfl dX8_makeWithElement_33 ?_
    obtain ⟨M16, r17, hc18, h⟩ := cal_of h
    refine V_callVI (pc := 34) C (c_X8_heightAt l Γ sk hsk fu ha1 hc18) cf_X8_heightAt lk_X8_72 ⟨rfl, rfl⟩ ⟨Nat.le_of_ble_eq_true rfl, Nat.le_of_ble_eq_true rfl⟩ e4 rfl rfl rfl (Nat.le_of_ble_eq_true rfl) ⟨Nat.zero_le _, Nat.zero_le _⟩ rfl dX8_makeWithElement_34 (fun hr17 => ?_)
    refine V_iload_n (pc := 37) C 2 rfl dX8_makeWithElement_37 ?_
    refine V_iload_n (pc := 38) C 3 rfl dX8_makeWithElement_38 ?_
    obtain ⟨M19, r20, hc21, h⟩ := cal_of h
    refine V_callVI (pc := 39) C (c_X8_copyWithElement l Γ sk hsk fu 8 hr2 hr17 ha2 ha3 hc21) cf_X8_copyWithElement lk_X8_84 ⟨rfl, rfl⟩ ⟨Nat.le_of_ble_eq_true rfl, Nat.le_of_ble_eq_true rfl⟩ e4 rfl rfl rfl (Nat.le_of_ble_eq_true rfl) ⟨Nat.zero_le _, Nat.zero_le _⟩ rfl dX8_makeWithElement_39 (fun hr20 => ?_)
    refine V_istore (pc := 42) C (L' := [(0, vr Γ 4), (1, vi a1), (2, vi a2), (3, vi a3), (4, vi (M 5 0)), (5, vi r20)]) rfl (by decide) dX8_makeWithElement_42 ?_
    refine V_sub (L' := [(0, vr Γ 4), (1, vi a1), (2, vi a2), (3, vi a3), (4, vi (M 5 0)), (5, vi r20)]) [0, 1, 2, 3, 4, 5] rfl (by decide) ?_
    exact JP44 ha1 ha2 ha3 (hM _ _) hr20 h
set_option maxRecDepth 100000 in
set_option maxHeartbeats 4000000 in
theorem c_X8_addRoot (l : Launch) (Γ : GG) (sk : List SD) (hsk : Ext sk) (fu : Nat) {M M' : Mem} {a1 : Int} {a2 : Int} {a3 : Int} {r : Int} (ha1 : rng a1) (ha2 : rng a2) (ha3 : rng a3) (h : f_X8_addRoot fu M a1 a2 a3 = some (M', r)) : MetI l yX8_addRoot cX8_addRoot 5 .int ({ frames := 2, cells := 0, slots := 0, locals := 53 } : Room) Γ sk [vr Γ 4, vi a1, vi a2, vi a3] M M' r := by
  unfold f_X8_addRoot at h
  refine MetI_of RX8 rfl (by decide) rfl (Nat.le_of_ble_eq_true rfl) rfl ?_
  intro p e s m args below meth c C hr hlk hM
  have e4 := hsk 4 _ (by decide) rfl
  have e5 := hsk 5 _ (by decide) rfl
  refine V_aload_n (pc := 0) C 0 rfl dX8_addRoot_0 ?_
  refine V_getR (pc := 1) C e4 rfl inX8 0 (by decide) rfl lf_X8_12 rfl dX8_addRoot_1 ?_
  refine V_iload_n (pc := 4) C 1 rfl dX8_addRoot_4 ?_
  obtain ⟨M1, r2, hc3, h⟩ := cal_of h
  refine V_callVI (pc := 5) C (c_X3_add l Γ sk hsk fu ha1 hc3) cf_X3_add lk_X8_56 ⟨rfl, rfl⟩ ⟨Nat.le_of_ble_eq_true rfl, Nat.le_of_ble_eq_true rfl⟩ e5 rfl rfl rfl (Nat.le_of_ble_eq_true rfl) ⟨Nat.zero_le _, Nat.zero_le _⟩ rfl dX8_addRoot_5 (fun hr2 => ?_)
  refine V_istore (pc := 8) C (L' := [(0, vr Γ 4), (1, vi a1), (2, vi a2), (3, vi a3), (4, vi r2)]) rfl (by decide) dX8_addRoot_8 ?_
  refine V_aload_n (pc := 10) C 0 rfl dX8_addRoot_10 ?_
  refine V_getR (pc := 11) C e4 rfl inX8 0 (by decide) rfl lf_X8_12 rfl dX8_addRoot_11 ?_
  refine V_iload (pc := 14) C 4 rfl dX8_addRoot_14 ?_
  refine V_iconst (pc := 16) C dX8_addRoot_16 ?_
  refine V_iload_n (pc := 17) C 2 rfl dX8_addRoot_17 ?_
  obtain ⟨M4, r5, hc6, h⟩ := cal_of h
  refine V_callVV (pc := 18) C (c_X3_place l Γ sk hsk fu hr2 (by decide) ha2 hc6) cf_X3_place lk_X8_63 ⟨rfl, rfl⟩ ⟨Nat.le_of_ble_eq_true rfl, Nat.le_of_ble_eq_true rfl⟩ e5 rfl rfl rfl (Nat.le_of_ble_eq_true rfl) ⟨Nat.zero_le _, Nat.zero_le _⟩ rfl dX8_addRoot_18 ?_
  refine V_aload_n (pc := 21) C 0 rfl dX8_addRoot_21 ?_
  refine V_getR (pc := 22) C e4 rfl inX8 0 (by decide) rfl lf_X8_12 rfl dX8_addRoot_22 ?_
  refine V_iload (pc := 25) C 4 rfl dX8_addRoot_25 ?_
  refine V_iconst (pc := 27) C dX8_addRoot_27 ?_
  refine V_iload_n (pc := 28) C 3 rfl dX8_addRoot_28 ?_
  obtain ⟨M7, r8, hc9, h⟩ := cal_of h
  refine V_callVV (pc := 29) C (c_X3_place l Γ sk hsk fu hr2 (by decide) ha3 hc9) cf_X3_place lk_X8_63 ⟨rfl, rfl⟩ ⟨Nat.le_of_ble_eq_true rfl, Nat.le_of_ble_eq_true rfl⟩ e5 rfl rfl rfl (Nat.le_of_ble_eq_true rfl) ⟨Nat.zero_le _, Nat.zero_le _⟩ rfl dX8_addRoot_29 ?_
  refine V_iload (pc := 32) C 4 rfl dX8_addRoot_32 ?_
  exact V_iret (pc := 34) C hr hlk hr2 h dX8_addRoot_34
set_option maxRecDepth 100000 in
set_option maxHeartbeats 4000000 in
theorem c_X8_makeLonger (l : Launch) (Γ : GG) (sk : List SD) (hsk : Ext sk) (fu : Nat) {M M' : Mem} {a1 : Int} {a2 : Int} {r : Int} (ha1 : rng a1) (ha2 : rng a2) (h : f_X8_makeLonger fu M a1 a2 = some (M', r)) : MetI l yX8_makeLonger cX8_makeLonger 8 .int ({ frames := 37, cells := 0, slots := 0, locals := 1286 } : Room) Γ sk [vr Γ 4, vi a1, vi a2] M M' r := by
  unfold f_X8_makeLonger at h
  refine MetI_of RX8 rfl (by decide) rfl (Nat.le_of_ble_eq_true rfl) rfl ?_
  intro p e s m args below meth c C hr hlk hM
  have e4 := hsk 4 _ (by decide) rfl
  have e5 := hsk 5 _ (by decide) rfl
  have e10 := hsk 10 _ (by decide) rfl
  have JP94 : ∀ {x1 : Int} {x2 : Int} {x3 : Int} {x4 : Int} {x5 : Int} {M : Mem}, rng x1 → rng x2 → rng x3 → rng x4 → rng x5 → f_X8_makeLonger_J94 fu x1 x2 x3 x4 x5 M = some (M', r) → VV p l e ({ frames := 37, cells := 0, slots := 0, locals := 1286 } : Room) s m args below meth c (MQ below (PostI Γ sk M' r s.heap.size) args s 0 0 (Fr Γ sk s.heap.size)) 8 Γ sk M 0 0 94 [(0, vr Γ 4), (1, vi x1), (2, vi x2), (3, vi x3), (4, vi x4), (5, vi x5)] [] := by
    intro x1 x2 x3 x4 x5 M hx1 hx2 hx3 hx4 hx5 h
    unfold f_X8_makeLonger_J94 at h
    refine V_aload_n (pc := 94) C 0 rfl dX8_makeLonger_94 ?_
    refine V_getR (pc := 95) C e4 rfl inX8 1 (by decide) rfl lf_X8_21 rfl dX8_makeLonger_95 ?_
    refine V_iload_n (pc := 98) C 1 rfl dX8_makeLonger_98 ?_
    refine V_iload (pc := 99) C 5 rfl dX8_makeLonger_99 ?_
    refine V_iload (pc := 101) C 4 rfl dX8_makeLonger_101 ?_
    refine V_iconst (pc := 103) C dX8_makeLonger_103 ?_
    refine V_iadd (pc := 104) C dX8_makeLonger_104 ?_
    refine V_aload_n (pc := 105) C 0 rfl dX8_makeLonger_105 ?_
    refine V_getR (pc := 106) C e4 rfl inX8 0 (by decide) rfl lf_X8_12 rfl dX8_makeLonger_106 ?_
    refine V_rng fun hM15 => ?_
    refine V_getI (pc := 109) C e5 rfl inX3 0 (by decide) rfl lf_X8_32 rfl dX8_makeLonger_109 ?_
    refine V_iload_n (pc := 112) C 3 rfl dX8_makeLonger_112 ?_
    refine V_isub (pc := 113) C dX8_makeLonger_113 ?_
    refine V_iload (pc := 114) C 4 rfl dX8_makeLonger_114 ?_
    refine V_iload_n (pc := 116) C 2 rfl dX8_makeLonger_116 ?_
    obtain ⟨g16, h⟩ := grd_of h
    obtain ⟨g17, h⟩ := grd_of h
    obtain ⟨M18, r19, hc20, h⟩ := cal_of h
    refine V_callVI (pc := 117) C (c_X10_add l Γ sk hsk fu hx1 hx5 g16 g17 hx4 hx2 hc20) cf_X10_add lk_X8_88 ⟨rfl, rfl⟩ ⟨Nat.le_of_ble_eq_true rfl, Nat.le_of_ble_eq_true rfl⟩ e10 rfl rfl rfl (Nat.le_of_ble_eq_true rfl) ⟨Nat.zero_le _, Nat.zero_le _⟩ rfl dX8_makeLonger_117 (fun hr19 => ?_)
    exact V_iret (pc := 120) C hr hlk hr19 h dX8_makeLonger_120
  have JP81 : ∀ {x1 : Int} {x2 : Int} {x3 : Int} {x4 : Int} {x5 : Int} {x6 : Int} {M : Mem}, rng x1 → rng x2 → rng x3 → rng x4 → rng x5 → rng x6 → f_X8_makeLonger_J81 fu x1 x2 x3 x4 x5 x6 M = some (M', r) → VV p l e ({ frames := 37, cells := 0, slots := 0, locals := 1286 } : Room) s m args below meth c (MQ below (PostI Γ sk M' r s.heap.size) args s 0 0 (Fr Γ sk s.heap.size)) 8 Γ sk M 0 0 81 [(0, vr Γ 4), (1, vi x1), (2, vi x2), (3, vi x3), (4, vi x4), (5, vi x5), (6, vi x6)] [] := by
    intro x1 x2 x3 x4 x5 x6 M hx1 hx2 hx3 hx4 hx5 hx6 h
    unfold f_X8_makeLonger_J81 at h
    refine V_aload_n (pc := 81) C 0 rfl dX8_makeLonger_81 ?_
    refine V_iload (pc := 82) C 5 rfl dX8_makeLonger_82 ?_
    refine V_iload (pc := 84) C 6 rfl dX8_makeLonger_84 ?_
    refine V_iload (pc := 86) C 4 rfl dX8_makeLonger_86 ?_
    refine V_iload_n (pc := 88) C 2 rfl dX8_makeLonger_88 ?_
    obtain ⟨M12, r13, hc14, h⟩ := cal_of h
    refine V_callVI (pc := 89) C (c_X8_copyWithElement l Γ sk hsk fu 8 hx5 hx6 hx4 hx2 hc14) cf_X8_copyWithElement lk_X8_84 ⟨rfl, rfl⟩ ⟨Nat.le_of_ble_eq_true rfl, Nat.le_of_ble_eq_true rfl⟩ e4 rfl rfl rfl (Nat.le_of_ble_eq_true rfl) ⟨Nat.zero_le _, Nat.zero_le _⟩ rfl dX8_makeLonger_89 (fun hr13 => ?_)
    refine V_istore (pc := 92) C (L' := [(0, vr Γ 4), (1, vi x1), (2, vi x2), (3, vi x3), (4, vi x4), (5, vi r13), (6, vi x6)]) rfl (by decide) dX8_makeLonger_92 ?_
    refine V_sub (L' := [(0, vr Γ 4), (1, vi x1), (2, vi x2), (3, vi x3), (4, vi x4), (5, vi r13)]) [0, 1, 2, 3, 4, 5] rfl (by decide) ?_
    exact JP94 hx1 hx2 hx3 hx4 hr13 h
  skip
  refine V_aload_n (pc := 0) C 0 rfl dX8_makeLonger_0 ?_
  refine V_getR (pc := 1) C e4 rfl inX8 0 (by decide) rfl lf_X8_12 rfl dX8_makeLonger_1 ?_
  refine V_getI (pc := 4) C e5 rfl inX3 0 (by decide) rfl lf_X8_32 rfl dX8_makeLonger_4 ?_
  refine V_istore_n (pc := 7) C (L' := [(0, vr Γ 4), (1, vi a1), (2, vi a2), (3, vi (M 5 0))]) rfl (by decide) dX8_makeLonger_7 ?_
  refine V_aload_n (pc := 8) C 0 rfl dX8_makeLonger_8 ?_
  refine V_getR (pc := 9) C e4 rfl inX8 1 (by decide) rfl lf_X8_21 rfl dX8_makeLonger_9 ?_
  refine V_iload_n (pc := 12) C 1 rfl dX8_makeLonger_12 ?_
  obtain ⟨M1, r2, hc3, h⟩ := cal_of h
  refine V_callVI (pc := 13) C (c_X10_sizeAt l Γ sk hsk fu ha1 hc3) cf_X10_sizeAt lk_X8_66 ⟨rfl, rfl⟩ ⟨Nat.le_of_ble_eq_true rfl, Nat.le_of_ble_eq_true rfl⟩ e10 rfl rfl rfl (Nat.le_of_ble_eq_true rfl) ⟨Nat.zero_le _, Nat.zero_le _⟩ rfl dX8_makeLonger_13 (fun hr2 => ?_)
  refine V_istore (pc := 16) C (L' := [(0, vr Γ 4), (1, vi a1), (2, vi a2), (3, vi (M 5 0)), (4, vi r2)]) rfl (by decide) dX8_makeLonger_16 ?_
  refine V_aload_n (pc := 18) C 0 rfl dX8_makeLonger_18 ?_
  refine V_getR (pc := 19) C e4 rfl inX8 1 (by decide) rfl lf_X8_21 rfl dX8_makeLonger_19 ?_
  refine V_iload_n (pc := 22) C 1 rfl dX8_makeLonger_22 ?_
  obtain ⟨M4, r5, hc6, h⟩ := cal_of h
  refine V_callVI (pc := 23) C (c_X10_rootAt l Γ sk hsk fu ha1 hc6) cf_X10_rootAt lk_X8_69 ⟨rfl, rfl⟩ ⟨Nat.le_of_ble_eq_true rfl, Nat.le_of_ble_eq_true rfl⟩ e10 rfl rfl rfl (Nat.le_of_ble_eq_true rfl) ⟨Nat.zero_le _, Nat.zero_le _⟩ rfl dX8_makeLonger_23 (fun hr5 => ?_)
  refine V_istore (pc := 26) C (L' := [(0, vr Γ 4), (1, vi a1), (2, vi a2), (3, vi (M 5 0)), (4, vi r2), (5, vi r5)]) rfl (by decide) dX8_makeLonger_26 ?_
  refine V_iload (pc := 28) C 4 rfl dX8_makeLonger_28 ?_
  refine V_iconst (pc := 30) C dX8_makeLonger_30 ?_
  refine V_iadd (pc := 31) C dX8_makeLonger_31 ?_
  obtain ⟨g7, h⟩ := grd_of h
  obtain ⟨M8, r9, hc10, h⟩ := cal_of h
  refine V_callNI (pc := 32) C (c_X11_heightFor l Γ sk hsk fu g7 hc10) cf_X11_heightFor ln_X8_40 ⟨rfl, rfl⟩ ⟨Nat.le_of_ble_eq_true rfl, Nat.le_of_ble_eq_true rfl⟩ rfl (Nat.le_of_ble_eq_true rfl) ⟨Nat.zero_le _, Nat.zero_le _⟩ rfl dX8_makeLonger_32 (fun hr9 => ?_)
  refine V_istore (pc := 35) C (L' := [(0, vr Γ 4), (1, vi a1), (2, vi a2), (3, vi (M 5 0)), (4, vi r2), (5, vi r5), (6, vi r9)]) rfl (by decide) dX8_makeLonger_35 ?_
  refine V_iload (pc := 37) C 4 rfl dX8_makeLonger_37 ?_
  refine V_if_le (pc := 39) C 81 hr2 dX8_makeLonger_39 (by decide) (fun c39_11 => ?_) (fun c39_11 => ?_)
  · have h := ite_t h c39_11
    refine V_sub (L' := [(0, vr Γ 4), (1, vi a1), (2, vi a2), (3, vi (M 5 0)), (4, vi r2), (5, vi r5), (6, vi r9)]) [0, 1, 2, 3, 4, 5, 6] rfl (by decide) ?_
    exact JP81 ha1 ha2 (hM _ _) hr2 hr5 hr9 h
  · have h := ite_f h c39_11
    refine V_iload (pc := 42) C 6 rfl dX8_makeLonger_42 ?_
    refine V_iload (pc := 44) C 4 rfl dX8_makeLonger_44 ?_
    obtain ⟨M21, r22, hc23, h⟩ := cal_of h
    refine V_callNI (pc := 46) C (c_X11_heightFor l Γ sk hsk fu hr2 hc23) cf_X11_heightFor ln_X8_40 ⟨rfl, rfl⟩ ⟨Nat.le_of_ble_eq_true rfl, Nat.le_of_ble_eq_true rfl⟩ rfl (Nat.le_of_ble_eq_true rfl) ⟨Nat.zero_le _, Nat.zero_le _⟩ rfl dX8_makeLonger_46 (fun hr22 => ?_)
    refine V_icmp_le (pc := 49) C 81 hr9 hr22 dX8_makeLonger_49 (by decide) (fun c49_24 => ?_) (fun c49_24 => ?_)
    · have h := ite_t h c49_24
      refine V_sub (L' := [(0, vr Γ 4), (1, vi a1), (2, vi a2), (3, vi (M 5 0)), (4, vi r2), (5, vi r5), (6, vi r9)]) [0, 1, 2, 3, 4, 5, 6] rfl (by decide) ?_
      exact JP81 ha1 ha2 (hM _ _) hr2 hr5 hr9 h
    · have h := ite_f h c49_24
      refine V_aload_n (pc := 52) C 0 rfl dX8_makeLonger_52 ?_
      refine V_iconst (pc := 53) C dX8_makeLonger_53 ?_
      refine V_iload (pc := 54) C 6 rfl dX8_makeLonger_54 ?_
      refine V_iconst (pc := 56) C dX8_makeLonger_56 ?_
      refine V_isub (pc := 57) C dX8_makeLonger_57 ?_
      refine V_iload (pc := 58) C 4 rfl dX8_makeLonger_58 ?_
      refine V_iload_n (pc := 60) C 2 rfl dX8_makeLonger_60 ?_
      obtain ⟨g25, h⟩ := grd_of h
      obtain ⟨M26, r27, hc28, h⟩ := cal_of h
      refine V_callVI (pc := 61) C (c_X8_copyWithElement l Γ sk hsk fu 8 (by decide) g25 hr2 ha2 hc28) cf_X8_copyWithElement lk_X8_84 ⟨rfl, rfl⟩ ⟨Nat.le_of_ble_eq_true rfl, Nat.le_of_ble_eq_true rfl⟩ e4 rfl rfl rfl (Nat.le_of_ble_eq_true rfl) ⟨Nat.zero_le _, Nat.zero_le _⟩ rfl dX8_makeLonger_61 (fun hr27 => ?_)
      refine V_istore (pc := 64) C (L' := [(0, vr Γ 4), (1, vi a1), (2, vi a2), (3, vi (M 5 0)), (4, vi r2), (5, vi r5), (6, vi r9), (7, vi r27)]) rfl (by decide) dX8_makeLonger_64 ?_
      refine V_aload_n (pc := 66) C 0 rfl dX8_makeLonger_66 ?_
      refine V_iload (pc := 67) C 6 rfl dX8_makeLonger_67 ?_
      refine V_iload (pc := 69) C 5 rfl dX8_makeLonger_69 ?_
      refine V_iload (pc := 71) C 7 rfl dX8_makeLonger_71 ?_
      obtain ⟨M29, r30, hc31, h⟩ := cal_of h
      refine V_callVI (pc := 73) C (c_X8_addRoot l Γ sk hsk fu hr9 hr5 hr27 hc31) cf_X8_addRoot lk_X8_91 ⟨rfl, rfl⟩ ⟨Nat.le_of_ble_eq_true rfl, Nat.le_of_ble_eq_true rfl⟩ e4 rfl rfl rfl (Nat.le_of_ble_eq_true rfl) ⟨Nat.zero_le _, Nat.zero_le _⟩ rfl dX8_makeLonger_73 (fun hr30 => ?_)
      refine V_istore (pc := 76) C (L' := [(0, vr Γ 4), (1, vi a1), (2, vi a2), (3, vi (M 5 0)), (4, vi r2), (5, vi r30), (6, vi r9), (7, vi r27)]) rfl (by decide) dX8_makeLonger_76 ?_
      refine V_goto (pc := 78) C 94 dX8_makeLonger_78 (by decide) ?_
      refine V_sub (L' := [(0, vr Γ 4), (1, vi a1), (2, vi a2), (3, vi (M 5 0)), (4, vi r2), (5, vi r30)]) [0, 1, 2, 3, 4, 5] rfl (by decide) ?_
      exact JP94 ha1 ha2 (hM _ _) hr2 hr30 h
set_option maxRecDepth 100000 in
set_option maxHeartbeats 4000000 in
theorem c_X8_firstNodeAt (l : Launch) (Γ : GG) (sk : List SD) (hsk : Ext sk) (fu : Nat) {M M' : Mem} {a1 : Int} {a2 : Int} {r : Int} (ha1 : rng a1) (ha2 : rng a2) (h : f_X8_firstNodeAt fu M a1 a2 = some (M', r)) : MetI l yX8_firstNodeAt cX8_firstNodeAt 5 .int ({ frames := 3, cells := 0, slots := 0, locals := 63 } : Room) Γ sk [vr Γ 4, vi a1, vi a2] M M' r := by
  unfold f_X8_firstNodeAt at h
  refine MetI_of RX8 rfl (by decide) rfl (Nat.le_of_ble_eq_true rfl) rfl ?_
  intro p e s m args below meth c C hr hlk hM
  have e4 := hsk 4 _ (by decide) rfl
  have e5 := hsk 5 _ (by decide) rfl
  have e10 := hsk 10 _ (by decide) rfl
  have LP16 : ∀ (n : Nat) {x2 : Int} {x3 : Int} {x4 : Int} {M : Mem}, rng x2 → rng x3 → rng x4 → f_X8_firstNodeAt_L16 fu n x2 x3 x4 M = some (M', r) → VV p l e ({ frames := 3, cells := 0, slots := 0, locals := 63 } : Room) s m args below meth c (MQ below (PostI Γ sk M' r s.heap.size) args s 0 0 (Fr Γ sk s.heap.size)) 5 Γ sk M 0 0 16 [(0, vr Γ 4), (2, vi x2), (3, vi x3), (4, vi x4)] [] := by
    intro n
    induction n with
    | zero =>
      intro x2 x3 x4 M hx2 hx3 hx4 h
      cases h
    | succ n ih =>
      intro x2 x3 x4 M hx2 hx3 hx4 h
      rw [f_X8_firstNodeAt_L16] at h
      refine V_iload (pc := 16) C 3 rfl dX8_firstNodeAt_16 ?_
      refine V_iload_n (pc := 18) C 1 rfl dX8_firstNodeAt_18 ?_
      refine V_icmp_le (pc := 19) C 38 hx4 hx2 dX8_firstNodeAt_19 (by decide) (fun c19_7 => ?_) (fun c19_7 => ?_)
      · have h := ite_t h c19_7
        refine V_iload_n (pc := 38) C 2 rfl dX8_firstNodeAt_38 ?_
        exact V_iret (pc := 39) C hr hlk hx3 h dX8_firstNodeAt_39
      · have h := ite_f h c19_7
        refine V_aload_n (pc := 22) C 0 rfl dX8_firstNodeAt_22 ?_
        refine V_getR (pc := 23) C e4 rfl inX8 0 (by decide) rfl lf_X8_12 rfl dX8_firstNodeAt_23 ?_
        refine V_iload_n (pc := 26) C 2 rfl dX8_firstNodeAt_26 ?_
        refine V_iconst (pc := 27) C dX8_firstNodeAt_27 ?_
        obtain ⟨M8, r9, hc10, h⟩ := cal_of h
        refine V_callVI (pc := 28) C (c_X3_entryAt l Γ sk hsk fu hx3 (by decide) hc10) cf_X3_entryAt lk_X8_75 ⟨rfl, rfl⟩ ⟨Nat.le_of_ble_eq_true rfl, Nat.le_of_ble_eq_true rfl⟩ e5 rfl rfl rfl (Nat.le_of_ble_eq_true rfl) ⟨Nat.zero_le _, Nat.zero_le _⟩ rfl dX8_firstNodeAt_28 (fun hr9 => ?_)
        refine V_istore_n (pc := 31) C (L' := [(0, vr Γ 4), (2, vi x2), (3, vi r9), (4, vi x4)]) rfl (by decide) dX8_firstNodeAt_31 ?_
        refine V_iinc (pc := 32) C (L' := [(0, vr Γ 4), (2, vi x2), (3, vi r9), (4, vi (x4 + (-1 : Int)))]) 3 rfl rfl (by decide) dX8_firstNodeAt_32 ?_
        refine V_goto (pc := 35) C 16 dX8_firstNodeAt_35 (by decide) ?_
        obtain ⟨g11, h⟩ := grd_of h
        refine V_sub (L' := [(0, vr Γ 4), (2, vi x2), (3, vi r9), (4, vi (x4 + (-1 : Int)))]) [0, 1, 2, 3] rfl (by decide) ?_
        exact ih hx2 hr9 g11 h
  skip
  refine V_aload_n (pc := 0) C 0 rfl dX8_firstNodeAt_0 ?_
  refine V_getR (pc := 1) C e4 rfl inX8 1 (by decide) rfl lf_X8_21 rfl dX8_firstNodeAt_1 ?_
  refine V_iload_n (pc := 4) C 1 rfl dX8_firstNodeAt_4 ?_
  obtain ⟨M1, r2, hc3, h⟩ := cal_of h
  refine V_callVI (pc := 5) C (c_X10_rootAt l Γ sk hsk fu ha1 hc3) cf_X10_rootAt lk_X8_69 ⟨rfl, rfl⟩ ⟨Nat.le_of_ble_eq_true rfl, Nat.le_of_ble_eq_true rfl⟩ e10 rfl rfl rfl (Nat.le_of_ble_eq_true rfl) ⟨Nat.zero_le _, Nat.zero_le _⟩ rfl dX8_firstNodeAt_5 (fun hr2 => ?_)
  refine V_istore_n (pc := 8) C (L' := [(0, vr Γ 4), (1, vi a1), (2, vi a2), (3, vi r2)]) rfl (by decide) dX8_firstNodeAt_8 ?_
  refine V_aload_n (pc := 9) C 0 rfl dX8_firstNodeAt_9 ?_
  refine V_iload_n (pc := 10) C 1 rfl dX8_firstNodeAt_10 ?_
  obtain ⟨M4, r5, hc6, h⟩ := cal_of h
  refine V_callVI (pc := 11) C (c_X8_heightAt l Γ sk hsk fu ha1 hc6) cf_X8_heightAt lk_X8_72 ⟨rfl, rfl⟩ ⟨Nat.le_of_ble_eq_true rfl, Nat.le_of_ble_eq_true rfl⟩ e4 rfl rfl rfl (Nat.le_of_ble_eq_true rfl) ⟨Nat.zero_le _, Nat.zero_le _⟩ rfl dX8_firstNodeAt_11 (fun hr5 => ?_)
  refine V_istore (pc := 14) C (L' := [(0, vr Γ 4), (1, vi a1), (2, vi a2), (3, vi r2), (4, vi r5)]) rfl (by decide) dX8_firstNodeAt_14 ?_
  refine V_sub (L' := [(0, vr Γ 4), (2, vi a2), (3, vi r2), (4, vi r5)]) [0, 2, 3, 4] rfl (by decide) ?_
  exact LP16 fu  ha2 hr2 hr5 h
set_option maxRecDepth 100000 in
set_option maxHeartbeats 4000000 in
theorem c_X8_countElements (l : Launch) (Γ : GG) (sk : List SD) (hsk : Ext sk) (fu : Nat) {M M' : Mem} {a1 : Int} {a2 : Int} {r : Int} (ha1 : rng a1) (ha2 : rng a2) (h : f_X8_countElements fu M a1 a2 = some (M', r)) : MetI l yX8_countElements cX8_countElements 7 .int ({ frames := 2, cells := 0, slots := 0, locals := 43 } : Room) Γ sk [vr Γ 4, vi a1, vi a2] M M' r := by
  unfold f_X8_countElements at h
  refine MetI_of RX8 rfl (by decide) rfl (Nat.le_of_ble_eq_true rfl) rfl ?_
  intro p e s m args below meth c C hr hlk hM
  have e4 := hsk 4 _ (by decide) rfl
  have e5 := hsk 5 _ (by decide) rfl
  have LP8 : ∀ (n : Nat) {x3 : Int} {x4 : Int} {x5 : Int} {M : Mem}, rng x3 → rng x4 → rng x5 → f_X8_countElements_L8 fu n x3 x4 x5 M = some (M', r) → VV p l e ({ frames := 2, cells := 0, slots := 0, locals := 43 } : Room) s m args below meth c (MQ below (PostI Γ sk M' r s.heap.size) args s 0 0 (Fr Γ sk s.heap.size)) 7 Γ sk M 0 0 8 [(0, vr Γ 4), (3, vi x3), (4, vi x4), (5, vi x5)] [] := by
    intro n
    induction n with
    | zero =>
      intro x3 x4 x5 M hx3 hx4 hx5 h
      cases h
    | succ n ih =>
      intro x3 x4 x5 M hx3 hx4 hx5 h
      rw [f_X8_countElements_L8] at h
      refine V_iload (pc := 8) C 3 rfl dX8_countElements_8 ?_
      refine V_iconst (pc := 10) C dX8_countElements_10 ?_
      refine V_icmp_le (pc := 11) C 58 hx5 (by decide) dX8_countElements_11 (by decide) (fun c11_1 => ?_) (fun c11_1 => ?_)
      · have h := ite_t h c11_1
        refine V_iload (pc := 58) C 2 rfl dX8_countElements_58 ?_
        refine V_aload_n (pc := 60) C 0 rfl dX8_countElements_60 ?_
        refine V_getR (pc := 61) C e4 rfl inX8 0 (by decide) rfl lf_X8_12 rfl dX8_countElements_61 ?_
        refine V_iload_n (pc := 64) C 1 rfl dX8_countElements_64 ?_
        obtain ⟨M2, r3, hc4, h⟩ := cal_of h
        refine V_callVI (pc := 65) C (c_X3_fillAt l Γ sk hsk fu hx3 hc4) cf_X3_fillAt lk_X8_104 ⟨rfl, rfl⟩ ⟨Nat.le_of_ble_eq_true rfl, Nat.le_of_ble_eq_true rfl⟩ e5 rfl rfl rfl (Nat.le_of_ble_eq_true rfl) ⟨Nat.zero_le _, Nat.zero_le _⟩ rfl dX8_countElements_65 (fun hr3 => ?_)
        refine V_iadd (pc := 68) C dX8_countElements_68 ?_
        obtain ⟨g5, h⟩ := grd_of h
        exact V_iret (pc := 69) C hr hlk g5 h dX8_countElements_69
      · have h := ite_f h c11_1
        refine V_aload_n (pc := 14) C 0 rfl dX8_countElements_14 ?_
        refine V_getR (pc := 15) C e4 rfl inX8 0 (by decide) rfl lf_X8_12 rfl dX8_countElements_15 ?_
        refine V_iload_n (pc := 18) C 1 rfl dX8_countElements_18 ?_
        obtain ⟨M6, r7, hc8, h⟩ := cal_of h
        refine V_callVI (pc := 19) C (c_X3_fillAt l Γ sk hsk fu hx3 hc8) cf_X3_fillAt lk_X8_104 ⟨rfl, rfl⟩ ⟨Nat.le_of_ble_eq_true rfl, Nat.le_of_ble_eq_true rfl⟩ e5 rfl rfl rfl (Nat.le_of_ble_eq_true rfl) ⟨Nat.zero_le _, Nat.zero_le _⟩ rfl dX8_countElements_19 (fun hr7 => ?_)
        refine V_iconst (pc := 22) C dX8_countElements_22 ?_
        refine V_isub (pc := 23) C dX8_countElements_23 ?_
        refine V_istore (pc := 24) C (L' := [(0, vr Γ 4), (3, vi x3), (4, vi x4), (5, vi x5), (6, vi (r7 - (1 : Int)))]) rfl (by decide) dX8_countElements_24 ?_
        refine V_iload (pc := 26) C 2 rfl dX8_countElements_26 ?_
        refine V_iload (pc := 28) C 4 rfl dX8_countElements_28 ?_
        refine V_iload (pc := 30) C 3 rfl dX8_countElements_30 ?_
        refine V_iconst (pc := 32) C dX8_countElements_32 ?_
        refine V_isub (pc := 33) C dX8_countElements_33 ?_
        obtain ⟨g9, h⟩ := grd_of h
        obtain ⟨M10, r11, hc12, h⟩ := cal_of h
        refine V_callNI (pc := 34) C (c_X11_capacity l Γ sk hsk fu g9 hc12) cf_X11_capacity ln_X8_114 ⟨rfl, rfl⟩ ⟨Nat.le_of_ble_eq_true rfl, Nat.le_of_ble_eq_true rfl⟩ rfl (Nat.le_of_ble_eq_true rfl) ⟨Nat.zero_le _, Nat.zero_le _⟩ rfl dX8_countElements_34 (fun hr11 => ?_)
        refine V_imul (pc := 37) C dX8_countElements_37 ?_
        refine V_iadd (pc := 38) C dX8_countElements_38 ?_
        refine V_istore (pc := 39) C (L' := [(0, vr Γ 4), (3, vi x3), (4, vi (x4 + ((r7 - (1 : Int)) * r11))), (5, vi x5), (6, vi (r7 - (1 : Int)))]) rfl (by decide) dX8_countElements_39 ?_
        refine V_aload_n (pc := 41) C 0 rfl dX8_countElements_41 ?_
        refine V_getR (pc := 42) C e4 rfl inX8 0 (by decide) rfl lf_X8_12 rfl dX8_countElements_42 ?_
        refine V_iload_n (pc := 45) C 1 rfl dX8_countElements_45 ?_
        refine V_iload (pc := 46) C 4 rfl dX8_countElements_46 ?_
        obtain ⟨g13, h⟩ := grd_of h
        obtain ⟨M14, r15, hc16, h⟩ := cal_of h
        refine V_callVI (pc := 48) C (c_X3_entryAt l Γ sk hsk fu hx3 g13 hc16) cf_X3_entryAt lk_X8_75 ⟨rfl, rfl⟩ ⟨Nat.le_of_ble_eq_true rfl, Nat.le_of_ble_eq_true rfl⟩ e5 rfl rfl rfl (Nat.le_of_ble_eq_true rfl) ⟨Nat.zero_le _, Nat.zero_le _⟩ rfl dX8_countElements_48 (fun hr15 => ?_)
        refine V_istore_n (pc := 51) C (L' := [(0, vr Γ 4), (3, vi r15), (4, vi (x4 + ((r7 - (1 : Int)) * r11))), (5, vi x5), (6, vi (r7 - (1 : Int)))]) rfl (by decide) dX8_countElements_51 ?_
        refine V_iinc (pc := 52) C (L' := [(0, vr Γ 4), (3, vi r15), (4, vi (x4 + ((r7 - (1 : Int)) * r11))), (5, vi (x5 + (-1 : Int))), (6, vi (r7 - (1 : Int)))]) 3 rfl rfl (by decide) dX8_countElements_52 ?_
        refine V_goto (pc := 55) C 8 dX8_countElements_55 (by decide) ?_
        obtain ⟨g17, h⟩ := grd_of h
        obtain ⟨g18, h⟩ := grd_of h
        refine V_sub (L' := [(0, vr Γ 4), (3, vi r15), (4, vi (x4 + ((r7 - (1 : Int)) * r11))), (5, vi (x5 + (-1 : Int)))]) [0, 1, 2, 3] rfl (by decide) ?_
        exact ih hr15 g17 g18 h
  skip
  refine V_iload_n (pc := 0) C 1 rfl dX8_countElements_0 ?_
  refine V_istore_n (pc := 1) C (L' := [(0, vr Γ 4), (1, vi a1), (2, vi a2), (3, vi a1)]) rfl (by decide) dX8_countElements_1 ?_
  refine V_iconst (pc := 2) C dX8_countElements_2 ?_
  refine V_istore (pc := 3) C (L' := [(0, vr Γ 4), (1, vi a1), (2, vi a2), (3, vi a1), (4, vi (0 : Int))]) rfl (by decide) dX8_countElements_3 ?_
  refine V_iload_n (pc := 5) C 2 rfl dX8_countElements_5 ?_
  refine V_istore (pc := 6) C (L' := [(0, vr Γ 4), (1, vi a1), (2, vi a2), (3, vi a1), (4, vi (0 : Int)), (5, vi a2)]) rfl (by decide) dX8_countElements_6 ?_
  refine V_sub (L' := [(0, vr Γ 4), (3, vi a1), (4, vi (0 : Int)), (5, vi a2)]) [0, 3, 4, 5] rfl (by decide) ?_
  exact LP8 fu  ha1 (by decide) ha2 h
set_option maxRecDepth 100000 in
set_option maxHeartbeats 4000000 in
theorem c_X8_copyWithFirst (l : Launch) (Γ : GG) (sk : List SD) (hsk : Ext sk) (fu : Nat) : ∀ (d : Nat) {M M' : Mem} {a1 : Int} {a2 : Int} {a3 : Int} {r : Int} (ha1 : rng a1) (ha2 : rng a2) (ha3 : rng a3) (h : f_X8_copyWithFirst fu d M a1 a2 a3 = some (M', r)), MetI l yX8_copyWithFirst cX8_copyWithFirst 6 .int ({ frames := 4 * (d + 1), cells := 0, slots := 0, locals := 140 * (d + 1) } : Room) Γ sk [vr Γ 4, vi a1, vi a2, vi a3] M M' r := by
  intro d
  induction d with
  | zero =>
    intro M M' a1 a2 a3 r ha1 ha2 ha3 h
    cases h
  | succ d hsf =>
    intro M M' a1 a2 a3 r ha1 ha2 ha3 h
    rw [f_X8_copyWithFirst] at h
    refine MetI_of RX8 rfl (by decide) rfl (Nat.le_of_ble_eq_true rfl) rfl ?_
    intro p e s m args below meth c C hr hlk hM
    have e4 := hsk 4 _ (by decide) rfl
    have e5 := hsk 5 _ (by decide) rfl
    generalize hsfe : f_X8_copyWithFirst fu d = sf at h hsf
    have JP60 : ∀ {x1 : Int} {x2 : Int} {x4 : Int} {x5 : Int} {M : Mem}, rng x1 → rng x2 → rng x4 → rng x5 → f_X8_copyWithFirst_J60 fu sf x1 x2 x4 x5 M = some (M', r) → VV p l e ({ frames := 4 * (d + 1 + 1), cells := 0, slots := 0, locals := 140 * (d + 1 + 1) } : Room) s m args below meth c (MQ below (PostI Γ sk M' r s.heap.size) args s 0 0 (Fr Γ sk s.heap.size)) 6 Γ sk M 0 0 60 [(0, vr Γ 4), (1, vi x1), (2, vi x2), (4, vi x4), (5, vi x5)] [] := by
      intro x1 x2 x4 x5 M hx1 hx2 hx4 hx5 h
      unfold f_X8_copyWithFirst_J60 at h
      refine V_aload_n (pc := 60) C 0 rfl dX8_copyWithFirst_60 ?_
      refine V_getR (pc := 61) C e4 rfl inX8 0 (by decide) rfl lf_X8_12 rfl dX8_copyWithFirst_61 ?_
      refine V_iload_n (pc := 64) C 1 rfl dX8_copyWithFirst_64 ?_
      refine V_iload_n (pc := 65) C 2 rfl dX8_copyWithFirst_65 ?_
      refine V_iload (pc := 66) C 3 rfl dX8_copyWithFirst_66 ?_
      refine V_iload (pc := 68) C 3 rfl dX8_copyWithFirst_68 ?_
      refine V_iload (pc := 70) C 4 rfl dX8_copyWithFirst_70 ?_
      obtain ⟨M13, r14, hc15, h⟩ := cal_of h
      refine V_callVI (pc := 72) C (c_X3_addCopy l Γ sk hsk fu hx1 hx2 hx4 hx4 hx5 hc15) cf_X3_addCopy lk_X8_107 ⟨rfl, rfl⟩ ⟨by dsimp only; omega, by dsimp only; omega⟩ e5 rfl rfl rfl (Nat.le_of_ble_eq_true rfl) ⟨Nat.zero_le _, Nat.zero_le _⟩ rfl dX8_copyWithFirst_72 (fun hr14 => ?_)
      exact V_iret (pc := 75) C hr hlk hr14 h dX8_copyWithFirst_75
    skip
    refine V_aload_n (pc := 0) C 0 rfl dX8_copyWithFirst_0 ?_
    refine V_iload_n (pc := 1) C 1 rfl dX8_copyWithFirst_1 ?_
    refine V_iload_n (pc := 2) C 2 rfl dX8_copyWithFirst_2 ?_
    obtain ⟨M1, r2, hc3, h⟩ := cal_of h
    refine V_callVI (pc := 3) C (c_X8_countElements l Γ sk hsk fu ha1 ha2 hc3) cf_X8_countElements lk_X8_111 ⟨rfl, rfl⟩ ⟨by dsimp only; omega, by dsimp only; omega⟩ e4 rfl rfl rfl (Nat.le_of_ble_eq_true rfl) ⟨Nat.zero_le _, Nat.zero_le _⟩ rfl dX8_copyWithFirst_3 (fun hr2 => ?_)
    refine V_iload_n (pc := 6) C 3 rfl dX8_copyWithFirst_6 ?_
    refine V_icmp_ne (pc := 7) C 12 hr2 ha3 dX8_copyWithFirst_7 (by decide) (fun c7_4 => ?_) (fun c7_4 => ?_)
    · have h := ite_f h c7_4
      refine V_iload_n (pc := 12) C 2 rfl dX8_copyWithFirst_12 ?_
      refine V_iload_n (pc := 13) C 3 rfl dX8_copyWithFirst_13 ?_
      refine V_iconst (pc := 14) C dX8_copyWithFirst_14 ?_
      refine V_isub (pc := 15) C dX8_copyWithFirst_15 ?_
      obtain ⟨g5, h⟩ := grd_of h
      obtain ⟨M6, r7, hc8, h⟩ := cal_of h
      refine V_callNI (pc := 16) C (c_X11_positionIn l Γ sk hsk fu ha2 g5 hc8) cf_X11_positionIn ln_X8_52 ⟨rfl, rfl⟩ ⟨by dsimp only; omega, by dsimp only; omega⟩ rfl (Nat.le_of_ble_eq_true rfl) ⟨Nat.zero_le _, Nat.zero_le _⟩ rfl dX8_copyWithFirst_16 (fun hr7 => ?_)
      refine V_istore (pc := 19) C (L' := [(0, vr Γ 4), (1, vi a1), (2, vi a2), (3, vi a3), (4, vi r7)]) rfl (by decide) dX8_copyWithFirst_19 ?_
      refine V_aload_n (pc := 21) C 0 rfl dX8_copyWithFirst_21 ?_
      refine V_getR (pc := 22) C e4 rfl inX8 0 (by decide) rfl lf_X8_12 rfl dX8_copyWithFirst_22 ?_
      refine V_iload_n (pc := 25) C 1 rfl dX8_copyWithFirst_25 ?_
      refine V_iload (pc := 26) C 4 rfl dX8_copyWithFirst_26 ?_
      obtain ⟨M9, r10, hc11, h⟩ := cal_of h
      refine V_callVI (pc := 28) C (c_X3_entryAt l Γ sk hsk fu ha1 hr7 hc11) cf_X3_entryAt lk_X8_75 ⟨rfl, rfl⟩ ⟨by dsimp only; omega, by dsimp only; omega⟩ e5 rfl rfl rfl (Nat.le_of_ble_eq_true rfl) ⟨Nat.zero_le _, Nat.zero_le _⟩ rfl dX8_copyWithFirst_28 (fun hr10 => ?_)
      refine V_istore (pc := 31) C (L' := [(0, vr Γ 4), (1, vi a1), (2, vi a2), (3, vi a3), (4, vi r7), (5, vi r10)]) rfl (by decide) dX8_copyWithFirst_31 ?_
      refine V_iload_n (pc := 33) C 2 rfl dX8_copyWithFirst_33 ?_
      refine V_iconst (pc := 34) C dX8_copyWithFirst_34 ?_
      refine V_icmp_le (pc := 35) C 60 ha2 (by decide) dX8_copyWithFirst_35 (by decide) (fun c35_12 => ?_) (fun c35_12 => ?_)
      · have h := ite_t h c35_12
        refine V_sub (L' := [(0, vr Γ 4), (1, vi a1), (2, vi a2), (4, vi r7), (5, vi r10)]) [0, 1, 2, 4, 5] rfl (by decide) ?_
        exact JP60 ha1 ha2 hr7 hr10 h
      · have h := ite_f h c35_12
        refine V_aload_n (pc := 38) C 0 rfl dX8_copyWithFirst_38 ?_
        refine V_iload (pc := 39) C 5 rfl dX8_copyWithFirst_39 ?_
        refine V_iload_n (pc := 41) C 2 rfl dX8_copyWithFirst_41 ?_
        refine V_iconst (pc := 42) C dX8_copyWithFirst_42 ?_
        refine V_isub (pc := 43) C dX8_copyWithFirst_43 ?_
        refine V_iload_n (pc := 44) C 3 rfl dX8_copyWithFirst_44 ?_
        refine V_iload (pc := 45) C 4 rfl dX8_copyWithFirst_45 ?_
        refine V_iload_n (pc := 47) C 2 rfl dX8_copyWithFirst_47 ?_
        refine V_iconst (pc := 48) C dX8_copyWithFirst_48 ?_
        refine V_isub (pc := 49) C dX8_copyWithFirst_49 ?_
        obtain ⟨g16, h⟩ := grd_of h
        obtain ⟨M17, r18, hc19, h⟩ := cal_of h
        refine V_callNI (pc := 50) C (c_X11_capacity l Γ sk hsk fu g16 hc19) cf_X11_capacity ln_X8_114 ⟨rfl, rfl⟩ ⟨by dsimp only; omega, by dsimp only; omega⟩ rfl (Nat.le_of_ble_eq_true rfl) ⟨Nat.zero_le _, Nat.zero_le _⟩ rfl dX8_copyWithFirst_50 (fun hr18 => ?_)
        refine V_imul (pc := 53) C dX8_copyWithFirst_53 ?_
        refine V_isub (pc := 54) C dX8_copyWithFirst_54 ?_
        obtain ⟨g20, h⟩ := grd_of h
        obtain ⟨g21, h⟩ := grd_of h
        obtain ⟨M22, r23, hc24, h⟩ := cal_of h
        refine V_callVI (pc := 55) C (hsf hr10 g20 g21 hc24) cf_X8_copyWithFirst lk_X8_98 ⟨rfl, rfl⟩ ⟨by dsimp only; omega, by dsimp only; omega⟩ e4 rfl rfl rfl (Nat.le_of_ble_eq_true rfl) ⟨Nat.zero_le _, Nat.zero_le _⟩ rfl dX8_copyWithFirst_55 (fun hr23 => ?_)
        refine V_istore (pc := 58) C (L' := [(0, vr Γ 4), (1, vi a1), (2, vi a2), (3, vi a3), (4, vi r7), (5, vi r23)]) rfl (by decide) dX8_copyWithFirst_58 ?_
        refine V_sub (L' := [(0, vr Γ 4), (1, vi a1), (2, vi a2), (4, vi r7), (5, vi r23)]) [0, 1, 2, 4, 5] rfl (by decide) ?_
        exact JP60 ha1 ha2 hr7 hr23 h
    · have h := ite_t h c7_4
      refine V_iload_n (pc := 10) C 1 rfl dX8_copyWithFirst_10 ?_
      exact V_iret (pc := 11) C hr hlk ha1 h dX8_copyWithFirst_11
