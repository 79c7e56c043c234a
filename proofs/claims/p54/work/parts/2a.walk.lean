set_option maxRecDepth 100000 in
set_option maxHeartbeats 4000000 in
theorem c_X11_flagAt (l : Launch) (Γ : GG) (sk : List SD) (hsk : Ext sk) (fu : Nat) {M M' : Mem} {k0 : Nat} {n0 : Nat} {a1 : Int} {r : Int} (hk0 : sk[k0]? = some (.inl (1, n0))) (hn0 : n0 ≤ 2147483647) (ha1 : rng a1) (h : f_X11_flagAt fu M k0 n0 a1 = some (M', r)) : MetI l yX11_flagAt cX11_flagAt 2 .boolean ({ frames := 0, cells := 0, slots := 0, locals := 0 } : Room) Γ sk [vr Γ k0, vi a1] M M' r := by
  unfold f_X11_flagAt at h
  refine MetI_of RX11 rfl (by decide) rfl (Nat.le_of_ble_eq_true rfl) rfl ?_
  intro p e s m args below meth c C hr hlk hM
  refine V_iload_n (pc := 0) C 1 rfl dX11_flagAt_0 ?_
  refine V_if_lt (pc := 1) C 20 ha1 dX11_flagAt_1 (by decide) (fun c1_1 => ?_) (fun c1_1 => ?_)
  · have h := ite_t h c1_1
    refine V_iconst (pc := 20) C dX11_flagAt_20 ?_
    exact V_zret (pc := 21) C hr hlk (by decide) h dX11_flagAt_21
  · have h := ite_f h c1_1
    refine V_iload_n (pc := 4) C 1 rfl dX11_flagAt_4 ?_
    refine V_aload_n (pc := 5) C 0 rfl dX11_flagAt_5 ?_
    refine V_alen (pc := 6) C hk0 dX11_flagAt_6 ?_
    refine V_icmp_ge (pc := 7) C 20 ha1 (nat_rng hn0) dX11_flagAt_7 (by decide) (fun c7_2 => ?_) (fun c7_2 => ?_)
    · have h := ite_t h c7_2
      refine V_iconst (pc := 20) C dX11_flagAt_20 ?_
      exact V_zret (pc := 21) C hr hlk (by decide) h dX11_flagAt_21
    · have h := ite_f h c7_2
      refine V_aload_n (pc := 10) C 0 rfl dX11_flagAt_10 ?_
      refine V_iload_n (pc := 11) C 1 rfl dX11_flagAt_11 ?_
      obtain ⟨g3, h⟩ := grd_of h
      refine V_zald (pc := 12) C hk0 g3 ha1 dX11_flagAt_12 ?_
      refine V_if_eq (pc := 13) C 20 (hM _ _) dX11_flagAt_13 (by decide) (fun c13_4 => ?_) (fun c13_4 => ?_)
      · have h := ite_t h c13_4
        refine V_iconst (pc := 20) C dX11_flagAt_20 ?_
        exact V_zret (pc := 21) C hr hlk (by decide) h dX11_flagAt_21
      · have h := ite_f h c13_4
        refine V_iconst (pc := 16) C dX11_flagAt_16 ?_
        refine V_goto (pc := 17) C 21 dX11_flagAt_17 (by decide) ?_
        exact V_zret (pc := 21) C hr hlk (by decide) h dX11_flagAt_21
set_option maxRecDepth 100000 in
set_option maxHeartbeats 4000000 in
theorem c_X3_isStored (l : Launch) (Γ : GG) (sk : List SD) (hsk : Ext sk) (fu : Nat) {M M' : Mem} {a1 : Int} {r : Int} (ha1 : rng a1) (h : f_X3_isStored fu M a1 = some (M', r)) : MetI l yX3_isStored cX3_isStored 2 .boolean ({ frames := 1, cells := 0, slots := 0, locals := 21 } : Room) Γ sk [vr Γ 5, vi a1] M M' r := by
  unfold f_X3_isStored at h
  refine MetI_of RX3 rfl (by decide) rfl (Nat.le_of_ble_eq_true rfl) rfl ?_
  intro p e s m args below meth c C hr hlk hM
  have e5 := hsk 5 _ (by decide) rfl
  have e9 := hsk 9 _ (by decide) rfl
  refine V_iload_n (pc := 0) C 1 rfl dX3_isStored_0 ?_
  refine V_if_lt (pc := 1) C 27 ha1 dX3_isStored_1 (by decide) (fun c1_1 => ?_) (fun c1_1 => ?_)
  · have h := ite_t h c1_1
    refine V_iconst (pc := 27) C dX3_isStored_27 ?_
    exact V_zret (pc := 28) C hr hlk (by decide) h dX3_isStored_28
  · have h := ite_f h c1_1
    refine V_iload_n (pc := 4) C 1 rfl dX3_isStored_4 ?_
    refine V_aload_n (pc := 5) C 0 rfl dX3_isStored_5 ?_
    refine V_getI (pc := 6) C e5 rfl inX3 0 (by decide) rfl lf_X3_25 rfl dX3_isStored_6 ?_
    refine V_icmp_ge (pc := 9) C 27 ha1 (hM _ _) dX3_isStored_9 (by decide) (fun c9_2 => ?_) (fun c9_2 => ?_)
    · have h := ite_t h c9_2
      refine V_iconst (pc := 27) C dX3_isStored_27 ?_
      exact V_zret (pc := 28) C hr hlk (by decide) h dX3_isStored_28
    · have h := ite_f h c9_2
      refine V_aload_n (pc := 12) C 0 rfl dX3_isStored_12 ?_
      refine V_getR (pc := 13) C e5 rfl inX3 4 (by decide) rfl lf_X3_21 rfl dX3_isStored_13 ?_
      refine V_iload_n (pc := 16) C 1 rfl dX3_isStored_16 ?_
      obtain ⟨M3, r4, hc5, h⟩ := cal_of h
      refine V_callNI (pc := 17) C (c_X11_flagAt l Γ sk hsk fu e9 (by decide) ha1 hc5) cf_X11_flagAt ln_X3_37 ⟨rfl, rfl⟩ ⟨Nat.le_of_ble_eq_true rfl, Nat.le_of_ble_eq_true rfl⟩ rfl (Nat.le_of_ble_eq_true rfl) ⟨Nat.zero_le _, Nat.zero_le _⟩ rfl dX3_isStored_17 (fun hr4 => ?_)
      refine V_if_ne (pc := 20) C 27 hr4 dX3_isStored_20 (by decide) (fun c20_6 => ?_) (fun c20_6 => ?_)
      · have h := ite_f h c20_6
        refine V_iconst (pc := 27) C dX3_isStored_27 ?_
        exact V_zret (pc := 28) C hr hlk (by decide) h dX3_isStored_28
      · have h := ite_t h c20_6
        refine V_iconst (pc := 23) C dX3_isStored_23 ?_
        refine V_goto (pc := 24) C 28 dX3_isStored_24 (by decide) ?_
        exact V_zret (pc := 28) C hr hlk (by decide) h dX3_isStored_28
set_option maxRecDepth 100000 in
set_option maxHeartbeats 4000000 in
theorem c_X3_countStored (l : Launch) (Γ : GG) (sk : List SD) (hsk : Ext sk) (fu : Nat) {M M' : Mem}  {r : Int}  (h : f_X3_countStored fu M  = some (M', r)) : MetI l yX3_countStored cX3_countStored 3 .int ({ frames := 2, cells := 0, slots := 0, locals := 42 } : Room) Γ sk [vr Γ 5] M M' r := by
  unfold f_X3_countStored at h
  refine MetI_of RX3 rfl (by decide) rfl (Nat.le_of_ble_eq_true rfl) rfl ?_
  intro p e s m args below meth c C hr hlk hM
  have e5 := hsk 5 _ (by decide) rfl
  have LP4 : ∀ (n : Nat) {x1 : Int} {x2 : Int} {M : Mem}, rng x1 → rng x2 → f_X3_countStored_L4 fu n x1 x2 M = some (M', r) → VV p l e ({ frames := 2, cells := 0, slots := 0, locals := 42 } : Room) s m args below meth c (MQ below (PostI Γ sk M' r s.heap.size) args s 0 0 (Fr Γ sk s.heap.size)) 3 Γ sk M 0 0 4 [(0, vr Γ 5), (1, vi x1), (2, vi x2)] [] := by
    intro n
    induction n with
    | zero =>
      intro x1 x2 M hx1 hx2 h
      cases h
    | succ n ih =>
      intro x1 x2 M hx1 hx2 h
      rw [f_X3_countStored_L4] at h
      refine V_iload_n (pc := 4) C 2 rfl dX3_countStored_4 ?_
      refine V_aload_n (pc := 5) C 0 rfl dX3_countStored_5 ?_
      refine V_rng fun hM1 => ?_
      refine V_getI (pc := 6) C e5 rfl inX3 0 (by decide) rfl lf_X3_25 rfl dX3_countStored_6 ?_
      refine V_icmp_ge (pc := 9) C 29 hx2 (hM1 _ _) dX3_countStored_9 (by decide) (fun c9_2 => ?_) (fun c9_2 => ?_)
      · have h := ite_t h c9_2
        refine V_iload_n (pc := 29) C 1 rfl dX3_countStored_29 ?_
        exact V_iret (pc := 30) C hr hlk hx1 h dX3_countStored_30
      · have h := ite_f h c9_2
        refine V_aload_n (pc := 12) C 0 rfl dX3_countStored_12 ?_
        refine V_iload_n (pc := 13) C 2 rfl dX3_countStored_13 ?_
        obtain ⟨M3, r4, hc5, h⟩ := cal_of h
        refine V_callVI (pc := 14) C (c_X3_isStored l Γ sk hsk fu hx2 hc5) cf_X3_isStored lk_X3_41 ⟨rfl, rfl⟩ ⟨Nat.le_of_ble_eq_true rfl, Nat.le_of_ble_eq_true rfl⟩ e5 rfl rfl rfl (Nat.le_of_ble_eq_true rfl) ⟨Nat.zero_le _, Nat.zero_le _⟩ rfl dX3_countStored_14 (fun hr4 => ?_)
        refine V_if_eq (pc := 17) C 23 hr4 dX3_countStored_17 (by decide) (fun c17_6 => ?_) (fun c17_6 => ?_)
        · have h := ite_t h c17_6
          refine V_iinc (pc := 23) C (L' := [(0, vr Γ 5), (1, vi x1), (2, vi (x2 + (1 : Int)))]) 2 rfl rfl (by decide) dX3_countStored_23 ?_
          refine V_goto (pc := 26) C 4 dX3_countStored_26 (by decide) ?_
          obtain ⟨g7, h⟩ := grd_of h
          refine V_sub (L' := [(0, vr Γ 5), (1, vi x1), (2, vi (x2 + (1 : Int)))]) [0, 1, 2] rfl (by decide) ?_
          exact ih hx1 g7 h
        · have h := ite_f h c17_6
          refine V_iinc (pc := 20) C (L' := [(0, vr Γ 5), (1, vi (x1 + (1 : Int))), (2, vi x2)]) 1 rfl rfl (by decide) dX3_countStored_20 ?_
          refine V_iinc (pc := 23) C (L' := [(0, vr Γ 5), (1, vi (x1 + (1 : Int))), (2, vi (x2 + (1 : Int)))]) 2 rfl rfl (by decide) dX3_countStored_23 ?_
          refine V_goto (pc := 26) C 4 dX3_countStored_26 (by decide) ?_
          obtain ⟨g8, h⟩ := grd_of h
          obtain ⟨g9, h⟩ := grd_of h
          refine V_sub (L' := [(0, vr Γ 5), (1, vi (x1 + (1 : Int))), (2, vi (x2 + (1 : Int)))]) [0, 1, 2] rfl (by decide) ?_
          exact ih g8 g9 h
  skip
  refine V_iconst (pc := 0) C dX3_countStored_0 ?_
  refine V_istore_n (pc := 1) C (L' := [(0, vr Γ 5), (1, vi (0 : Int))]) rfl (by decide) dX3_countStored_1 ?_
  refine V_iconst (pc := 2) C dX3_countStored_2 ?_
  refine V_istore_n (pc := 3) C (L' := [(0, vr Γ 5), (1, vi (0 : Int)), (2, vi (0 : Int))]) rfl (by decide) dX3_countStored_3 ?_
  refine V_sub (L' := [(0, vr Γ 5), (1, vi (0 : Int)), (2, vi (0 : Int))]) [0, 1, 2] rfl (by decide) ?_
  exact LP4 fu  (by decide) (by decide) h
set_option maxRecDepth 100000 in
set_option maxHeartbeats 4000000 in
theorem c_X11_at (l : Launch) (Γ : GG) (sk : List SD) (hsk : Ext sk) (fu : Nat) {M M' : Mem} {k0 : Nat} {n0 : Nat} {a1 : Int} {r : Int} (hk0 : sk[k0]? = some (.inl (0, n0))) (hn0 : n0 ≤ 2147483647) (ha1 : rng a1) (h : f_X11_at fu M k0 n0 a1 = some (M', r)) : MetI l yX11_at cX11_at 2 .int ({ frames := 0, cells := 0, slots := 0, locals := 0 } : Room) Γ sk [vr Γ k0, vi a1] M M' r := by
  unfold f_X11_at at h
  refine MetI_of RX11 rfl (by decide) rfl (Nat.le_of_ble_eq_true rfl) rfl ?_
  intro p e s m args below meth c C hr hlk hM
  refine V_iload_n (pc := 0) C 1 rfl dX11_at_0 ?_
  refine V_if_lt (pc := 1) C 16 ha1 dX11_at_1 (by decide) (fun c1_1 => ?_) (fun c1_1 => ?_)
  · have h := ite_t h c1_1
    refine V_iconst (pc := 16) C dX11_at_16 ?_
    exact V_iret (pc := 17) C hr hlk (by decide) h dX11_at_17
  · have h := ite_f h c1_1
    refine V_iload_n (pc := 4) C 1 rfl dX11_at_4 ?_
    refine V_aload_n (pc := 5) C 0 rfl dX11_at_5 ?_
    refine V_alen (pc := 6) C hk0 dX11_at_6 ?_
    refine V_icmp_ge (pc := 7) C 16 ha1 (nat_rng hn0) dX11_at_7 (by decide) (fun c7_2 => ?_) (fun c7_2 => ?_)
    · have h := ite_t h c7_2
      refine V_iconst (pc := 16) C dX11_at_16 ?_
      exact V_iret (pc := 17) C hr hlk (by decide) h dX11_at_17
    · have h := ite_f h c7_2
      refine V_aload_n (pc := 10) C 0 rfl dX11_at_10 ?_
      refine V_iload_n (pc := 11) C 1 rfl dX11_at_11 ?_
      obtain ⟨g3, h⟩ := grd_of h
      refine V_iald (pc := 12) C hk0 g3 ha1 dX11_at_12 ?_
      refine V_goto (pc := 13) C 17 dX11_at_13 (by decide) ?_
      exact V_iret (pc := 17) C hr hlk (hM _ _) h dX11_at_17
set_option maxRecDepth 100000 in
set_option maxHeartbeats 4000000 in
theorem c_X3_levelAt (l : Launch) (Γ : GG) (sk : List SD) (hsk : Ext sk) (fu : Nat) {M M' : Mem} {a1 : Int} {r : Int} (ha1 : rng a1) (h : f_X3_levelAt fu M a1 = some (M', r)) : MetI l yX3_levelAt cX3_levelAt 2 .int ({ frames := 1, cells := 0, slots := 0, locals := 21 } : Room) Γ sk [vr Γ 5, vi a1] M M' r := by
  unfold f_X3_levelAt at h
  refine MetI_of RX3 rfl (by decide) rfl (Nat.le_of_ble_eq_true rfl) rfl ?_
  intro p e s m args below meth c C hr hlk hM
  have e5 := hsk 5 _ (by decide) rfl
  have e6 := hsk 6 _ (by decide) rfl
  refine V_aload_n (pc := 0) C 0 rfl dX3_levelAt_0 ?_
  refine V_getR (pc := 1) C e5 rfl inX3 1 (by decide) rfl lf_X3_9 rfl dX3_levelAt_1 ?_
  refine V_iload_n (pc := 4) C 1 rfl dX3_levelAt_4 ?_
  obtain ⟨M1, r2, hc3, h⟩ := cal_of h
  refine V_callNI (pc := 5) C (c_X11_at l Γ sk hsk fu e6 (by decide) ha1 hc3) cf_X11_at ln_X3_45 ⟨rfl, rfl⟩ ⟨Nat.le_of_ble_eq_true rfl, Nat.le_of_ble_eq_true rfl⟩ rfl (Nat.le_of_ble_eq_true rfl) ⟨Nat.zero_le _, Nat.zero_le _⟩ rfl dX3_levelAt_5 (fun hr2 => ?_)
  exact V_iret (pc := 8) C hr hlk hr2 h dX3_levelAt_8
set_option maxRecDepth 100000 in
set_option maxHeartbeats 4000000 in
theorem c_X3_fillAt (l : Launch) (Γ : GG) (sk : List SD) (hsk : Ext sk) (fu : Nat) {M M' : Mem} {a1 : Int} {r : Int} (ha1 : rng a1) (h : f_X3_fillAt fu M a1 = some (M', r)) : MetI l yX3_fillAt cX3_fillAt 2 .int ({ frames := 0, cells := 0, slots := 0, locals := 0 } : Room) Γ sk [vr Γ 5, vi a1] M M' r := by
  unfold f_X3_fillAt at h
  refine MetI_of RX3 rfl (by decide) rfl (Nat.le_of_ble_eq_true rfl) rfl ?_
  intro p e s m args below meth c C hr hlk hM
  have e5 := hsk 5 _ (by decide) rfl
  have e7 := hsk 7 _ (by decide) rfl
  refine V_iload_n (pc := 0) C 1 rfl dX3_fillAt_0 ?_
  refine V_if_lt (pc := 1) C 22 ha1 dX3_fillAt_1 (by decide) (fun c1_1 => ?_) (fun c1_1 => ?_)
  · have h := ite_t h c1_1
    refine V_iconst (pc := 22) C dX3_fillAt_22 ?_
    exact V_iret (pc := 23) C hr hlk (by decide) h dX3_fillAt_23
  · have h := ite_f h c1_1
    refine V_iload_n (pc := 4) C 1 rfl dX3_fillAt_4 ?_
    refine V_aload_n (pc := 5) C 0 rfl dX3_fillAt_5 ?_
    refine V_getR (pc := 6) C e5 rfl inX3 2 (by decide) rfl lf_X3_15 rfl dX3_fillAt_6 ?_
    refine V_alen (pc := 9) C e7 dX3_fillAt_9 ?_
    refine V_icmp_ge (pc := 10) C 22 ha1 (by decide) dX3_fillAt_10 (by decide) (fun c10_2 => ?_) (fun c10_2 => ?_)
    · have h := ite_t h c10_2
      refine V_iconst (pc := 22) C dX3_fillAt_22 ?_
      exact V_iret (pc := 23) C hr hlk (by decide) h dX3_fillAt_23
    · have h := ite_f h c10_2
      refine V_aload_n (pc := 13) C 0 rfl dX3_fillAt_13 ?_
      refine V_getR (pc := 14) C e5 rfl inX3 2 (by decide) rfl lf_X3_15 rfl dX3_fillAt_14 ?_
      refine V_iload_n (pc := 17) C 1 rfl dX3_fillAt_17 ?_
      obtain ⟨g3, h⟩ := grd_of h
      refine V_iald (pc := 18) C e7 g3 ha1 dX3_fillAt_18 ?_
      refine V_goto (pc := 19) C 23 dX3_fillAt_19 (by decide) ?_
      exact V_iret (pc := 23) C hr hlk (hM _ _) h dX3_fillAt_23
set_option maxRecDepth 100000 in
set_option maxHeartbeats 4000000 in
theorem c_X3_entryAt (l : Launch) (Γ : GG) (sk : List SD) (hsk : Ext sk) (fu : Nat) {M M' : Mem} {a1 : Int} {a2 : Int} {r : Int} (ha1 : rng a1) (ha2 : rng a2) (h : f_X3_entryAt fu M a1 a2 = some (M', r)) : MetI l yX3_entryAt cX3_entryAt 3 .int ({ frames := 1, cells := 0, slots := 0, locals := 21 } : Room) Γ sk [vr Γ 5, vi a1, vi a2] M M' r := by
  unfold f_X3_entryAt at h
  refine MetI_of RX3 rfl (by decide) rfl (Nat.le_of_ble_eq_true rfl) rfl ?_
  intro p e s m args below meth c C hr hlk hM
  have e5 := hsk 5 _ (by decide) rfl
  have e8 := hsk 8 _ (by decide) rfl
  refine V_iload_n (pc := 0) C 2 rfl dX3_entryAt_0 ?_
  refine V_if_lt (pc := 1) C 13 ha2 dX3_entryAt_1 (by decide) (fun c1_1 => ?_) (fun c1_1 => ?_)
  · have h := ite_t h c1_1
    refine V_iconst (pc := 13) C dX3_entryAt_13 ?_
    exact V_iret (pc := 14) C hr hlk (by decide) h dX3_entryAt_14
  · have h := ite_f h c1_1
    refine V_iload_n (pc := 4) C 2 rfl dX3_entryAt_4 ?_
    refine V_aload_n (pc := 5) C 0 rfl dX3_entryAt_5 ?_
    refine V_iload_n (pc := 6) C 1 rfl dX3_entryAt_6 ?_
    obtain ⟨M2, r3, hc4, h⟩ := cal_of h
    refine V_callVI (pc := 7) C (c_X3_fillAt l Γ sk hsk fu ha1 hc4) cf_X3_fillAt lk_X3_49 ⟨rfl, rfl⟩ ⟨Nat.le_of_ble_eq_true rfl, Nat.le_of_ble_eq_true rfl⟩ e5 rfl rfl rfl (Nat.le_of_ble_eq_true rfl) ⟨Nat.zero_le _, Nat.zero_le _⟩ rfl dX3_entryAt_7 (fun hr3 => ?_)
    refine V_icmp_lt (pc := 10) C 15 ha2 hr3 dX3_entryAt_10 (by decide) (fun c10_5 => ?_) (fun c10_5 => ?_)
    · have h := ite_t h c10_5
      refine V_aload_n (pc := 15) C 0 rfl dX3_entryAt_15 ?_
      refine V_getR (pc := 16) C e5 rfl inX3 3 (by decide) rfl lf_X3_18 rfl dX3_entryAt_16 ?_
      refine V_iload_n (pc := 19) C 1 rfl dX3_entryAt_19 ?_
      refine V_iconst (pc := 20) C dX3_entryAt_20 ?_
      refine V_imul (pc := 21) C dX3_entryAt_21 ?_
      refine V_iload_n (pc := 22) C 2 rfl dX3_entryAt_22 ?_
      refine V_iadd (pc := 23) C dX3_entryAt_23 ?_
      obtain ⟨g6, h⟩ := grd_of h
      obtain ⟨M7, r8, hc9, h⟩ := cal_of h
      refine V_callNI (pc := 24) C (c_X11_at l Γ sk hsk fu e8 (by decide) g6 hc9) cf_X11_at ln_X3_45 ⟨rfl, rfl⟩ ⟨Nat.le_of_ble_eq_true rfl, Nat.le_of_ble_eq_true rfl⟩ rfl (Nat.le_of_ble_eq_true rfl) ⟨Nat.zero_le _, Nat.zero_le _⟩ rfl dX3_entryAt_24 (fun hr8 => ?_)
      exact V_iret (pc := 27) C hr hlk hr8 h dX3_entryAt_27
    · have h := ite_f h c10_5
      refine V_iconst (pc := 13) C dX3_entryAt_13 ?_
      exact V_iret (pc := 14) C hr hlk (by decide) h dX3_entryAt_14
set_option maxRecDepth 100000 in
set_option maxHeartbeats 4000000 in
theorem c_X3_childAt (l : Launch) (Γ : GG) (sk : List SD) (hsk : Ext sk) (fu : Nat) {M M' : Mem} {a1 : Int} {a2 : Int} {r : Int} (ha1 : rng a1) (ha2 : rng a2) (h : f_X3_childAt fu M a1 a2 = some (M', r)) : MetI l yX3_childAt cX3_childAt 3 .int ({ frames := 2, cells := 0, slots := 0, locals := 43 } : Room) Γ sk [vr Γ 5, vi a1, vi a2] M M' r := by
  unfold f_X3_childAt at h
  refine MetI_of RX3 rfl (by decide) rfl (Nat.le_of_ble_eq_true rfl) rfl ?_
  intro p e s m args below meth c C hr hlk hM
  have e5 := hsk 5 _ (by decide) rfl
  refine V_aload_n (pc := 0) C 0 rfl dX3_childAt_0 ?_
  refine V_iload_n (pc := 1) C 1 rfl dX3_childAt_1 ?_
  obtain ⟨M1, r2, hc3, h⟩ := cal_of h
  refine V_callVI (pc := 2) C (c_X3_levelAt l Γ sk hsk fu ha1 hc3) cf_X3_levelAt lk_X3_53 ⟨rfl, rfl⟩ ⟨Nat.le_of_ble_eq_true rfl, Nat.le_of_ble_eq_true rfl⟩ e5 rfl rfl rfl (Nat.le_of_ble_eq_true rfl) ⟨Nat.zero_le _, Nat.zero_le _⟩ rfl dX3_childAt_2 (fun hr2 => ?_)
  refine V_iconst (pc := 5) C dX3_childAt_5 ?_
  refine V_icmp_le (pc := 6) C 18 hr2 (by decide) dX3_childAt_6 (by decide) (fun c6_4 => ?_) (fun c6_4 => ?_)
  · have h := ite_t h c6_4
    refine V_iconst (pc := 18) C dX3_childAt_18 ?_
    exact V_iret (pc := 19) C hr hlk (by decide) h dX3_childAt_19
  · have h := ite_f h c6_4
    refine V_aload_n (pc := 9) C 0 rfl dX3_childAt_9 ?_
    refine V_iload_n (pc := 10) C 1 rfl dX3_childAt_10 ?_
    refine V_iload_n (pc := 11) C 2 rfl dX3_childAt_11 ?_
    obtain ⟨M5, r6, hc7, h⟩ := cal_of h
    refine V_callVI (pc := 12) C (c_X3_entryAt l Γ sk hsk fu ha1 ha2 hc7) cf_X3_entryAt lk_X3_56 ⟨rfl, rfl⟩ ⟨Nat.le_of_ble_eq_true rfl, Nat.le_of_ble_eq_true rfl⟩ e5 rfl rfl rfl (Nat.le_of_ble_eq_true rfl) ⟨Nat.zero_le _, Nat.zero_le _⟩ rfl dX3_childAt_12 (fun hr6 => ?_)
    refine V_goto (pc := 15) C 19 dX3_childAt_15 (by decide) ?_
    exact V_iret (pc := 19) C hr hlk hr6 h dX3_childAt_19
set_option maxRecDepth 100000 in
set_option maxHeartbeats 4000000 in
theorem c_X11_put (l : Launch) (Γ : GG) (sk : List SD) (hsk : Ext sk) (fu : Nat) {M M' : Mem} {k0 : Nat} {n0 : Nat} {a1 : Int} {a2 : Int} {r : Int} (hk0 : sk[k0]? = some (.inl (0, n0))) (hn0 : n0 ≤ 2147483647) (hm0 : 3 ≤ k0) (ha1 : rng a1) (ha2 : rng a2) (h : f_X11_put fu M k0 n0 a1 a2 = some (M', r)) : MetV l yX11_put cX11_put 3 ({ frames := 0, cells := 0, slots := 0, locals := 0 } : Room) Γ sk [vr Γ k0, vi a1, vi a2] M M' := by
  unfold f_X11_put at h
  refine MetV_of RX11 rfl (by decide) rfl (Nat.le_of_ble_eq_true rfl) rfl ?_
  intro p e s m args below meth c C hr hlk hM
  refine V_iload_n (pc := 0) C 1 rfl dX11_put_0 ?_
  refine V_if_lt (pc := 1) C 14 ha1 dX11_put_1 (by decide) (fun c1_1 => ?_) (fun c1_1 => ?_)
  · have h := ite_t h c1_1
    exact V_vret (pc := 14) C hr hlk h dX11_put_14
  · have h := ite_f h c1_1
    refine V_iload_n (pc := 4) C 1 rfl dX11_put_4 ?_
    refine V_aload_n (pc := 5) C 0 rfl dX11_put_5 ?_
    refine V_alen (pc := 6) C hk0 dX11_put_6 ?_
    refine V_icmp_ge (pc := 7) C 14 ha1 (nat_rng hn0) dX11_put_7 (by decide) (fun c7_2 => ?_) (fun c7_2 => ?_)
    · have h := ite_t h c7_2
      exact V_vret (pc := 14) C hr hlk h dX11_put_14
    · have h := ite_f h c7_2
      refine V_aload_n (pc := 10) C 0 rfl dX11_put_10 ?_
      refine V_iload_n (pc := 11) C 1 rfl dX11_put_11 ?_
      refine V_iload_n (pc := 12) C 2 rfl dX11_put_12 ?_
      obtain ⟨g3, h⟩ := grd_of h
      refine V_iast (pc := 13) C hm0 hk0 g3 ha1 ha2 dX11_put_13 ?_
      exact V_vret (pc := 14) C hr hlk h dX11_put_14
set_option maxRecDepth 100000 in
set_option maxHeartbeats 4000000 in
theorem c_X11_putFlag (l : Launch) (Γ : GG) (sk : List SD) (hsk : Ext sk) (fu : Nat) {M M' : Mem} {k0 : Nat} {n0 : Nat} {a1 : Int} {a2 : Int} {r : Int} (hk0 : sk[k0]? = some (.inl (1, n0))) (hn0 : n0 ≤ 2147483647) (hm0 : 3 ≤ k0) (ha1 : rng a1) (ha2 : rng a2) (h : f_X11_putFlag fu M k0 n0 a1 a2 = some (M', r)) : MetV l yX11_putFlag cX11_putFlag 3 ({ frames := 0, cells := 0, slots := 0, locals := 0 } : Room) Γ sk [vr Γ k0, vi a1, vi a2] M M' := by
  unfold f_X11_putFlag at h
  refine MetV_of RX11 rfl (by decide) rfl (Nat.le_of_ble_eq_true rfl) rfl ?_
  intro p e s m args below meth c C hr hlk hM
  refine V_iload_n (pc := 0) C 1 rfl dX11_putFlag_0 ?_
  refine V_if_lt (pc := 1) C 14 ha1 dX11_putFlag_1 (by decide) (fun c1_1 => ?_) (fun c1_1 => ?_)
  · have h := ite_t h c1_1
    exact V_vret (pc := 14) C hr hlk h dX11_putFlag_14
  · have h := ite_f h c1_1
    refine V_iload_n (pc := 4) C 1 rfl dX11_putFlag_4 ?_
    refine V_aload_n (pc := 5) C 0 rfl dX11_putFlag_5 ?_
    refine V_alen (pc := 6) C hk0 dX11_putFlag_6 ?_
    refine V_icmp_ge (pc := 7) C 14 ha1 (nat_rng hn0) dX11_putFlag_7 (by decide) (fun c7_2 => ?_) (fun c7_2 => ?_)
    · have h := ite_t h c7_2
      exact V_vret (pc := 14) C hr hlk h dX11_putFlag_14
    · have h := ite_f h c7_2
      refine V_aload_n (pc := 10) C 0 rfl dX11_putFlag_10 ?_
      refine V_iload_n (pc := 11) C 1 rfl dX11_putFlag_11 ?_
      refine V_iload_n (pc := 12) C 2 rfl dX11_putFlag_12 ?_
      obtain ⟨g3, h⟩ := grd_of h
      obtain ⟨g4, h⟩ := grd_of h
      refine V_zast (pc := 13) C hm0 hk0 g3 ha1 g4 dX11_putFlag_13 ?_
      exact V_vret (pc := 14) C hr hlk h dX11_putFlag_14
set_option maxRecDepth 100000 in
set_option maxHeartbeats 4000000 in
theorem c_X3_add (l : Launch) (Γ : GG) (sk : List SD) (hsk : Ext sk) (fu : Nat) {M M' : Mem} {a1 : Int} {r : Int} (ha1 : rng a1) (h : f_X3_add fu M a1 = some (M', r)) : MetI l yX3_add cX3_add 3 .int ({ frames := 1, cells := 0, slots := 0, locals := 22 } : Room) Γ sk [vr Γ 5, vi a1] M M' r := by
  unfold f_X3_add at h
  refine MetI_of RX3 rfl (by decide) rfl (Nat.le_of_ble_eq_true rfl) rfl ?_
  intro p e s m args below meth c C hr hlk hM
  have e5 := hsk 5 _ (by decide) rfl
  have e6 := hsk 6 _ (by decide) rfl
  have e7 := hsk 7 _ (by decide) rfl
  have e9 := hsk 9 _ (by decide) rfl
  refine V_aload_n (pc := 0) C 0 rfl dX3_add_0 ?_
  refine V_getI (pc := 1) C e5 rfl inX3 0 (by decide) rfl lf_X3_25 rfl dX3_add_1 ?_
  refine V_istore_n (pc := 4) C (L' := [(0, vr Γ 5), (1, vi a1), (2, vi (M 5 0))]) rfl (by decide) dX3_add_4 ?_
  refine V_aload_n (pc := 5) C 0 rfl dX3_add_5 ?_
  refine V_getR (pc := 6) C e5 rfl inX3 1 (by decide) rfl lf_X3_9 rfl dX3_add_6 ?_
  refine V_iload_n (pc := 9) C 2 rfl dX3_add_9 ?_
  refine V_iload_n (pc := 10) C 1 rfl dX3_add_10 ?_
  obtain ⟨M1, r2, hc3, h⟩ := cal_of h
  refine V_callNV (pc := 11) C (c_X11_put l Γ sk hsk fu e6 (by decide) (by decide) (hM _ _) ha1 hc3) cf_X11_put ln_X3_60 ⟨rfl, rfl⟩ ⟨Nat.le_of_ble_eq_true rfl, Nat.le_of_ble_eq_true rfl⟩ rfl (Nat.le_of_ble_eq_true rfl) ⟨Nat.zero_le _, Nat.zero_le _⟩ rfl dX3_add_11 ?_
  refine V_aload_n (pc := 14) C 0 rfl dX3_add_14 ?_
  refine V_getR (pc := 15) C e5 rfl inX3 2 (by decide) rfl lf_X3_15 rfl dX3_add_15 ?_
  refine V_iload_n (pc := 18) C 2 rfl dX3_add_18 ?_
  refine V_iconst (pc := 19) C dX3_add_19 ?_
  obtain ⟨M4, r5, hc6, h⟩ := cal_of h
  refine V_callNV (pc := 20) C (c_X11_put l Γ sk hsk fu e7 (by decide) (by decide) (hM _ _) (by decide) hc6) cf_X11_put ln_X3_60 ⟨rfl, rfl⟩ ⟨Nat.le_of_ble_eq_true rfl, Nat.le_of_ble_eq_true rfl⟩ rfl (Nat.le_of_ble_eq_true rfl) ⟨Nat.zero_le _, Nat.zero_le _⟩ rfl dX3_add_20 ?_
  refine V_aload_n (pc := 23) C 0 rfl dX3_add_23 ?_
  refine V_getR (pc := 24) C e5 rfl inX3 4 (by decide) rfl lf_X3_21 rfl dX3_add_24 ?_
  refine V_iload_n (pc := 27) C 2 rfl dX3_add_27 ?_
  refine V_iconst (pc := 28) C dX3_add_28 ?_
  obtain ⟨M7, r8, hc9, h⟩ := cal_of h
  refine V_callNV (pc := 29) C (c_X11_putFlag l Γ sk hsk fu e9 (by decide) (by decide) (hM _ _) (by decide) hc9) cf_X11_putFlag ln_X3_64 ⟨rfl, rfl⟩ ⟨Nat.le_of_ble_eq_true rfl, Nat.le_of_ble_eq_true rfl⟩ rfl (Nat.le_of_ble_eq_true rfl) ⟨Nat.zero_le _, Nat.zero_le _⟩ rfl dX3_add_29 ?_
  refine V_aload_n (pc := 32) C 0 rfl dX3_add_32 ?_
  refine V_dup (pc := 33) C rfl dX3_add_33 ?_
  refine V_rng fun hM10 => ?_
  refine V_getI (pc := 34) C e5 rfl inX3 0 (by decide) rfl lf_X3_25 rfl dX3_add_34 ?_
  refine V_iconst (pc := 37) C dX3_add_37 ?_
  refine V_iadd (pc := 38) C dX3_add_38 ?_
  obtain ⟨g11, h⟩ := grd_of h
  refine V_putI (pc := 39) C (by decide) e5 rfl inX3 tyX3 tyX3_ok nmX3 0 (by decide) rfl rfl lf_X3_25 rfl g11 rfl dX3_add_39 ?_
  refine V_iload_n (pc := 42) C 2 rfl dX3_add_42 ?_
  exact V_iret (pc := 43) C hr hlk (hM _ _) h dX3_add_43
set_option maxRecDepth 100000 in
set_option maxHeartbeats 4000000 in
theorem c_X3_place (l : Launch) (Γ : GG) (sk : List SD) (hsk : Ext sk) (fu : Nat) {M M' : Mem} {a1 : Int} {a2 : Int} {a3 : Int} {r : Int} (ha1 : rng a1) (ha2 : rng a2) (ha3 : rng a3) (h : f_X3_place fu M a1 a2 a3 = some (M', r)) : MetV l yX3_place cX3_place 4 ({ frames := 1, cells := 0, slots := 0, locals := 30 } : Room) Γ sk [vr Γ 5, vi a1, vi a2, vi a3] M M' := by
  unfold f_X3_place at h
  refine MetV_of RX3 rfl (by decide) rfl (Nat.le_of_ble_eq_true rfl) rfl ?_
  intro p e s m args below meth c C hr hlk hM
  have e5 := hsk 5 _ (by decide) rfl
  have e7 := hsk 7 _ (by decide) rfl
  have e8 := hsk 8 _ (by decide) rfl
  refine V_aload_n (pc := 0) C 0 rfl dX3_place_0 ?_
  refine V_getR (pc := 1) C e5 rfl inX3 3 (by decide) rfl lf_X3_18 rfl dX3_place_1 ?_
  refine V_iload_n (pc := 4) C 1 rfl dX3_place_4 ?_
  refine V_iconst (pc := 5) C dX3_place_5 ?_
  refine V_imul (pc := 6) C dX3_place_6 ?_
  refine V_iload_n (pc := 7) C 2 rfl dX3_place_7 ?_
  refine V_iadd (pc := 8) C dX3_place_8 ?_
  refine V_iload_n (pc := 9) C 3 rfl dX3_place_9 ?_
  obtain ⟨g1, h⟩ := grd_of h
  obtain ⟨M2, r3, hc4, h⟩ := cal_of h
  refine V_callNV (pc := 10) C (c_X11_put l Γ sk hsk fu e8 (by decide) (by decide) g1 ha3 hc4) cf_X11_put ln_X3_60 ⟨rfl, rfl⟩ ⟨Nat.le_of_ble_eq_true rfl, Nat.le_of_ble_eq_true rfl⟩ rfl (Nat.le_of_ble_eq_true rfl) ⟨Nat.zero_le _, Nat.zero_le _⟩ rfl dX3_place_10 ?_
  refine V_aload_n (pc := 13) C 0 rfl dX3_place_13 ?_
  refine V_getR (pc := 14) C e5 rfl inX3 2 (by decide) rfl lf_X3_15 rfl dX3_place_14 ?_
  refine V_iload_n (pc := 17) C 1 rfl dX3_place_17 ?_
  refine V_aload_n (pc := 18) C 0 rfl dX3_place_18 ?_
  refine V_iload_n (pc := 19) C 1 rfl dX3_place_19 ?_
  obtain ⟨M5, r6, hc7, h⟩ := cal_of h
  refine V_callVI (pc := 20) C (c_X3_fillAt l Γ sk hsk fu ha1 hc7) cf_X3_fillAt lk_X3_49 ⟨rfl, rfl⟩ ⟨Nat.le_of_ble_eq_true rfl, Nat.le_of_ble_eq_true rfl⟩ e5 rfl rfl rfl (Nat.le_of_ble_eq_true rfl) ⟨Nat.zero_le _, Nat.zero_le _⟩ rfl dX3_place_20 (fun hr6 => ?_)
  refine V_iload_n (pc := 23) C 2 rfl dX3_place_23 ?_
  refine V_iconst (pc := 24) C dX3_place_24 ?_
  refine V_iadd (pc := 25) C dX3_place_25 ?_
  obtain ⟨g8, h⟩ := grd_of h
  refine V_max (pc := 26) C lk_X3_68 math_max hr6 g8 ⟨Nat.le_of_ble_eq_true rfl, Nat.le_of_ble_eq_true rfl⟩ ⟨Nat.zero_le _, Nat.zero_le _⟩ (Nat.le_of_ble_eq_true rfl) dX3_place_26 ?_
  obtain ⟨M9, r10, hc11, h⟩ := cal_of h
  refine V_callNV (pc := 29) C (c_X11_put l Γ sk hsk fu e7 (by decide) (by decide) ha1 (imax_rng hr6 g8) hc11) cf_X11_put ln_X3_60 ⟨rfl, rfl⟩ ⟨Nat.le_of_ble_eq_true rfl, Nat.le_of_ble_eq_true rfl⟩ rfl (Nat.le_of_ble_eq_true rfl) ⟨Nat.zero_le _, Nat.zero_le _⟩ rfl dX3_place_29 ?_
  exact V_vret (pc := 32) C hr hlk h dX3_place_32
set_option maxRecDepth 100000 in
set_option maxHeartbeats 4000000 in
theorem c_X3_addCopy (l : Launch) (Γ : GG) (sk : List SD) (hsk : Ext sk) (fu : Nat) {M M' : Mem} {a1 : Int} {a2 : Int} {a3 : Int} {a4 : Int} {a5 : Int} {r : Int} (ha1 : rng a1) (ha2 : rng a2) (ha3 : rng a3) (ha4 : rng a4) (ha5 : rng a5) (h : f_X3_addCopy fu M a1 a2 a3 a4 a5 = some (M', r)) : MetI l yX3_addCopy cX3_addCopy 8 .int ({ frames := 2, cells := 0, slots := 0, locals := 53 } : Room) Γ sk [vr Γ 5, vi a1, vi a2, vi a3, vi a4, vi a5] M M' r := by
  unfold f_X3_addCopy at h
  refine MetI_of RX3 rfl (by decide) rfl (Nat.le_of_ble_eq_true rfl) rfl ?_
  intro p e s m args below meth c C hr hlk hM
  have e5 := hsk 5 _ (by decide) rfl
  have LP10 : ∀ (n : Nat) {x1 : Int} {x3 : Int} {x4 : Int} {x5 : Int} {x6 : Int} {x7 : Int} {M : Mem}, rng x1 → rng x3 → rng x4 → rng x5 → rng x6 → rng x7 → f_X3_addCopy_L10 fu n x1 x3 x4 x5 x6 x7 M = some (M', r) → VV p l e ({ frames := 2, cells := 0, slots := 0, locals := 53 } : Room) s m args below meth c (MQ below (PostI Γ sk M' r s.heap.size) args s 0 0 (Fr Γ sk s.heap.size)) 8 Γ sk M 0 0 10 [(0, vr Γ 5), (1, vi x1), (3, vi x3), (4, vi x4), (5, vi x5), (6, vi x6), (7, vi x7)] [] := by
    intro n
    induction n with
    | zero =>
      intro x1 x3 x4 x5 x6 x7 M hx1 hx3 hx4 hx5 hx6 hx7 h
      cases h
    | succ n ih =>
      intro x1 x3 x4 x5 x6 x7 M hx1 hx3 hx4 hx5 hx6 hx7 h
      rw [f_X3_addCopy_L10] at h
      refine V_iload (pc := 10) C 6 rfl dX3_addCopy_10 ?_
      refine V_iload_n (pc := 12) C 2 rfl dX3_addCopy_12 ?_
      refine V_icmp_ge (pc := 13) C 37 hx7 hx3 dX3_addCopy_13 (by decide) (fun c13_4 => ?_) (fun c13_4 => ?_)
      · have h := ite_t h c13_4
        refine V_aload_n (pc := 37) C 0 rfl dX3_addCopy_37 ?_
        refine V_iload (pc := 38) C 5 rfl dX3_addCopy_38 ?_
        refine V_iload (pc := 40) C 3 rfl dX3_addCopy_40 ?_
        refine V_iload (pc := 42) C 4 rfl dX3_addCopy_42 ?_
        obtain ⟨M5, r6, hc7, h⟩ := cal_of h
        refine V_callVV (pc := 44) C (c_X3_place l Γ sk hsk fu hx6 hx4 hx5 hc7) cf_X3_place lk_X3_76 ⟨rfl, rfl⟩ ⟨Nat.le_of_ble_eq_true rfl, Nat.le_of_ble_eq_true rfl⟩ e5 rfl rfl rfl (Nat.le_of_ble_eq_true rfl) ⟨Nat.zero_le _, Nat.zero_le _⟩ rfl dX3_addCopy_44 ?_
        refine V_iload (pc := 47) C 5 rfl dX3_addCopy_47 ?_
        exact V_iret (pc := 49) C hr hlk hx6 h dX3_addCopy_49
      · have h := ite_f h c13_4
        refine V_aload_n (pc := 16) C 0 rfl dX3_addCopy_16 ?_
        refine V_iload (pc := 17) C 5 rfl dX3_addCopy_17 ?_
        refine V_iload (pc := 19) C 6 rfl dX3_addCopy_19 ?_
        refine V_aload_n (pc := 21) C 0 rfl dX3_addCopy_21 ?_
        refine V_iload_n (pc := 22) C 1 rfl dX3_addCopy_22 ?_
        refine V_iload (pc := 23) C 6 rfl dX3_addCopy_23 ?_
        obtain ⟨M8, r9, hc10, h⟩ := cal_of h
        refine V_callVI (pc := 25) C (c_X3_entryAt l Γ sk hsk fu hx1 hx7 hc10) cf_X3_entryAt lk_X3_56 ⟨rfl, rfl⟩ ⟨Nat.le_of_ble_eq_true rfl, Nat.le_of_ble_eq_true rfl⟩ e5 rfl rfl rfl (Nat.le_of_ble_eq_true rfl) ⟨Nat.zero_le _, Nat.zero_le _⟩ rfl dX3_addCopy_25 (fun hr9 => ?_)
        obtain ⟨M11, r12, hc13, h⟩ := cal_of h
        refine V_callVV (pc := 28) C (c_X3_place l Γ sk hsk fu hx6 hx7 hr9 hc13) cf_X3_place lk_X3_76 ⟨rfl, rfl⟩ ⟨Nat.le_of_ble_eq_true rfl, Nat.le_of_ble_eq_true rfl⟩ e5 rfl rfl rfl (Nat.le_of_ble_eq_true rfl) ⟨Nat.zero_le _, Nat.zero_le _⟩ rfl dX3_addCopy_28 ?_
        refine V_iinc (pc := 31) C (L' := [(0, vr Γ 5), (1, vi x1), (3, vi x3), (4, vi x4), (5, vi x5), (6, vi x6), (7, vi (x7 + (1 : Int)))]) 6 rfl rfl (by decide) dX3_addCopy_31 ?_
        refine V_goto (pc := 34) C 10 dX3_addCopy_34 (by decide) ?_
        obtain ⟨g14, h⟩ := grd_of h
        refine V_sub (L' := [(0, vr Γ 5), (1, vi x1), (3, vi x3), (4, vi x4), (5, vi x5), (6, vi x6), (7, vi (x7 + (1 : Int)))]) [0, 1, 2, 3, 4, 5, 6] rfl (by decide) ?_
        exact ih hx1 hx3 hx4 hx5 hx6 g14 h
  skip
  refine V_aload_n (pc := 0) C 0 rfl dX3_addCopy_0 ?_
  refine V_iload_n (pc := 1) C 2 rfl dX3_addCopy_1 ?_
  obtain ⟨M1, r2, hc3, h⟩ := cal_of h
  refine V_callVI (pc := 2) C (c_X3_add l Γ sk hsk fu ha2 hc3) cf_X3_add lk_X3_73 ⟨rfl, rfl⟩ ⟨Nat.le_of_ble_eq_true rfl, Nat.le_of_ble_eq_true rfl⟩ e5 rfl rfl rfl (Nat.le_of_ble_eq_true rfl) ⟨Nat.zero_le _, Nat.zero_le _⟩ rfl dX3_addCopy_2 (fun hr2 => ?_)
  refine V_istore (pc := 5) C (L' := [(0, vr Γ 5), (1, vi a1), (2, vi a2), (3, vi a3), (4, vi a4), (5, vi a5), (6, vi r2)]) rfl (by decide) dX3_addCopy_5 ?_
  refine V_iconst (pc := 7) C dX3_addCopy_7 ?_
  refine V_istore (pc := 8) C (L' := [(0, vr Γ 5), (1, vi a1), (2, vi a2), (3, vi a3), (4, vi a4), (5, vi a5), (6, vi r2), (7, vi (0 : Int))]) rfl (by decide) dX3_addCopy_8 ?_
  refine V_sub (L' := [(0, vr Γ 5), (1, vi a1), (3, vi a3), (4, vi a4), (5, vi a5), (6, vi r2), (7, vi (0 : Int))]) [0, 1, 3, 4, 5, 6, 7] rfl (by decide) ?_
  exact LP10 fu  ha1 ha3 ha4 ha5 hr2 (by decide) h
set_option maxRecDepth 100000 in
set_option maxHeartbeats 4000000 in
theorem c_X3_refersTo (l : Launch) (Γ : GG) (sk : List SD) (hsk : Ext sk) (fu : Nat) {M M' : Mem} {a1 : Int} {a2 : Int} {r : Int} (ha1 : rng a1) (ha2 : rng a2) (h : f_X3_refersTo fu M a1 a2 = some (M', r)) : MetI l yX3_refersTo cX3_refersTo 4 .boolean ({ frames := 3, cells := 0, slots := 0, locals := 65 } : Room) Γ sk [vr Γ 5, vi a1, vi a2] M M' r := by
  unfold f_X3_refersTo at h
  refine MetI_of RX3 rfl (by decide) rfl (Nat.le_of_ble_eq_true rfl) rfl ?_
  intro p e s m args below meth c C hr hlk hM
  have e5 := hsk 5 _ (by decide) rfl
  have LP2 : ∀ (n : Nat) {x1 : Int} {x2 : Int} {x3 : Int} {M : Mem}, rng x1 → rng x2 → rng x3 → f_X3_refersTo_L2 fu n x1 x2 x3 M = some (M', r) → VV p l e ({ frames := 3, cells := 0, slots := 0, locals := 65 } : Room) s m args below meth c (MQ below (PostI Γ sk M' r s.heap.size) args s 0 0 (Fr Γ sk s.heap.size)) 4 Γ sk M 0 0 2 [(0, vr Γ 5), (1, vi x1), (2, vi x2), (3, vi x3)] [] := by
    intro n
    induction n with
    | zero =>
      intro x1 x2 x3 M hx1 hx2 hx3 h
      cases h
    | succ n ih =>
      intro x1 x2 x3 M hx1 hx2 hx3 h
      rw [f_X3_refersTo_L2] at h
      refine V_iload_n (pc := 2) C 3 rfl dX3_refersTo_2 ?_
      refine V_aload_n (pc := 3) C 0 rfl dX3_refersTo_3 ?_
      refine V_iload_n (pc := 4) C 1 rfl dX3_refersTo_4 ?_
      obtain ⟨M1, r2, hc3, h⟩ := cal_of h
      refine V_callVI (pc := 5) C (c_X3_fillAt l Γ sk hsk fu hx1 hc3) cf_X3_fillAt lk_X3_49 ⟨rfl, rfl⟩ ⟨Nat.le_of_ble_eq_true rfl, Nat.le_of_ble_eq_true rfl⟩ e5 rfl rfl rfl (Nat.le_of_ble_eq_true rfl) ⟨Nat.zero_le _, Nat.zero_le _⟩ rfl dX3_refersTo_5 (fun hr2 => ?_)
      refine V_icmp_ge (pc := 8) C 29 hx3 hr2 dX3_refersTo_8 (by decide) (fun c8_4 => ?_) (fun c8_4 => ?_)
      · have h := ite_t h c8_4
        refine V_iconst (pc := 29) C dX3_refersTo_29 ?_
        exact V_zret (pc := 30) C hr hlk (by decide) h dX3_refersTo_30
      · have h := ite_f h c8_4
        refine V_aload_n (pc := 11) C 0 rfl dX3_refersTo_11 ?_
        refine V_iload_n (pc := 12) C 1 rfl dX3_refersTo_12 ?_
        refine V_iload_n (pc := 13) C 3 rfl dX3_refersTo_13 ?_
        obtain ⟨M5, r6, hc7, h⟩ := cal_of h
        refine V_callVI (pc := 14) C (c_X3_childAt l Γ sk hsk fu hx1 hx3 hc7) cf_X3_childAt lk_X3_84 ⟨rfl, rfl⟩ ⟨Nat.le_of_ble_eq_true rfl, Nat.le_of_ble_eq_true rfl⟩ e5 rfl rfl rfl (Nat.le_of_ble_eq_true rfl) ⟨Nat.zero_le _, Nat.zero_le _⟩ rfl dX3_refersTo_14 (fun hr6 => ?_)
        refine V_iload_n (pc := 17) C 2 rfl dX3_refersTo_17 ?_
        refine V_icmp_ne (pc := 18) C 23 hr6 hx2 dX3_refersTo_18 (by decide) (fun c18_8 => ?_) (fun c18_8 => ?_)
        · have h := ite_f h c18_8
          refine V_iinc (pc := 23) C (L' := [(0, vr Γ 5), (1, vi x1), (2, vi x2), (3, vi (x3 + (1 : Int)))]) 3 rfl rfl (by decide) dX3_refersTo_23 ?_
          refine V_goto (pc := 26) C 2 dX3_refersTo_26 (by decide) ?_
          obtain ⟨g9, h⟩ := grd_of h
          refine V_sub (L' := [(0, vr Γ 5), (1, vi x1), (2, vi x2), (3, vi (x3 + (1 : Int)))]) [0, 1, 2, 3] rfl (by decide) ?_
          exact ih hx1 hx2 g9 h
        · have h := ite_t h c18_8
          refine V_iconst (pc := 21) C dX3_refersTo_21 ?_
          exact V_zret (pc := 22) C hr hlk (by decide) h dX3_refersTo_22
  skip
  refine V_iconst (pc := 0) C dX3_refersTo_0 ?_
  refine V_istore_n (pc := 1) C (L' := [(0, vr Γ 5), (1, vi a1), (2, vi a2), (3, vi (0 : Int))]) rfl (by decide) dX3_refersTo_1 ?_
  refine V_sub (L' := [(0, vr Γ 5), (1, vi a1), (2, vi a2), (3, vi (0 : Int))]) [0, 1, 2, 3] rfl (by decide) ?_
  exact LP2 fu  ha1 ha2 (by decide) h
set_option maxRecDepth 100000 in
set_option maxHeartbeats 4000000 in
theorem c_X3_countReferrers (l : Launch) (Γ : GG) (sk : List SD) (hsk : Ext sk) (fu : Nat) {M M' : Mem} {a1 : Int} {r : Int} (ha1 : rng a1) (h : f_X3_countReferrers fu M a1 = some (M', r)) : MetI l yX3_countReferrers cX3_countReferrers 4 .int ({ frames := 4, cells := 0, slots := 0, locals := 88 } : Room) Γ sk [vr Γ 5, vi a1] M M' r := by
  unfold f_X3_countReferrers at h
  refine MetI_of RX3 rfl (by decide) rfl (Nat.le_of_ble_eq_true rfl) rfl ?_
  intro p e s m args below meth c C hr hlk hM
  have e5 := hsk 5 _ (by decide) rfl
  have LP4 : ∀ (n : Nat) {x1 : Int} {x2 : Int} {x3 : Int} {M : Mem}, rng x1 → rng x2 → rng x3 → f_X3_countReferrers_L4 fu n x1 x2 x3 M = some (M', r) → VV p l e ({ frames := 4, cells := 0, slots := 0, locals := 88 } : Room) s m args below meth c (MQ below (PostI Γ sk M' r s.heap.size) args s 0 0 (Fr Γ sk s.heap.size)) 4 Γ sk M 0 0 4 [(0, vr Γ 5), (1, vi x1), (2, vi x2), (3, vi x3)] [] := by
    intro n
    induction n with
    | zero =>
      intro x1 x2 x3 M hx1 hx2 hx3 h
      cases h
    | succ n ih =>
      intro x1 x2 x3 M hx1 hx2 hx3 h
      rw [f_X3_countReferrers_L4] at h
      refine V_iload_n (pc := 4) C 3 rfl dX3_countReferrers_4 ?_
      refine V_aload_n (pc := 5) C 0 rfl dX3_countReferrers_5 ?_
      refine V_rng fun hM1 => ?_
      refine V_getI (pc := 6) C e5 rfl inX3 0 (by decide) rfl lf_X3_25 rfl dX3_countReferrers_6 ?_
      refine V_icmp_ge (pc := 9) C 38 hx3 (hM1 _ _) dX3_countReferrers_9 (by decide) (fun c9_2 => ?_) (fun c9_2 => ?_)
      · have h := ite_t h c9_2
        refine V_iload_n (pc := 38) C 2 rfl dX3_countReferrers_38 ?_
        exact V_iret (pc := 39) C hr hlk hx2 h dX3_countReferrers_39
      · have h := ite_f h c9_2
        refine V_aload_n (pc := 12) C 0 rfl dX3_countReferrers_12 ?_
        refine V_iload_n (pc := 13) C 3 rfl dX3_countReferrers_13 ?_
        obtain ⟨M3, r4, hc5, h⟩ := cal_of h
        refine V_callVI (pc := 14) C (c_X3_isStored l Γ sk hsk fu hx3 hc5) cf_X3_isStored lk_X3_41 ⟨rfl, rfl⟩ ⟨Nat.le_of_ble_eq_true rfl, Nat.le_of_ble_eq_true rfl⟩ e5 rfl rfl rfl (Nat.le_of_ble_eq_true rfl) ⟨Nat.zero_le _, Nat.zero_le _⟩ rfl dX3_countReferrers_14 (fun hr4 => ?_)
        refine V_if_eq (pc := 17) C 32 hr4 dX3_countReferrers_17 (by decide) (fun c17_6 => ?_) (fun c17_6 => ?_)
        · have h := ite_t h c17_6
          refine V_iinc (pc := 32) C (L' := [(0, vr Γ 5), (1, vi x1), (2, vi x2), (3, vi (x3 + (1 : Int)))]) 3 rfl rfl (by decide) dX3_countReferrers_32 ?_
          refine V_goto (pc := 35) C 4 dX3_countReferrers_35 (by decide) ?_
          obtain ⟨g7, h⟩ := grd_of h
          refine V_sub (L' := [(0, vr Γ 5), (1, vi x1), (2, vi x2), (3, vi (x3 + (1 : Int)))]) [0, 1, 2, 3] rfl (by decide) ?_
          exact ih hx1 hx2 g7 h
        · have h := ite_f h c17_6
          refine V_aload_n (pc := 20) C 0 rfl dX3_countReferrers_20 ?_
          refine V_iload_n (pc := 21) C 3 rfl dX3_countReferrers_21 ?_
          refine V_iload_n (pc := 22) C 1 rfl dX3_countReferrers_22 ?_
          obtain ⟨M8, r9, hc10, h⟩ := cal_of h
          refine V_callVI (pc := 23) C (c_X3_refersTo l Γ sk hsk fu hx3 hx1 hc10) cf_X3_refersTo lk_X3_80 ⟨rfl, rfl⟩ ⟨Nat.le_of_ble_eq_true rfl, Nat.le_of_ble_eq_true rfl⟩ e5 rfl rfl rfl (Nat.le_of_ble_eq_true rfl) ⟨Nat.zero_le _, Nat.zero_le _⟩ rfl dX3_countReferrers_23 (fun hr9 => ?_)
          refine V_if_eq (pc := 26) C 32 hr9 dX3_countReferrers_26 (by decide) (fun c26_11 => ?_) (fun c26_11 => ?_)
          · have h := ite_t h c26_11
            refine V_iinc (pc := 32) C (L' := [(0, vr Γ 5), (1, vi x1), (2, vi x2), (3, vi (x3 + (1 : Int)))]) 3 rfl rfl (by decide) dX3_countReferrers_32 ?_
            refine V_goto (pc := 35) C 4 dX3_countReferrers_35 (by decide) ?_
            obtain ⟨g12, h⟩ := grd_of h
            refine V_sub (L' := [(0, vr Γ 5), (1, vi x1), (2, vi x2), (3, vi (x3 + (1 : Int)))]) [0, 1, 2, 3] rfl (by decide) ?_
            exact ih hx1 hx2 g12 h
          · have h := ite_f h c26_11
            refine V_iinc (pc := 29) C (L' := [(0, vr Γ 5), (1, vi x1), (2, vi (x2 + (1 : Int))), (3, vi x3)]) 2 rfl rfl (by decide) dX3_countReferrers_29 ?_
            refine V_iinc (pc := 32) C (L' := [(0, vr Γ 5), (1, vi x1), (2, vi (x2 + (1 : Int))), (3, vi (x3 + (1 : Int)))]) 3 rfl rfl (by decide) dX3_countReferrers_32 ?_
            refine V_goto (pc := 35) C 4 dX3_countReferrers_35 (by decide) ?_
            obtain ⟨g13, h⟩ := grd_of h
            obtain ⟨g14, h⟩ := grd_of h
            refine V_sub (L' := [(0, vr Γ 5), (1, vi x1), (2, vi (x2 + (1 : Int))), (3, vi (x3 + (1 : Int)))]) [0, 1, 2, 3] rfl (by decide) ?_
            exact ih hx1 g13 g14 h
  skip
  refine V_iconst (pc := 0) C dX3_countReferrers_0 ?_
  refine V_istore_n (pc := 1) C (L' := [(0, vr Γ 5), (1, vi a1), (2, vi (0 : Int))]) rfl (by decide) dX3_countReferrers_1 ?_
  refine V_iconst (pc := 2) C dX3_countReferrers_2 ?_
  refine V_istore_n (pc := 3) C (L' := [(0, vr Γ 5), (1, vi a1), (2, vi (0 : Int)), (3, vi (0 : Int))]) rfl (by decide) dX3_countReferrers_3 ?_
  refine V_sub (L' := [(0, vr Γ 5), (1, vi a1), (2, vi (0 : Int)), (3, vi (0 : Int))]) [0, 1, 2, 3] rfl (by decide) ?_
  exact LP4 fu  ha1 (by decide) (by decide) h
set_option maxRecDepth 100000 in
set_option maxHeartbeats 4000000 in
theorem c_X11_copyRow (l : Launch) (Γ : GG) (sk : List SD) (hsk : Ext sk) (fu : Nat) {M M' : Mem} {k0 : Nat} {n0 : Nat} {k1 : Nat} {n1 : Nat} {r : Int} (hk0 : sk[k0]? = some (.inl (0, n0))) (hn0 : n0 ≤ 2147483647) (hk1 : sk[k1]? = some (.inl (0, n1))) (hn1 : n1 ≤ 2147483647) (hm1 : 3 ≤ k1) (h : f_X11_copyRow fu M k0 n0 k1 n1 = some (M', r)) : MetV l yX11_copyRow cX11_copyRow 3 ({ frames := 0, cells := 0, slots := 0, locals := 0 } : Room) Γ sk [vr Γ k0, vr Γ k1] M M' := by
  unfold f_X11_copyRow at h
  refine MetV_of RX11 rfl (by decide) rfl (Nat.le_of_ble_eq_true rfl) rfl ?_
  intro p e s m args below meth c C hr hlk hM
  have LP2 : ∀ (n : Nat) {x2 : Int} {M : Mem}, rng x2 → f_X11_copyRow_L2 fu k0 n0 k1 n1 n x2 M = some (M', r) → VV p l e ({ frames := 0, cells := 0, slots := 0, locals := 0 } : Room) s m args below meth c (MQ below (PostV Γ sk M' s.heap.size) args s 0 0 (Fr Γ sk s.heap.size)) 3 Γ sk M 0 0 2 [(0, vr Γ k0), (1, vr Γ k1), (2, vi x2)] [] := by
    intro n
    induction n with
    | zero =>
      intro x2 M hx2 h
      cases h
    | succ n ih =>
      intro x2 M hx2 h
      rw [f_X11_copyRow_L2] at h
      refine V_iload_n (pc := 2) C 2 rfl dX11_copyRow_2 ?_
      refine V_aload_n (pc := 3) C 0 rfl dX11_copyRow_3 ?_
      refine V_alen (pc := 4) C hk0 dX11_copyRow_4 ?_
      refine V_icmp_ge (pc := 5) C 26 hx2 (nat_rng hn0) dX11_copyRow_5 (by decide) (fun c5_1 => ?_) (fun c5_1 => ?_)
      · have h := ite_t h c5_1
        exact V_vret (pc := 26) C hr hlk h dX11_copyRow_26
      · have h := ite_f h c5_1
        refine V_iload_n (pc := 8) C 2 rfl dX11_copyRow_8 ?_
        refine V_aload_n (pc := 9) C 1 rfl dX11_copyRow_9 ?_
        refine V_alen (pc := 10) C hk1 dX11_copyRow_10 ?_
        refine V_icmp_ge (pc := 11) C 26 hx2 (nat_rng hn1) dX11_copyRow_11 (by decide) (fun c11_2 => ?_) (fun c11_2 => ?_)
        · have h := ite_t h c11_2
          exact V_vret (pc := 26) C hr hlk h dX11_copyRow_26
        · have h := ite_f h c11_2
          refine V_aload_n (pc := 14) C 1 rfl dX11_copyRow_14 ?_
          refine V_iload_n (pc := 15) C 2 rfl dX11_copyRow_15 ?_
          refine V_aload_n (pc := 16) C 0 rfl dX11_copyRow_16 ?_
          refine V_iload_n (pc := 17) C 2 rfl dX11_copyRow_17 ?_
          refine V_rng fun hM3 => ?_
          obtain ⟨g4, h⟩ := grd_of h
          refine V_iald (pc := 18) C hk0 g4 hx2 dX11_copyRow_18 ?_
          obtain ⟨g5, h⟩ := grd_of h
          refine V_iast (pc := 19) C hm1 hk1 g5 hx2 (hM3 _ _) dX11_copyRow_19 ?_
          refine V_iinc (pc := 20) C (L' := [(0, vr Γ k0), (1, vr Γ k1), (2, vi (x2 + (1 : Int)))]) 2 rfl rfl (by decide) dX11_copyRow_20 ?_
          refine V_goto (pc := 23) C 2 dX11_copyRow_23 (by decide) ?_
          obtain ⟨g6, h⟩ := grd_of h
          refine V_sub (L' := [(0, vr Γ k0), (1, vr Γ k1), (2, vi (x2 + (1 : Int)))]) [0, 1, 2] rfl (by decide) ?_
          exact ih g6 h
  skip
  refine V_iconst (pc := 0) C dX11_copyRow_0 ?_
  refine V_istore_n (pc := 1) C (L' := [(0, vr Γ k0), (1, vr Γ k1), (2, vi (0 : Int))]) rfl (by decide) dX11_copyRow_1 ?_
  refine V_sub (L' := [(0, vr Γ k0), (1, vr Γ k1), (2, vi (0 : Int))]) [0, 1, 2] rfl (by decide) ?_
  exact LP2 fu  (by decide) h
set_option maxRecDepth 100000 in
set_option maxHeartbeats 4000000 in
theorem c_X10_add (l : Launch) (Γ : GG) (sk : List SD) (hsk : Ext sk) (fu : Nat) {M M' : Mem} {a1 : Int} {a2 : Int} {a3 : Int} {a4 : Int} {a5 : Int} {a6 : Int} {r : Int} (ha1 : rng a1) (ha2 : rng a2) (ha3 : rng a3) (ha4 : rng a4) (ha5 : rng a5) (ha6 : rng a6) (h : f_X10_add fu M a1 a2 a3 a4 a5 a6 = some (M', r)) : MetI l yX10_add cX10_add 8 .int ({ frames := 1, cells := 0, slots := 0, locals := 22 } : Room) Γ sk [vr Γ 10, vi a1, vi a2, vi a3, vi a4, vi a5, vi a6] M M' r := by
  unfold f_X10_add at h
  refine MetI_of RX10 rfl (by decide) rfl (Nat.le_of_ble_eq_true rfl) rfl ?_
  intro p e s m args below meth c C hr hlk hM
  have e10 := hsk 10 _ (by decide) rfl
  have e11 := hsk 11 _ (by decide) rfl
  have e12 := hsk 12 _ (by decide) rfl
  have e13 := hsk 13 _ (by decide) rfl
  have e14 := hsk 14 _ (by decide) rfl
  have e15 := hsk 15 _ (by decide) rfl
  have e16 := hsk 16 _ (by decide) rfl
  have e18 := hsk 18 _ (by decide) rfl
  refine V_aload_n (pc := 0) C 0 rfl dX10_add_0 ?_
  refine V_getI (pc := 1) C e10 rfl inX10 0 (by decide) rfl lf_X10_37 rfl dX10_add_1 ?_
  refine V_istore (pc := 4) C (L' := [(0, vr Γ 10), (1, vi a1), (2, vi a2), (3, vi a3), (4, vi a4), (5, vi a5), (6, vi a6), (7, vi (M 10 0))]) rfl (by decide) dX10_add_4 ?_
  refine V_aload_n (pc := 6) C 0 rfl dX10_add_6 ?_
  refine V_getR (pc := 7) C e10 rfl inX10 1 (by decide) rfl lf_X10_9 rfl dX10_add_7 ?_
  refine V_iload (pc := 10) C 7 rfl dX10_add_10 ?_
  refine V_iload_n (pc := 12) C 1 rfl dX10_add_12 ?_
  obtain ⟨M1, r2, hc3, h⟩ := cal_of h
  refine V_callNV (pc := 13) C (c_X11_put l Γ sk hsk fu e11 (by decide) (by decide) (hM _ _) ha1 hc3) cf_X11_put ln_X10_53 ⟨rfl, rfl⟩ ⟨Nat.le_of_ble_eq_true rfl, Nat.le_of_ble_eq_true rfl⟩ rfl (Nat.le_of_ble_eq_true rfl) ⟨Nat.zero_le _, Nat.zero_le _⟩ rfl dX10_add_13 ?_
  refine V_aload_n (pc := 16) C 0 rfl dX10_add_16 ?_
  refine V_getR (pc := 17) C e10 rfl inX10 2 (by decide) rfl lf_X10_15 rfl dX10_add_17 ?_
  refine V_iload (pc := 20) C 7 rfl dX10_add_20 ?_
  refine V_iload_n (pc := 22) C 2 rfl dX10_add_22 ?_
  obtain ⟨M4, r5, hc6, h⟩ := cal_of h
  refine V_callNV (pc := 23) C (c_X11_put l Γ sk hsk fu e12 (by decide) (by decide) (hM _ _) ha2 hc6) cf_X11_put ln_X10_53 ⟨rfl, rfl⟩ ⟨Nat.le_of_ble_eq_true rfl, Nat.le_of_ble_eq_true rfl⟩ rfl (Nat.le_of_ble_eq_true rfl) ⟨Nat.zero_le _, Nat.zero_le _⟩ rfl dX10_add_23 ?_
  refine V_aload_n (pc := 26) C 0 rfl dX10_add_26 ?_
  refine V_getR (pc := 27) C e10 rfl inX10 3 (by decide) rfl lf_X10_18 rfl dX10_add_27 ?_
  refine V_iload (pc := 30) C 7 rfl dX10_add_30 ?_
  refine V_iload_n (pc := 32) C 3 rfl dX10_add_32 ?_
  obtain ⟨M7, r8, hc9, h⟩ := cal_of h
  refine V_callNV (pc := 33) C (c_X11_put l Γ sk hsk fu e13 (by decide) (by decide) (hM _ _) ha3 hc9) cf_X11_put ln_X10_53 ⟨rfl, rfl⟩ ⟨Nat.le_of_ble_eq_true rfl, Nat.le_of_ble_eq_true rfl⟩ rfl (Nat.le_of_ble_eq_true rfl) ⟨Nat.zero_le _, Nat.zero_le _⟩ rfl dX10_add_33 ?_
  refine V_aload_n (pc := 36) C 0 rfl dX10_add_36 ?_
  refine V_getR (pc := 37) C e10 rfl inX10 4 (by decide) rfl lf_X10_21 rfl dX10_add_37 ?_
  refine V_iload (pc := 40) C 7 rfl dX10_add_40 ?_
  refine V_iload (pc := 42) C 4 rfl dX10_add_42 ?_
  obtain ⟨M10, r11, hc12, h⟩ := cal_of h
  refine V_callNV (pc := 44) C (c_X11_put l Γ sk hsk fu e14 (by decide) (by decide) (hM _ _) ha4 hc12) cf_X11_put ln_X10_53 ⟨rfl, rfl⟩ ⟨Nat.le_of_ble_eq_true rfl, Nat.le_of_ble_eq_true rfl⟩ rfl (Nat.le_of_ble_eq_true rfl) ⟨Nat.zero_le _, Nat.zero_le _⟩ rfl dX10_add_44 ?_
  refine V_aload_n (pc := 47) C 0 rfl dX10_add_47 ?_
  refine V_getR (pc := 48) C e10 rfl inX10 5 (by decide) rfl lf_X10_24 rfl dX10_add_48 ?_
  refine V_iload (pc := 51) C 7 rfl dX10_add_51 ?_
  refine V_iload (pc := 53) C 5 rfl dX10_add_53 ?_
  obtain ⟨M13, r14, hc15, h⟩ := cal_of h
  refine V_callNV (pc := 55) C (c_X11_put l Γ sk hsk fu e15 (by decide) (by decide) (hM _ _) ha5 hc15) cf_X11_put ln_X10_53 ⟨rfl, rfl⟩ ⟨Nat.le_of_ble_eq_true rfl, Nat.le_of_ble_eq_true rfl⟩ rfl (Nat.le_of_ble_eq_true rfl) ⟨Nat.zero_le _, Nat.zero_le _⟩ rfl dX10_add_55 ?_
  refine V_aload_n (pc := 58) C 0 rfl dX10_add_58 ?_
  refine V_getR (pc := 59) C e10 rfl inX10 6 (by decide) rfl lf_X10_27 rfl dX10_add_59 ?_
  refine V_iload (pc := 62) C 7 rfl dX10_add_62 ?_
  refine V_iload (pc := 64) C 6 rfl dX10_add_64 ?_
  obtain ⟨M16, r17, hc18, h⟩ := cal_of h
  refine V_callNV (pc := 66) C (c_X11_put l Γ sk hsk fu e16 (by decide) (by decide) (hM _ _) ha6 hc18) cf_X11_put ln_X10_53 ⟨rfl, rfl⟩ ⟨Nat.le_of_ble_eq_true rfl, Nat.le_of_ble_eq_true rfl⟩ rfl (Nat.le_of_ble_eq_true rfl) ⟨Nat.zero_le _, Nat.zero_le _⟩ rfl dX10_add_66 ?_
  refine V_aload_n (pc := 69) C 0 rfl dX10_add_69 ?_
  refine V_getR (pc := 70) C e10 rfl inX10 8 (by decide) rfl lf_X10_33 rfl dX10_add_70 ?_
  refine V_iload (pc := 73) C 7 rfl dX10_add_73 ?_
  refine V_iconst (pc := 75) C dX10_add_75 ?_
  obtain ⟨M19, r20, hc21, h⟩ := cal_of h
  refine V_callNV (pc := 76) C (c_X11_putFlag l Γ sk hsk fu e18 (by decide) (by decide) (hM _ _) (by decide) hc21) cf_X11_putFlag ln_X10_57 ⟨rfl, rfl⟩ ⟨Nat.le_of_ble_eq_true rfl, Nat.le_of_ble_eq_true rfl⟩ rfl (Nat.le_of_ble_eq_true rfl) ⟨Nat.zero_le _, Nat.zero_le _⟩ rfl dX10_add_76 ?_
  refine V_aload_n (pc := 79) C 0 rfl dX10_add_79 ?_
  refine V_dup (pc := 80) C rfl dX10_add_80 ?_
  refine V_rng fun hM22 => ?_
  refine V_getI (pc := 81) C e10 rfl inX10 0 (by decide) rfl lf_X10_37 rfl dX10_add_81 ?_
  refine V_iconst (pc := 84) C dX10_add_84 ?_
  refine V_iadd (pc := 85) C dX10_add_85 ?_
  obtain ⟨g23, h⟩ := grd_of h
  refine V_putI (pc := 86) C (by decide) e10 rfl inX10 tyX10 tyX10_ok nmX10 0 (by decide) rfl rfl lf_X10_37 rfl g23 rfl dX10_add_86 ?_
  refine V_iload (pc := 89) C 7 rfl dX10_add_89 ?_
  exact V_iret (pc := 91) C hr hlk (hM _ _) h dX10_add_91
set_option maxRecDepth 100000 in
set_option maxHeartbeats 4000000 in
theorem c_X10_begin (l : Launch) (Γ : GG) (sk : List SD) (hsk : Ext sk) (fu : Nat) {M M' : Mem} {k1 : Nat} {n1 : Nat} {a2 : Int} {a3 : Int} {a4 : Int} {r : Int} (hk1 : sk[k1]? = some (.inl (0, n1))) (hn1 : n1 ≤ 2147483647) (ha2 : rng a2) (ha3 : rng a3) (ha4 : rng a4) (h : f_X10_begin fu M k1 n1 a2 a3 a4 = some (M', r)) : MetV l yX10_begin cX10_begin 5 ({ frames := 2, cells := 0, slots := 0, locals := 49 } : Room) Γ sk [vr Γ 10, vr Γ k1, vi a2, vi a3, vi a4] M M' := by
  unfold f_X10_begin at h
  refine MetV_of RX10 rfl (by decide) rfl (Nat.le_of_ble_eq_true rfl) rfl ?_
  intro p e s m args below meth c C hr hlk hM
  have e10 := hsk 10 _ (by decide) rfl
  have e17 := hsk 17 _ (by decide) rfl
  refine V_aload_n (pc := 0) C 1 rfl dX10_begin_0 ?_
  refine V_aload_n (pc := 1) C 0 rfl dX10_begin_1 ?_
  refine V_getR (pc := 2) C e10 rfl inX10 7 (by decide) rfl lf_X10_30 rfl dX10_begin_2 ?_
  obtain ⟨M1, r2, hc3, h⟩ := cal_of h
  refine V_callNV (pc := 5) C (c_X11_copyRow l Γ sk hsk fu hk1 hn1 e17 (by decide) (by decide) hc3) cf_X11_copyRow ln_X10_41 ⟨rfl, rfl⟩ ⟨Nat.le_of_ble_eq_true rfl, Nat.le_of_ble_eq_true rfl⟩ rfl (Nat.le_of_ble_eq_true rfl) ⟨Nat.zero_le _, Nat.zero_le _⟩ rfl dX10_begin_5 ?_
  refine V_aload_n (pc := 8) C 0 rfl dX10_begin_8 ?_
  refine V_iconst (pc := 9) C dX10_begin_9 ?_
  refine V_putI (pc := 10) C (by decide) e10 rfl inX10 tyX10 tyX10_ok nmX10 0 (by decide) rfl rfl lf_X10_37 rfl (by decide) rfl dX10_begin_10 ?_
  refine V_aload_n (pc := 13) C 0 rfl dX10_begin_13 ?_
  refine V_iconst (pc := 14) C dX10_begin_14 ?_
  refine V_iload_n (pc := 15) C 3 rfl dX10_begin_15 ?_
  refine V_iload_n (pc := 16) C 2 rfl dX10_begin_16 ?_
  refine V_iload (pc := 17) C 4 rfl dX10_begin_17 ?_
  refine V_iconst (pc := 19) C dX10_begin_19 ?_
  refine V_iconst (pc := 20) C dX10_begin_20 ?_
  obtain ⟨M4, r5, hc6, h⟩ := cal_of h
  refine V_callVI (pc := 21) C (c_X10_add l Γ sk hsk fu (by decide) ha3 ha2 ha4 (by decide) (by decide) hc6) cf_X10_add lk_X10_49 ⟨rfl, rfl⟩ ⟨Nat.le_of_ble_eq_true rfl, Nat.le_of_ble_eq_true rfl⟩ e10 rfl rfl rfl (Nat.le_of_ble_eq_true rfl) ⟨Nat.zero_le _, Nat.zero_le _⟩ rfl dX10_begin_21 (fun hr5 => ?_)
  refine V_pop (pc := 24) C rfl dX10_begin_24 ?_
  exact V_vret (pc := 25) C hr hlk h dX10_begin_25
set_option maxRecDepth 100000 in
set_option maxHeartbeats 4000000 in
theorem c_X10_drop (l : Launch) (Γ : GG) (sk : List SD) (hsk : Ext sk) (fu : Nat) {M M' : Mem} {a1 : Int} {r : Int} (ha1 : rng a1) (h : f_X10_drop fu M a1 = some (M', r)) : MetV l yX10_drop cX10_drop 2 ({ frames := 1, cells := 0, slots := 0, locals := 22 } : Room) Γ sk [vr Γ 10, vi a1] M M' := by
  unfold f_X10_drop at h
  refine MetV_of RX10 rfl (by decide) rfl (Nat.le_of_ble_eq_true rfl) rfl ?_
  intro p e s m args below meth c C hr hlk hM
  have e10 := hsk 10 _ (by decide) rfl
  have e18 := hsk 18 _ (by decide) rfl
  refine V_aload_n (pc := 0) C 0 rfl dX10_drop_0 ?_
  refine V_getR (pc := 1) C e10 rfl inX10 8 (by decide) rfl lf_X10_33 rfl dX10_drop_1 ?_
  refine V_iload_n (pc := 4) C 1 rfl dX10_drop_4 ?_
  refine V_iconst (pc := 5) C dX10_drop_5 ?_
  obtain ⟨M1, r2, hc3, h⟩ := cal_of h
  refine V_callNV (pc := 6) C (c_X11_putFlag l Γ sk hsk fu e18 (by decide) (by decide) ha1 (by decide) hc3) cf_X11_putFlag ln_X10_57 ⟨rfl, rfl⟩ ⟨Nat.le_of_ble_eq_true rfl, Nat.le_of_ble_eq_true rfl⟩ rfl (Nat.le_of_ble_eq_true rfl) ⟨Nat.zero_le _, Nat.zero_le _⟩ rfl dX10_drop_6 ?_
  exact V_vret (pc := 9) C hr hlk h dX10_drop_9
set_option maxRecDepth 100000 in
set_option maxHeartbeats 4000000 in
theorem c_X10_has (l : Launch) (Γ : GG) (sk : List SD) (hsk : Ext sk) (fu : Nat) {M M' : Mem} {a1 : Int} {r : Int} (ha1 : rng a1) (h : f_X10_has fu M a1 = some (M', r)) : MetI l yX10_has cX10_has 2 .boolean ({ frames := 0, cells := 0, slots := 0, locals := 0 } : Room) Γ sk [vr Γ 10, vi a1] M M' r := by
  unfold f_X10_has at h
  refine MetI_of RX10 rfl (by decide) rfl (Nat.le_of_ble_eq_true rfl) rfl ?_
  intro p e s m args below meth c C hr hlk hM
  have e10 := hsk 10 _ (by decide) rfl
  refine V_iload_n (pc := 0) C 1 rfl dX10_has_0 ?_
  refine V_if_lt (pc := 1) C 16 ha1 dX10_has_1 (by decide) (fun c1_1 => ?_) (fun c1_1 => ?_)
  · have h := ite_t h c1_1
    refine V_iconst (pc := 16) C dX10_has_16 ?_
    exact V_zret (pc := 17) C hr hlk (by decide) h dX10_has_17
  · have h := ite_f h c1_1
    refine V_iload_n (pc := 4) C 1 rfl dX10_has_4 ?_
    refine V_aload_n (pc := 5) C 0 rfl dX10_has_5 ?_
    refine V_getI (pc := 6) C e10 rfl inX10 0 (by decide) rfl lf_X10_37 rfl dX10_has_6 ?_
    refine V_icmp_ge (pc := 9) C 16 ha1 (hM _ _) dX10_has_9 (by decide) (fun c9_2 => ?_) (fun c9_2 => ?_)
    · have h := ite_t h c9_2
      refine V_iconst (pc := 16) C dX10_has_16 ?_
      exact V_zret (pc := 17) C hr hlk (by decide) h dX10_has_17
    · have h := ite_f h c9_2
      refine V_iconst (pc := 12) C dX10_has_12 ?_
      refine V_goto (pc := 13) C 17 dX10_has_13 (by decide) ?_
      exact V_zret (pc := 17) C hr hlk (by decide) h dX10_has_17
