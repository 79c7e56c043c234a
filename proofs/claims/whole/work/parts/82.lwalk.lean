set_option maxRecDepth 100000 in
set_option maxHeartbeats 4000000 in
theorem c_L_isReleased (l : Launch) (Γ : GG) (sk : List SD) (hsk : ExtL sk) (hl9 : l.stackTraces = false) (fu : Nat) {M M' : Mem} {a1 : Int} {r : Int} (ha1 : rng a1) (h : f_L_isReleased fu M a1 = some (M', r)) : MetH l yL_isReleased cL_isReleased 4 .int [(0, 16, 19, 13)] ({ frames := 9, cells := 1, slots := 6, locals := 182 } : Room) Γ sk [vr Γ 3, vi a1, vr Γ 65] M M' r := by
  unfold f_L_isReleased at h
  refine MetH_of RL rfl (by decide) rfl (Nat.le_of_ble_eq_true rfl) rfl ?_
  intro p e s m args below meth c C hr hlk htab hM
  have e3 := hsk 3 _ (by decide) rfl
  have e65 := hsk 65 _ (by decide) rfl
  refine V_aload_n (pc := 0) C 2 rfl dL_isReleased_0 ?_
  refine V_iconst (pc := 1) C dL_isReleased_1 ?_
  refine V_aload_n (pc := 2) C 0 rfl dL_isReleased_2 ?_
  refine V_iload_n (pc := 3) C 1 rfl dL_isReleased_3 ?_
  rcases cax_of h with ⟨M1, r2, hc3, h⟩ | ⟨M1, n4, z5, hc3, h⟩
  · refine V_callXI0 (pc := 4) C (c_X11_isReleased l Γ sk hsk.m.c hl9 fu ha1 hc3) cf_X11_isReleased lk_L_7 ⟨rfl, rfl⟩ ⟨Nat.le_of_ble_eq_true rfl, Nat.le_of_ble_eq_true rfl⟩ e3 rfl rfl rfl (Nat.le_of_ble_eq_true rfl) ⟨Nat.zero_le _, Nat.zero_le _⟩ rfl dL_isReleased_4 (fun hr2 => ?_)
    refine V_if_eq (pc := 7) C 14 hr2 dL_isReleased_7 (by decide) (fun c7_6 => ?_) (fun c7_6 => ?_)
    · have h := ite_t h c7_6
      refine V_lconst (pc := 14) C (x := (0 : Int)) dL_isReleased_14 rfl ?_
      refine V_last (pc := 15) C (by decide) e65 (by decide) (by decide) (by decide) dL_isReleased_15 ?_
      refine V_goto (pc := 16) C 22 dL_isReleased_16 (by decide) ?_
      refine V_iconst (pc := 22) C dL_isReleased_22 ?_
      refine V_room (Nat.zero_le 1) (Nat.zero_le 6) ?_
      exact V_hiret (pc := 23) C hr hlk (by decide) h dL_isReleased_23
    · have h := ite_f h c7_6
      refine V_lconst (pc := 10) C (x := (1 : Int)) dL_isReleased_10 rfl ?_
      refine V_goto (pc := 11) C 15 dL_isReleased_11 (by decide) ?_
      refine V_last (pc := 15) C (by decide) e65 (by decide) (by decide) (by decide) dL_isReleased_15 ?_
      refine V_goto (pc := 16) C 22 dL_isReleased_16 (by decide) ?_
      refine V_iconst (pc := 22) C dL_isReleased_22 ?_
      refine V_room (Nat.zero_le 1) (Nat.zero_le 6) ?_
      exact V_hiret (pc := 23) C hr hlk (by decide) h dL_isReleased_23
  · by_cases g7 : n4 = 0
    · have h := ite_t h g7
      subst g7
      refine V_callXIc (j := 0) (hh := [(0, 16, 19, 13)]) (pc := 4) C (c_X11_isReleased l Γ sk hsk.m.c hl9 fu ha1 hc3) htab [] ⟨0, 16, 19, 13⟩ [] rfl (fun z hz => nomatch hz) rfl (by decide) lx_L_13 (by decide) cf_X11_isReleased lk_L_7 ⟨rfl, rfl⟩ ⟨Nat.le_of_ble_eq_true rfl, Nat.le_of_ble_eq_true rfl⟩ e3 rfl rfl rfl (Nat.le_of_ble_eq_true rfl) ⟨Nat.le_refl 1, Nat.le_refl 6⟩ rfl dL_isReleased_4 (fun q9 => ?_)
      refine V_astore_n (pc := 19) C (L' := [(0, vr Γ 3), (1, vi a1), (2, vr Γ 65), (3, .ref q9)]) rfl (by decide) dL_isReleased_19 ?_
      refine V_iconst (pc := 20) C dL_isReleased_20 ?_
      exact V_hiret (pc := 21) C hr hlk (by decide) h dL_isReleased_21
    have h := ite_f h g7
    cases h
set_option maxRecDepth 100000 in
set_option maxHeartbeats 4000000 in
theorem c_L_parentOf (l : Launch) (Γ : GG) (sk : List SD) (hsk : ExtL sk) (hl9 : l.stackTraces = false) (fu : Nat) {M M' : Mem} {a1 : Int} {r : Int} (ha1 : rng a1) (h : f_L_parentOf fu M a1 = some (M', r)) : MetH l yL_parentOf cL_parentOf 4 .int [(0, 9, 12, 13)] ({ frames := 9, cells := 1, slots := 6, locals := 182 } : Room) Γ sk [vr Γ 3, vi a1, vr Γ 65] M M' r := by
  unfold f_L_parentOf at h
  refine MetH_of RL rfl (by decide) rfl (Nat.le_of_ble_eq_true rfl) rfl ?_
  intro p e s m args below meth c C hr hlk htab hM
  have e3 := hsk 3 _ (by decide) rfl
  have e65 := hsk 65 _ (by decide) rfl
  refine V_aload_n (pc := 0) C 2 rfl dL_parentOf_0 ?_
  refine V_iconst (pc := 1) C dL_parentOf_1 ?_
  refine V_aload_n (pc := 2) C 0 rfl dL_parentOf_2 ?_
  refine V_iload_n (pc := 3) C 1 rfl dL_parentOf_3 ?_
  rcases cax_of h with ⟨M1, r2, hc3, h⟩ | ⟨M1, n4, z5, hc3, h⟩
  · refine V_callXI0 (pc := 4) C (c_X11_parentOf l Γ sk hsk.m.c hl9 fu ha1 hc3) cf_X11_parentOf lk_L_15 ⟨rfl, rfl⟩ ⟨Nat.le_of_ble_eq_true rfl, Nat.le_of_ble_eq_true rfl⟩ e3 rfl rfl rfl (Nat.le_of_ble_eq_true rfl) ⟨Nat.zero_le _, Nat.zero_le _⟩ rfl dL_parentOf_4 (fun hr2 => ?_)
    refine V_i2l (pc := 7) C hr2 dL_parentOf_7 ?_
    refine V_last (pc := 8) C (by decide) e65 (by decide) (by decide) hr2 dL_parentOf_8 ?_
    refine V_goto (pc := 9) C 15 dL_parentOf_9 (by decide) ?_
    refine V_iconst (pc := 15) C dL_parentOf_15 ?_
    refine V_room (Nat.zero_le 1) (Nat.zero_le 6) ?_
    exact V_hiret (pc := 16) C hr hlk (by decide) h dL_parentOf_16
  · by_cases g6 : n4 = 0
    · have h := ite_t h g6
      subst g6
      refine V_callXIc (j := 0) (hh := [(0, 9, 12, 13)]) (pc := 4) C (c_X11_parentOf l Γ sk hsk.m.c hl9 fu ha1 hc3) htab [] ⟨0, 9, 12, 13⟩ [] rfl (fun z hz => nomatch hz) rfl (by decide) lx_L_13 (by decide) cf_X11_parentOf lk_L_15 ⟨rfl, rfl⟩ ⟨Nat.le_of_ble_eq_true rfl, Nat.le_of_ble_eq_true rfl⟩ e3 rfl rfl rfl (Nat.le_of_ble_eq_true rfl) ⟨Nat.le_refl 1, Nat.le_refl 6⟩ rfl dL_parentOf_4 (fun q9 => ?_)
      refine V_astore_n (pc := 12) C (L' := [(0, vr Γ 3), (1, vi a1), (2, vr Γ 65), (3, .ref q9)]) rfl (by decide) dL_parentOf_12 ?_
      refine V_iconst (pc := 13) C dL_parentOf_13 ?_
      exact V_hiret (pc := 14) C hr hlk (by decide) h dL_parentOf_14
    have h := ite_f h g6
    cases h
set_option maxRecDepth 100000 in
set_option maxHeartbeats 4000000 in
theorem c_L_depthOf (l : Launch) (Γ : GG) (sk : List SD) (hsk : ExtL sk) (hl9 : l.stackTraces = false) (fu : Nat) {M M' : Mem} {a1 : Int} {r : Int} (ha1 : rng a1) (h : f_L_depthOf fu M a1 = some (M', r)) : MetH l yL_depthOf cL_depthOf 4 .int [(0, 9, 12, 13)] ({ frames := 9, cells := 1, slots := 6, locals := 182 } : Room) Γ sk [vr Γ 3, vi a1, vr Γ 65] M M' r := by
  unfold f_L_depthOf at h
  refine MetH_of RL rfl (by decide) rfl (Nat.le_of_ble_eq_true rfl) rfl ?_
  intro p e s m args below meth c C hr hlk htab hM
  have e3 := hsk 3 _ (by decide) rfl
  have e65 := hsk 65 _ (by decide) rfl
  refine V_aload_n (pc := 0) C 2 rfl dL_depthOf_0 ?_
  refine V_iconst (pc := 1) C dL_depthOf_1 ?_
  refine V_aload_n (pc := 2) C 0 rfl dL_depthOf_2 ?_
  refine V_iload_n (pc := 3) C 1 rfl dL_depthOf_3 ?_
  rcases cax_of h with ⟨M1, r2, hc3, h⟩ | ⟨M1, n4, z5, hc3, h⟩
  · refine V_callXI0 (pc := 4) C (c_X11_depthOf l Γ sk hsk.m.c hl9 fu ha1 hc3) cf_X11_depthOf lk_L_19 ⟨rfl, rfl⟩ ⟨Nat.le_of_ble_eq_true rfl, Nat.le_of_ble_eq_true rfl⟩ e3 rfl rfl rfl (Nat.le_of_ble_eq_true rfl) ⟨Nat.zero_le _, Nat.zero_le _⟩ rfl dL_depthOf_4 (fun hr2 => ?_)
    refine V_i2l (pc := 7) C hr2 dL_depthOf_7 ?_
    refine V_last (pc := 8) C (by decide) e65 (by decide) (by decide) hr2 dL_depthOf_8 ?_
    refine V_goto (pc := 9) C 15 dL_depthOf_9 (by decide) ?_
    refine V_iconst (pc := 15) C dL_depthOf_15 ?_
    refine V_room (Nat.zero_le 1) (Nat.zero_le 6) ?_
    exact V_hiret (pc := 16) C hr hlk (by decide) h dL_depthOf_16
  · by_cases g6 : n4 = 0
    · have h := ite_t h g6
      subst g6
      refine V_callXIc (j := 0) (hh := [(0, 9, 12, 13)]) (pc := 4) C (c_X11_depthOf l Γ sk hsk.m.c hl9 fu ha1 hc3) htab [] ⟨0, 9, 12, 13⟩ [] rfl (fun z hz => nomatch hz) rfl (by decide) lx_L_13 (by decide) cf_X11_depthOf lk_L_19 ⟨rfl, rfl⟩ ⟨Nat.le_of_ble_eq_true rfl, Nat.le_of_ble_eq_true rfl⟩ e3 rfl rfl rfl (Nat.le_of_ble_eq_true rfl) ⟨Nat.le_refl 1, Nat.le_refl 6⟩ rfl dL_depthOf_4 (fun q9 => ?_)
      refine V_astore_n (pc := 12) C (L' := [(0, vr Γ 3), (1, vi a1), (2, vr Γ 65), (3, .ref q9)]) rfl (by decide) dL_depthOf_12 ?_
      refine V_iconst (pc := 13) C dL_depthOf_13 ?_
      exact V_hiret (pc := 14) C hr hlk (by decide) h dL_depthOf_14
    have h := ite_f h g6
    cases h
set_option maxRecDepth 100000 in
set_option maxHeartbeats 4000000 in
theorem c_L_childCount (l : Launch) (Γ : GG) (sk : List SD) (hsk : ExtL sk) (hl9 : l.stackTraces = false) (fu : Nat) {M M' : Mem} {a1 : Int} {r : Int} (ha1 : rng a1) (h : f_L_childCount fu M a1 = some (M', r)) : MetH l yL_childCount cL_childCount 4 .int [(0, 9, 12, 13)] ({ frames := 9, cells := 1, slots := 6, locals := 182 } : Room) Γ sk [vr Γ 3, vi a1, vr Γ 65] M M' r := by
  unfold f_L_childCount at h
  refine MetH_of RL rfl (by decide) rfl (Nat.le_of_ble_eq_true rfl) rfl ?_
  intro p e s m args below meth c C hr hlk htab hM
  have e3 := hsk 3 _ (by decide) rfl
  have e65 := hsk 65 _ (by decide) rfl
  refine V_aload_n (pc := 0) C 2 rfl dL_childCount_0 ?_
  refine V_iconst (pc := 1) C dL_childCount_1 ?_
  refine V_aload_n (pc := 2) C 0 rfl dL_childCount_2 ?_
  refine V_iload_n (pc := 3) C 1 rfl dL_childCount_3 ?_
  rcases cax_of h with ⟨M1, r2, hc3, h⟩ | ⟨M1, n4, z5, hc3, h⟩
  · refine V_callXI0 (pc := 4) C (c_X11_childCount l Γ sk hsk.m.c hl9 fu ha1 hc3) cf_X11_childCount lk_L_22 ⟨rfl, rfl⟩ ⟨Nat.le_of_ble_eq_true rfl, Nat.le_of_ble_eq_true rfl⟩ e3 rfl rfl rfl (Nat.le_of_ble_eq_true rfl) ⟨Nat.zero_le _, Nat.zero_le _⟩ rfl dL_childCount_4 (fun hr2 => ?_)
    refine V_i2l (pc := 7) C hr2 dL_childCount_7 ?_
    refine V_last (pc := 8) C (by decide) e65 (by decide) (by decide) hr2 dL_childCount_8 ?_
    refine V_goto (pc := 9) C 15 dL_childCount_9 (by decide) ?_
    refine V_iconst (pc := 15) C dL_childCount_15 ?_
    refine V_room (Nat.zero_le 1) (Nat.zero_le 6) ?_
    exact V_hiret (pc := 16) C hr hlk (by decide) h dL_childCount_16
  · by_cases g6 : n4 = 0
    · have h := ite_t h g6
      subst g6
      refine V_callXIc (j := 0) (hh := [(0, 9, 12, 13)]) (pc := 4) C (c_X11_childCount l Γ sk hsk.m.c hl9 fu ha1 hc3) htab [] ⟨0, 9, 12, 13⟩ [] rfl (fun z hz => nomatch hz) rfl (by decide) lx_L_13 (by decide) cf_X11_childCount lk_L_22 ⟨rfl, rfl⟩ ⟨Nat.le_of_ble_eq_true rfl, Nat.le_of_ble_eq_true rfl⟩ e3 rfl rfl rfl (Nat.le_of_ble_eq_true rfl) ⟨Nat.le_refl 1, Nat.le_refl 6⟩ rfl dL_childCount_4 (fun q9 => ?_)
      refine V_astore_n (pc := 12) C (L' := [(0, vr Γ 3), (1, vi a1), (2, vr Γ 65), (3, .ref q9)]) rfl (by decide) dL_childCount_12 ?_
      refine V_iconst (pc := 13) C dL_childCount_13 ?_
      exact V_hiret (pc := 14) C hr hlk (by decide) h dL_childCount_14
    have h := ite_f h g6
    cases h
set_option maxRecDepth 100000 in
set_option maxHeartbeats 4000000 in
theorem c_L_commonAncestor (l : Launch) (Γ : GG) (sk : List SD) (hsk : ExtL sk) (hl9 : l.stackTraces = false) (fu : Nat) {M M' : Mem} {a1 : Int} {a2 : Int} {r : Int} (ha1 : rng a1) (ha2 : rng a2) (h : f_L_commonAncestor fu M a1 a2 = some (M', r)) : MetH l yL_commonAncestor cL_commonAncestor 5 .int [(0, 10, 13, 13)] ({ frames := 9, cells := 1, slots := 6, locals := 183 } : Room) Γ sk [vr Γ 3, vi a1, vi a2, vr Γ 65] M M' r := by
  unfold f_L_commonAncestor at h
  refine MetH_of RL rfl (by decide) rfl (Nat.le_of_ble_eq_true rfl) rfl ?_
  intro p e s m args below meth c C hr hlk htab hM
  have e3 := hsk 3 _ (by decide) rfl
  have e65 := hsk 65 _ (by decide) rfl
  refine V_aload_n (pc := 0) C 3 rfl dL_commonAncestor_0 ?_
  refine V_iconst (pc := 1) C dL_commonAncestor_1 ?_
  refine V_aload_n (pc := 2) C 0 rfl dL_commonAncestor_2 ?_
  refine V_iload_n (pc := 3) C 1 rfl dL_commonAncestor_3 ?_
  refine V_iload_n (pc := 4) C 2 rfl dL_commonAncestor_4 ?_
  rcases cax_of h with ⟨M1, r2, hc3, h⟩ | ⟨M1, n4, z5, hc3, h⟩
  · refine V_callXI0 (pc := 5) C (c_X11_commonAncestor l Γ sk hsk.m.c hl9 fu ha1 ha2 hc3) cf_X11_commonAncestor lk_L_25 ⟨rfl, rfl⟩ ⟨Nat.le_of_ble_eq_true rfl, Nat.le_of_ble_eq_true rfl⟩ e3 rfl rfl rfl (Nat.le_of_ble_eq_true rfl) ⟨Nat.zero_le _, Nat.zero_le _⟩ rfl dL_commonAncestor_5 (fun hr2 => ?_)
    refine V_i2l (pc := 8) C hr2 dL_commonAncestor_8 ?_
    refine V_last (pc := 9) C (by decide) e65 (by decide) (by decide) hr2 dL_commonAncestor_9 ?_
    refine V_goto (pc := 10) C 17 dL_commonAncestor_10 (by decide) ?_
    refine V_iconst (pc := 17) C dL_commonAncestor_17 ?_
    refine V_room (Nat.zero_le 1) (Nat.zero_le 6) ?_
    exact V_hiret (pc := 18) C hr hlk (by decide) h dL_commonAncestor_18
  · by_cases g6 : n4 = 0
    · have h := ite_t h g6
      subst g6
      refine V_callXIc (j := 0) (hh := [(0, 10, 13, 13)]) (pc := 5) C (c_X11_commonAncestor l Γ sk hsk.m.c hl9 fu ha1 ha2 hc3) htab [] ⟨0, 10, 13, 13⟩ [] rfl (fun z hz => nomatch hz) rfl (by decide) lx_L_13 (by decide) cf_X11_commonAncestor lk_L_25 ⟨rfl, rfl⟩ ⟨Nat.le_of_ble_eq_true rfl, Nat.le_of_ble_eq_true rfl⟩ e3 rfl rfl rfl (Nat.le_of_ble_eq_true rfl) ⟨Nat.le_refl 1, Nat.le_refl 6⟩ rfl dL_commonAncestor_5 (fun q9 => ?_)
      refine V_astore (pc := 13) C (L' := [(0, vr Γ 3), (1, vi a1), (2, vi a2), (3, vr Γ 65), (4, .ref q9)]) rfl (by decide) dL_commonAncestor_13 ?_
      refine V_iconst (pc := 15) C dL_commonAncestor_15 ?_
      exact V_hiret (pc := 16) C hr hlk (by decide) h dL_commonAncestor_16
    have h := ite_f h g6
    cases h
set_option maxRecDepth 100000 in
set_option maxHeartbeats 4000000 in
theorem c_L_size (l : Launch) (Γ : GG) (sk : List SD) (hsk : ExtL sk) (hl9 : l.stackTraces = false) (fu : Nat) {M M' : Mem} {a1 : Int} {r : Int} (ha1 : rng a1) (h : f_L_size fu M a1 = some (M', r)) : MetH l yL_size cL_size 4 .int [(0, 9, 12, 13), (0, 9, 15, 32)] ({ frames := 9, cells := 1, slots := 6, locals := 182 } : Room) Γ sk [vr Γ 3, vi a1, vr Γ 65] M M' r := by
  unfold f_L_size at h
  refine MetH_of RL rfl (by decide) rfl (Nat.le_of_ble_eq_true rfl) rfl ?_
  intro p e s m args below meth c C hr hlk htab hM
  have e3 := hsk 3 _ (by decide) rfl
  have e65 := hsk 65 _ (by decide) rfl
  refine V_aload_n (pc := 0) C 2 rfl dL_size_0 ?_
  refine V_iconst (pc := 1) C dL_size_1 ?_
  refine V_aload_n (pc := 2) C 0 rfl dL_size_2 ?_
  refine V_iload_n (pc := 3) C 1 rfl dL_size_3 ?_
  rcases cax_of h with ⟨M1, r2, hc3, h⟩ | ⟨M1, n4, z5, hc3, h⟩
  · refine V_callXI0 (pc := 4) C (c_X11_size l Γ sk hsk.m.c hl9 fu ha1 hc3) cf_X11_size lk_L_29 ⟨rfl, rfl⟩ ⟨Nat.le_of_ble_eq_true rfl, Nat.le_of_ble_eq_true rfl⟩ e3 rfl rfl rfl (Nat.le_of_ble_eq_true rfl) ⟨Nat.zero_le _, Nat.zero_le _⟩ rfl dL_size_4 (fun hr2 => ?_)
    refine V_i2l (pc := 7) C hr2 dL_size_7 ?_
    refine V_last (pc := 8) C (by decide) e65 (by decide) (by decide) hr2 dL_size_8 ?_
    refine V_goto (pc := 9) C 18 dL_size_9 (by decide) ?_
    refine V_iconst (pc := 18) C dL_size_18 ?_
    refine V_room (Nat.zero_le 1) (Nat.zero_le 6) ?_
    exact V_hiret (pc := 19) C hr hlk (by decide) h dL_size_19
  · by_cases g7 : n4 = 0
    · have h := ite_t h g7
      subst g7
      refine V_callXIc (j := 0) (hh := [(0, 9, 12, 13), (0, 9, 15, 32)]) (pc := 4) C (c_X11_size l Γ sk hsk.m.c hl9 fu ha1 hc3) htab [] ⟨0, 9, 12, 13⟩ [⟨0, 9, 15, 32⟩] rfl (fun z hz => nomatch hz) rfl (by decide) lx_L_13 (by decide) cf_X11_size lk_L_29 ⟨rfl, rfl⟩ ⟨Nat.le_of_ble_eq_true rfl, Nat.le_of_ble_eq_true rfl⟩ e3 rfl rfl rfl (Nat.le_of_ble_eq_true rfl) ⟨Nat.le_refl 1, Nat.le_refl 6⟩ rfl dL_size_4 (fun q9 => ?_)
      refine V_astore_n (pc := 12) C (L' := [(0, vr Γ 3), (1, vi a1), (2, vr Γ 65), (3, .ref q9)]) rfl (by decide) dL_size_12 ?_
      refine V_iconst (pc := 13) C dL_size_13 ?_
      exact V_hiret (pc := 14) C hr hlk (by decide) h dL_size_14
    have h := ite_f h g7
    by_cases g6 : n4 = 2
    · have h := ite_t h g6
      subst g6
      refine V_callXIc (j := 2) (hh := [(0, 9, 12, 13), (0, 9, 15, 32)]) (pc := 4) C (c_X11_size l Γ sk hsk.m.c hl9 fu ha1 hc3) htab [⟨0, 9, 12, 13⟩] ⟨0, 9, 15, 32⟩ [] rfl (pass1 ⟨by decide, exN 1, lx_L_13, by decide +kernel⟩) rfl (by decide) lx_L_32 (by decide) cf_X11_size lk_L_29 ⟨rfl, rfl⟩ ⟨Nat.le_of_ble_eq_true rfl, Nat.le_of_ble_eq_true rfl⟩ e3 rfl rfl rfl (Nat.le_of_ble_eq_true rfl) ⟨Nat.le_refl 1, Nat.le_refl 6⟩ rfl dL_size_4 (fun q9 => ?_)
      refine V_astore_n (pc := 15) C (L' := [(0, vr Γ 3), (1, vi a1), (2, vr Γ 65), (3, .ref q9)]) rfl (by decide) dL_size_15 ?_
      refine V_iconst (pc := 16) C dL_size_16 ?_
      exact V_hiret (pc := 17) C hr hlk (by decide) h dL_size_17
    have h := ite_f h g6
    cases h
set_option maxRecDepth 100000 in
set_option maxHeartbeats 4000000 in
theorem c_L_height (l : Launch) (Γ : GG) (sk : List SD) (hsk : ExtL sk) (hl9 : l.stackTraces = false) (fu : Nat) {M M' : Mem} {a1 : Int} {r : Int} (ha1 : rng a1) (h : f_L_height fu M a1 = some (M', r)) : MetH l yL_height cL_height 4 .int [(0, 9, 12, 13), (0, 9, 15, 32)] ({ frames := 9, cells := 1, slots := 6, locals := 182 } : Room) Γ sk [vr Γ 3, vi a1, vr Γ 65] M M' r := by
  unfold f_L_height at h
  refine MetH_of RL rfl (by decide) rfl (Nat.le_of_ble_eq_true rfl) rfl ?_
  intro p e s m args below meth c C hr hlk htab hM
  have e3 := hsk 3 _ (by decide) rfl
  have e65 := hsk 65 _ (by decide) rfl
  refine V_aload_n (pc := 0) C 2 rfl dL_height_0 ?_
  refine V_iconst (pc := 1) C dL_height_1 ?_
  refine V_aload_n (pc := 2) C 0 rfl dL_height_2 ?_
  refine V_iload_n (pc := 3) C 1 rfl dL_height_3 ?_
  rcases cax_of h with ⟨M1, r2, hc3, h⟩ | ⟨M1, n4, z5, hc3, h⟩
  · refine V_callXI0 (pc := 4) C (c_X11_height l Γ sk hsk.m.c hl9 fu ha1 hc3) cf_X11_height lk_L_34 ⟨rfl, rfl⟩ ⟨Nat.le_of_ble_eq_true rfl, Nat.le_of_ble_eq_true rfl⟩ e3 rfl rfl rfl (Nat.le_of_ble_eq_true rfl) ⟨Nat.zero_le _, Nat.zero_le _⟩ rfl dL_height_4 (fun hr2 => ?_)
    refine V_i2l (pc := 7) C hr2 dL_height_7 ?_
    refine V_last (pc := 8) C (by decide) e65 (by decide) (by decide) hr2 dL_height_8 ?_
    refine V_goto (pc := 9) C 18 dL_height_9 (by decide) ?_
    refine V_iconst (pc := 18) C dL_height_18 ?_
    refine V_room (Nat.zero_le 1) (Nat.zero_le 6) ?_
    exact V_hiret (pc := 19) C hr hlk (by decide) h dL_height_19
  · by_cases g7 : n4 = 0
    · have h := ite_t h g7
      subst g7
      refine V_callXIc (j := 0) (hh := [(0, 9, 12, 13), (0, 9, 15, 32)]) (pc := 4) C (c_X11_height l Γ sk hsk.m.c hl9 fu ha1 hc3) htab [] ⟨0, 9, 12, 13⟩ [⟨0, 9, 15, 32⟩] rfl (fun z hz => nomatch hz) rfl (by decide) lx_L_13 (by decide) cf_X11_height lk_L_34 ⟨rfl, rfl⟩ ⟨Nat.le_of_ble_eq_true rfl, Nat.le_of_ble_eq_true rfl⟩ e3 rfl rfl rfl (Nat.le_of_ble_eq_true rfl) ⟨Nat.le_refl 1, Nat.le_refl 6⟩ rfl dL_height_4 (fun q9 => ?_)
      refine V_astore_n (pc := 12) C (L' := [(0, vr Γ 3), (1, vi a1), (2, vr Γ 65), (3, .ref q9)]) rfl (by decide) dL_height_12 ?_
      refine V_iconst (pc := 13) C dL_height_13 ?_
      exact V_hiret (pc := 14) C hr hlk (by decide) h dL_height_14
    have h := ite_f h g7
    by_cases g6 : n4 = 2
    · have h := ite_t h g6
      subst g6
      refine V_callXIc (j := 2) (hh := [(0, 9, 12, 13), (0, 9, 15, 32)]) (pc := 4) C (c_X11_height l Γ sk hsk.m.c hl9 fu ha1 hc3) htab [⟨0, 9, 12, 13⟩] ⟨0, 9, 15, 32⟩ [] rfl (pass1 ⟨by decide, exN 1, lx_L_13, by decide +kernel⟩) rfl (by decide) lx_L_32 (by decide) cf_X11_height lk_L_34 ⟨rfl, rfl⟩ ⟨Nat.le_of_ble_eq_true rfl, Nat.le_of_ble_eq_true rfl⟩ e3 rfl rfl rfl (Nat.le_of_ble_eq_true rfl) ⟨Nat.le_refl 1, Nat.le_refl 6⟩ rfl dL_height_4 (fun q9 => ?_)
      refine V_astore_n (pc := 15) C (L' := [(0, vr Γ 3), (1, vi a1), (2, vr Γ 65), (3, .ref q9)]) rfl (by decide) dL_height_15 ?_
      refine V_iconst (pc := 16) C dL_height_16 ?_
      exact V_hiret (pc := 17) C hr hlk (by decide) h dL_height_17
    have h := ite_f h g6
    cases h
set_option maxRecDepth 100000 in
set_option maxHeartbeats 4000000 in
theorem c_L_rootOf (l : Launch) (Γ : GG) (sk : List SD) (hsk : ExtL sk) (hl9 : l.stackTraces = false) (fu : Nat) {M M' : Mem} {a1 : Int} {r : Int} (ha1 : rng a1) (h : f_L_rootOf fu M a1 = some (M', r)) : MetH l yL_rootOf cL_rootOf 4 .int [(0, 9, 12, 13), (0, 9, 15, 32)] ({ frames := 9, cells := 1, slots := 6, locals := 182 } : Room) Γ sk [vr Γ 3, vi a1, vr Γ 65] M M' r := by
  unfold f_L_rootOf at h
  refine MetH_of RL rfl (by decide) rfl (Nat.le_of_ble_eq_true rfl) rfl ?_
  intro p e s m args below meth c C hr hlk htab hM
  have e3 := hsk 3 _ (by decide) rfl
  have e65 := hsk 65 _ (by decide) rfl
  refine V_aload_n (pc := 0) C 2 rfl dL_rootOf_0 ?_
  refine V_iconst (pc := 1) C dL_rootOf_1 ?_
  refine V_aload_n (pc := 2) C 0 rfl dL_rootOf_2 ?_
  refine V_iload_n (pc := 3) C 1 rfl dL_rootOf_3 ?_
  rcases cax_of h with ⟨M1, r2, hc3, h⟩ | ⟨M1, n4, z5, hc3, h⟩
  · refine V_callXI0 (pc := 4) C (c_X11_rootOf l Γ sk hsk.m.c hl9 fu ha1 hc3) cf_X11_rootOf lk_L_37 ⟨rfl, rfl⟩ ⟨Nat.le_of_ble_eq_true rfl, Nat.le_of_ble_eq_true rfl⟩ e3 rfl rfl rfl (Nat.le_of_ble_eq_true rfl) ⟨Nat.zero_le _, Nat.zero_le _⟩ rfl dL_rootOf_4 (fun hr2 => ?_)
    refine V_i2l (pc := 7) C hr2 dL_rootOf_7 ?_
    refine V_last (pc := 8) C (by decide) e65 (by decide) (by decide) hr2 dL_rootOf_8 ?_
    refine V_goto (pc := 9) C 18 dL_rootOf_9 (by decide) ?_
    refine V_iconst (pc := 18) C dL_rootOf_18 ?_
    refine V_room (Nat.zero_le 1) (Nat.zero_le 6) ?_
    exact V_hiret (pc := 19) C hr hlk (by decide) h dL_rootOf_19
  · by_cases g7 : n4 = 0
    · have h := ite_t h g7
      subst g7
      refine V_callXIc (j := 0) (hh := [(0, 9, 12, 13), (0, 9, 15, 32)]) (pc := 4) C (c_X11_rootOf l Γ sk hsk.m.c hl9 fu ha1 hc3) htab [] ⟨0, 9, 12, 13⟩ [⟨0, 9, 15, 32⟩] rfl (fun z hz => nomatch hz) rfl (by decide) lx_L_13 (by decide) cf_X11_rootOf lk_L_37 ⟨rfl, rfl⟩ ⟨Nat.le_of_ble_eq_true rfl, Nat.le_of_ble_eq_true rfl⟩ e3 rfl rfl rfl (Nat.le_of_ble_eq_true rfl) ⟨Nat.le_refl 1, Nat.le_refl 6⟩ rfl dL_rootOf_4 (fun q9 => ?_)
      refine V_astore_n (pc := 12) C (L' := [(0, vr Γ 3), (1, vi a1), (2, vr Γ 65), (3, .ref q9)]) rfl (by decide) dL_rootOf_12 ?_
      refine V_iconst (pc := 13) C dL_rootOf_13 ?_
      exact V_hiret (pc := 14) C hr hlk (by decide) h dL_rootOf_14
    have h := ite_f h g7
    by_cases g6 : n4 = 2
    · have h := ite_t h g6
      subst g6
      refine V_callXIc (j := 2) (hh := [(0, 9, 12, 13), (0, 9, 15, 32)]) (pc := 4) C (c_X11_rootOf l Γ sk hsk.m.c hl9 fu ha1 hc3) htab [⟨0, 9, 12, 13⟩] ⟨0, 9, 15, 32⟩ [] rfl (pass1 ⟨by decide, exN 1, lx_L_13, by decide +kernel⟩) rfl (by decide) lx_L_32 (by decide) cf_X11_rootOf lk_L_37 ⟨rfl, rfl⟩ ⟨Nat.le_of_ble_eq_true rfl, Nat.le_of_ble_eq_true rfl⟩ e3 rfl rfl rfl (Nat.le_of_ble_eq_true rfl) ⟨Nat.le_refl 1, Nat.le_refl 6⟩ rfl dL_rootOf_4 (fun q9 => ?_)
      refine V_astore_n (pc := 15) C (L' := [(0, vr Γ 3), (1, vi a1), (2, vr Γ 65), (3, .ref q9)]) rfl (by decide) dL_rootOf_15 ?_
      refine V_iconst (pc := 16) C dL_rootOf_16 ?_
      exact V_hiret (pc := 17) C hr hlk (by decide) h dL_rootOf_17
    have h := ite_f h g6
    cases h
set_option maxRecDepth 100000 in
set_option maxHeartbeats 4000000 in
theorem c_L_get (l : Launch) (Γ : GG) (sk : List SD) (hsk : ExtL sk) (hl9 : l.stackTraces = false) (fu : Nat) {M M' : Mem} {a1 : Int} {a2 : Int} {r : Int} (ha1 : rng a1) (ha2 : rng a2) (h : f_L_get fu M a1 a2 = some (M', r)) : MetH l yL_get cL_get 5 .int [(0, 10, 13, 13), (0, 10, 17, 32)] ({ frames := 8, cells := 1, slots := 6, locals := 162 } : Room) Γ sk [vr Γ 3, vi a1, vi a2, vr Γ 65] M M' r := by
  unfold f_L_get at h
  refine MetH_of RL rfl (by decide) rfl (Nat.le_of_ble_eq_true rfl) rfl ?_
  intro p e s m args below meth c C hr hlk htab hM
  have e3 := hsk 3 _ (by decide) rfl
  have e65 := hsk 65 _ (by decide) rfl
  refine V_aload_n (pc := 0) C 3 rfl dL_get_0 ?_
  refine V_iconst (pc := 1) C dL_get_1 ?_
  refine V_aload_n (pc := 2) C 0 rfl dL_get_2 ?_
  refine V_iload_n (pc := 3) C 1 rfl dL_get_3 ?_
  refine V_iload_n (pc := 4) C 2 rfl dL_get_4 ?_
  rcases cax_of h with ⟨M1, r2, hc3, h⟩ | ⟨M1, n4, z5, hc3, h⟩
  · refine V_callXI0 (pc := 5) C (c_X11_get l Γ sk hsk.m.c hl9 fu ha1 ha2 hc3) cf_X11_get lk_L_40 ⟨rfl, rfl⟩ ⟨Nat.le_of_ble_eq_true rfl, Nat.le_of_ble_eq_true rfl⟩ e3 rfl rfl rfl (Nat.le_of_ble_eq_true rfl) ⟨Nat.zero_le _, Nat.zero_le _⟩ rfl dL_get_5 (fun hr2 => ?_)
    refine V_i2l (pc := 8) C hr2 dL_get_8 ?_
    refine V_last (pc := 9) C (by decide) e65 (by decide) (by decide) hr2 dL_get_9 ?_
    refine V_goto (pc := 10) C 21 dL_get_10 (by decide) ?_
    refine V_iconst (pc := 21) C dL_get_21 ?_
    refine V_room (Nat.zero_le 1) (Nat.zero_le 6) ?_
    exact V_hiret (pc := 22) C hr hlk (by decide) h dL_get_22
  · by_cases g7 : n4 = 0
    · have h := ite_t h g7
      subst g7
      refine V_callXIc (j := 0) (hh := [(0, 10, 13, 13), (0, 10, 17, 32)]) (pc := 5) C (c_X11_get l Γ sk hsk.m.c hl9 fu ha1 ha2 hc3) htab [] ⟨0, 10, 13, 13⟩ [⟨0, 10, 17, 32⟩] rfl (fun z hz => nomatch hz) rfl (by decide) lx_L_13 (by decide) cf_X11_get lk_L_40 ⟨rfl, rfl⟩ ⟨Nat.le_of_ble_eq_true rfl, Nat.le_of_ble_eq_true rfl⟩ e3 rfl rfl rfl (Nat.le_of_ble_eq_true rfl) ⟨Nat.le_refl 1, Nat.le_refl 6⟩ rfl dL_get_5 (fun q9 => ?_)
      refine V_astore (pc := 13) C (L' := [(0, vr Γ 3), (1, vi a1), (2, vi a2), (3, vr Γ 65), (4, .ref q9)]) rfl (by decide) dL_get_13 ?_
      refine V_iconst (pc := 15) C dL_get_15 ?_
      exact V_hiret (pc := 16) C hr hlk (by decide) h dL_get_16
    have h := ite_f h g7
    by_cases g6 : n4 = 2
    · have h := ite_t h g6
      subst g6
      refine V_callXIc (j := 2) (hh := [(0, 10, 13, 13), (0, 10, 17, 32)]) (pc := 5) C (c_X11_get l Γ sk hsk.m.c hl9 fu ha1 ha2 hc3) htab [⟨0, 10, 13, 13⟩] ⟨0, 10, 17, 32⟩ [] rfl (pass1 ⟨by decide, exN 1, lx_L_13, by decide +kernel⟩) rfl (by decide) lx_L_32 (by decide) cf_X11_get lk_L_40 ⟨rfl, rfl⟩ ⟨Nat.le_of_ble_eq_true rfl, Nat.le_of_ble_eq_true rfl⟩ e3 rfl rfl rfl (Nat.le_of_ble_eq_true rfl) ⟨Nat.le_refl 1, Nat.le_refl 6⟩ rfl dL_get_5 (fun q9 => ?_)
      refine V_astore (pc := 17) C (L' := [(0, vr Γ 3), (1, vi a1), (2, vi a2), (3, vr Γ 65), (4, .ref q9)]) rfl (by decide) dL_get_17 ?_
      refine V_iconst (pc := 19) C dL_get_19 ?_
      exact V_hiret (pc := 20) C hr hlk (by decide) h dL_get_20
    have h := ite_f h g6
    cases h
set_option maxRecDepth 100000 in
set_option maxHeartbeats 4000000 in
theorem c_L_leafOf (l : Launch) (Γ : GG) (sk : List SD) (hsk : ExtL sk) (hl9 : l.stackTraces = false) (fu : Nat) {M M' : Mem} {a1 : Int} {a2 : Int} {r : Int} (ha1 : rng a1) (ha2 : rng a2) (h : f_L_leafOf fu M a1 a2 = some (M', r)) : MetH l yL_leafOf cL_leafOf 5 .int [(0, 10, 13, 13), (0, 10, 17, 32)] ({ frames := 8, cells := 1, slots := 6, locals := 162 } : Room) Γ sk [vr Γ 3, vi a1, vi a2, vr Γ 65] M M' r := by
  unfold f_L_leafOf at h
  refine MetH_of RL rfl (by decide) rfl (Nat.le_of_ble_eq_true rfl) rfl ?_
  intro p e s m args below meth c C hr hlk htab hM
  have e3 := hsk 3 _ (by decide) rfl
  have e65 := hsk 65 _ (by decide) rfl
  refine V_aload_n (pc := 0) C 3 rfl dL_leafOf_0 ?_
  refine V_iconst (pc := 1) C dL_leafOf_1 ?_
  refine V_aload_n (pc := 2) C 0 rfl dL_leafOf_2 ?_
  refine V_iload_n (pc := 3) C 1 rfl dL_leafOf_3 ?_
  refine V_iload_n (pc := 4) C 2 rfl dL_leafOf_4 ?_
  rcases cax_of h with ⟨M1, r2, hc3, h⟩ | ⟨M1, n4, z5, hc3, h⟩
  · refine V_callXI0 (pc := 5) C (c_X11_leafOf l Γ sk hsk.m.c hl9 fu ha1 ha2 hc3) cf_X11_leafOf lk_L_43 ⟨rfl, rfl⟩ ⟨Nat.le_of_ble_eq_true rfl, Nat.le_of_ble_eq_true rfl⟩ e3 rfl rfl rfl (Nat.le_of_ble_eq_true rfl) ⟨Nat.zero_le _, Nat.zero_le _⟩ rfl dL_leafOf_5 (fun hr2 => ?_)
    refine V_i2l (pc := 8) C hr2 dL_leafOf_8 ?_
    refine V_last (pc := 9) C (by decide) e65 (by decide) (by decide) hr2 dL_leafOf_9 ?_
    refine V_goto (pc := 10) C 21 dL_leafOf_10 (by decide) ?_
    refine V_iconst (pc := 21) C dL_leafOf_21 ?_
    refine V_room (Nat.zero_le 1) (Nat.zero_le 6) ?_
    exact V_hiret (pc := 22) C hr hlk (by decide) h dL_leafOf_22
  · by_cases g7 : n4 = 0
    · have h := ite_t h g7
      subst g7
      refine V_callXIc (j := 0) (hh := [(0, 10, 13, 13), (0, 10, 17, 32)]) (pc := 5) C (c_X11_leafOf l Γ sk hsk.m.c hl9 fu ha1 ha2 hc3) htab [] ⟨0, 10, 13, 13⟩ [⟨0, 10, 17, 32⟩] rfl (fun z hz => nomatch hz) rfl (by decide) lx_L_13 (by decide) cf_X11_leafOf lk_L_43 ⟨rfl, rfl⟩ ⟨Nat.le_of_ble_eq_true rfl, Nat.le_of_ble_eq_true rfl⟩ e3 rfl rfl rfl (Nat.le_of_ble_eq_true rfl) ⟨Nat.le_refl 1, Nat.le_refl 6⟩ rfl dL_leafOf_5 (fun q9 => ?_)
      refine V_astore (pc := 13) C (L' := [(0, vr Γ 3), (1, vi a1), (2, vi a2), (3, vr Γ 65), (4, .ref q9)]) rfl (by decide) dL_leafOf_13 ?_
      refine V_iconst (pc := 15) C dL_leafOf_15 ?_
      exact V_hiret (pc := 16) C hr hlk (by decide) h dL_leafOf_16
    have h := ite_f h g7
    by_cases g6 : n4 = 2
    · have h := ite_t h g6
      subst g6
      refine V_callXIc (j := 2) (hh := [(0, 10, 13, 13), (0, 10, 17, 32)]) (pc := 5) C (c_X11_leafOf l Γ sk hsk.m.c hl9 fu ha1 ha2 hc3) htab [⟨0, 10, 13, 13⟩] ⟨0, 10, 17, 32⟩ [] rfl (pass1 ⟨by decide, exN 1, lx_L_13, by decide +kernel⟩) rfl (by decide) lx_L_32 (by decide) cf_X11_leafOf lk_L_43 ⟨rfl, rfl⟩ ⟨Nat.le_of_ble_eq_true rfl, Nat.le_of_ble_eq_true rfl⟩ e3 rfl rfl rfl (Nat.le_of_ble_eq_true rfl) ⟨Nat.le_refl 1, Nat.le_refl 6⟩ rfl dL_leafOf_5 (fun q9 => ?_)
      refine V_astore (pc := 17) C (L' := [(0, vr Γ 3), (1, vi a1), (2, vi a2), (3, vr Γ 65), (4, .ref q9)]) rfl (by decide) dL_leafOf_17 ?_
      refine V_iconst (pc := 19) C dL_leafOf_19 ?_
      exact V_hiret (pc := 20) C hr hlk (by decide) h dL_leafOf_20
    have h := ite_f h g6
    cases h
set_option maxRecDepth 100000 in
set_option maxHeartbeats 4000000 in
theorem c_L_sum (l : Launch) (Γ : GG) (sk : List SD) (hsk : ExtL sk) (hl9 : l.stackTraces = false) (fu : Nat) {M M' : Mem} {a1 : Int} {r : Int} (ha1 : rng a1) (h : f_L_sum fu M a1 = some (M', r)) : MetH l yL_sum cL_sum 4 .int [(0, 9, 12, 13), (0, 9, 15, 32)] ({ frames := 9, cells := 1, slots := 6, locals := 182 } : Room) Γ sk [vr Γ 3, vi a1, vr Γ 65] M M' r := by
  unfold f_L_sum at h
  refine MetH_of RL rfl (by decide) rfl (Nat.le_of_ble_eq_true rfl) rfl ?_
  intro p e s m args below meth c C hr hlk htab hM
  have e3 := hsk 3 _ (by decide) rfl
  have e65 := hsk 65 _ (by decide) rfl
  refine V_aload_n (pc := 0) C 2 rfl dL_sum_0 ?_
  refine V_iconst (pc := 1) C dL_sum_1 ?_
  refine V_aload_n (pc := 2) C 0 rfl dL_sum_2 ?_
  refine V_iload_n (pc := 3) C 1 rfl dL_sum_3 ?_
  rcases cax_of h with ⟨M1, r2, hc3, h⟩ | ⟨M1, n4, z5, hc3, h⟩
  · refine V_callXI0 (pc := 4) C (c_X11_sum l Γ sk hsk.m.c hl9 fu ha1 hc3) cf_X11_sum lk_L_46 ⟨rfl, rfl⟩ ⟨Nat.le_of_ble_eq_true rfl, Nat.le_of_ble_eq_true rfl⟩ e3 rfl rfl rfl (Nat.le_of_ble_eq_true rfl) ⟨Nat.zero_le _, Nat.zero_le _⟩ rfl dL_sum_4 (fun hr2 => ?_)
    refine V_i2l (pc := 7) C hr2 dL_sum_7 ?_
    refine V_last (pc := 8) C (by decide) e65 (by decide) (by decide) hr2 dL_sum_8 ?_
    refine V_goto (pc := 9) C 18 dL_sum_9 (by decide) ?_
    refine V_iconst (pc := 18) C dL_sum_18 ?_
    refine V_room (Nat.zero_le 1) (Nat.zero_le 6) ?_
    exact V_hiret (pc := 19) C hr hlk (by decide) h dL_sum_19
  · by_cases g7 : n4 = 0
    · have h := ite_t h g7
      subst g7
      refine V_callXIc (j := 0) (hh := [(0, 9, 12, 13), (0, 9, 15, 32)]) (pc := 4) C (c_X11_sum l Γ sk hsk.m.c hl9 fu ha1 hc3) htab [] ⟨0, 9, 12, 13⟩ [⟨0, 9, 15, 32⟩] rfl (fun z hz => nomatch hz) rfl (by decide) lx_L_13 (by decide) cf_X11_sum lk_L_46 ⟨rfl, rfl⟩ ⟨Nat.le_of_ble_eq_true rfl, Nat.le_of_ble_eq_true rfl⟩ e3 rfl rfl rfl (Nat.le_of_ble_eq_true rfl) ⟨Nat.le_refl 1, Nat.le_refl 6⟩ rfl dL_sum_4 (fun q9 => ?_)
      refine V_astore_n (pc := 12) C (L' := [(0, vr Γ 3), (1, vi a1), (2, vr Γ 65), (3, .ref q9)]) rfl (by decide) dL_sum_12 ?_
      refine V_iconst (pc := 13) C dL_sum_13 ?_
      exact V_hiret (pc := 14) C hr hlk (by decide) h dL_sum_14
    have h := ite_f h g7
    by_cases g6 : n4 = 2
    · have h := ite_t h g6
      subst g6
      refine V_callXIc (j := 2) (hh := [(0, 9, 12, 13), (0, 9, 15, 32)]) (pc := 4) C (c_X11_sum l Γ sk hsk.m.c hl9 fu ha1 hc3) htab [⟨0, 9, 12, 13⟩] ⟨0, 9, 15, 32⟩ [] rfl (pass1 ⟨by decide, exN 1, lx_L_13, by decide +kernel⟩) rfl (by decide) lx_L_32 (by decide) cf_X11_sum lk_L_46 ⟨rfl, rfl⟩ ⟨Nat.le_of_ble_eq_true rfl, Nat.le_of_ble_eq_true rfl⟩ e3 rfl rfl rfl (Nat.le_of_ble_eq_true rfl) ⟨Nat.le_refl 1, Nat.le_refl 6⟩ rfl dL_sum_4 (fun q9 => ?_)
      refine V_astore_n (pc := 15) C (L' := [(0, vr Γ 3), (1, vi a1), (2, vr Γ 65), (3, .ref q9)]) rfl (by decide) dL_sum_15 ?_
      refine V_iconst (pc := 16) C dL_sum_16 ?_
      exact V_hiret (pc := 17) C hr hlk (by decide) h dL_sum_17
    have h := ite_f h g6
    cases h
set_option maxRecDepth 100000 in
set_option maxHeartbeats 4000000 in
theorem c_L_indexOf (l : Launch) (Γ : GG) (sk : List SD) (hsk : ExtL sk) (hl9 : l.stackTraces = false) (fu : Nat) {M M' : Mem} {a1 : Int} {a2 : Int} {r : Int} (ha1 : rng a1) (ha2 : rng a2) (h : f_L_indexOf fu M a1 a2 = some (M', r)) : MetH l yL_indexOf cL_indexOf 5 .int [(0, 10, 13, 13), (0, 10, 17, 32)] ({ frames := 9, cells := 1, slots := 6, locals := 183 } : Room) Γ sk [vr Γ 3, vi a1, vi a2, vr Γ 65] M M' r := by
  unfold f_L_indexOf at h
  refine MetH_of RL rfl (by decide) rfl (Nat.le_of_ble_eq_true rfl) rfl ?_
  intro p e s m args below meth c C hr hlk htab hM
  have e3 := hsk 3 _ (by decide) rfl
  have e65 := hsk 65 _ (by decide) rfl
  refine V_aload_n (pc := 0) C 3 rfl dL_indexOf_0 ?_
  refine V_iconst (pc := 1) C dL_indexOf_1 ?_
  refine V_aload_n (pc := 2) C 0 rfl dL_indexOf_2 ?_
  refine V_iload_n (pc := 3) C 1 rfl dL_indexOf_3 ?_
  refine V_iload_n (pc := 4) C 2 rfl dL_indexOf_4 ?_
  rcases cax_of h with ⟨M1, r2, hc3, h⟩ | ⟨M1, n4, z5, hc3, h⟩
  · refine V_callXI0 (pc := 5) C (c_X11_indexOf l Γ sk hsk.m.c hl9 fu ha1 ha2 hc3) cf_X11_indexOf lk_L_49 ⟨rfl, rfl⟩ ⟨Nat.le_of_ble_eq_true rfl, Nat.le_of_ble_eq_true rfl⟩ e3 rfl rfl rfl (Nat.le_of_ble_eq_true rfl) ⟨Nat.zero_le _, Nat.zero_le _⟩ rfl dL_indexOf_5 (fun hr2 => ?_)
    refine V_i2l (pc := 8) C hr2 dL_indexOf_8 ?_
    refine V_last (pc := 9) C (by decide) e65 (by decide) (by decide) hr2 dL_indexOf_9 ?_
    refine V_goto (pc := 10) C 21 dL_indexOf_10 (by decide) ?_
    refine V_iconst (pc := 21) C dL_indexOf_21 ?_
    refine V_room (Nat.zero_le 1) (Nat.zero_le 6) ?_
    exact V_hiret (pc := 22) C hr hlk (by decide) h dL_indexOf_22
  · by_cases g7 : n4 = 0
    · have h := ite_t h g7
      subst g7
      refine V_callXIc (j := 0) (hh := [(0, 10, 13, 13), (0, 10, 17, 32)]) (pc := 5) C (c_X11_indexOf l Γ sk hsk.m.c hl9 fu ha1 ha2 hc3) htab [] ⟨0, 10, 13, 13⟩ [⟨0, 10, 17, 32⟩] rfl (fun z hz => nomatch hz) rfl (by decide) lx_L_13 (by decide) cf_X11_indexOf lk_L_49 ⟨rfl, rfl⟩ ⟨Nat.le_of_ble_eq_true rfl, Nat.le_of_ble_eq_true rfl⟩ e3 rfl rfl rfl (Nat.le_of_ble_eq_true rfl) ⟨Nat.le_refl 1, Nat.le_refl 6⟩ rfl dL_indexOf_5 (fun q9 => ?_)
      refine V_astore (pc := 13) C (L' := [(0, vr Γ 3), (1, vi a1), (2, vi a2), (3, vr Γ 65), (4, .ref q9)]) rfl (by decide) dL_indexOf_13 ?_
      refine V_iconst (pc := 15) C dL_indexOf_15 ?_
      exact V_hiret (pc := 16) C hr hlk (by decide) h dL_indexOf_16
    have h := ite_f h g7
    by_cases g6 : n4 = 2
    · have h := ite_t h g6
      subst g6
      refine V_callXIc (j := 2) (hh := [(0, 10, 13, 13), (0, 10, 17, 32)]) (pc := 5) C (c_X11_indexOf l Γ sk hsk.m.c hl9 fu ha1 ha2 hc3) htab [⟨0, 10, 13, 13⟩] ⟨0, 10, 17, 32⟩ [] rfl (pass1 ⟨by decide, exN 1, lx_L_13, by decide +kernel⟩) rfl (by decide) lx_L_32 (by decide) cf_X11_indexOf lk_L_49 ⟨rfl, rfl⟩ ⟨Nat.le_of_ble_eq_true rfl, Nat.le_of_ble_eq_true rfl⟩ e3 rfl rfl rfl (Nat.le_of_ble_eq_true rfl) ⟨Nat.le_refl 1, Nat.le_refl 6⟩ rfl dL_indexOf_5 (fun q9 => ?_)
      refine V_astore (pc := 17) C (L' := [(0, vr Γ 3), (1, vi a1), (2, vi a2), (3, vr Γ 65), (4, .ref q9)]) rfl (by decide) dL_indexOf_17 ?_
      refine V_iconst (pc := 19) C dL_indexOf_19 ?_
      exact V_hiret (pc := 20) C hr hlk (by decide) h dL_indexOf_20
    have h := ite_f h g6
    cases h
set_option maxRecDepth 100000 in
set_option maxHeartbeats 4000000 in
theorem c_L_nodesCreatedFor (l : Launch) (Γ : GG) (sk : List SD) (hsk : ExtL sk) (hl9 : l.stackTraces = false) (fu : Nat) {M M' : Mem} {a1 : Int} {r : Int} (ha1 : rng a1) (h : f_L_nodesCreatedFor fu M a1 = some (M', r)) : MetH l yL_nodesCreatedFor cL_nodesCreatedFor 4 .int [(0, 9, 12, 13)] ({ frames := 9, cells := 1, slots := 6, locals := 182 } : Room) Γ sk [vr Γ 3, vi a1, vr Γ 65] M M' r := by
  unfold f_L_nodesCreatedFor at h
  refine MetH_of RL rfl (by decide) rfl (Nat.le_of_ble_eq_true rfl) rfl ?_
  intro p e s m args below meth c C hr hlk htab hM
  have e3 := hsk 3 _ (by decide) rfl
  have e65 := hsk 65 _ (by decide) rfl
  refine V_aload_n (pc := 0) C 2 rfl dL_nodesCreatedFor_0 ?_
  refine V_iconst (pc := 1) C dL_nodesCreatedFor_1 ?_
  refine V_aload_n (pc := 2) C 0 rfl dL_nodesCreatedFor_2 ?_
  refine V_iload_n (pc := 3) C 1 rfl dL_nodesCreatedFor_3 ?_
  rcases cax_of h with ⟨M1, r2, hc3, h⟩ | ⟨M1, n4, z5, hc3, h⟩
  · refine V_callXI0 (pc := 4) C (c_X11_nodesCreatedFor l Γ sk hsk.m.c hl9 fu ha1 hc3) cf_X11_nodesCreatedFor lk_L_52 ⟨rfl, rfl⟩ ⟨Nat.le_of_ble_eq_true rfl, Nat.le_of_ble_eq_true rfl⟩ e3 rfl rfl rfl (Nat.le_of_ble_eq_true rfl) ⟨Nat.zero_le _, Nat.zero_le _⟩ rfl dL_nodesCreatedFor_4 (fun hr2 => ?_)
    refine V_i2l (pc := 7) C hr2 dL_nodesCreatedFor_7 ?_
    refine V_last (pc := 8) C (by decide) e65 (by decide) (by decide) hr2 dL_nodesCreatedFor_8 ?_
    refine V_goto (pc := 9) C 15 dL_nodesCreatedFor_9 (by decide) ?_
    refine V_iconst (pc := 15) C dL_nodesCreatedFor_15 ?_
    refine V_room (Nat.zero_le 1) (Nat.zero_le 6) ?_
    exact V_hiret (pc := 16) C hr hlk (by decide) h dL_nodesCreatedFor_16
  · by_cases g6 : n4 = 0
    · have h := ite_t h g6
      subst g6
      refine V_callXIc (j := 0) (hh := [(0, 9, 12, 13)]) (pc := 4) C (c_X11_nodesCreatedFor l Γ sk hsk.m.c hl9 fu ha1 hc3) htab [] ⟨0, 9, 12, 13⟩ [] rfl (fun z hz => nomatch hz) rfl (by decide) lx_L_13 (by decide) cf_X11_nodesCreatedFor lk_L_52 ⟨rfl, rfl⟩ ⟨Nat.le_of_ble_eq_true rfl, Nat.le_of_ble_eq_true rfl⟩ e3 rfl rfl rfl (Nat.le_of_ble_eq_true rfl) ⟨Nat.le_refl 1, Nat.le_refl 6⟩ rfl dL_nodesCreatedFor_4 (fun q9 => ?_)
      refine V_astore_n (pc := 12) C (L' := [(0, vr Γ 3), (1, vi a1), (2, vr Γ 65), (3, .ref q9)]) rfl (by decide) dL_nodesCreatedFor_12 ?_
      refine V_iconst (pc := 13) C dL_nodesCreatedFor_13 ?_
      exact V_hiret (pc := 14) C hr hlk (by decide) h dL_nodesCreatedFor_14
    have h := ite_f h g6
    cases h
set_option maxRecDepth 100000 in
set_option maxHeartbeats 4000000 in
theorem c_L_nodesOf (l : Launch) (Γ : GG) (sk : List SD) (hsk : ExtL sk) (hl9 : l.stackTraces = false) (fu : Nat) {M M' : Mem} {a1 : Int} {r : Int} (ha1 : rng a1) (h : f_L_nodesOf fu M a1 = some (M', r)) : MetH l yL_nodesOf cL_nodesOf 4 .int [(0, 9, 12, 13), (0, 9, 15, 32)] ({ frames := 30, cells := 1, slots := 6, locals := 993 } : Room) Γ sk [vr Γ 3, vi a1, vr Γ 65] M M' r := by
  unfold f_L_nodesOf at h
  refine MetH_of RL rfl (by decide) rfl (Nat.le_of_ble_eq_true rfl) rfl ?_
  intro p e s m args below meth c C hr hlk htab hM
  have e3 := hsk 3 _ (by decide) rfl
  have e65 := hsk 65 _ (by decide) rfl
  refine V_aload_n (pc := 0) C 2 rfl dL_nodesOf_0 ?_
  refine V_iconst (pc := 1) C dL_nodesOf_1 ?_
  refine V_aload_n (pc := 2) C 0 rfl dL_nodesOf_2 ?_
  refine V_iload_n (pc := 3) C 1 rfl dL_nodesOf_3 ?_
  rcases cax_of h with ⟨M1, r2, hc3, h⟩ | ⟨M1, n4, z5, hc3, h⟩
  · refine V_callXI0 (pc := 4) C (c_X11_nodesOf l Γ sk hsk.m.c hl9 fu ha1 hc3) cf_X11_nodesOf lk_L_55 ⟨rfl, rfl⟩ ⟨Nat.le_of_ble_eq_true rfl, Nat.le_of_ble_eq_true rfl⟩ e3 rfl rfl rfl (Nat.le_of_ble_eq_true rfl) ⟨Nat.zero_le _, Nat.zero_le _⟩ rfl dL_nodesOf_4 (fun hr2 => ?_)
    refine V_i2l (pc := 7) C hr2 dL_nodesOf_7 ?_
    refine V_last (pc := 8) C (by decide) e65 (by decide) (by decide) hr2 dL_nodesOf_8 ?_
    refine V_goto (pc := 9) C 18 dL_nodesOf_9 (by decide) ?_
    refine V_iconst (pc := 18) C dL_nodesOf_18 ?_
    refine V_room (Nat.zero_le 1) (Nat.zero_le 6) ?_
    exact V_hiret (pc := 19) C hr hlk (by decide) h dL_nodesOf_19
  · by_cases g7 : n4 = 0
    · have h := ite_t h g7
      subst g7
      refine V_callXIc (j := 0) (hh := [(0, 9, 12, 13), (0, 9, 15, 32)]) (pc := 4) C (c_X11_nodesOf l Γ sk hsk.m.c hl9 fu ha1 hc3) htab [] ⟨0, 9, 12, 13⟩ [⟨0, 9, 15, 32⟩] rfl (fun z hz => nomatch hz) rfl (by decide) lx_L_13 (by decide) cf_X11_nodesOf lk_L_55 ⟨rfl, rfl⟩ ⟨Nat.le_of_ble_eq_true rfl, Nat.le_of_ble_eq_true rfl⟩ e3 rfl rfl rfl (Nat.le_of_ble_eq_true rfl) ⟨Nat.le_refl 1, Nat.le_refl 6⟩ rfl dL_nodesOf_4 (fun q9 => ?_)
      refine V_astore_n (pc := 12) C (L' := [(0, vr Γ 3), (1, vi a1), (2, vr Γ 65), (3, .ref q9)]) rfl (by decide) dL_nodesOf_12 ?_
      refine V_iconst (pc := 13) C dL_nodesOf_13 ?_
      exact V_hiret (pc := 14) C hr hlk (by decide) h dL_nodesOf_14
    have h := ite_f h g7
    by_cases g6 : n4 = 2
    · have h := ite_t h g6
      subst g6
      refine V_callXIc (j := 2) (hh := [(0, 9, 12, 13), (0, 9, 15, 32)]) (pc := 4) C (c_X11_nodesOf l Γ sk hsk.m.c hl9 fu ha1 hc3) htab [⟨0, 9, 12, 13⟩] ⟨0, 9, 15, 32⟩ [] rfl (pass1 ⟨by decide, exN 1, lx_L_13, by decide +kernel⟩) rfl (by decide) lx_L_32 (by decide) cf_X11_nodesOf lk_L_55 ⟨rfl, rfl⟩ ⟨Nat.le_of_ble_eq_true rfl, Nat.le_of_ble_eq_true rfl⟩ e3 rfl rfl rfl (Nat.le_of_ble_eq_true rfl) ⟨Nat.le_refl 1, Nat.le_refl 6⟩ rfl dL_nodesOf_4 (fun q9 => ?_)
      refine V_astore_n (pc := 15) C (L' := [(0, vr Γ 3), (1, vi a1), (2, vr Γ 65), (3, .ref q9)]) rfl (by decide) dL_nodesOf_15 ?_
      refine V_iconst (pc := 16) C dL_nodesOf_16 ?_
      exact V_hiret (pc := 17) C hr hlk (by decide) h dL_nodesOf_17
    have h := ite_f h g6
    cases h
set_option maxRecDepth 100000 in
set_option maxHeartbeats 4000000 in
theorem c_L_sharedNodes (l : Launch) (Γ : GG) (sk : List SD) (hsk : ExtL sk) (hl9 : l.stackTraces = false) (fu : Nat) {M M' : Mem} {a1 : Int} {a2 : Int} {r : Int} (ha1 : rng a1) (ha2 : rng a2) (h : f_L_sharedNodes fu M a1 a2 = some (M', r)) : MetH l yL_sharedNodes cL_sharedNodes 5 .int [(0, 10, 13, 13), (0, 10, 17, 32)] ({ frames := 31, cells := 1, slots := 6, locals := 1016 } : Room) Γ sk [vr Γ 3, vi a1, vi a2, vr Γ 65] M M' r := by
  unfold f_L_sharedNodes at h
  refine MetH_of RL rfl (by decide) rfl (Nat.le_of_ble_eq_true rfl) rfl ?_
  intro p e s m args below meth c C hr hlk htab hM
  have e3 := hsk 3 _ (by decide) rfl
  have e65 := hsk 65 _ (by decide) rfl
  refine V_aload_n (pc := 0) C 3 rfl dL_sharedNodes_0 ?_
  refine V_iconst (pc := 1) C dL_sharedNodes_1 ?_
  refine V_aload_n (pc := 2) C 0 rfl dL_sharedNodes_2 ?_
  refine V_iload_n (pc := 3) C 1 rfl dL_sharedNodes_3 ?_
  refine V_iload_n (pc := 4) C 2 rfl dL_sharedNodes_4 ?_
  rcases cax_of h with ⟨M1, r2, hc3, h⟩ | ⟨M1, n4, z5, hc3, h⟩
  · refine V_callXI0 (pc := 5) C (c_X11_sharedNodes l Γ sk hsk.m.c hl9 fu ha1 ha2 hc3) cf_X11_sharedNodes lk_L_58 ⟨rfl, rfl⟩ ⟨Nat.le_of_ble_eq_true rfl, Nat.le_of_ble_eq_true rfl⟩ e3 rfl rfl rfl (Nat.le_of_ble_eq_true rfl) ⟨Nat.zero_le _, Nat.zero_le _⟩ rfl dL_sharedNodes_5 (fun hr2 => ?_)
    refine V_i2l (pc := 8) C hr2 dL_sharedNodes_8 ?_
    refine V_last (pc := 9) C (by decide) e65 (by decide) (by decide) hr2 dL_sharedNodes_9 ?_
    refine V_goto (pc := 10) C 21 dL_sharedNodes_10 (by decide) ?_
    refine V_iconst (pc := 21) C dL_sharedNodes_21 ?_
    refine V_room (Nat.zero_le 1) (Nat.zero_le 6) ?_
    exact V_hiret (pc := 22) C hr hlk (by decide) h dL_sharedNodes_22
  · by_cases g7 : n4 = 0
    · have h := ite_t h g7
      subst g7
      refine V_callXIc (j := 0) (hh := [(0, 10, 13, 13), (0, 10, 17, 32)]) (pc := 5) C (c_X11_sharedNodes l Γ sk hsk.m.c hl9 fu ha1 ha2 hc3) htab [] ⟨0, 10, 13, 13⟩ [⟨0, 10, 17, 32⟩] rfl (fun z hz => nomatch hz) rfl (by decide) lx_L_13 (by decide) cf_X11_sharedNodes lk_L_58 ⟨rfl, rfl⟩ ⟨Nat.le_of_ble_eq_true rfl, Nat.le_of_ble_eq_true rfl⟩ e3 rfl rfl rfl (Nat.le_of_ble_eq_true rfl) ⟨Nat.le_refl 1, Nat.le_refl 6⟩ rfl dL_sharedNodes_5 (fun q9 => ?_)
      refine V_astore (pc := 13) C (L' := [(0, vr Γ 3), (1, vi a1), (2, vi a2), (3, vr Γ 65), (4, .ref q9)]) rfl (by decide) dL_sharedNodes_13 ?_
      refine V_iconst (pc := 15) C dL_sharedNodes_15 ?_
      exact V_hiret (pc := 16) C hr hlk (by decide) h dL_sharedNodes_16
    have h := ite_f h g7
    by_cases g6 : n4 = 2
    · have h := ite_t h g6
      subst g6
      refine V_callXIc (j := 2) (hh := [(0, 10, 13, 13), (0, 10, 17, 32)]) (pc := 5) C (c_X11_sharedNodes l Γ sk hsk.m.c hl9 fu ha1 ha2 hc3) htab [⟨0, 10, 13, 13⟩] ⟨0, 10, 17, 32⟩ [] rfl (pass1 ⟨by decide, exN 1, lx_L_13, by decide +kernel⟩) rfl (by decide) lx_L_32 (by decide) cf_X11_sharedNodes lk_L_58 ⟨rfl, rfl⟩ ⟨Nat.le_of_ble_eq_true rfl, Nat.le_of_ble_eq_true rfl⟩ e3 rfl rfl rfl (Nat.le_of_ble_eq_true rfl) ⟨Nat.le_refl 1, Nat.le_refl 6⟩ rfl dL_sharedNodes_5 (fun q9 => ?_)
      refine V_astore (pc := 17) C (L' := [(0, vr Γ 3), (1, vi a1), (2, vi a2), (3, vr Γ 65), (4, .ref q9)]) rfl (by decide) dL_sharedNodes_17 ?_
      refine V_iconst (pc := 19) C dL_sharedNodes_19 ?_
      exact V_hiret (pc := 20) C hr hlk (by decide) h dL_sharedNodes_20
    have h := ite_f h g6
    cases h
set_option maxRecDepth 100000 in
set_option maxHeartbeats 4000000 in
theorem c_L_exclusiveNodes (l : Launch) (Γ : GG) (sk : List SD) (hsk : ExtL sk) (hl9 : l.stackTraces = false) (fu : Nat) {M M' : Mem} {a1 : Int} {r : Int} (ha1 : rng a1) (h : f_L_exclusiveNodes fu M a1 = some (M', r)) : MetH l yL_exclusiveNodes cL_exclusiveNodes 4 .int [(0, 9, 12, 13), (0, 9, 15, 32)] ({ frames := 32, cells := 1, slots := 6, locals := 1035 } : Room) Γ sk [vr Γ 3, vi a1, vr Γ 65] M M' r := by
  unfold f_L_exclusiveNodes at h
  refine MetH_of RL rfl (by decide) rfl (Nat.le_of_ble_eq_true rfl) rfl ?_
  intro p e s m args below meth c C hr hlk htab hM
  have e3 := hsk 3 _ (by decide) rfl
  have e65 := hsk 65 _ (by decide) rfl
  refine V_aload_n (pc := 0) C 2 rfl dL_exclusiveNodes_0 ?_
  refine V_iconst (pc := 1) C dL_exclusiveNodes_1 ?_
  refine V_aload_n (pc := 2) C 0 rfl dL_exclusiveNodes_2 ?_
  refine V_iload_n (pc := 3) C 1 rfl dL_exclusiveNodes_3 ?_
  rcases cax_of h with ⟨M1, r2, hc3, h⟩ | ⟨M1, n4, z5, hc3, h⟩
  · refine V_callXI0 (pc := 4) C (c_X11_exclusiveNodes l Γ sk hsk.m.c hl9 fu ha1 hc3) cf_X11_exclusiveNodes lk_L_61 ⟨rfl, rfl⟩ ⟨Nat.le_of_ble_eq_true rfl, Nat.le_of_ble_eq_true rfl⟩ e3 rfl rfl rfl (Nat.le_of_ble_eq_true rfl) ⟨Nat.zero_le _, Nat.zero_le _⟩ rfl dL_exclusiveNodes_4 (fun hr2 => ?_)
    refine V_i2l (pc := 7) C hr2 dL_exclusiveNodes_7 ?_
    refine V_last (pc := 8) C (by decide) e65 (by decide) (by decide) hr2 dL_exclusiveNodes_8 ?_
    refine V_goto (pc := 9) C 18 dL_exclusiveNodes_9 (by decide) ?_
    refine V_iconst (pc := 18) C dL_exclusiveNodes_18 ?_
    refine V_room (Nat.zero_le 1) (Nat.zero_le 6) ?_
    exact V_hiret (pc := 19) C hr hlk (by decide) h dL_exclusiveNodes_19
  · by_cases g7 : n4 = 0
    · have h := ite_t h g7
      subst g7
      refine V_callXIc (j := 0) (hh := [(0, 9, 12, 13), (0, 9, 15, 32)]) (pc := 4) C (c_X11_exclusiveNodes l Γ sk hsk.m.c hl9 fu ha1 hc3) htab [] ⟨0, 9, 12, 13⟩ [⟨0, 9, 15, 32⟩] rfl (fun z hz => nomatch hz) rfl (by decide) lx_L_13 (by decide) cf_X11_exclusiveNodes lk_L_61 ⟨rfl, rfl⟩ ⟨Nat.le_of_ble_eq_true rfl, Nat.le_of_ble_eq_true rfl⟩ e3 rfl rfl rfl (Nat.le_of_ble_eq_true rfl) ⟨Nat.le_refl 1, Nat.le_refl 6⟩ rfl dL_exclusiveNodes_4 (fun q9 => ?_)
      refine V_astore_n (pc := 12) C (L' := [(0, vr Γ 3), (1, vi a1), (2, vr Γ 65), (3, .ref q9)]) rfl (by decide) dL_exclusiveNodes_12 ?_
      refine V_iconst (pc := 13) C dL_exclusiveNodes_13 ?_
      exact V_hiret (pc := 14) C hr hlk (by decide) h dL_exclusiveNodes_14
    have h := ite_f h g7
    by_cases g6 : n4 = 2
    · have h := ite_t h g6
      subst g6
      refine V_callXIc (j := 2) (hh := [(0, 9, 12, 13), (0, 9, 15, 32)]) (pc := 4) C (c_X11_exclusiveNodes l Γ sk hsk.m.c hl9 fu ha1 hc3) htab [⟨0, 9, 12, 13⟩] ⟨0, 9, 15, 32⟩ [] rfl (pass1 ⟨by decide, exN 1, lx_L_13, by decide +kernel⟩) rfl (by decide) lx_L_32 (by decide) cf_X11_exclusiveNodes lk_L_61 ⟨rfl, rfl⟩ ⟨Nat.le_of_ble_eq_true rfl, Nat.le_of_ble_eq_true rfl⟩ e3 rfl rfl rfl (Nat.le_of_ble_eq_true rfl) ⟨Nat.le_refl 1, Nat.le_refl 6⟩ rfl dL_exclusiveNodes_4 (fun q9 => ?_)
      refine V_astore_n (pc := 15) C (L' := [(0, vr Γ 3), (1, vi a1), (2, vr Γ 65), (3, .ref q9)]) rfl (by decide) dL_exclusiveNodes_15 ?_
      refine V_iconst (pc := 16) C dL_exclusiveNodes_16 ?_
      exact V_hiret (pc := 17) C hr hlk (by decide) h dL_exclusiveNodes_17
    have h := ite_f h g6
    cases h
set_option maxRecDepth 100000 in
set_option maxHeartbeats 4000000 in
theorem c_L_isLeaf (l : Launch) (Γ : GG) (sk : List SD) (hsk : ExtL sk) (hl9 : l.stackTraces = false) (fu : Nat) {M M' : Mem} {a1 : Int} {r : Int} (ha1 : rng a1) (h : f_L_isLeaf fu M a1 = some (M', r)) : MetH l yL_isLeaf cL_isLeaf 4 .int [(0, 16, 19, 13)] ({ frames := 9, cells := 1, slots := 6, locals := 182 } : Room) Γ sk [vr Γ 3, vi a1, vr Γ 65] M M' r := by
  unfold f_L_isLeaf at h
  refine MetH_of RL rfl (by decide) rfl (Nat.le_of_ble_eq_true rfl) rfl ?_
  intro p e s m args below meth c C hr hlk htab hM
  have e3 := hsk 3 _ (by decide) rfl
  have e65 := hsk 65 _ (by decide) rfl
  refine V_aload_n (pc := 0) C 2 rfl dL_isLeaf_0 ?_
  refine V_iconst (pc := 1) C dL_isLeaf_1 ?_
  refine V_aload_n (pc := 2) C 0 rfl dL_isLeaf_2 ?_
  refine V_iload_n (pc := 3) C 1 rfl dL_isLeaf_3 ?_
  rcases cax_of h with ⟨M1, r2, hc3, h⟩ | ⟨M1, n4, z5, hc3, h⟩
  · refine V_callXI0 (pc := 4) C (c_X11_isLeaf l Γ sk hsk.m.c hl9 fu ha1 hc3) cf_X11_isLeaf lk_L_64 ⟨rfl, rfl⟩ ⟨Nat.le_of_ble_eq_true rfl, Nat.le_of_ble_eq_true rfl⟩ e3 rfl rfl rfl (Nat.le_of_ble_eq_true rfl) ⟨Nat.zero_le _, Nat.zero_le _⟩ rfl dL_isLeaf_4 (fun hr2 => ?_)
    refine V_if_eq (pc := 7) C 14 hr2 dL_isLeaf_7 (by decide) (fun c7_6 => ?_) (fun c7_6 => ?_)
    · have h := ite_t h c7_6
      refine V_lconst (pc := 14) C (x := (0 : Int)) dL_isLeaf_14 rfl ?_
      refine V_last (pc := 15) C (by decide) e65 (by decide) (by decide) (by decide) dL_isLeaf_15 ?_
      refine V_goto (pc := 16) C 22 dL_isLeaf_16 (by decide) ?_
      refine V_iconst (pc := 22) C dL_isLeaf_22 ?_
      refine V_room (Nat.zero_le 1) (Nat.zero_le 6) ?_
      exact V_hiret (pc := 23) C hr hlk (by decide) h dL_isLeaf_23
    · have h := ite_f h c7_6
      refine V_lconst (pc := 10) C (x := (1 : Int)) dL_isLeaf_10 rfl ?_
      refine V_goto (pc := 11) C 15 dL_isLeaf_11 (by decide) ?_
      refine V_last (pc := 15) C (by decide) e65 (by decide) (by decide) (by decide) dL_isLeaf_15 ?_
      refine V_goto (pc := 16) C 22 dL_isLeaf_16 (by decide) ?_
      refine V_iconst (pc := 22) C dL_isLeaf_22 ?_
      refine V_room (Nat.zero_le 1) (Nat.zero_le 6) ?_
      exact V_hiret (pc := 23) C hr hlk (by decide) h dL_isLeaf_23
  · by_cases g7 : n4 = 0
    · have h := ite_t h g7
      subst g7
      refine V_callXIc (j := 0) (hh := [(0, 16, 19, 13)]) (pc := 4) C (c_X11_isLeaf l Γ sk hsk.m.c hl9 fu ha1 hc3) htab [] ⟨0, 16, 19, 13⟩ [] rfl (fun z hz => nomatch hz) rfl (by decide) lx_L_13 (by decide) cf_X11_isLeaf lk_L_64 ⟨rfl, rfl⟩ ⟨Nat.le_of_ble_eq_true rfl, Nat.le_of_ble_eq_true rfl⟩ e3 rfl rfl rfl (Nat.le_of_ble_eq_true rfl) ⟨Nat.le_refl 1, Nat.le_refl 6⟩ rfl dL_isLeaf_4 (fun q9 => ?_)
      refine V_astore_n (pc := 19) C (L' := [(0, vr Γ 3), (1, vi a1), (2, vr Γ 65), (3, .ref q9)]) rfl (by decide) dL_isLeaf_19 ?_
      refine V_iconst (pc := 20) C dL_isLeaf_20 ?_
      exact V_hiret (pc := 21) C hr hlk (by decide) h dL_isLeaf_21
    have h := ite_f h g7
    cases h
set_option maxRecDepth 100000 in
set_option maxHeartbeats 4000000 in
theorem c_L_entryCount (l : Launch) (Γ : GG) (sk : List SD) (hsk : ExtL sk) (hl9 : l.stackTraces = false) (fu : Nat) {M M' : Mem} {a1 : Int} {r : Int} (ha1 : rng a1) (h : f_L_entryCount fu M a1 = some (M', r)) : MetH l yL_entryCount cL_entryCount 4 .int [(0, 9, 12, 13)] ({ frames := 9, cells := 1, slots := 6, locals := 182 } : Room) Γ sk [vr Γ 3, vi a1, vr Γ 65] M M' r := by
  unfold f_L_entryCount at h
  refine MetH_of RL rfl (by decide) rfl (Nat.le_of_ble_eq_true rfl) rfl ?_
  intro p e s m args below meth c C hr hlk htab hM
  have e3 := hsk 3 _ (by decide) rfl
  have e65 := hsk 65 _ (by decide) rfl
  refine V_aload_n (pc := 0) C 2 rfl dL_entryCount_0 ?_
  refine V_iconst (pc := 1) C dL_entryCount_1 ?_
  refine V_aload_n (pc := 2) C 0 rfl dL_entryCount_2 ?_
  refine V_iload_n (pc := 3) C 1 rfl dL_entryCount_3 ?_
  rcases cax_of h with ⟨M1, r2, hc3, h⟩ | ⟨M1, n4, z5, hc3, h⟩
  · refine V_callXI0 (pc := 4) C (c_X11_entryCount l Γ sk hsk.m.c hl9 fu ha1 hc3) cf_X11_entryCount lk_L_67 ⟨rfl, rfl⟩ ⟨Nat.le_of_ble_eq_true rfl, Nat.le_of_ble_eq_true rfl⟩ e3 rfl rfl rfl (Nat.le_of_ble_eq_true rfl) ⟨Nat.zero_le _, Nat.zero_le _⟩ rfl dL_entryCount_4 (fun hr2 => ?_)
    refine V_i2l (pc := 7) C hr2 dL_entryCount_7 ?_
    refine V_last (pc := 8) C (by decide) e65 (by decide) (by decide) hr2 dL_entryCount_8 ?_
    refine V_goto (pc := 9) C 15 dL_entryCount_9 (by decide) ?_
    refine V_iconst (pc := 15) C dL_entryCount_15 ?_
    refine V_room (Nat.zero_le 1) (Nat.zero_le 6) ?_
    exact V_hiret (pc := 16) C hr hlk (by decide) h dL_entryCount_16
  · by_cases g6 : n4 = 0
    · have h := ite_t h g6
      subst g6
      refine V_callXIc (j := 0) (hh := [(0, 9, 12, 13)]) (pc := 4) C (c_X11_entryCount l Γ sk hsk.m.c hl9 fu ha1 hc3) htab [] ⟨0, 9, 12, 13⟩ [] rfl (fun z hz => nomatch hz) rfl (by decide) lx_L_13 (by decide) cf_X11_entryCount lk_L_67 ⟨rfl, rfl⟩ ⟨Nat.le_of_ble_eq_true rfl, Nat.le_of_ble_eq_true rfl⟩ e3 rfl rfl rfl (Nat.le_of_ble_eq_true rfl) ⟨Nat.le_refl 1, Nat.le_refl 6⟩ rfl dL_entryCount_4 (fun q9 => ?_)
      refine V_astore_n (pc := 12) C (L' := [(0, vr Γ 3), (1, vi a1), (2, vr Γ 65), (3, .ref q9)]) rfl (by decide) dL_entryCount_12 ?_
      refine V_iconst (pc := 13) C dL_entryCount_13 ?_
      exact V_hiret (pc := 14) C hr hlk (by decide) h dL_entryCount_14
    have h := ite_f h g6
    cases h
set_option maxRecDepth 100000 in
set_option maxHeartbeats 4000000 in
theorem c_L_childOf (l : Launch) (Γ : GG) (sk : List SD) (hsk : ExtL sk) (hl9 : l.stackTraces = false) (fu : Nat) {M M' : Mem} {a1 : Int} {a2 : Int} {r : Int} (ha1 : rng a1) (ha2 : rng a2) (h : f_L_childOf fu M a1 a2 = some (M', r)) : MetH l yL_childOf cL_childOf 5 .int [(0, 10, 13, 13)] ({ frames := 9, cells := 1, slots := 6, locals := 183 } : Room) Γ sk [vr Γ 3, vi a1, vi a2, vr Γ 65] M M' r := by
  unfold f_L_childOf at h
  refine MetH_of RL rfl (by decide) rfl (Nat.le_of_ble_eq_true rfl) rfl ?_
  intro p e s m args below meth c C hr hlk htab hM
  have e3 := hsk 3 _ (by decide) rfl
  have e65 := hsk 65 _ (by decide) rfl
  refine V_aload_n (pc := 0) C 3 rfl dL_childOf_0 ?_
  refine V_iconst (pc := 1) C dL_childOf_1 ?_
  refine V_aload_n (pc := 2) C 0 rfl dL_childOf_2 ?_
  refine V_iload_n (pc := 3) C 1 rfl dL_childOf_3 ?_
  refine V_iload_n (pc := 4) C 2 rfl dL_childOf_4 ?_
  rcases cax_of h with ⟨M1, r2, hc3, h⟩ | ⟨M1, n4, z5, hc3, h⟩
  · refine V_callXI0 (pc := 5) C (c_X11_childOf l Γ sk hsk.m.c hl9 fu ha1 ha2 hc3) cf_X11_childOf lk_L_70 ⟨rfl, rfl⟩ ⟨Nat.le_of_ble_eq_true rfl, Nat.le_of_ble_eq_true rfl⟩ e3 rfl rfl rfl (Nat.le_of_ble_eq_true rfl) ⟨Nat.zero_le _, Nat.zero_le _⟩ rfl dL_childOf_5 (fun hr2 => ?_)
    refine V_i2l (pc := 8) C hr2 dL_childOf_8 ?_
    refine V_last (pc := 9) C (by decide) e65 (by decide) (by decide) hr2 dL_childOf_9 ?_
    refine V_goto (pc := 10) C 17 dL_childOf_10 (by decide) ?_
    refine V_iconst (pc := 17) C dL_childOf_17 ?_
    refine V_room (Nat.zero_le 1) (Nat.zero_le 6) ?_
    exact V_hiret (pc := 18) C hr hlk (by decide) h dL_childOf_18
  · by_cases g6 : n4 = 0
    · have h := ite_t h g6
      subst g6
      refine V_callXIc (j := 0) (hh := [(0, 10, 13, 13)]) (pc := 5) C (c_X11_childOf l Γ sk hsk.m.c hl9 fu ha1 ha2 hc3) htab [] ⟨0, 10, 13, 13⟩ [] rfl (fun z hz => nomatch hz) rfl (by decide) lx_L_13 (by decide) cf_X11_childOf lk_L_70 ⟨rfl, rfl⟩ ⟨Nat.le_of_ble_eq_true rfl, Nat.le_of_ble_eq_true rfl⟩ e3 rfl rfl rfl (Nat.le_of_ble_eq_true rfl) ⟨Nat.le_refl 1, Nat.le_refl 6⟩ rfl dL_childOf_5 (fun q9 => ?_)
      refine V_astore (pc := 13) C (L' := [(0, vr Γ 3), (1, vi a1), (2, vi a2), (3, vr Γ 65), (4, .ref q9)]) rfl (by decide) dL_childOf_13 ?_
      refine V_iconst (pc := 15) C dL_childOf_15 ?_
      exact V_hiret (pc := 16) C hr hlk (by decide) h dL_childOf_16
    have h := ite_f h g6
    cases h
set_option maxRecDepth 100000 in
set_option maxHeartbeats 4000000 in
theorem c_L_referencesTo (l : Launch) (Γ : GG) (sk : List SD) (hsk : ExtL sk) (hl9 : l.stackTraces = false) (fu : Nat) {M M' : Mem} {a1 : Int} {r : Int} (ha1 : rng a1) (h : f_L_referencesTo fu M a1 = some (M', r)) : MetH l yL_referencesTo cL_referencesTo 4 .int [(0, 9, 12, 13)] ({ frames := 9, cells := 1, slots := 6, locals := 182 } : Room) Γ sk [vr Γ 3, vi a1, vr Γ 65] M M' r := by
  unfold f_L_referencesTo at h
  refine MetH_of RL rfl (by decide) rfl (Nat.le_of_ble_eq_true rfl) rfl ?_
  intro p e s m args below meth c C hr hlk htab hM
  have e3 := hsk 3 _ (by decide) rfl
  have e65 := hsk 65 _ (by decide) rfl
  refine V_aload_n (pc := 0) C 2 rfl dL_referencesTo_0 ?_
  refine V_iconst (pc := 1) C dL_referencesTo_1 ?_
  refine V_aload_n (pc := 2) C 0 rfl dL_referencesTo_2 ?_
  refine V_iload_n (pc := 3) C 1 rfl dL_referencesTo_3 ?_
  rcases cax_of h with ⟨M1, r2, hc3, h⟩ | ⟨M1, n4, z5, hc3, h⟩
  · refine V_callXI0 (pc := 4) C (c_X11_referencesTo l Γ sk hsk.m.c hl9 fu ha1 hc3) cf_X11_referencesTo lk_L_73 ⟨rfl, rfl⟩ ⟨Nat.le_of_ble_eq_true rfl, Nat.le_of_ble_eq_true rfl⟩ e3 rfl rfl rfl (Nat.le_of_ble_eq_true rfl) ⟨Nat.zero_le _, Nat.zero_le _⟩ rfl dL_referencesTo_4 (fun hr2 => ?_)
    refine V_i2l (pc := 7) C hr2 dL_referencesTo_7 ?_
    refine V_last (pc := 8) C (by decide) e65 (by decide) (by decide) hr2 dL_referencesTo_8 ?_
    refine V_goto (pc := 9) C 15 dL_referencesTo_9 (by decide) ?_
    refine V_iconst (pc := 15) C dL_referencesTo_15 ?_
    refine V_room (Nat.zero_le 1) (Nat.zero_le 6) ?_
    exact V_hiret (pc := 16) C hr hlk (by decide) h dL_referencesTo_16
  · by_cases g6 : n4 = 0
    · have h := ite_t h g6
      subst g6
      refine V_callXIc (j := 0) (hh := [(0, 9, 12, 13)]) (pc := 4) C (c_X11_referencesTo l Γ sk hsk.m.c hl9 fu ha1 hc3) htab [] ⟨0, 9, 12, 13⟩ [] rfl (fun z hz => nomatch hz) rfl (by decide) lx_L_13 (by decide) cf_X11_referencesTo lk_L_73 ⟨rfl, rfl⟩ ⟨Nat.le_of_ble_eq_true rfl, Nat.le_of_ble_eq_true rfl⟩ e3 rfl rfl rfl (Nat.le_of_ble_eq_true rfl) ⟨Nat.le_refl 1, Nat.le_refl 6⟩ rfl dL_referencesTo_4 (fun q9 => ?_)
      refine V_astore_n (pc := 12) C (L' := [(0, vr Γ 3), (1, vi a1), (2, vr Γ 65), (3, .ref q9)]) rfl (by decide) dL_referencesTo_12 ?_
      refine V_iconst (pc := 13) C dL_referencesTo_13 ?_
      exact V_hiret (pc := 14) C hr hlk (by decide) h dL_referencesTo_14
    have h := ite_f h g6
    cases h
set_option maxRecDepth 100000 in
set_option maxHeartbeats 4000000 in
theorem c_L_differences (l : Launch) (Γ : GG) (sk : List SD) (hsk : ExtL sk) (hl9 : l.stackTraces = false) (fu : Nat) {M M' : Mem} {a1 : Int} {a2 : Int} {r : Int} (ha1 : rng a1) (ha2 : rng a2) (h : f_L_differences fu M a1 a2 = some (M', r)) : MetH l yL_differences cL_differences 5 .int [(0, 10, 13, 13), (0, 10, 17, 32)] ({ frames := 9, cells := 1, slots := 6, locals := 184 } : Room) Γ sk [vr Γ 3, vi a1, vi a2, vr Γ 65] M M' r := by
  unfold f_L_differences at h
  refine MetH_of RL rfl (by decide) rfl (Nat.le_of_ble_eq_true rfl) rfl ?_
  intro p e s m args below meth c C hr hlk htab hM
  have e3 := hsk 3 _ (by decide) rfl
  have e65 := hsk 65 _ (by decide) rfl
  refine V_aload_n (pc := 0) C 3 rfl dL_differences_0 ?_
  refine V_iconst (pc := 1) C dL_differences_1 ?_
  refine V_aload_n (pc := 2) C 0 rfl dL_differences_2 ?_
  refine V_iload_n (pc := 3) C 1 rfl dL_differences_3 ?_
  refine V_iload_n (pc := 4) C 2 rfl dL_differences_4 ?_
  rcases cax_of h with ⟨M1, r2, hc3, h⟩ | ⟨M1, n4, z5, hc3, h⟩
  · refine V_callXI0 (pc := 5) C (c_X11_differences l Γ sk hsk.m.c hl9 fu ha1 ha2 hc3) cf_X11_differences lk_L_76 ⟨rfl, rfl⟩ ⟨Nat.le_of_ble_eq_true rfl, Nat.le_of_ble_eq_true rfl⟩ e3 rfl rfl rfl (Nat.le_of_ble_eq_true rfl) ⟨Nat.zero_le _, Nat.zero_le _⟩ rfl dL_differences_5 (fun hr2 => ?_)
    refine V_i2l (pc := 8) C hr2 dL_differences_8 ?_
    refine V_last (pc := 9) C (by decide) e65 (by decide) (by decide) hr2 dL_differences_9 ?_
    refine V_goto (pc := 10) C 21 dL_differences_10 (by decide) ?_
    refine V_iconst (pc := 21) C dL_differences_21 ?_
    refine V_room (Nat.zero_le 1) (Nat.zero_le 6) ?_
    exact V_hiret (pc := 22) C hr hlk (by decide) h dL_differences_22
  · by_cases g7 : n4 = 0
    · have h := ite_t h g7
      subst g7
      refine V_callXIc (j := 0) (hh := [(0, 10, 13, 13), (0, 10, 17, 32)]) (pc := 5) C (c_X11_differences l Γ sk hsk.m.c hl9 fu ha1 ha2 hc3) htab [] ⟨0, 10, 13, 13⟩ [⟨0, 10, 17, 32⟩] rfl (fun z hz => nomatch hz) rfl (by decide) lx_L_13 (by decide) cf_X11_differences lk_L_76 ⟨rfl, rfl⟩ ⟨Nat.le_of_ble_eq_true rfl, Nat.le_of_ble_eq_true rfl⟩ e3 rfl rfl rfl (Nat.le_of_ble_eq_true rfl) ⟨Nat.le_refl 1, Nat.le_refl 6⟩ rfl dL_differences_5 (fun q9 => ?_)
      refine V_astore (pc := 13) C (L' := [(0, vr Γ 3), (1, vi a1), (2, vi a2), (3, vr Γ 65), (4, .ref q9)]) rfl (by decide) dL_differences_13 ?_
      refine V_iconst (pc := 15) C dL_differences_15 ?_
      exact V_hiret (pc := 16) C hr hlk (by decide) h dL_differences_16
    have h := ite_f h g7
    by_cases g6 : n4 = 2
    · have h := ite_t h g6
      subst g6
      refine V_callXIc (j := 2) (hh := [(0, 10, 13, 13), (0, 10, 17, 32)]) (pc := 5) C (c_X11_differences l Γ sk hsk.m.c hl9 fu ha1 ha2 hc3) htab [⟨0, 10, 13, 13⟩] ⟨0, 10, 17, 32⟩ [] rfl (pass1 ⟨by decide, exN 1, lx_L_13, by decide +kernel⟩) rfl (by decide) lx_L_32 (by decide) cf_X11_differences lk_L_76 ⟨rfl, rfl⟩ ⟨Nat.le_of_ble_eq_true rfl, Nat.le_of_ble_eq_true rfl⟩ e3 rfl rfl rfl (Nat.le_of_ble_eq_true rfl) ⟨Nat.le_refl 1, Nat.le_refl 6⟩ rfl dL_differences_5 (fun q9 => ?_)
      refine V_astore (pc := 17) C (L' := [(0, vr Γ 3), (1, vi a1), (2, vi a2), (3, vr Γ 65), (4, .ref q9)]) rfl (by decide) dL_differences_17 ?_
      refine V_iconst (pc := 19) C dL_differences_19 ?_
      exact V_hiret (pc := 20) C hr hlk (by decide) h dL_differences_20
    have h := ite_f h g6
    cases h
set_option maxRecDepth 100000 in
set_option maxHeartbeats 4000000 in
theorem c_L_firstDifference (l : Launch) (Γ : GG) (sk : List SD) (hsk : ExtL sk) (hl9 : l.stackTraces = false) (fu : Nat) {M M' : Mem} {a1 : Int} {a2 : Int} {r : Int} (ha1 : rng a1) (ha2 : rng a2) (h : f_L_firstDifference fu M a1 a2 = some (M', r)) : MetH l yL_firstDifference cL_firstDifference 5 .int [(0, 10, 13, 13), (0, 10, 17, 32)] ({ frames := 9, cells := 1, slots := 6, locals := 184 } : Room) Γ sk [vr Γ 3, vi a1, vi a2, vr Γ 65] M M' r := by
  unfold f_L_firstDifference at h
  refine MetH_of RL rfl (by decide) rfl (Nat.le_of_ble_eq_true rfl) rfl ?_
  intro p e s m args below meth c C hr hlk htab hM
  have e3 := hsk 3 _ (by decide) rfl
  have e65 := hsk 65 _ (by decide) rfl
  refine V_aload_n (pc := 0) C 3 rfl dL_firstDifference_0 ?_
  refine V_iconst (pc := 1) C dL_firstDifference_1 ?_
  refine V_aload_n (pc := 2) C 0 rfl dL_firstDifference_2 ?_
  refine V_iload_n (pc := 3) C 1 rfl dL_firstDifference_3 ?_
  refine V_iload_n (pc := 4) C 2 rfl dL_firstDifference_4 ?_
  rcases cax_of h with ⟨M1, r2, hc3, h⟩ | ⟨M1, n4, z5, hc3, h⟩
  · refine V_callXI0 (pc := 5) C (c_X11_firstDifference l Γ sk hsk.m.c hl9 fu ha1 ha2 hc3) cf_X11_firstDifference lk_L_79 ⟨rfl, rfl⟩ ⟨Nat.le_of_ble_eq_true rfl, Nat.le_of_ble_eq_true rfl⟩ e3 rfl rfl rfl (Nat.le_of_ble_eq_true rfl) ⟨Nat.zero_le _, Nat.zero_le _⟩ rfl dL_firstDifference_5 (fun hr2 => ?_)
    refine V_i2l (pc := 8) C hr2 dL_firstDifference_8 ?_
    refine V_last (pc := 9) C (by decide) e65 (by decide) (by decide) hr2 dL_firstDifference_9 ?_
    refine V_goto (pc := 10) C 21 dL_firstDifference_10 (by decide) ?_
    refine V_iconst (pc := 21) C dL_firstDifference_21 ?_
    refine V_room (Nat.zero_le 1) (Nat.zero_le 6) ?_
    exact V_hiret (pc := 22) C hr hlk (by decide) h dL_firstDifference_22
  · by_cases g7 : n4 = 0
    · have h := ite_t h g7
      subst g7
      refine V_callXIc (j := 0) (hh := [(0, 10, 13, 13), (0, 10, 17, 32)]) (pc := 5) C (c_X11_firstDifference l Γ sk hsk.m.c hl9 fu ha1 ha2 hc3) htab [] ⟨0, 10, 13, 13⟩ [⟨0, 10, 17, 32⟩] rfl (fun z hz => nomatch hz) rfl (by decide) lx_L_13 (by decide) cf_X11_firstDifference lk_L_79 ⟨rfl, rfl⟩ ⟨Nat.le_of_ble_eq_true rfl, Nat.le_of_ble_eq_true rfl⟩ e3 rfl rfl rfl (Nat.le_of_ble_eq_true rfl) ⟨Nat.le_refl 1, Nat.le_refl 6⟩ rfl dL_firstDifference_5 (fun q9 => ?_)
      refine V_astore (pc := 13) C (L' := [(0, vr Γ 3), (1, vi a1), (2, vi a2), (3, vr Γ 65), (4, .ref q9)]) rfl (by decide) dL_firstDifference_13 ?_
      refine V_iconst (pc := 15) C dL_firstDifference_15 ?_
      exact V_hiret (pc := 16) C hr hlk (by decide) h dL_firstDifference_16
    have h := ite_f h g7
    by_cases g6 : n4 = 2
    · have h := ite_t h g6
      subst g6
      refine V_callXIc (j := 2) (hh := [(0, 10, 13, 13), (0, 10, 17, 32)]) (pc := 5) C (c_X11_firstDifference l Γ sk hsk.m.c hl9 fu ha1 ha2 hc3) htab [⟨0, 10, 13, 13⟩] ⟨0, 10, 17, 32⟩ [] rfl (pass1 ⟨by decide, exN 1, lx_L_13, by decide +kernel⟩) rfl (by decide) lx_L_32 (by decide) cf_X11_firstDifference lk_L_79 ⟨rfl, rfl⟩ ⟨Nat.le_of_ble_eq_true rfl, Nat.le_of_ble_eq_true rfl⟩ e3 rfl rfl rfl (Nat.le_of_ble_eq_true rfl) ⟨Nat.le_refl 1, Nat.le_refl 6⟩ rfl dL_firstDifference_5 (fun q9 => ?_)
      refine V_astore (pc := 17) C (L' := [(0, vr Γ 3), (1, vi a1), (2, vi a2), (3, vr Γ 65), (4, .ref q9)]) rfl (by decide) dL_firstDifference_17 ?_
      refine V_iconst (pc := 19) C dL_firstDifference_19 ?_
      exact V_hiret (pc := 20) C hr hlk (by decide) h dL_firstDifference_20
    have h := ite_f h g6
    cases h
set_option maxRecDepth 100000 in
set_option maxHeartbeats 4000000 in
theorem c_L_comparisonCost (l : Launch) (Γ : GG) (sk : List SD) (hsk : ExtL sk) (hl9 : l.stackTraces = false) (fu : Nat) {M M' : Mem} {a1 : Int} {a2 : Int} {r : Int} (ha1 : rng a1) (ha2 : rng a2) (h : f_L_comparisonCost fu M a1 a2 = some (M', r)) : MetH l yL_comparisonCost cL_comparisonCost 5 .int [(0, 10, 13, 13), (0, 10, 17, 32)] ({ frames := 30, cells := 1, slots := 6, locals := 998 } : Room) Γ sk [vr Γ 3, vi a1, vi a2, vr Γ 65] M M' r := by
  unfold f_L_comparisonCost at h
  refine MetH_of RL rfl (by decide) rfl (Nat.le_of_ble_eq_true rfl) rfl ?_
  intro p e s m args below meth c C hr hlk htab hM
  have e3 := hsk 3 _ (by decide) rfl
  have e65 := hsk 65 _ (by decide) rfl
  refine V_aload_n (pc := 0) C 3 rfl dL_comparisonCost_0 ?_
  refine V_iconst (pc := 1) C dL_comparisonCost_1 ?_
  refine V_aload_n (pc := 2) C 0 rfl dL_comparisonCost_2 ?_
  refine V_iload_n (pc := 3) C 1 rfl dL_comparisonCost_3 ?_
  refine V_iload_n (pc := 4) C 2 rfl dL_comparisonCost_4 ?_
  rcases cax_of h with ⟨M1, r2, hc3, h⟩ | ⟨M1, n4, z5, hc3, h⟩
  · refine V_callXI0 (pc := 5) C (c_X11_comparisonCost l Γ sk hsk.m.c hl9 fu ha1 ha2 hc3) cf_X11_comparisonCost lk_L_82 ⟨rfl, rfl⟩ ⟨Nat.le_of_ble_eq_true rfl, Nat.le_of_ble_eq_true rfl⟩ e3 rfl rfl rfl (Nat.le_of_ble_eq_true rfl) ⟨Nat.zero_le _, Nat.zero_le _⟩ rfl dL_comparisonCost_5 (fun hr2 => ?_)
    refine V_i2l (pc := 8) C hr2 dL_comparisonCost_8 ?_
    refine V_last (pc := 9) C (by decide) e65 (by decide) (by decide) hr2 dL_comparisonCost_9 ?_
    refine V_goto (pc := 10) C 21 dL_comparisonCost_10 (by decide) ?_
    refine V_iconst (pc := 21) C dL_comparisonCost_21 ?_
    refine V_room (Nat.zero_le 1) (Nat.zero_le 6) ?_
    exact V_hiret (pc := 22) C hr hlk (by decide) h dL_comparisonCost_22
  · by_cases g7 : n4 = 0
    · have h := ite_t h g7
      subst g7
      refine V_callXIc (j := 0) (hh := [(0, 10, 13, 13), (0, 10, 17, 32)]) (pc := 5) C (c_X11_comparisonCost l Γ sk hsk.m.c hl9 fu ha1 ha2 hc3) htab [] ⟨0, 10, 13, 13⟩ [⟨0, 10, 17, 32⟩] rfl (fun z hz => nomatch hz) rfl (by decide) lx_L_13 (by decide) cf_X11_comparisonCost lk_L_82 ⟨rfl, rfl⟩ ⟨Nat.le_of_ble_eq_true rfl, Nat.le_of_ble_eq_true rfl⟩ e3 rfl rfl rfl (Nat.le_of_ble_eq_true rfl) ⟨Nat.le_refl 1, Nat.le_refl 6⟩ rfl dL_comparisonCost_5 (fun q9 => ?_)
      refine V_astore (pc := 13) C (L' := [(0, vr Γ 3), (1, vi a1), (2, vi a2), (3, vr Γ 65), (4, .ref q9)]) rfl (by decide) dL_comparisonCost_13 ?_
      refine V_iconst (pc := 15) C dL_comparisonCost_15 ?_
      exact V_hiret (pc := 16) C hr hlk (by decide) h dL_comparisonCost_16
    have h := ite_f h g7
    by_cases g6 : n4 = 2
    · have h := ite_t h g6
      subst g6
      refine V_callXIc (j := 2) (hh := [(0, 10, 13, 13), (0, 10, 17, 32)]) (pc := 5) C (c_X11_comparisonCost l Γ sk hsk.m.c hl9 fu ha1 ha2 hc3) htab [⟨0, 10, 13, 13⟩] ⟨0, 10, 17, 32⟩ [] rfl (pass1 ⟨by decide, exN 1, lx_L_13, by decide +kernel⟩) rfl (by decide) lx_L_32 (by decide) cf_X11_comparisonCost lk_L_82 ⟨rfl, rfl⟩ ⟨Nat.le_of_ble_eq_true rfl, Nat.le_of_ble_eq_true rfl⟩ e3 rfl rfl rfl (Nat.le_of_ble_eq_true rfl) ⟨Nat.le_refl 1, Nat.le_refl 6⟩ rfl dL_comparisonCost_5 (fun q9 => ?_)
      refine V_astore (pc := 17) C (L' := [(0, vr Γ 3), (1, vi a1), (2, vi a2), (3, vr Γ 65), (4, .ref q9)]) rfl (by decide) dL_comparisonCost_17 ?_
      refine V_iconst (pc := 19) C dL_comparisonCost_19 ?_
      exact V_hiret (pc := 20) C hr hlk (by decide) h dL_comparisonCost_20
    have h := ite_f h g6
    cases h
set_option maxRecDepth 100000 in
set_option maxHeartbeats 4000000 in
theorem c_L_nodesForSet (l : Launch) (Γ : GG) (sk : List SD) (hsk : ExtL sk) (hl9 : l.stackTraces = false) (fu : Nat) {M M' : Mem} {a1 : Int} {a2 : Int} {a3 : Int} {r : Int} (ha1 : rng a1) (ha2 : rng a2) (ha3 : rng a3) (h : f_L_nodesForSet fu M a1 a2 a3 = some (M', r)) : MetH l yL_nodesForSet cL_nodesForSet 6 .int [(0, 12, 15, 13), (0, 12, 19, 89), (0, 12, 23, 32)] ({ frames := 8, cells := 1, slots := 6, locals := 163 } : Room) Γ sk [vr Γ 3, vi a1, vi a2, vi a3, vr Γ 65] M M' r := by
  unfold f_L_nodesForSet at h
  refine MetH_of RL rfl (by decide) rfl (Nat.le_of_ble_eq_true rfl) rfl ?_
  intro p e s m args below meth c C hr hlk htab hM
  have e3 := hsk 3 _ (by decide) rfl
  have e65 := hsk 65 _ (by decide) rfl
  refine V_aload (pc := 0) C 4 rfl dL_nodesForSet_0 ?_
  refine V_iconst (pc := 2) C dL_nodesForSet_2 ?_
  refine V_aload_n (pc := 3) C 0 rfl dL_nodesForSet_3 ?_
  refine V_iload_n (pc := 4) C 1 rfl dL_nodesForSet_4 ?_
  refine V_iload_n (pc := 5) C 2 rfl dL_nodesForSet_5 ?_
  refine V_iload_n (pc := 6) C 3 rfl dL_nodesForSet_6 ?_
  rcases cax_of h with ⟨M1, r2, hc3, h⟩ | ⟨M1, n4, z5, hc3, h⟩
  · refine V_callXI0 (pc := 7) C (c_X11_nodesForSet l Γ sk hsk.m.c hl9 fu ha1 ha2 ha3 hc3) cf_X11_nodesForSet lk_L_85 ⟨rfl, rfl⟩ ⟨Nat.le_of_ble_eq_true rfl, Nat.le_of_ble_eq_true rfl⟩ e3 rfl rfl rfl (Nat.le_of_ble_eq_true rfl) ⟨Nat.zero_le _, Nat.zero_le _⟩ rfl dL_nodesForSet_7 (fun hr2 => ?_)
    refine V_i2l (pc := 10) C hr2 dL_nodesForSet_10 ?_
    refine V_last (pc := 11) C (by decide) e65 (by decide) (by decide) hr2 dL_nodesForSet_11 ?_
    refine V_goto (pc := 12) C 27 dL_nodesForSet_12 (by decide) ?_
    refine V_iconst (pc := 27) C dL_nodesForSet_27 ?_
    refine V_room (Nat.zero_le 1) (Nat.zero_le 6) ?_
    exact V_hiret (pc := 28) C hr hlk (by decide) h dL_nodesForSet_28
  · by_cases g8 : n4 = 0
    · have h := ite_t h g8
      subst g8
      refine V_callXIc (j := 0) (hh := [(0, 12, 15, 13), (0, 12, 19, 89), (0, 12, 23, 32)]) (pc := 7) C (c_X11_nodesForSet l Γ sk hsk.m.c hl9 fu ha1 ha2 ha3 hc3) htab [] ⟨0, 12, 15, 13⟩ [⟨0, 12, 19, 89⟩, ⟨0, 12, 23, 32⟩] rfl (fun z hz => nomatch hz) rfl (by decide) lx_L_13 (by decide) cf_X11_nodesForSet lk_L_85 ⟨rfl, rfl⟩ ⟨Nat.le_of_ble_eq_true rfl, Nat.le_of_ble_eq_true rfl⟩ e3 rfl rfl rfl (Nat.le_of_ble_eq_true rfl) ⟨Nat.le_refl 1, Nat.le_refl 6⟩ rfl dL_nodesForSet_7 (fun q9 => ?_)
      refine V_astore (pc := 15) C (L' := [(0, vr Γ 3), (1, vi a1), (2, vi a2), (3, vi a3), (4, vr Γ 65), (5, .ref q9)]) rfl (by decide) dL_nodesForSet_15 ?_
      refine V_iconst (pc := 17) C dL_nodesForSet_17 ?_
      exact V_hiret (pc := 18) C hr hlk (by decide) h dL_nodesForSet_18
    have h := ite_f h g8
    by_cases g7 : n4 = 1
    · have h := ite_t h g7
      subst g7
      refine V_callXIc (j := 1) (hh := [(0, 12, 15, 13), (0, 12, 19, 89), (0, 12, 23, 32)]) (pc := 7) C (c_X11_nodesForSet l Γ sk hsk.m.c hl9 fu ha1 ha2 ha3 hc3) htab [⟨0, 12, 15, 13⟩] ⟨0, 12, 19, 89⟩ [⟨0, 12, 23, 32⟩] rfl (pass1 ⟨by decide, exN 1, lx_L_13, by decide +kernel⟩) rfl (by decide) lx_L_89 (by decide) cf_X11_nodesForSet lk_L_85 ⟨rfl, rfl⟩ ⟨Nat.le_of_ble_eq_true rfl, Nat.le_of_ble_eq_true rfl⟩ e3 rfl rfl rfl (Nat.le_of_ble_eq_true rfl) ⟨Nat.le_refl 1, Nat.le_refl 6⟩ rfl dL_nodesForSet_7 (fun q9 => ?_)
      refine V_astore (pc := 19) C (L' := [(0, vr Γ 3), (1, vi a1), (2, vi a2), (3, vi a3), (4, vr Γ 65), (5, .ref q9)]) rfl (by decide) dL_nodesForSet_19 ?_
      refine V_iconst (pc := 21) C dL_nodesForSet_21 ?_
      exact V_hiret (pc := 22) C hr hlk (by decide) h dL_nodesForSet_22
    have h := ite_f h g7
    by_cases g6 : n4 = 2
    · have h := ite_t h g6
      subst g6
      refine V_callXIc (j := 2) (hh := [(0, 12, 15, 13), (0, 12, 19, 89), (0, 12, 23, 32)]) (pc := 7) C (c_X11_nodesForSet l Γ sk hsk.m.c hl9 fu ha1 ha2 ha3 hc3) htab [⟨0, 12, 15, 13⟩, ⟨0, 12, 19, 89⟩] ⟨0, 12, 23, 32⟩ [] rfl (pass2 ⟨by decide, exN 1, lx_L_13, by decide +kernel⟩ ⟨by decide, exN 2, lx_L_89, by decide +kernel⟩) rfl (by decide) lx_L_32 (by decide) cf_X11_nodesForSet lk_L_85 ⟨rfl, rfl⟩ ⟨Nat.le_of_ble_eq_true rfl, Nat.le_of_ble_eq_true rfl⟩ e3 rfl rfl rfl (Nat.le_of_ble_eq_true rfl) ⟨Nat.le_refl 1, Nat.le_refl 6⟩ rfl dL_nodesForSet_7 (fun q9 => ?_)
      refine V_astore (pc := 23) C (L' := [(0, vr Γ 3), (1, vi a1), (2, vi a2), (3, vi a3), (4, vr Γ 65), (5, .ref q9)]) rfl (by decide) dL_nodesForSet_23 ?_
      refine V_iconst (pc := 25) C dL_nodesForSet_25 ?_
      exact V_hiret (pc := 26) C hr hlk (by decide) h dL_nodesForSet_26
    have h := ite_f h g6
    cases h
set_option maxRecDepth 100000 in
set_option maxHeartbeats 4000000 in
theorem c_L_nodesForAppend (l : Launch) (Γ : GG) (sk : List SD) (hsk : ExtL sk) (hl9 : l.stackTraces = false) (fu : Nat) {M M' : Mem} {a1 : Int} {r : Int} (ha1 : rng a1) (h : f_L_nodesForAppend fu M a1 = some (M', r)) : MetH l yL_nodesForAppend cL_nodesForAppend 4 .int [(0, 9, 12, 13), (0, 9, 15, 32)] ({ frames := 9, cells := 1, slots := 6, locals := 183 } : Room) Γ sk [vr Γ 3, vi a1, vr Γ 65] M M' r := by
  unfold f_L_nodesForAppend at h
  refine MetH_of RL rfl (by decide) rfl (Nat.le_of_ble_eq_true rfl) rfl ?_
  intro p e s m args below meth c C hr hlk htab hM
  have e3 := hsk 3 _ (by decide) rfl
  have e65 := hsk 65 _ (by decide) rfl
  refine V_aload_n (pc := 0) C 2 rfl dL_nodesForAppend_0 ?_
  refine V_iconst (pc := 1) C dL_nodesForAppend_1 ?_
  refine V_aload_n (pc := 2) C 0 rfl dL_nodesForAppend_2 ?_
  refine V_iload_n (pc := 3) C 1 rfl dL_nodesForAppend_3 ?_
  rcases cax_of h with ⟨M1, r2, hc3, h⟩ | ⟨M1, n4, z5, hc3, h⟩
  · refine V_callXI0 (pc := 4) C (c_X11_nodesForAppend l Γ sk hsk.m.c hl9 fu ha1 hc3) cf_X11_nodesForAppend lk_L_91 ⟨rfl, rfl⟩ ⟨Nat.le_of_ble_eq_true rfl, Nat.le_of_ble_eq_true rfl⟩ e3 rfl rfl rfl (Nat.le_of_ble_eq_true rfl) ⟨Nat.zero_le _, Nat.zero_le _⟩ rfl dL_nodesForAppend_4 (fun hr2 => ?_)
    refine V_i2l (pc := 7) C hr2 dL_nodesForAppend_7 ?_
    refine V_last (pc := 8) C (by decide) e65 (by decide) (by decide) hr2 dL_nodesForAppend_8 ?_
    refine V_goto (pc := 9) C 18 dL_nodesForAppend_9 (by decide) ?_
    refine V_iconst (pc := 18) C dL_nodesForAppend_18 ?_
    refine V_room (Nat.zero_le 1) (Nat.zero_le 6) ?_
    exact V_hiret (pc := 19) C hr hlk (by decide) h dL_nodesForAppend_19
  · by_cases g7 : n4 = 0
    · have h := ite_t h g7
      subst g7
      refine V_callXIc (j := 0) (hh := [(0, 9, 12, 13), (0, 9, 15, 32)]) (pc := 4) C (c_X11_nodesForAppend l Γ sk hsk.m.c hl9 fu ha1 hc3) htab [] ⟨0, 9, 12, 13⟩ [⟨0, 9, 15, 32⟩] rfl (fun z hz => nomatch hz) rfl (by decide) lx_L_13 (by decide) cf_X11_nodesForAppend lk_L_91 ⟨rfl, rfl⟩ ⟨Nat.le_of_ble_eq_true rfl, Nat.le_of_ble_eq_true rfl⟩ e3 rfl rfl rfl (Nat.le_of_ble_eq_true rfl) ⟨Nat.le_refl 1, Nat.le_refl 6⟩ rfl dL_nodesForAppend_4 (fun q9 => ?_)
      refine V_astore_n (pc := 12) C (L' := [(0, vr Γ 3), (1, vi a1), (2, vr Γ 65), (3, .ref q9)]) rfl (by decide) dL_nodesForAppend_12 ?_
      refine V_iconst (pc := 13) C dL_nodesForAppend_13 ?_
      exact V_hiret (pc := 14) C hr hlk (by decide) h dL_nodesForAppend_14
    have h := ite_f h g7
    by_cases g6 : n4 = 2
    · have h := ite_t h g6
      subst g6
      refine V_callXIc (j := 2) (hh := [(0, 9, 12, 13), (0, 9, 15, 32)]) (pc := 4) C (c_X11_nodesForAppend l Γ sk hsk.m.c hl9 fu ha1 hc3) htab [⟨0, 9, 12, 13⟩] ⟨0, 9, 15, 32⟩ [] rfl (pass1 ⟨by decide, exN 1, lx_L_13, by decide +kernel⟩) rfl (by decide) lx_L_32 (by decide) cf_X11_nodesForAppend lk_L_91 ⟨rfl, rfl⟩ ⟨Nat.le_of_ble_eq_true rfl, Nat.le_of_ble_eq_true rfl⟩ e3 rfl rfl rfl (Nat.le_of_ble_eq_true rfl) ⟨Nat.le_refl 1, Nat.le_refl 6⟩ rfl dL_nodesForAppend_4 (fun q9 => ?_)
      refine V_astore_n (pc := 15) C (L' := [(0, vr Γ 3), (1, vi a1), (2, vr Γ 65), (3, .ref q9)]) rfl (by decide) dL_nodesForAppend_15 ?_
      refine V_iconst (pc := 16) C dL_nodesForAppend_16 ?_
      exact V_hiret (pc := 17) C hr hlk (by decide) h dL_nodesForAppend_17
    have h := ite_f h g6
    cases h
set_option maxRecDepth 100000 in
set_option maxHeartbeats 4000000 in
theorem c_L_garbageIfReleased (l : Launch) (Γ : GG) (sk : List SD) (hsk : ExtL sk) (hl9 : l.stackTraces = false) (fu : Nat) {M M' : Mem} {a1 : Int} {r : Int} (ha1 : rng a1) (h : f_L_garbageIfReleased fu M a1 = some (M', r)) : MetH l yL_garbageIfReleased cL_garbageIfReleased 4 .int [(0, 9, 12, 13), (0, 9, 15, 32)] ({ frames := 32, cells := 1, slots := 6, locals := 1035 } : Room) Γ sk [vr Γ 3, vi a1, vr Γ 65] M M' r := by
  unfold f_L_garbageIfReleased at h
  refine MetH_of RL rfl (by decide) rfl (Nat.le_of_ble_eq_true rfl) rfl ?_
  intro p e s m args below meth c C hr hlk htab hM
  have e3 := hsk 3 _ (by decide) rfl
  have e65 := hsk 65 _ (by decide) rfl
  refine V_aload_n (pc := 0) C 2 rfl dL_garbageIfReleased_0 ?_
  refine V_iconst (pc := 1) C dL_garbageIfReleased_1 ?_
  refine V_aload_n (pc := 2) C 0 rfl dL_garbageIfReleased_2 ?_
  refine V_iload_n (pc := 3) C 1 rfl dL_garbageIfReleased_3 ?_
  rcases cax_of h with ⟨M1, r2, hc3, h⟩ | ⟨M1, n4, z5, hc3, h⟩
  · refine V_callXI0 (pc := 4) C (c_X11_garbageIfReleased l Γ sk hsk.m.c hl9 fu ha1 hc3) cf_X11_garbageIfReleased lk_L_94 ⟨rfl, rfl⟩ ⟨Nat.le_of_ble_eq_true rfl, Nat.le_of_ble_eq_true rfl⟩ e3 rfl rfl rfl (Nat.le_of_ble_eq_true rfl) ⟨Nat.zero_le _, Nat.zero_le _⟩ rfl dL_garbageIfReleased_4 (fun hr2 => ?_)
    refine V_i2l (pc := 7) C hr2 dL_garbageIfReleased_7 ?_
    refine V_last (pc := 8) C (by decide) e65 (by decide) (by decide) hr2 dL_garbageIfReleased_8 ?_
    refine V_goto (pc := 9) C 18 dL_garbageIfReleased_9 (by decide) ?_
    refine V_iconst (pc := 18) C dL_garbageIfReleased_18 ?_
    refine V_room (Nat.zero_le 1) (Nat.zero_le 6) ?_
    exact V_hiret (pc := 19) C hr hlk (by decide) h dL_garbageIfReleased_19
  · by_cases g7 : n4 = 0
    · have h := ite_t h g7
      subst g7
      refine V_callXIc (j := 0) (hh := [(0, 9, 12, 13), (0, 9, 15, 32)]) (pc := 4) C (c_X11_garbageIfReleased l Γ sk hsk.m.c hl9 fu ha1 hc3) htab [] ⟨0, 9, 12, 13⟩ [⟨0, 9, 15, 32⟩] rfl (fun z hz => nomatch hz) rfl (by decide) lx_L_13 (by decide) cf_X11_garbageIfReleased lk_L_94 ⟨rfl, rfl⟩ ⟨Nat.le_of_ble_eq_true rfl, Nat.le_of_ble_eq_true rfl⟩ e3 rfl rfl rfl (Nat.le_of_ble_eq_true rfl) ⟨Nat.le_refl 1, Nat.le_refl 6⟩ rfl dL_garbageIfReleased_4 (fun q9 => ?_)
      refine V_astore_n (pc := 12) C (L' := [(0, vr Γ 3), (1, vi a1), (2, vr Γ 65), (3, .ref q9)]) rfl (by decide) dL_garbageIfReleased_12 ?_
      refine V_iconst (pc := 13) C dL_garbageIfReleased_13 ?_
      exact V_hiret (pc := 14) C hr hlk (by decide) h dL_garbageIfReleased_14
    have h := ite_f h g7
    by_cases g6 : n4 = 2
    · have h := ite_t h g6
      subst g6
      refine V_callXIc (j := 2) (hh := [(0, 9, 12, 13), (0, 9, 15, 32)]) (pc := 4) C (c_X11_garbageIfReleased l Γ sk hsk.m.c hl9 fu ha1 hc3) htab [⟨0, 9, 12, 13⟩] ⟨0, 9, 15, 32⟩ [] rfl (pass1 ⟨by decide, exN 1, lx_L_13, by decide +kernel⟩) rfl (by decide) lx_L_32 (by decide) cf_X11_garbageIfReleased lk_L_94 ⟨rfl, rfl⟩ ⟨Nat.le_of_ble_eq_true rfl, Nat.le_of_ble_eq_true rfl⟩ e3 rfl rfl rfl (Nat.le_of_ble_eq_true rfl) ⟨Nat.le_refl 1, Nat.le_refl 6⟩ rfl dL_garbageIfReleased_4 (fun q9 => ?_)
      refine V_astore_n (pc := 15) C (L' := [(0, vr Γ 3), (1, vi a1), (2, vr Γ 65), (3, .ref q9)]) rfl (by decide) dL_garbageIfReleased_15 ?_
      refine V_iconst (pc := 16) C dL_garbageIfReleased_16 ?_
      exact V_hiret (pc := 17) C hr hlk (by decide) h dL_garbageIfReleased_17
    have h := ite_f h g6
    cases h
set_option maxRecDepth 100000 in
set_option maxHeartbeats 4000000 in
theorem c_L_set (l : Launch) (Γ : GG) (sk : List SD) (hsk : ExtL sk) (hl9 : l.stackTraces = false) (fu : Nat) {M M' : Mem} {a1 : Int} {a2 : Int} {a3 : Int} {r : Int} (ha1 : rng a1) (ha2 : rng a2) (ha3 : rng a3) (h : f_L_set fu M a1 a2 a3 = some (M', r)) : MetH l yL_set cL_set 6 .int [(0, 12, 15, 13), (0, 12, 19, 89), (0, 12, 23, 32)] ({ frames := 39, cells := 1, slots := 6, locals := 1334 } : Room) Γ sk [vr Γ 3, vi a1, vi a2, vi a3, vr Γ 65] M M' r := by
  unfold f_L_set at h
  refine MetH_of RL rfl (by decide) rfl (Nat.le_of_ble_eq_true rfl) rfl ?_
  intro p e s m args below meth c C hr hlk htab hM
  have e3 := hsk 3 _ (by decide) rfl
  have e65 := hsk 65 _ (by decide) rfl
  refine V_aload (pc := 0) C 4 rfl dL_set_0 ?_
  refine V_iconst (pc := 2) C dL_set_2 ?_
  refine V_aload_n (pc := 3) C 0 rfl dL_set_3 ?_
  refine V_iload_n (pc := 4) C 1 rfl dL_set_4 ?_
  refine V_iload_n (pc := 5) C 2 rfl dL_set_5 ?_
  refine V_iload_n (pc := 6) C 3 rfl dL_set_6 ?_
  rcases cax_of h with ⟨M1, r2, hc3, h⟩ | ⟨M1, n4, z5, hc3, h⟩
  · refine V_callXI0 (pc := 7) C (c_X11_set l Γ sk hsk.m.c hl9 fu ha1 ha2 ha3 hc3) cf_X11_set lk_L_97 ⟨rfl, rfl⟩ ⟨Nat.le_of_ble_eq_true rfl, Nat.le_of_ble_eq_true rfl⟩ e3 rfl rfl rfl (Nat.le_of_ble_eq_true rfl) ⟨Nat.zero_le _, Nat.zero_le _⟩ rfl dL_set_7 (fun hr2 => ?_)
    refine V_i2l (pc := 10) C hr2 dL_set_10 ?_
    refine V_last (pc := 11) C (by decide) e65 (by decide) (by decide) hr2 dL_set_11 ?_
    refine V_goto (pc := 12) C 27 dL_set_12 (by decide) ?_
    refine V_iconst (pc := 27) C dL_set_27 ?_
    refine V_room (Nat.zero_le 1) (Nat.zero_le 6) ?_
    exact V_hiret (pc := 28) C hr hlk (by decide) h dL_set_28
  · by_cases g8 : n4 = 0
    · have h := ite_t h g8
      subst g8
      refine V_callXIc (j := 0) (hh := [(0, 12, 15, 13), (0, 12, 19, 89), (0, 12, 23, 32)]) (pc := 7) C (c_X11_set l Γ sk hsk.m.c hl9 fu ha1 ha2 ha3 hc3) htab [] ⟨0, 12, 15, 13⟩ [⟨0, 12, 19, 89⟩, ⟨0, 12, 23, 32⟩] rfl (fun z hz => nomatch hz) rfl (by decide) lx_L_13 (by decide) cf_X11_set lk_L_97 ⟨rfl, rfl⟩ ⟨Nat.le_of_ble_eq_true rfl, Nat.le_of_ble_eq_true rfl⟩ e3 rfl rfl rfl (Nat.le_of_ble_eq_true rfl) ⟨Nat.le_refl 1, Nat.le_refl 6⟩ rfl dL_set_7 (fun q9 => ?_)
      refine V_astore (pc := 15) C (L' := [(0, vr Γ 3), (1, vi a1), (2, vi a2), (3, vi a3), (4, vr Γ 65), (5, .ref q9)]) rfl (by decide) dL_set_15 ?_
      refine V_iconst (pc := 17) C dL_set_17 ?_
      exact V_hiret (pc := 18) C hr hlk (by decide) h dL_set_18
    have h := ite_f h g8
    by_cases g7 : n4 = 1
    · have h := ite_t h g7
      subst g7
      refine V_callXIc (j := 1) (hh := [(0, 12, 15, 13), (0, 12, 19, 89), (0, 12, 23, 32)]) (pc := 7) C (c_X11_set l Γ sk hsk.m.c hl9 fu ha1 ha2 ha3 hc3) htab [⟨0, 12, 15, 13⟩] ⟨0, 12, 19, 89⟩ [⟨0, 12, 23, 32⟩] rfl (pass1 ⟨by decide, exN 1, lx_L_13, by decide +kernel⟩) rfl (by decide) lx_L_89 (by decide) cf_X11_set lk_L_97 ⟨rfl, rfl⟩ ⟨Nat.le_of_ble_eq_true rfl, Nat.le_of_ble_eq_true rfl⟩ e3 rfl rfl rfl (Nat.le_of_ble_eq_true rfl) ⟨Nat.le_refl 1, Nat.le_refl 6⟩ rfl dL_set_7 (fun q9 => ?_)
      refine V_astore (pc := 19) C (L' := [(0, vr Γ 3), (1, vi a1), (2, vi a2), (3, vi a3), (4, vr Γ 65), (5, .ref q9)]) rfl (by decide) dL_set_19 ?_
      refine V_iconst (pc := 21) C dL_set_21 ?_
      exact V_hiret (pc := 22) C hr hlk (by decide) h dL_set_22
    have h := ite_f h g7
    by_cases g6 : n4 = 2
    · have h := ite_t h g6
      subst g6
      refine V_callXIc (j := 2) (hh := [(0, 12, 15, 13), (0, 12, 19, 89), (0, 12, 23, 32)]) (pc := 7) C (c_X11_set l Γ sk hsk.m.c hl9 fu ha1 ha2 ha3 hc3) htab [⟨0, 12, 15, 13⟩, ⟨0, 12, 19, 89⟩] ⟨0, 12, 23, 32⟩ [] rfl (pass2 ⟨by decide, exN 1, lx_L_13, by decide +kernel⟩ ⟨by decide, exN 2, lx_L_89, by decide +kernel⟩) rfl (by decide) lx_L_32 (by decide) cf_X11_set lk_L_97 ⟨rfl, rfl⟩ ⟨Nat.le_of_ble_eq_true rfl, Nat.le_of_ble_eq_true rfl⟩ e3 rfl rfl rfl (Nat.le_of_ble_eq_true rfl) ⟨Nat.le_refl 1, Nat.le_refl 6⟩ rfl dL_set_7 (fun q9 => ?_)
      refine V_astore (pc := 23) C (L' := [(0, vr Γ 3), (1, vi a1), (2, vi a2), (3, vi a3), (4, vr Γ 65), (5, .ref q9)]) rfl (by decide) dL_set_23 ?_
      refine V_iconst (pc := 25) C dL_set_25 ?_
      exact V_hiret (pc := 26) C hr hlk (by decide) h dL_set_26
    have h := ite_f h g6
    cases h
set_option maxRecDepth 100000 in
set_option maxHeartbeats 4000000 in
theorem c_L_append (l : Launch) (Γ : GG) (sk : List SD) (hsk : ExtL sk) (hl9 : l.stackTraces = false) (fu : Nat) {M M' : Mem} {a1 : Int} {a2 : Int} {r : Int} (ha1 : rng a1) (ha2 : rng a2) (h : f_L_append fu M a1 a2 = some (M', r)) : MetH l yL_append cL_append 5 .int [(0, 10, 13, 13), (0, 10, 17, 89), (0, 10, 21, 32)] ({ frames := 39, cells := 1, slots := 6, locals := 1335 } : Room) Γ sk [vr Γ 3, vi a1, vi a2, vr Γ 65] M M' r := by
  unfold f_L_append at h
  refine MetH_of RL rfl (by decide) rfl (Nat.le_of_ble_eq_true rfl) rfl ?_
  intro p e s m args below meth c C hr hlk htab hM
  have e3 := hsk 3 _ (by decide) rfl
  have e65 := hsk 65 _ (by decide) rfl
  refine V_aload_n (pc := 0) C 3 rfl dL_append_0 ?_
  refine V_iconst (pc := 1) C dL_append_1 ?_
  refine V_aload_n (pc := 2) C 0 rfl dL_append_2 ?_
  refine V_iload_n (pc := 3) C 1 rfl dL_append_3 ?_
  refine V_iload_n (pc := 4) C 2 rfl dL_append_4 ?_
  rcases cax_of h with ⟨M1, r2, hc3, h⟩ | ⟨M1, n4, z5, hc3, h⟩
  · refine V_callXI0 (pc := 5) C (c_X11_append l Γ sk hsk.m.c hl9 fu ha1 ha2 hc3) cf_X11_append lk_L_100 ⟨rfl, rfl⟩ ⟨Nat.le_of_ble_eq_true rfl, Nat.le_of_ble_eq_true rfl⟩ e3 rfl rfl rfl (Nat.le_of_ble_eq_true rfl) ⟨Nat.zero_le _, Nat.zero_le _⟩ rfl dL_append_5 (fun hr2 => ?_)
    refine V_i2l (pc := 8) C hr2 dL_append_8 ?_
    refine V_last (pc := 9) C (by decide) e65 (by decide) (by decide) hr2 dL_append_9 ?_
    refine V_goto (pc := 10) C 25 dL_append_10 (by decide) ?_
    refine V_iconst (pc := 25) C dL_append_25 ?_
    refine V_room (Nat.zero_le 1) (Nat.zero_le 6) ?_
    exact V_hiret (pc := 26) C hr hlk (by decide) h dL_append_26
  · by_cases g8 : n4 = 0
    · have h := ite_t h g8
      subst g8
      refine V_callXIc (j := 0) (hh := [(0, 10, 13, 13), (0, 10, 17, 89), (0, 10, 21, 32)]) (pc := 5) C (c_X11_append l Γ sk hsk.m.c hl9 fu ha1 ha2 hc3) htab [] ⟨0, 10, 13, 13⟩ [⟨0, 10, 17, 89⟩, ⟨0, 10, 21, 32⟩] rfl (fun z hz => nomatch hz) rfl (by decide) lx_L_13 (by decide) cf_X11_append lk_L_100 ⟨rfl, rfl⟩ ⟨Nat.le_of_ble_eq_true rfl, Nat.le_of_ble_eq_true rfl⟩ e3 rfl rfl rfl (Nat.le_of_ble_eq_true rfl) ⟨Nat.le_refl 1, Nat.le_refl 6⟩ rfl dL_append_5 (fun q9 => ?_)
      refine V_astore (pc := 13) C (L' := [(0, vr Γ 3), (1, vi a1), (2, vi a2), (3, vr Γ 65), (4, .ref q9)]) rfl (by decide) dL_append_13 ?_
      refine V_iconst (pc := 15) C dL_append_15 ?_
      exact V_hiret (pc := 16) C hr hlk (by decide) h dL_append_16
    have h := ite_f h g8
    by_cases g7 : n4 = 1
    · have h := ite_t h g7
      subst g7
      refine V_callXIc (j := 1) (hh := [(0, 10, 13, 13), (0, 10, 17, 89), (0, 10, 21, 32)]) (pc := 5) C (c_X11_append l Γ sk hsk.m.c hl9 fu ha1 ha2 hc3) htab [⟨0, 10, 13, 13⟩] ⟨0, 10, 17, 89⟩ [⟨0, 10, 21, 32⟩] rfl (pass1 ⟨by decide, exN 1, lx_L_13, by decide +kernel⟩) rfl (by decide) lx_L_89 (by decide) cf_X11_append lk_L_100 ⟨rfl, rfl⟩ ⟨Nat.le_of_ble_eq_true rfl, Nat.le_of_ble_eq_true rfl⟩ e3 rfl rfl rfl (Nat.le_of_ble_eq_true rfl) ⟨Nat.le_refl 1, Nat.le_refl 6⟩ rfl dL_append_5 (fun q9 => ?_)
      refine V_astore (pc := 17) C (L' := [(0, vr Γ 3), (1, vi a1), (2, vi a2), (3, vr Γ 65), (4, .ref q9)]) rfl (by decide) dL_append_17 ?_
      refine V_iconst (pc := 19) C dL_append_19 ?_
      exact V_hiret (pc := 20) C hr hlk (by decide) h dL_append_20
    have h := ite_f h g7
    by_cases g6 : n4 = 2
    · have h := ite_t h g6
      subst g6
      refine V_callXIc (j := 2) (hh := [(0, 10, 13, 13), (0, 10, 17, 89), (0, 10, 21, 32)]) (pc := 5) C (c_X11_append l Γ sk hsk.m.c hl9 fu ha1 ha2 hc3) htab [⟨0, 10, 13, 13⟩, ⟨0, 10, 17, 89⟩] ⟨0, 10, 21, 32⟩ [] rfl (pass2 ⟨by decide, exN 1, lx_L_13, by decide +kernel⟩ ⟨by decide, exN 2, lx_L_89, by decide +kernel⟩) rfl (by decide) lx_L_32 (by decide) cf_X11_append lk_L_100 ⟨rfl, rfl⟩ ⟨Nat.le_of_ble_eq_true rfl, Nat.le_of_ble_eq_true rfl⟩ e3 rfl rfl rfl (Nat.le_of_ble_eq_true rfl) ⟨Nat.le_refl 1, Nat.le_refl 6⟩ rfl dL_append_5 (fun q9 => ?_)
      refine V_astore (pc := 21) C (L' := [(0, vr Γ 3), (1, vi a1), (2, vi a2), (3, vr Γ 65), (4, .ref q9)]) rfl (by decide) dL_append_21 ?_
      refine V_iconst (pc := 23) C dL_append_23 ?_
      exact V_hiret (pc := 24) C hr hlk (by decide) h dL_append_24
    have h := ite_f h g6
    cases h
set_option maxRecDepth 100000 in
set_option maxHeartbeats 4000000 in
theorem c_L_truncate (l : Launch) (Γ : GG) (sk : List SD) (hsk : ExtL sk) (hl9 : l.stackTraces = false) (fu : Nat) {M M' : Mem} {a1 : Int} {a2 : Int} {r : Int} (ha1 : rng a1) (ha2 : rng a2) (h : f_L_truncate fu M a1 a2 = some (M', r)) : MetH l yL_truncate cL_truncate 5 .int [(0, 10, 13, 13), (0, 10, 17, 89), (0, 10, 21, 32)] ({ frames := 39, cells := 1, slots := 6, locals := 1331 } : Room) Γ sk [vr Γ 3, vi a1, vi a2, vr Γ 65] M M' r := by
  unfold f_L_truncate at h
  refine MetH_of RL rfl (by decide) rfl (Nat.le_of_ble_eq_true rfl) rfl ?_
  intro p e s m args below meth c C hr hlk htab hM
  have e3 := hsk 3 _ (by decide) rfl
  have e65 := hsk 65 _ (by decide) rfl
  refine V_aload_n (pc := 0) C 3 rfl dL_truncate_0 ?_
  refine V_iconst (pc := 1) C dL_truncate_1 ?_
  refine V_aload_n (pc := 2) C 0 rfl dL_truncate_2 ?_
  refine V_iload_n (pc := 3) C 1 rfl dL_truncate_3 ?_
  refine V_iload_n (pc := 4) C 2 rfl dL_truncate_4 ?_
  rcases cax_of h with ⟨M1, r2, hc3, h⟩ | ⟨M1, n4, z5, hc3, h⟩
  · refine V_callXI0 (pc := 5) C (c_X11_truncate l Γ sk hsk.m.c hl9 fu ha1 ha2 hc3) cf_X11_truncate lk_L_103 ⟨rfl, rfl⟩ ⟨Nat.le_of_ble_eq_true rfl, Nat.le_of_ble_eq_true rfl⟩ e3 rfl rfl rfl (Nat.le_of_ble_eq_true rfl) ⟨Nat.zero_le _, Nat.zero_le _⟩ rfl dL_truncate_5 (fun hr2 => ?_)
    refine V_i2l (pc := 8) C hr2 dL_truncate_8 ?_
    refine V_last (pc := 9) C (by decide) e65 (by decide) (by decide) hr2 dL_truncate_9 ?_
    refine V_goto (pc := 10) C 25 dL_truncate_10 (by decide) ?_
    refine V_iconst (pc := 25) C dL_truncate_25 ?_
    refine V_room (Nat.zero_le 1) (Nat.zero_le 6) ?_
    exact V_hiret (pc := 26) C hr hlk (by decide) h dL_truncate_26
  · by_cases g8 : n4 = 0
    · have h := ite_t h g8
      subst g8
      refine V_callXIc (j := 0) (hh := [(0, 10, 13, 13), (0, 10, 17, 89), (0, 10, 21, 32)]) (pc := 5) C (c_X11_truncate l Γ sk hsk.m.c hl9 fu ha1 ha2 hc3) htab [] ⟨0, 10, 13, 13⟩ [⟨0, 10, 17, 89⟩, ⟨0, 10, 21, 32⟩] rfl (fun z hz => nomatch hz) rfl (by decide) lx_L_13 (by decide) cf_X11_truncate lk_L_103 ⟨rfl, rfl⟩ ⟨Nat.le_of_ble_eq_true rfl, Nat.le_of_ble_eq_true rfl⟩ e3 rfl rfl rfl (Nat.le_of_ble_eq_true rfl) ⟨Nat.le_refl 1, Nat.le_refl 6⟩ rfl dL_truncate_5 (fun q9 => ?_)
      refine V_astore (pc := 13) C (L' := [(0, vr Γ 3), (1, vi a1), (2, vi a2), (3, vr Γ 65), (4, .ref q9)]) rfl (by decide) dL_truncate_13 ?_
      refine V_iconst (pc := 15) C dL_truncate_15 ?_
      exact V_hiret (pc := 16) C hr hlk (by decide) h dL_truncate_16
    have h := ite_f h g8
    by_cases g7 : n4 = 1
    · have h := ite_t h g7
      subst g7
      refine V_callXIc (j := 1) (hh := [(0, 10, 13, 13), (0, 10, 17, 89), (0, 10, 21, 32)]) (pc := 5) C (c_X11_truncate l Γ sk hsk.m.c hl9 fu ha1 ha2 hc3) htab [⟨0, 10, 13, 13⟩] ⟨0, 10, 17, 89⟩ [⟨0, 10, 21, 32⟩] rfl (pass1 ⟨by decide, exN 1, lx_L_13, by decide +kernel⟩) rfl (by decide) lx_L_89 (by decide) cf_X11_truncate lk_L_103 ⟨rfl, rfl⟩ ⟨Nat.le_of_ble_eq_true rfl, Nat.le_of_ble_eq_true rfl⟩ e3 rfl rfl rfl (Nat.le_of_ble_eq_true rfl) ⟨Nat.le_refl 1, Nat.le_refl 6⟩ rfl dL_truncate_5 (fun q9 => ?_)
      refine V_astore (pc := 17) C (L' := [(0, vr Γ 3), (1, vi a1), (2, vi a2), (3, vr Γ 65), (4, .ref q9)]) rfl (by decide) dL_truncate_17 ?_
      refine V_iconst (pc := 19) C dL_truncate_19 ?_
      exact V_hiret (pc := 20) C hr hlk (by decide) h dL_truncate_20
    have h := ite_f h g7
    by_cases g6 : n4 = 2
    · have h := ite_t h g6
      subst g6
      refine V_callXIc (j := 2) (hh := [(0, 10, 13, 13), (0, 10, 17, 89), (0, 10, 21, 32)]) (pc := 5) C (c_X11_truncate l Γ sk hsk.m.c hl9 fu ha1 ha2 hc3) htab [⟨0, 10, 13, 13⟩, ⟨0, 10, 17, 89⟩] ⟨0, 10, 21, 32⟩ [] rfl (pass2 ⟨by decide, exN 1, lx_L_13, by decide +kernel⟩ ⟨by decide, exN 2, lx_L_89, by decide +kernel⟩) rfl (by decide) lx_L_32 (by decide) cf_X11_truncate lk_L_103 ⟨rfl, rfl⟩ ⟨Nat.le_of_ble_eq_true rfl, Nat.le_of_ble_eq_true rfl⟩ e3 rfl rfl rfl (Nat.le_of_ble_eq_true rfl) ⟨Nat.le_refl 1, Nat.le_refl 6⟩ rfl dL_truncate_5 (fun q9 => ?_)
      refine V_astore (pc := 21) C (L' := [(0, vr Γ 3), (1, vi a1), (2, vi a2), (3, vr Γ 65), (4, .ref q9)]) rfl (by decide) dL_truncate_21 ?_
      refine V_iconst (pc := 23) C dL_truncate_23 ?_
      exact V_hiret (pc := 24) C hr hlk (by decide) h dL_truncate_24
    have h := ite_f h g6
    cases h
set_option maxRecDepth 100000 in
set_option maxHeartbeats 4000000 in
theorem c_L_release (l : Launch) (Γ : GG) (sk : List SD) (hsk : ExtL sk) (hl9 : l.stackTraces = false) (fu : Nat) {M M' : Mem} {a1 : Int} {r : Int} (ha1 : rng a1) (h : f_L_release fu M a1 = some (M', r)) : MetH l yL_release cL_release 4 .int [(0, 9, 12, 13), (0, 9, 15, 32)] ({ frames := 31, cells := 1, slots := 6, locals := 1013 } : Room) Γ sk [vr Γ 3, vi a1, vr Γ 65] M M' r := by
  unfold f_L_release at h
  refine MetH_of RL rfl (by decide) rfl (Nat.le_of_ble_eq_true rfl) rfl ?_
  intro p e s m args below meth c C hr hlk htab hM
  have e3 := hsk 3 _ (by decide) rfl
  have e65 := hsk 65 _ (by decide) rfl
  refine V_aload_n (pc := 0) C 2 rfl dL_release_0 ?_
  refine V_iconst (pc := 1) C dL_release_1 ?_
  refine V_aload_n (pc := 2) C 0 rfl dL_release_2 ?_
  refine V_iload_n (pc := 3) C 1 rfl dL_release_3 ?_
  rcases cax_of h with ⟨M1, r2, hc3, h⟩ | ⟨M1, n4, z5, hc3, h⟩
  · refine V_callXI0 (pc := 4) C (c_X11_release l Γ sk hsk.m.c hl9 fu ha1 hc3) cf_X11_release lk_L_106 ⟨rfl, rfl⟩ ⟨Nat.le_of_ble_eq_true rfl, Nat.le_of_ble_eq_true rfl⟩ e3 rfl rfl rfl (Nat.le_of_ble_eq_true rfl) ⟨Nat.zero_le _, Nat.zero_le _⟩ rfl dL_release_4 (fun hr2 => ?_)
    refine V_i2l (pc := 7) C hr2 dL_release_7 ?_
    refine V_last (pc := 8) C (by decide) e65 (by decide) (by decide) hr2 dL_release_8 ?_
    refine V_goto (pc := 9) C 18 dL_release_9 (by decide) ?_
    refine V_iconst (pc := 18) C dL_release_18 ?_
    refine V_room (Nat.zero_le 1) (Nat.zero_le 6) ?_
    exact V_hiret (pc := 19) C hr hlk (by decide) h dL_release_19
  · by_cases g7 : n4 = 0
    · have h := ite_t h g7
      subst g7
      refine V_callXIc (j := 0) (hh := [(0, 9, 12, 13), (0, 9, 15, 32)]) (pc := 4) C (c_X11_release l Γ sk hsk.m.c hl9 fu ha1 hc3) htab [] ⟨0, 9, 12, 13⟩ [⟨0, 9, 15, 32⟩] rfl (fun z hz => nomatch hz) rfl (by decide) lx_L_13 (by decide) cf_X11_release lk_L_106 ⟨rfl, rfl⟩ ⟨Nat.le_of_ble_eq_true rfl, Nat.le_of_ble_eq_true rfl⟩ e3 rfl rfl rfl (Nat.le_of_ble_eq_true rfl) ⟨Nat.le_refl 1, Nat.le_refl 6⟩ rfl dL_release_4 (fun q9 => ?_)
      refine V_astore_n (pc := 12) C (L' := [(0, vr Γ 3), (1, vi a1), (2, vr Γ 65), (3, .ref q9)]) rfl (by decide) dL_release_12 ?_
      refine V_iconst (pc := 13) C dL_release_13 ?_
      exact V_hiret (pc := 14) C hr hlk (by decide) h dL_release_14
    have h := ite_f h g7
    by_cases g6 : n4 = 2
    · have h := ite_t h g6
      subst g6
      refine V_callXIc (j := 2) (hh := [(0, 9, 12, 13), (0, 9, 15, 32)]) (pc := 4) C (c_X11_release l Γ sk hsk.m.c hl9 fu ha1 hc3) htab [⟨0, 9, 12, 13⟩] ⟨0, 9, 15, 32⟩ [] rfl (pass1 ⟨by decide, exN 1, lx_L_13, by decide +kernel⟩) rfl (by decide) lx_L_32 (by decide) cf_X11_release lk_L_106 ⟨rfl, rfl⟩ ⟨Nat.le_of_ble_eq_true rfl, Nat.le_of_ble_eq_true rfl⟩ e3 rfl rfl rfl (Nat.le_of_ble_eq_true rfl) ⟨Nat.le_refl 1, Nat.le_refl 6⟩ rfl dL_release_4 (fun q9 => ?_)
      refine V_astore_n (pc := 15) C (L' := [(0, vr Γ 3), (1, vi a1), (2, vr Γ 65), (3, .ref q9)]) rfl (by decide) dL_release_15 ?_
      refine V_iconst (pc := 16) C dL_release_16 ?_
      exact V_hiret (pc := 17) C hr hlk (by decide) h dL_release_17
    have h := ite_f h g6
    cases h
set_option maxRecDepth 100000 in
set_option maxHeartbeats 4000000 in
theorem c_L_undo (l : Launch) (Γ : GG) (sk : List SD) (hsk : ExtL sk) (hl9 : l.stackTraces = false) (fu : Nat) {M M' : Mem}  {r : Int}  (h : f_L_undo fu M  = some (M', r)) : MetH l yL_undo cL_undo 3 .int [(0, 8, 11, 113)] ({ frames := 7, cells := 1, slots := 6, locals := 140 } : Room) Γ sk [vr Γ 3, vr Γ 65] M M' r := by
  unfold f_L_undo at h
  refine MetH_of RL rfl (by decide) rfl (Nat.le_of_ble_eq_true rfl) rfl ?_
  intro p e s m args below meth c C hr hlk htab hM
  have e3 := hsk 3 _ (by decide) rfl
  have e65 := hsk 65 _ (by decide) rfl
  refine V_aload_n (pc := 0) C 1 rfl dL_undo_0 ?_
  refine V_iconst (pc := 1) C dL_undo_1 ?_
  refine V_aload_n (pc := 2) C 0 rfl dL_undo_2 ?_
  rcases cax_of h with ⟨M1, r2, hc3, h⟩ | ⟨M1, n4, z5, hc3, h⟩
  · refine V_callXI0 (pc := 3) C (c_X11_undo l Γ sk hsk.m.c hl9 fu hc3) cf_X11_undo lk_L_109 ⟨rfl, rfl⟩ ⟨Nat.le_of_ble_eq_true rfl, Nat.le_of_ble_eq_true rfl⟩ e3 rfl rfl rfl (Nat.le_of_ble_eq_true rfl) ⟨Nat.zero_le _, Nat.zero_le _⟩ rfl dL_undo_3 (fun hr2 => ?_)
    refine V_i2l (pc := 6) C hr2 dL_undo_6 ?_
    refine V_last (pc := 7) C (by decide) e65 (by decide) (by decide) hr2 dL_undo_7 ?_
    refine V_goto (pc := 8) C 14 dL_undo_8 (by decide) ?_
    refine V_iconst (pc := 14) C dL_undo_14 ?_
    refine V_room (Nat.zero_le 1) (Nat.zero_le 6) ?_
    exact V_hiret (pc := 15) C hr hlk (by decide) h dL_undo_15
  · by_cases g6 : n4 = 3
    · have h := ite_t h g6
      subst g6
      refine V_callXIc (j := 3) (hh := [(0, 8, 11, 113)]) (pc := 3) C (c_X11_undo l Γ sk hsk.m.c hl9 fu hc3) htab [] ⟨0, 8, 11, 113⟩ [] rfl (fun z hz => nomatch hz) rfl (by decide) lx_L_113 (by decide) cf_X11_undo lk_L_109 ⟨rfl, rfl⟩ ⟨Nat.le_of_ble_eq_true rfl, Nat.le_of_ble_eq_true rfl⟩ e3 rfl rfl rfl (Nat.le_of_ble_eq_true rfl) ⟨Nat.le_refl 1, Nat.le_refl 6⟩ rfl dL_undo_3 (fun q9 => ?_)
      refine V_astore_n (pc := 11) C (L' := [(0, vr Γ 3), (1, vr Γ 65), (2, .ref q9)]) rfl (by decide) dL_undo_11 ?_
      refine V_iconst (pc := 12) C dL_undo_12 ?_
      exact V_hiret (pc := 13) C hr hlk (by decide) h dL_undo_13
    have h := ite_f h g6
    cases h
set_option maxRecDepth 100000 in
set_option maxHeartbeats 4000000 in
theorem c_L_writeVersion (l : Launch) (Γ : GG) (sk : List SD) (hsk : ExtL sk) (hl9 : l.stackTraces = false) (fu : Nat) {M M' : Mem} {a1 : Int} {r : Int} (ha1 : rng a1) (h : f_L_writeVersion fu M a1 = some (M', r)) : MetH l yL_writeVersion cL_writeVersion 4 .int [(0, 9, 12, 13), (0, 9, 15, 32)] ({ frames := 9, cells := 1, slots := 6, locals := 182 } : Room) Γ sk [vr Γ 3, vi a1, vr Γ 65] M M' r := by
  unfold f_L_writeVersion at h
  refine MetH_of RL rfl (by decide) rfl (Nat.le_of_ble_eq_true rfl) rfl ?_
  intro p e s m args below meth c C hr hlk htab hM
  have e3 := hsk 3 _ (by decide) rfl
  have e65 := hsk 65 _ (by decide) rfl
  refine V_aload_n (pc := 0) C 2 rfl dL_writeVersion_0 ?_
  refine V_iconst (pc := 1) C dL_writeVersion_1 ?_
  refine V_aload_n (pc := 2) C 0 rfl dL_writeVersion_2 ?_
  refine V_iload_n (pc := 3) C 1 rfl dL_writeVersion_3 ?_
  rcases cax_of h with ⟨M1, r2, hc3, h⟩ | ⟨M1, n4, z5, hc3, h⟩
  · refine V_callXI0 (pc := 4) C (c_X11_writeVersion l Γ sk hsk.m.c hl9 fu ha1 hc3) cf_X11_writeVersion lk_L_115 ⟨rfl, rfl⟩ ⟨Nat.le_of_ble_eq_true rfl, Nat.le_of_ble_eq_true rfl⟩ e3 rfl rfl rfl (Nat.le_of_ble_eq_true rfl) ⟨Nat.zero_le _, Nat.zero_le _⟩ rfl dL_writeVersion_4 (fun hr2 => ?_)
    refine V_i2l (pc := 7) C hr2 dL_writeVersion_7 ?_
    refine V_last (pc := 8) C (by decide) e65 (by decide) (by decide) hr2 dL_writeVersion_8 ?_
    refine V_goto (pc := 9) C 18 dL_writeVersion_9 (by decide) ?_
    refine V_iconst (pc := 18) C dL_writeVersion_18 ?_
    refine V_room (Nat.zero_le 1) (Nat.zero_le 6) ?_
    exact V_hiret (pc := 19) C hr hlk (by decide) h dL_writeVersion_19
  · by_cases g7 : n4 = 0
    · have h := ite_t h g7
      subst g7
      refine V_callXIc (j := 0) (hh := [(0, 9, 12, 13), (0, 9, 15, 32)]) (pc := 4) C (c_X11_writeVersion l Γ sk hsk.m.c hl9 fu ha1 hc3) htab [] ⟨0, 9, 12, 13⟩ [⟨0, 9, 15, 32⟩] rfl (fun z hz => nomatch hz) rfl (by decide) lx_L_13 (by decide) cf_X11_writeVersion lk_L_115 ⟨rfl, rfl⟩ ⟨Nat.le_of_ble_eq_true rfl, Nat.le_of_ble_eq_true rfl⟩ e3 rfl rfl rfl (Nat.le_of_ble_eq_true rfl) ⟨Nat.le_refl 1, Nat.le_refl 6⟩ rfl dL_writeVersion_4 (fun q9 => ?_)
      refine V_astore_n (pc := 12) C (L' := [(0, vr Γ 3), (1, vi a1), (2, vr Γ 65), (3, .ref q9)]) rfl (by decide) dL_writeVersion_12 ?_
      refine V_iconst (pc := 13) C dL_writeVersion_13 ?_
      exact V_hiret (pc := 14) C hr hlk (by decide) h dL_writeVersion_14
    have h := ite_f h g7
    by_cases g6 : n4 = 2
    · have h := ite_t h g6
      subst g6
      refine V_callXIc (j := 2) (hh := [(0, 9, 12, 13), (0, 9, 15, 32)]) (pc := 4) C (c_X11_writeVersion l Γ sk hsk.m.c hl9 fu ha1 hc3) htab [⟨0, 9, 12, 13⟩] ⟨0, 9, 15, 32⟩ [] rfl (pass1 ⟨by decide, exN 1, lx_L_13, by decide +kernel⟩) rfl (by decide) lx_L_32 (by decide) cf_X11_writeVersion lk_L_115 ⟨rfl, rfl⟩ ⟨Nat.le_of_ble_eq_true rfl, Nat.le_of_ble_eq_true rfl⟩ e3 rfl rfl rfl (Nat.le_of_ble_eq_true rfl) ⟨Nat.le_refl 1, Nat.le_refl 6⟩ rfl dL_writeVersion_4 (fun q9 => ?_)
      refine V_astore_n (pc := 15) C (L' := [(0, vr Γ 3), (1, vi a1), (2, vr Γ 65), (3, .ref q9)]) rfl (by decide) dL_writeVersion_15 ?_
      refine V_iconst (pc := 16) C dL_writeVersion_16 ?_
      exact V_hiret (pc := 17) C hr hlk (by decide) h dL_writeVersion_17
    have h := ite_f h g6
    cases h
set_option maxRecDepth 100000 in
set_option maxHeartbeats 4000000 in
theorem c_L_restoreState (l : Launch) (Γ : GG) (sk : List SD) (hsk : ExtL sk) (hl9 : l.stackTraces = false) (fu : Nat) {M M' : Mem}  {r : Int}  (h : f_L_restoreState fu M  = some (M', r)) : MetH l yL_restoreState cL_restoreState 3 .int [(0, 8, 11, 113)] ({ frames := 7, cells := 1, slots := 6, locals := 140 } : Room) Γ sk [vr Γ 3, vr Γ 65] M M' r := by
  unfold f_L_restoreState at h
  refine MetH_of RL rfl (by decide) rfl (Nat.le_of_ble_eq_true rfl) rfl ?_
  intro p e s m args below meth c C hr hlk htab hM
  have e3 := hsk 3 _ (by decide) rfl
  have e65 := hsk 65 _ (by decide) rfl
  refine V_aload_n (pc := 0) C 1 rfl dL_restoreState_0 ?_
  refine V_iconst (pc := 1) C dL_restoreState_1 ?_
  refine V_aload_n (pc := 2) C 0 rfl dL_restoreState_2 ?_
  rcases cax_of h with ⟨M1, r2, hc3, h⟩ | ⟨M1, n4, z5, hc3, h⟩
  · refine V_callXI0 (pc := 3) C (c_X11_restoreState l Γ sk hsk.m.c hl9 fu hc3) cf_X11_restoreState lk_L_118 ⟨rfl, rfl⟩ ⟨Nat.le_of_ble_eq_true rfl, Nat.le_of_ble_eq_true rfl⟩ e3 rfl rfl rfl (Nat.le_of_ble_eq_true rfl) ⟨Nat.zero_le _, Nat.zero_le _⟩ rfl dL_restoreState_3 (fun hr2 => ?_)
    refine V_i2l (pc := 6) C hr2 dL_restoreState_6 ?_
    refine V_last (pc := 7) C (by decide) e65 (by decide) (by decide) hr2 dL_restoreState_7 ?_
    refine V_goto (pc := 8) C 14 dL_restoreState_8 (by decide) ?_
    refine V_iconst (pc := 14) C dL_restoreState_14 ?_
    refine V_room (Nat.zero_le 1) (Nat.zero_le 6) ?_
    exact V_hiret (pc := 15) C hr hlk (by decide) h dL_restoreState_15
  · by_cases g6 : n4 = 3
    · have h := ite_t h g6
      subst g6
      refine V_callXIc (j := 3) (hh := [(0, 8, 11, 113)]) (pc := 3) C (c_X11_restoreState l Γ sk hsk.m.c hl9 fu hc3) htab [] ⟨0, 8, 11, 113⟩ [] rfl (fun z hz => nomatch hz) rfl (by decide) lx_L_113 (by decide) cf_X11_restoreState lk_L_118 ⟨rfl, rfl⟩ ⟨Nat.le_of_ble_eq_true rfl, Nat.le_of_ble_eq_true rfl⟩ e3 rfl rfl rfl (Nat.le_of_ble_eq_true rfl) ⟨Nat.le_refl 1, Nat.le_refl 6⟩ rfl dL_restoreState_3 (fun q9 => ?_)
      refine V_astore_n (pc := 11) C (L' := [(0, vr Γ 3), (1, vr Γ 65), (2, .ref q9)]) rfl (by decide) dL_restoreState_11 ?_
      refine V_iconst (pc := 12) C dL_restoreState_12 ?_
      exact V_hiret (pc := 13) C hr hlk (by decide) h dL_restoreState_13
    have h := ite_f h g6
    cases h
