/-! the law's cases 38 and 39: two quotients held against each other -/
def calq (o : Option (Mem × (Int × Int))) (k : Mem → Int × Int → Option (Mem × Int)) : Option (Mem × Int) := match o with
  | some (M, r) => k M r
  | none => none
theorem calq_of {o : Option (Mem × (Int × Int))} {k : Mem → Int × Int → Option (Mem × Int)} {x : Mem × Int} (h : calq o k = some x) : ∃ (M : Mem) (r : Int × Int), o = some (M, r) ∧ k M r = some x := by
  match o, h with
  | some (M, r), h => exact ⟨M, r, rfl, h⟩
theorem lk_L_260 : Cond.methodLink RL 260 yX11_sharing ∈ wsA := tb_4 (List.mem_of_getElem? (i := 92) (by decide +kernel)) (by decide +kernel)
theorem lk_L_264 : Cond.methodLink RL 264 yX12_sharing ∈ wsA := tb_9 (List.mem_of_getElem? (i := 68) (by decide +kernel)) (by decide +kernel)
theorem cf_X11_sharing : CalV yX11_sharing cX11_sharing 2 (some .double) 0 := ⟨tb_4 (List.mem_of_getElem? (i := 93) (by decide +kernel)) (by decide +kernel), tb_4 (List.mem_of_getElem? (i := 94) (by decide +kernel)) (by decide +kernel), tb_1 (List.mem_of_getElem? (i := 1) (by decide +kernel)) (by decide +kernel), tb_4 (List.mem_of_getElem? (i := 95) (by decide +kernel)) (by decide +kernel), by decide +kernel, by decide +kernel, by decide +kernel⟩
theorem cf_X12_sharing : CalV yX12_sharing cX12_sharing 4 (some .double) 0 := ⟨tb_9 (List.mem_of_getElem? (i := 69) (by decide +kernel)) (by decide +kernel), tb_9 (List.mem_of_getElem? (i := 70) (by decide +kernel)) (by decide +kernel), tb_1 (List.mem_of_getElem? (i := 14) (by decide +kernel)) (by decide +kernel), tb_9 (List.mem_of_getElem? (i := 71) (by decide +kernel)) (by decide +kernel), by decide +kernel, by decide +kernel, by decide +kernel⟩
theorem lk_L_265 : Cond.methodLink RL 265 yX11_garbagePart ∈ wsA := tb_4 (List.mem_of_getElem? (i := 113) (by decide +kernel)) (by decide +kernel)
theorem lk_L_269 : Cond.methodLink RL 269 yX12_garbagePart ∈ wsA := tb_9 (List.mem_of_getElem? (i := 72) (by decide +kernel)) (by decide +kernel)
theorem cf_X11_garbagePart : CalV yX11_garbagePart cX11_garbagePart 2 (some .float) 0 := ⟨tb_4 (List.mem_of_getElem? (i := 114) (by decide +kernel)) (by decide +kernel), tb_4 (List.mem_of_getElem? (i := 115) (by decide +kernel)) (by decide +kernel), tb_1 (List.mem_of_getElem? (i := 1) (by decide +kernel)) (by decide +kernel), tb_4 (List.mem_of_getElem? (i := 116) (by decide +kernel)) (by decide +kernel), by decide +kernel, by decide +kernel, by decide +kernel⟩
theorem cf_X12_garbagePart : CalV yX12_garbagePart cX12_garbagePart 3 (some .float) 0 := ⟨tb_9 (List.mem_of_getElem? (i := 73) (by decide +kernel)) (by decide +kernel), tb_9 (List.mem_of_getElem? (i := 74) (by decide +kernel)) (by decide +kernel), tb_1 (List.mem_of_getElem? (i := 14) (by decide +kernel)) (by decide +kernel), tb_9 (List.mem_of_getElem? (i := 75) (by decide +kernel)) (by decide +kernel), by decide +kernel, by decide +kernel, by decide +kernel⟩
def f_L_case38 (fu : Nat) (M : Mem) : Option (Mem × Int) := calq (f_X11_sharing fu M) fun M1 o1 => calq (f_X12_sharing fu M1) fun M2 o2 => if o1 = o2 then some (M2, 0) else none
set_option maxRecDepth 100000 in
set_option maxHeartbeats 4000000 in
theorem c_L_case38 (l : Launch) (Γ : GG) (sk : List SD) (hsk : ExtL sk) (fu : Nat) {M M' : Mem} {x4 r : Int} (h : f_L_case38 fu M = some (M', r)) {p : Program} {e : Env} {s : State} {m : MethodId} {args : Array Value} {below : List Frame} {meth : Method} {c : Code} {Q : State → Prop} {cells slots : Nat} (hf1 : cells + 1 ≤ room_1.cells ∧ slots + 6 ≤ room_1.slots) (C : CX p s m args c cL_law 9 RL Γ sk) (kk : VV p l e room_1 s m args below meth c Q 9 Γ sk M' (cells + 1) (slots + 6) 2654 [(0, vr Γ 2), (1, vr Γ 3), (2, vr Γ 52), (3, vr Γ 65), (4, vi x4)] []) : VV p l e room_1 s m args below meth c Q 9 Γ sk M cells slots 2090 [(0, vr Γ 2), (1, vr Γ 3), (2, vr Γ 52), (3, vr Γ 65), (4, vi x4)] [] := by
  unfold f_L_case38 at h
  obtain ⟨M1, o1, hc1, h⟩ := calq_of h
  obtain ⟨M2, o2, hc2, h⟩ := calq_of h
  by_cases hoo : o1 = o2
  · have h9 := ite_t h hoo
    clear h
    subst hoo
    cases h9
    have hf0 : cells ≤ room_1.cells ∧ slots ≤ room_1.slots := ⟨Nat.le_of_succ_le hf1.1, Nat.le_trans (Nat.le_add_right _ 6) hf1.2⟩
    have e3 := hsk 3 _ (by decide) rfl
    have e52 := hsk 52 _ (by decide) rfl
    refine V_aload_n (pc := 2090) C 1 rfl dL_law_2090 ?_
    intro H locs ls hP hS hl hMr
    refine W_callD (pc := 2091) C (As := []) (st := []) (c_X11_sharing l Γ sk hsk.m.c fu hc1) cf_X11_sharing lk_L_260 ⟨rfl, rfl⟩ ⟨Nat.le_of_ble_eq_true rfl, Nat.le_of_ble_eq_true rfl⟩ e3 rfl rfl rfl (Nat.le_of_ble_eq_true rfl) hf0 dL_law_2091 hP hS hl hMr (fun H1 locs1 hP1 hS1 hM1 => ?_)
    refine lv_dstore (pc := 2094) C.1 C.2.1 (nL := 9) dL_law_2094 hl.1 (by decide) rfl (fun ls1 h1 => ?_)
    have h1 : lv_has ls1 9 [(5, .double (dq o1)), (0, vr Γ 2), (1, vr Γ 3), (2, vr Γ 52), (3, vr Γ 65), (4, vi x4)] := h1
    have hl1 : lvs ls1 9 [(0, vr Γ 2), (1, vr Γ 3), (2, vr Γ 52), (3, vr Γ 65), (4, vi x4)] := ⟨lv_sub h1 [1, 2, 3, 4, 5] rfl, hl.2⟩
    refine lv_aload_n (pc := 2096) C.1 C.2.1 dL_law_2096 rfl (lv_at h1 3 rfl) ?_
    refine W_callD (pc := 2097) C (As := []) (st := []) (c_X12_sharing l Γ sk hsk.m fu hc2) cf_X12_sharing lk_L_264 ⟨rfl, rfl⟩ ⟨Nat.le_of_ble_eq_true rfl, Nat.le_of_ble_eq_true rfl⟩ e52 rfl rfl rfl (Nat.le_of_ble_eq_true rfl) hf0 dL_law_2097 hP1 hS1 hl1 hM1 (fun H2 locs2 hP2 hS2 hM2 => ?_)
    refine lv_dstore (pc := 2100) C.1 C.2.1 (nL := 9) dL_law_2100 h1 (by decide) rfl (fun ls2 h2 => ?_)
    have h2 : lv_has ls2 9 [(7, .double (dq o1)), (5, .double (dq o1)), (0, vr Γ 2), (1, vr Γ 3), (2, vr Γ 52), (3, vr Γ 65), (4, vi x4)] := h2
    have hl2 : lvs ls2 9 [(0, vr Γ 2), (1, vr Γ 3), (2, vr Γ 52), (3, vr Γ 65), (4, vi x4)] := ⟨lv_sub h2 [2, 3, 4, 5, 6] rfl, hl.2⟩
    have hend : W p l e room_1 s m args below meth c H2 locs2 cells slots Q (F0 m 2128 ls2 []) := lv_goto (pc := 2128) (tgt := 2654) C.1 C.2.1 dL_law_2128 (by decide) (V_room (Nat.le_succ _) (Nat.le_add_right _ 6) kk H2 locs2 ls2 hP2 hS2 hl2 hM2)
    refine lv_dload (pc := 2102) C.1 C.2.1 dL_law_2102 (lv_at h2 1 rfl) ?_
    refine lv_dload (pc := 2104) C.1 C.2.1 dL_law_2104 (lv_at h2 0 rfl) ?_
    refine lv_dcmp (pc := 2106) C.1 C.2.1 dL_law_2106 ?_
    refine lv_if_eq (pc := 2107) (tgt := 2128) C.1 C.2.1 dL_law_2107 (by decide) (fun z => hend) (fun z => ?_)
    refine lv_dload (pc := 2110) C.1 C.2.1 dL_law_2110 (lv_at h2 1 rfl) ?_
    refine lv_dload (pc := 2112) C.1 C.2.1 dL_law_2112 (lv_at h2 1 rfl) ?_
    refine lv_dcmp (pc := 2114) C.1 C.2.1 dL_law_2114 ?_
    refine lv_if_eq (pc := 2115) (tgt := 2126) C.1 C.2.1 dL_law_2115 (by decide) (fun w => absurd w z) (fun _ => ?_)
    refine lv_dload (pc := 2118) C.1 C.2.1 dL_law_2118 (lv_at h2 0 rfl) ?_
    refine lv_dload (pc := 2120) C.1 C.2.1 dL_law_2120 (lv_at h2 0 rfl) ?_
    refine lv_dcmp (pc := 2122) C.1 C.2.1 dL_law_2122 ?_
    exact lv_if_ne (pc := 2123) (tgt := 2128) C.1 C.2.1 dL_law_2123 (by decide) (fun _ => hend) (fun w => absurd w z)
  · have h := ite_f h hoo
    cases h
def f_L_case39 (fu : Nat) (M : Mem) : Option (Mem × Int) := calq (f_X11_garbagePart fu M) fun M1 o1 => calq (f_X12_garbagePart fu M1) fun M2 o2 => if o1 = o2 ∧ (o1.2 = 0 ∨ (0 ≤ o1.1 ∧ o1.1 < 8192) ∧ 0 < o1.2 ∧ o1.2 < 8192) then some (M2, 0) else none
set_option maxRecDepth 100000 in
set_option maxHeartbeats 4000000 in
theorem c_L_case39 (l : Launch) (Γ : GG) (sk : List SD) (hsk : ExtL sk) (fu : Nat) {M M' : Mem} {x4 r : Int} (h : f_L_case39 fu M = some (M', r)) {p : Program} {e : Env} {s : State} {m : MethodId} {args : Array Value} {below : List Frame} {meth : Method} {c : Code} {Q : State → Prop} {cells slots : Nat} (hf1 : cells + 1 ≤ room_1.cells ∧ slots + 6 ≤ room_1.slots) (C : CX p s m args c cL_law 9 RL Γ sk) (kk : VV p l e room_1 s m args below meth c Q 9 Γ sk M' (cells + 1) (slots + 6) 2654 [(0, vr Γ 2), (1, vr Γ 3), (2, vr Γ 52), (3, vr Γ 65), (4, vi x4)] []) : VV p l e room_1 s m args below meth c Q 9 Γ sk M cells slots 2131 [(0, vr Γ 2), (1, vr Γ 3), (2, vr Γ 52), (3, vr Γ 65), (4, vi x4)] [] := by
  unfold f_L_case39 at h
  obtain ⟨M1, o1, hc1, h⟩ := calq_of h
  obtain ⟨M2, o2, hc2, h⟩ := calq_of h
  by_cases hoo : o1 = o2 ∧ (o1.2 = 0 ∨ (0 ≤ o1.1 ∧ o1.1 < 8192) ∧ 0 < o1.2 ∧ o1.2 < 8192)
  · have h9 := ite_t h hoo
    clear h
    obtain ⟨hoo, hrg⟩ := hoo
    subst hoo
    cases h9
    have hf0 : cells ≤ room_1.cells ∧ slots ≤ room_1.slots := ⟨Nat.le_of_succ_le hf1.1, Nat.le_trans (Nat.le_add_right _ 6) hf1.2⟩
    have e3 := hsk 3 _ (by decide) rfl
    have e52 := hsk 52 _ (by decide) rfl
    refine V_aload_n (pc := 2131) C 1 rfl dL_law_2131 ?_
    intro H locs ls hP hS hl hMr
    refine W_callF (pc := 2132) C (As := []) (st := []) (c_X11_garbagePart l Γ sk hsk.m.c fu hc1) cf_X11_garbagePart lk_L_265 ⟨rfl, rfl⟩ ⟨Nat.le_of_ble_eq_true rfl, Nat.le_of_ble_eq_true rfl⟩ e3 rfl rfl rfl (Nat.le_of_ble_eq_true rfl) hf0 dL_law_2132 hP hS hl hMr (fun H1 locs1 hP1 hS1 hM1 => ?_)
    refine lv_f2d (pc := 2135) C.1 C.2.1 dL_law_2135 (fp_f2dq hrg) ?_
    refine lv_dstore (pc := 2136) C.1 C.2.1 (nL := 9) dL_law_2136 hl.1 (by decide) rfl (fun ls1 h1 => ?_)
    have h1 : lv_has ls1 9 [(5, .double (FP.f2d (fq o1))), (0, vr Γ 2), (1, vr Γ 3), (2, vr Γ 52), (3, vr Γ 65), (4, vi x4)] := h1
    have hl1 : lvs ls1 9 [(0, vr Γ 2), (1, vr Γ 3), (2, vr Γ 52), (3, vr Γ 65), (4, vi x4)] := ⟨lv_sub h1 [1, 2, 3, 4, 5] rfl, hl.2⟩
    refine lv_aload_n (pc := 2138) C.1 C.2.1 dL_law_2138 rfl (lv_at h1 3 rfl) ?_
    refine W_callF (pc := 2139) C (As := []) (st := []) (c_X12_garbagePart l Γ sk hsk.m fu hc2) cf_X12_garbagePart lk_L_269 ⟨rfl, rfl⟩ ⟨Nat.le_of_ble_eq_true rfl, Nat.le_of_ble_eq_true rfl⟩ e52 rfl rfl rfl (Nat.le_of_ble_eq_true rfl) hf0 dL_law_2139 hP1 hS1 hl1 hM1 (fun H2 locs2 hP2 hS2 hM2 => ?_)
    refine lv_f2d (pc := 2142) C.1 C.2.1 dL_law_2142 (fp_f2dq hrg) ?_
    refine lv_dstore (pc := 2143) C.1 C.2.1 (nL := 9) dL_law_2143 h1 (by decide) rfl (fun ls2 h2 => ?_)
    have h2 : lv_has ls2 9 [(7, .double (FP.f2d (fq o1))), (5, .double (FP.f2d (fq o1))), (0, vr Γ 2), (1, vr Γ 3), (2, vr Γ 52), (3, vr Γ 65), (4, vi x4)] := h2
    have hl2 : lvs ls2 9 [(0, vr Γ 2), (1, vr Γ 3), (2, vr Γ 52), (3, vr Γ 65), (4, vi x4)] := ⟨lv_sub h2 [2, 3, 4, 5, 6] rfl, hl.2⟩
    have hend : W p l e room_1 s m args below meth c H2 locs2 cells slots Q (F0 m 2171 ls2 []) := lv_goto (pc := 2171) (tgt := 2654) C.1 C.2.1 dL_law_2171 (by decide) (V_room (Nat.le_succ _) (Nat.le_add_right _ 6) kk H2 locs2 ls2 hP2 hS2 hl2 hM2)
    refine lv_dload (pc := 2145) C.1 C.2.1 dL_law_2145 (lv_at h2 1 rfl) ?_
    refine lv_dload (pc := 2147) C.1 C.2.1 dL_law_2147 (lv_at h2 0 rfl) ?_
    refine lv_dcmp (pc := 2149) C.1 C.2.1 dL_law_2149 ?_
    refine lv_if_eq (pc := 2150) (tgt := 2171) C.1 C.2.1 dL_law_2150 (by decide) (fun z => hend) (fun z => ?_)
    refine lv_dload (pc := 2153) C.1 C.2.1 dL_law_2153 (lv_at h2 1 rfl) ?_
    refine lv_dload (pc := 2155) C.1 C.2.1 dL_law_2155 (lv_at h2 1 rfl) ?_
    refine lv_dcmp (pc := 2157) C.1 C.2.1 dL_law_2157 ?_
    refine lv_if_eq (pc := 2158) (tgt := 2169) C.1 C.2.1 dL_law_2158 (by decide) (fun w => absurd w z) (fun _ => ?_)
    refine lv_dload (pc := 2161) C.1 C.2.1 dL_law_2161 (lv_at h2 0 rfl) ?_
    refine lv_dload (pc := 2163) C.1 C.2.1 dL_law_2163 (lv_at h2 0 rfl) ?_
    refine lv_dcmp (pc := 2165) C.1 C.2.1 dL_law_2165 ?_
    exact lv_if_ne (pc := 2166) (tgt := 2171) C.1 C.2.1 dL_law_2166 (by decide) (fun _ => hend) (fun w => absurd w z)
  · have h := ite_f h hoo
    cases h
