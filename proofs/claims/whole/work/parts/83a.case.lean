set_option maxRecDepth 100000 in
set_option maxHeartbeats 4000000 in
theorem c_L_case0 (l : Launch) (Γ : GG) (sk : List SD) (hsk : ExtL sk) (hl9 : l.stackTraces = false) (fu : Nat) {nS : Nat} (hs2 : sk[2]? = some (.inl (0, nS))) (hnS : nS ≤ 2147483647) {M M' : Mem} {x4 r : Int} (hx4 : rng x4) (hM : mR M) (h : f_L_case0 fu nS M x4 = some (M', r)) {p : Program} {e : Env} {s : State} {m : MethodId} {args : Array Value} {below : List Frame} {meth : Method} {c : Code} {Q : State → Prop} {cells slots : Nat} (hf1 : cells + 1 ≤ room_1.cells ∧ slots + 6 ≤ room_1.slots) (C : CX p s m args c cL_law 9 RL Γ sk) (kk : VV p l e room_1 s m args below meth c Q 9 Γ sk M' (cells + 1) (slots + 6) 2654 [(0, vr Γ 2), (1, vr Γ 3), (2, vr Γ 52), (3, vr Γ 65), (4, vi x4)] []) : VV p l e room_1 s m args below meth c Q 9 Γ sk M cells slots 260 [(0, vr Γ 2), (1, vr Γ 3), (2, vr Γ 52), (3, vr Γ 65), (4, vi x4)] [] := by
  unfold f_L_case0 at h
  have hf0 : cells ≤ room_1.cells ∧ slots ≤ room_1.slots := ⟨Nat.le_of_succ_le hf1.1, Nat.le_trans (Nat.le_add_right _ 6) hf1.2⟩
  have e3 := hsk 3 _ (by decide) rfl
  have e52 := hsk 52 _ (by decide) rfl
  refine V_aload_n (pc := 260) C 1 rfl dL_law_260 ?_
  refine V_aload_n (pc := 261) C 0 rfl dL_law_261 ?_
  refine V_iload (pc := 262) C 4 rfl dL_law_262 ?_
  refine V_iconst (pc := 264) C dL_law_264 ?_
  refine V_iadd (pc := 265) C dL_law_265 ?_
  obtain ⟨g1, h⟩ := grd_of h
  obtain ⟨g2, h⟩ := grd_of h
  refine V_iald (pc := 266) C hs2 g2 g1 dL_law_266 ?_
  refine V_aload_n (pc := 267) C 0 rfl dL_law_267 ?_
  refine V_iload (pc := 268) C 4 rfl dL_law_268 ?_
  refine V_iconst (pc := 270) C dL_law_270 ?_
  refine V_iadd (pc := 271) C dL_law_271 ?_
  obtain ⟨g3, h⟩ := grd_of h
  obtain ⟨g4, h⟩ := grd_of h
  refine V_iald (pc := 272) C hs2 g4 g3 dL_law_272 ?_
  refine V_aload_n (pc := 273) C 0 rfl dL_law_273 ?_
  refine V_iload (pc := 274) C 4 rfl dL_law_274 ?_
  refine V_iconst (pc := 276) C dL_law_276 ?_
  refine V_iadd (pc := 277) C dL_law_277 ?_
  obtain ⟨g5, h⟩ := grd_of h
  obtain ⟨g6, h⟩ := grd_of h
  refine V_iald (pc := 278) C hs2 g6 g5 dL_law_278 ?_
  refine V_aload_n (pc := 279) C 0 rfl dL_law_279 ?_
  refine V_iload (pc := 280) C 4 rfl dL_law_280 ?_
  refine V_iconst (pc := 282) C dL_law_282 ?_
  refine V_iadd (pc := 283) C dL_law_283 ?_
  obtain ⟨g7, h⟩ := grd_of h
  obtain ⟨g8, h⟩ := grd_of h
  refine V_iald (pc := 284) C hs2 g8 g7 dL_law_284 ?_
  refine V_aload_n (pc := 285) C 0 rfl dL_law_285 ?_
  refine V_iload (pc := 286) C 4 rfl dL_law_286 ?_
  refine V_iconst (pc := 288) C dL_law_288 ?_
  refine V_iadd (pc := 289) C dL_law_289 ?_
  obtain ⟨g9, h⟩ := grd_of h
  obtain ⟨g10, h⟩ := grd_of h
  refine V_iald (pc := 290) C hs2 g10 g9 dL_law_290 ?_
  obtain ⟨M11, r12, hc13, h⟩ := cal_of h
  refine V_callVI (pc := 291) C (c_X11_appendInput l Γ sk hsk.m.c fu (hM _ _) (hM _ _) (hM _ _) (hM _ _) (hM _ _) hc13) cf_X11_appendInput lk_L_125 ⟨rfl, rfl⟩ ⟨Nat.le_of_ble_eq_true rfl, Nat.le_of_ble_eq_true rfl⟩ e3 rfl rfl rfl (Nat.le_of_ble_eq_true rfl) hf0 rfl dL_law_291 (fun hr12 => ?_)
  refine V_aload_n (pc := 294) C 2 rfl dL_law_294 ?_
  refine V_aload_n (pc := 295) C 0 rfl dL_law_295 ?_
  refine V_iload (pc := 296) C 4 rfl dL_law_296 ?_
  refine V_iconst (pc := 298) C dL_law_298 ?_
  refine V_iadd (pc := 299) C dL_law_299 ?_
  refine V_rng fun hM14 => ?_
  obtain ⟨g15, h⟩ := grd_of h
  obtain ⟨g16, h⟩ := grd_of h
  refine V_iald (pc := 300) C hs2 g16 g15 dL_law_300 ?_
  refine V_aload_n (pc := 301) C 0 rfl dL_law_301 ?_
  refine V_iload (pc := 302) C 4 rfl dL_law_302 ?_
  refine V_iconst (pc := 304) C dL_law_304 ?_
  refine V_iadd (pc := 305) C dL_law_305 ?_
  obtain ⟨g17, h⟩ := grd_of h
  obtain ⟨g18, h⟩ := grd_of h
  refine V_iald (pc := 306) C hs2 g18 g17 dL_law_306 ?_
  refine V_aload_n (pc := 307) C 0 rfl dL_law_307 ?_
  refine V_iload (pc := 308) C 4 rfl dL_law_308 ?_
  refine V_iconst (pc := 310) C dL_law_310 ?_
  refine V_iadd (pc := 311) C dL_law_311 ?_
  obtain ⟨g19, h⟩ := grd_of h
  obtain ⟨g20, h⟩ := grd_of h
  refine V_iald (pc := 312) C hs2 g20 g19 dL_law_312 ?_
  refine V_aload_n (pc := 313) C 0 rfl dL_law_313 ?_
  refine V_iload (pc := 314) C 4 rfl dL_law_314 ?_
  refine V_iconst (pc := 316) C dL_law_316 ?_
  refine V_iadd (pc := 317) C dL_law_317 ?_
  obtain ⟨g21, h⟩ := grd_of h
  obtain ⟨g22, h⟩ := grd_of h
  refine V_iald (pc := 318) C hs2 g22 g21 dL_law_318 ?_
  refine V_aload_n (pc := 319) C 0 rfl dL_law_319 ?_
  refine V_iload (pc := 320) C 4 rfl dL_law_320 ?_
  refine V_iconst (pc := 322) C dL_law_322 ?_
  refine V_iadd (pc := 323) C dL_law_323 ?_
  obtain ⟨g23, h⟩ := grd_of h
  obtain ⟨g24, h⟩ := grd_of h
  refine V_iald (pc := 324) C hs2 g24 g23 dL_law_324 ?_
  obtain ⟨M25, r26, hc27, h⟩ := cal_of h
  refine V_callVI (pc := 325) C (c_X12_appendInput l Γ sk hsk.m fu (hM14 _ _) (hM14 _ _) (hM14 _ _) (hM14 _ _) (hM14 _ _) hc27) cf_X12_appendInput lk_L_129 ⟨rfl, rfl⟩ ⟨Nat.le_of_ble_eq_true rfl, Nat.le_of_ble_eq_true rfl⟩ e52 rfl rfl rfl (Nat.le_of_ble_eq_true rfl) hf0 rfl dL_law_325 (fun hr26 => ?_)
  refine V_icmp_eq (pc := 328) C 2654 hr12 hr26 dL_law_328 (by decide) (fun c328_28 => ?_) (fun c328_28 => ?_)
  · have h := ite_t h c328_28
    refine V_sub (L' := [(0, vr Γ 2), (1, vr Γ 3), (2, vr Γ 52), (3, vr Γ 65), (4, vi x4)]) [0, 1, 2, 3, 4] rfl (by decide) ?_
    refine V_room (Nat.le_succ _) (Nat.le_add_right _ 6) ?_
    cases h
    exact kk
  · have h := ite_f h c328_28
    refine V_iconst (pc := 331) C dL_law_331 ?_
    cases h
set_option maxRecDepth 100000 in
set_option maxHeartbeats 4000000 in
theorem c_L_case1 (l : Launch) (Γ : GG) (sk : List SD) (hsk : ExtL sk) (hl9 : l.stackTraces = false) (fu : Nat) {nS : Nat} (hs2 : sk[2]? = some (.inl (0, nS))) (hnS : nS ≤ 2147483647) {M M' : Mem} {x4 r : Int} (hx4 : rng x4) (hM : mR M) (h : f_L_case1 fu nS M x4 = some (M', r)) {p : Program} {e : Env} {s : State} {m : MethodId} {args : Array Value} {below : List Frame} {meth : Method} {c : Code} {Q : State → Prop} {cells slots : Nat} (hf1 : cells + 1 ≤ room_1.cells ∧ slots + 6 ≤ room_1.slots) (C : CX p s m args c cL_law 9 RL Γ sk) (kk : VV p l e room_1 s m args below meth c Q 9 Γ sk M' (cells + 1) (slots + 6) 2654 [(0, vr Γ 2), (1, vr Γ 3), (2, vr Γ 52), (3, vr Γ 65), (4, vi x4)] []) : VV p l e room_1 s m args below meth c Q 9 Γ sk M cells slots 333 [(0, vr Γ 2), (1, vr Γ 3), (2, vr Γ 52), (3, vr Γ 65), (4, vi x4)] [] := by
  unfold f_L_case1 at h
  have hf0 : cells ≤ room_1.cells ∧ slots ≤ room_1.slots := ⟨Nat.le_of_succ_le hf1.1, Nat.le_trans (Nat.le_add_right _ 6) hf1.2⟩
  have e3 := hsk 3 _ (by decide) rfl
  have e52 := hsk 52 _ (by decide) rfl
  refine V_aload_n (pc := 333) C 1 rfl dL_law_333 ?_
  refine V_aload_n (pc := 334) C 0 rfl dL_law_334 ?_
  refine V_iload (pc := 335) C 4 rfl dL_law_335 ?_
  refine V_iconst (pc := 337) C dL_law_337 ?_
  refine V_iadd (pc := 338) C dL_law_338 ?_
  obtain ⟨g1, h⟩ := grd_of h
  obtain ⟨g2, h⟩ := grd_of h
  refine V_iald (pc := 339) C hs2 g2 g1 dL_law_339 ?_
  obtain ⟨M3, r4, hc5, h⟩ := cal_of h
  refine V_callVI (pc := 340) C (c_X11_truncateInput l Γ sk hsk.m.c fu (hM _ _) hc5) cf_X11_truncateInput lk_L_130 ⟨rfl, rfl⟩ ⟨Nat.le_of_ble_eq_true rfl, Nat.le_of_ble_eq_true rfl⟩ e3 rfl rfl rfl (Nat.le_of_ble_eq_true rfl) hf0 rfl dL_law_340 (fun hr4 => ?_)
  refine V_aload_n (pc := 343) C 2 rfl dL_law_343 ?_
  refine V_aload_n (pc := 344) C 0 rfl dL_law_344 ?_
  refine V_iload (pc := 345) C 4 rfl dL_law_345 ?_
  refine V_iconst (pc := 347) C dL_law_347 ?_
  refine V_iadd (pc := 348) C dL_law_348 ?_
  refine V_rng fun hM6 => ?_
  obtain ⟨g7, h⟩ := grd_of h
  obtain ⟨g8, h⟩ := grd_of h
  refine V_iald (pc := 349) C hs2 g8 g7 dL_law_349 ?_
  obtain ⟨M9, r10, hc11, h⟩ := cal_of h
  refine V_callVI (pc := 350) C (c_X12_truncateInput l Γ sk hsk.m fu (hM6 _ _) hc11) cf_X12_truncateInput lk_L_133 ⟨rfl, rfl⟩ ⟨Nat.le_of_ble_eq_true rfl, Nat.le_of_ble_eq_true rfl⟩ e52 rfl rfl rfl (Nat.le_of_ble_eq_true rfl) hf0 rfl dL_law_350 (fun hr10 => ?_)
  refine V_icmp_eq (pc := 353) C 2654 hr4 hr10 dL_law_353 (by decide) (fun c353_12 => ?_) (fun c353_12 => ?_)
  · have h := ite_t h c353_12
    refine V_sub (L' := [(0, vr Γ 2), (1, vr Γ 3), (2, vr Γ 52), (3, vr Γ 65), (4, vi x4)]) [0, 1, 2, 3, 4] rfl (by decide) ?_
    refine V_room (Nat.le_succ _) (Nat.le_add_right _ 6) ?_
    cases h
    exact kk
  · have h := ite_f h c353_12
    refine V_iconst (pc := 356) C dL_law_356 ?_
    cases h
set_option maxRecDepth 100000 in
set_option maxHeartbeats 4000000 in
theorem c_L_case2 (l : Launch) (Γ : GG) (sk : List SD) (hsk : ExtL sk) (hl9 : l.stackTraces = false) (fu : Nat) {nS : Nat} (hs2 : sk[2]? = some (.inl (0, nS))) (hnS : nS ≤ 2147483647) {M M' : Mem} {x4 r : Int} (hx4 : rng x4) (hM : mR M) (h : f_L_case2 fu nS M x4 = some (M', r)) {p : Program} {e : Env} {s : State} {m : MethodId} {args : Array Value} {below : List Frame} {meth : Method} {c : Code} {Q : State → Prop} {cells slots : Nat} (hf1 : cells + 1 ≤ room_1.cells ∧ slots + 6 ≤ room_1.slots) (C : CX p s m args c cL_law 9 RL Γ sk) (kk : VV p l e room_1 s m args below meth c Q 9 Γ sk M' (cells + 1) (slots + 6) 2654 [(0, vr Γ 2), (1, vr Γ 3), (2, vr Γ 52), (3, vr Γ 65), (4, vi x4)] []) : VV p l e room_1 s m args below meth c Q 9 Γ sk M cells slots 358 [(0, vr Γ 2), (1, vr Γ 3), (2, vr Γ 52), (3, vr Γ 65), (4, vi x4)] [] := by
  unfold f_L_case2 at h
  have hf0 : cells ≤ room_1.cells ∧ slots ≤ room_1.slots := ⟨Nat.le_of_succ_le hf1.1, Nat.le_trans (Nat.le_add_right _ 6) hf1.2⟩
  have e3 := hsk 3 _ (by decide) rfl
  have e52 := hsk 52 _ (by decide) rfl
  refine V_aload_n (pc := 358) C 1 rfl dL_law_358 ?_
  obtain ⟨M1, r2, hc3, h⟩ := cal_of h
  refine V_callVI (pc := 359) C (c_X11_loadSetup l Γ sk hsk.m.c fu hc3) cf_X11_loadSetup lk_L_134 ⟨rfl, rfl⟩ ⟨Nat.le_of_ble_eq_true rfl, Nat.le_of_ble_eq_true rfl⟩ e3 rfl rfl rfl (Nat.le_of_ble_eq_true rfl) hf0 rfl dL_law_359 (fun hr2 => ?_)
  refine V_aload_n (pc := 362) C 2 rfl dL_law_362 ?_
  obtain ⟨M4, r5, hc6, h⟩ := cal_of h
  refine V_callVI (pc := 363) C (c_X12_loadSetup l Γ sk hsk.m fu hc6) cf_X12_loadSetup lk_L_137 ⟨rfl, rfl⟩ ⟨Nat.le_of_ble_eq_true rfl, Nat.le_of_ble_eq_true rfl⟩ e52 rfl rfl rfl (Nat.le_of_ble_eq_true rfl) hf0 rfl dL_law_363 (fun hr5 => ?_)
  refine V_icmp_eq (pc := 366) C 2654 hr2 hr5 dL_law_366 (by decide) (fun c366_7 => ?_) (fun c366_7 => ?_)
  · have h := ite_t h c366_7
    refine V_sub (L' := [(0, vr Γ 2), (1, vr Γ 3), (2, vr Γ 52), (3, vr Γ 65), (4, vi x4)]) [0, 1, 2, 3, 4] rfl (by decide) ?_
    refine V_room (Nat.le_succ _) (Nat.le_add_right _ 6) ?_
    cases h
    exact kk
  · have h := ite_f h c366_7
    refine V_iconst (pc := 369) C dL_law_369 ?_
    cases h
set_option maxRecDepth 100000 in
set_option maxHeartbeats 4000000 in
theorem c_L_case3 (l : Launch) (Γ : GG) (sk : List SD) (hsk : ExtL sk) (hl9 : l.stackTraces = false) (fu : Nat) {nS : Nat} (hs2 : sk[2]? = some (.inl (0, nS))) (hnS : nS ≤ 2147483647) {M M' : Mem} {x4 r : Int} (hx4 : rng x4) (hM : mR M) (h : f_L_case3 fu nS M x4 = some (M', r)) {p : Program} {e : Env} {s : State} {m : MethodId} {args : Array Value} {below : List Frame} {meth : Method} {c : Code} {Q : State → Prop} {cells slots : Nat} (hf1 : cells + 1 ≤ room_1.cells ∧ slots + 6 ≤ room_1.slots) (C : CX p s m args c cL_law 9 RL Γ sk) (kk : VV p l e room_1 s m args below meth c Q 9 Γ sk M' (cells + 1) (slots + 6) 2654 [(0, vr Γ 2), (1, vr Γ 3), (2, vr Γ 52), (3, vr Γ 65), (4, vi x4)] []) : VV p l e room_1 s m args below meth c Q 9 Γ sk M cells slots 371 [(0, vr Γ 2), (1, vr Γ 3), (2, vr Γ 52), (3, vr Γ 65), (4, vi x4)] [] := by
  unfold f_L_case3 at h
  have hf0 : cells ≤ room_1.cells ∧ slots ≤ room_1.slots := ⟨Nat.le_of_succ_le hf1.1, Nat.le_trans (Nat.le_add_right _ 6) hf1.2⟩
  have e3 := hsk 3 _ (by decide) rfl
  have e52 := hsk 52 _ (by decide) rfl
  refine V_aload_n (pc := 371) C 1 rfl dL_law_371 ?_
  obtain ⟨M1, r2, hc3, h⟩ := cal_of h
  refine V_callVI (pc := 372) C (c_X11_runScript l Γ sk hsk.m.c fu hc3) cf_X11_runScript lk_L_138 ⟨rfl, rfl⟩ ⟨Nat.le_of_ble_eq_true rfl, Nat.le_of_ble_eq_true rfl⟩ e3 rfl rfl rfl (Nat.le_of_ble_eq_true rfl) hf0 rfl dL_law_372 (fun hr2 => ?_)
  refine V_aload_n (pc := 375) C 2 rfl dL_law_375 ?_
  obtain ⟨M4, r5, hc6, h⟩ := cal_of h
  refine V_callVI (pc := 376) C (c_X12_runScript l Γ sk hsk.m fu hc6) cf_X12_runScript lk_L_141 ⟨rfl, rfl⟩ ⟨Nat.le_of_ble_eq_true rfl, Nat.le_of_ble_eq_true rfl⟩ e52 rfl rfl rfl (Nat.le_of_ble_eq_true rfl) hf0 rfl dL_law_376 (fun hr5 => ?_)
  refine V_icmp_eq (pc := 379) C 2654 hr2 hr5 dL_law_379 (by decide) (fun c379_7 => ?_) (fun c379_7 => ?_)
  · have h := ite_t h c379_7
    refine V_sub (L' := [(0, vr Γ 2), (1, vr Γ 3), (2, vr Γ 52), (3, vr Γ 65), (4, vi x4)]) [0, 1, 2, 3, 4] rfl (by decide) ?_
    refine V_room (Nat.le_succ _) (Nat.le_add_right _ 6) ?_
    cases h
    exact kk
  · have h := ite_f h c379_7
    refine V_iconst (pc := 382) C dL_law_382 ?_
    cases h
set_option maxRecDepth 100000 in
set_option maxHeartbeats 4000000 in
theorem c_L_case4 (l : Launch) (Γ : GG) (sk : List SD) (hsk : ExtL sk) (hl9 : l.stackTraces = false) (fu : Nat) {nS : Nat} (hs2 : sk[2]? = some (.inl (0, nS))) (hnS : nS ≤ 2147483647) {M M' : Mem} {x4 r : Int} (hx4 : rng x4) (hM : mR M) (h : f_L_case4 fu nS M x4 = some (M', r)) {p : Program} {e : Env} {s : State} {m : MethodId} {args : Array Value} {below : List Frame} {meth : Method} {c : Code} {Q : State → Prop} {cells slots : Nat} (hf1 : cells + 1 ≤ room_1.cells ∧ slots + 6 ≤ room_1.slots) (C : CX p s m args c cL_law 9 RL Γ sk) (kk : VV p l e room_1 s m args below meth c Q 9 Γ sk M' (cells + 1) (slots + 6) 2654 [(0, vr Γ 2), (1, vr Γ 3), (2, vr Γ 52), (3, vr Γ 65), (4, vi x4)] []) : VV p l e room_1 s m args below meth c Q 9 Γ sk M cells slots 384 [(0, vr Γ 2), (1, vr Γ 3), (2, vr Γ 52), (3, vr Γ 65), (4, vi x4)] [] := by
  unfold f_L_case4 at h
  have hf0 : cells ≤ room_1.cells ∧ slots ≤ room_1.slots := ⟨Nat.le_of_succ_le hf1.1, Nat.le_trans (Nat.le_add_right _ 6) hf1.2⟩
  have e3 := hsk 3 _ (by decide) rfl
  have e52 := hsk 52 _ (by decide) rfl
  refine V_aload_n (pc := 384) C 1 rfl dL_law_384 ?_
  obtain ⟨M1, r2, hc3, h⟩ := cal_of h
  refine V_callVI (pc := 385) C (c_X11_errorCode l Γ sk hsk.m.c fu hc3) cf_X11_errorCode lk_L_142 ⟨rfl, rfl⟩ ⟨Nat.le_of_ble_eq_true rfl, Nat.le_of_ble_eq_true rfl⟩ e3 rfl rfl rfl (Nat.le_of_ble_eq_true rfl) hf0 rfl dL_law_385 (fun hr2 => ?_)
  refine V_aload_n (pc := 388) C 2 rfl dL_law_388 ?_
  obtain ⟨M4, r5, hc6, h⟩ := cal_of h
  refine V_callVI (pc := 389) C (c_X12_errorCode l Γ sk hsk.m fu hc6) cf_X12_errorCode lk_L_145 ⟨rfl, rfl⟩ ⟨Nat.le_of_ble_eq_true rfl, Nat.le_of_ble_eq_true rfl⟩ e52 rfl rfl rfl (Nat.le_of_ble_eq_true rfl) hf0 rfl dL_law_389 (fun hr5 => ?_)
  refine V_icmp_eq (pc := 392) C 2654 hr2 hr5 dL_law_392 (by decide) (fun c392_7 => ?_) (fun c392_7 => ?_)
  · have h := ite_t h c392_7
    refine V_sub (L' := [(0, vr Γ 2), (1, vr Γ 3), (2, vr Γ 52), (3, vr Γ 65), (4, vi x4)]) [0, 1, 2, 3, 4] rfl (by decide) ?_
    refine V_room (Nat.le_succ _) (Nat.le_add_right _ 6) ?_
    cases h
    exact kk
  · have h := ite_f h c392_7
    refine V_iconst (pc := 395) C dL_law_395 ?_
    cases h
set_option maxRecDepth 100000 in
set_option maxHeartbeats 4000000 in
theorem c_L_case5 (l : Launch) (Γ : GG) (sk : List SD) (hsk : ExtL sk) (hl9 : l.stackTraces = false) (fu : Nat) {nS : Nat} (hs2 : sk[2]? = some (.inl (0, nS))) (hnS : nS ≤ 2147483647) {M M' : Mem} {x4 r : Int} (hx4 : rng x4) (hM : mR M) (h : f_L_case5 fu nS M x4 = some (M', r)) {p : Program} {e : Env} {s : State} {m : MethodId} {args : Array Value} {below : List Frame} {meth : Method} {c : Code} {Q : State → Prop} {cells slots : Nat} (hf1 : cells + 1 ≤ room_1.cells ∧ slots + 6 ≤ room_1.slots) (C : CX p s m args c cL_law 9 RL Γ sk) (kk : VV p l e room_1 s m args below meth c Q 9 Γ sk M' (cells + 1) (slots + 6) 2654 [(0, vr Γ 2), (1, vr Γ 3), (2, vr Γ 52), (3, vr Γ 65), (4, vi x4)] []) : VV p l e room_1 s m args below meth c Q 9 Γ sk M cells slots 397 [(0, vr Γ 2), (1, vr Γ 3), (2, vr Γ 52), (3, vr Γ 65), (4, vi x4)] [] := by
  unfold f_L_case5 at h
  have hf0 : cells ≤ room_1.cells ∧ slots ≤ room_1.slots := ⟨Nat.le_of_succ_le hf1.1, Nat.le_trans (Nat.le_add_right _ 6) hf1.2⟩
  have e3 := hsk 3 _ (by decide) rfl
  have e52 := hsk 52 _ (by decide) rfl
  refine V_aload_n (pc := 397) C 1 rfl dL_law_397 ?_
  obtain ⟨M1, r2, hc3, h⟩ := cal_of h
  refine V_callVI (pc := 398) C (c_X11_errorOffset l Γ sk hsk.m.c fu hc3) cf_X11_errorOffset lk_L_146 ⟨rfl, rfl⟩ ⟨Nat.le_of_ble_eq_true rfl, Nat.le_of_ble_eq_true rfl⟩ e3 rfl rfl rfl (Nat.le_of_ble_eq_true rfl) hf0 rfl dL_law_398 (fun hr2 => ?_)
  refine V_aload_n (pc := 401) C 2 rfl dL_law_401 ?_
  obtain ⟨M4, r5, hc6, h⟩ := cal_of h
  refine V_callVI (pc := 402) C (c_X12_errorOffset l Γ sk hsk.m fu hc6) cf_X12_errorOffset lk_L_149 ⟨rfl, rfl⟩ ⟨Nat.le_of_ble_eq_true rfl, Nat.le_of_ble_eq_true rfl⟩ e52 rfl rfl rfl (Nat.le_of_ble_eq_true rfl) hf0 rfl dL_law_402 (fun hr5 => ?_)
  refine V_icmp_eq (pc := 405) C 2654 hr2 hr5 dL_law_405 (by decide) (fun c405_7 => ?_) (fun c405_7 => ?_)
  · have h := ite_t h c405_7
    refine V_sub (L' := [(0, vr Γ 2), (1, vr Γ 3), (2, vr Γ 52), (3, vr Γ 65), (4, vi x4)]) [0, 1, 2, 3, 4] rfl (by decide) ?_
    refine V_room (Nat.le_succ _) (Nat.le_add_right _ 6) ?_
    cases h
    exact kk
  · have h := ite_f h c405_7
    refine V_iconst (pc := 408) C dL_law_408 ?_
    cases h
set_option maxRecDepth 100000 in
set_option maxHeartbeats 4000000 in
theorem c_L_case6 (l : Launch) (Γ : GG) (sk : List SD) (hsk : ExtL sk) (hl9 : l.stackTraces = false) (fu : Nat) {nS : Nat} (hs2 : sk[2]? = some (.inl (0, nS))) (hnS : nS ≤ 2147483647) {M M' : Mem} {x4 r : Int} (hx4 : rng x4) (hM : mR M) (h : f_L_case6 fu nS M x4 = some (M', r)) {p : Program} {e : Env} {s : State} {m : MethodId} {args : Array Value} {below : List Frame} {meth : Method} {c : Code} {Q : State → Prop} {cells slots : Nat} (hf1 : cells + 1 ≤ room_1.cells ∧ slots + 6 ≤ room_1.slots) (C : CX p s m args c cL_law 9 RL Γ sk) (kk : VV p l e room_1 s m args below meth c Q 9 Γ sk M' (cells + 1) (slots + 6) 2654 [(0, vr Γ 2), (1, vr Γ 3), (2, vr Γ 52), (3, vr Γ 65), (4, vi x4)] []) : VV p l e room_1 s m args below meth c Q 9 Γ sk M cells slots 410 [(0, vr Γ 2), (1, vr Γ 3), (2, vr Γ 52), (3, vr Γ 65), (4, vi x4)] [] := by
  unfold f_L_case6 at h
  have hf0 : cells ≤ room_1.cells ∧ slots ≤ room_1.slots := ⟨Nat.le_of_succ_le hf1.1, Nat.le_trans (Nat.le_add_right _ 6) hf1.2⟩
  have e3 := hsk 3 _ (by decide) rfl
  have e52 := hsk 52 _ (by decide) rfl
  refine V_aload_n (pc := 410) C 1 rfl dL_law_410 ?_
  obtain ⟨M1, r2, hc3, h⟩ := cal_of h
  refine V_callVI (pc := 411) C (c_X11_versionCount l Γ sk hsk.m.c fu hc3) cf_X11_versionCount lk_L_150 ⟨rfl, rfl⟩ ⟨Nat.le_of_ble_eq_true rfl, Nat.le_of_ble_eq_true rfl⟩ e3 rfl rfl rfl (Nat.le_of_ble_eq_true rfl) hf0 rfl dL_law_411 (fun hr2 => ?_)
  refine V_aload_n (pc := 414) C 2 rfl dL_law_414 ?_
  obtain ⟨M4, r5, hc6, h⟩ := cal_of h
  refine V_callVI (pc := 415) C (c_X12_versionCount l Γ sk hsk.m fu hc6) cf_X12_versionCount lk_L_153 ⟨rfl, rfl⟩ ⟨Nat.le_of_ble_eq_true rfl, Nat.le_of_ble_eq_true rfl⟩ e52 rfl rfl rfl (Nat.le_of_ble_eq_true rfl) hf0 rfl dL_law_415 (fun hr5 => ?_)
  refine V_icmp_eq (pc := 418) C 2654 hr2 hr5 dL_law_418 (by decide) (fun c418_7 => ?_) (fun c418_7 => ?_)
  · have h := ite_t h c418_7
    refine V_sub (L' := [(0, vr Γ 2), (1, vr Γ 3), (2, vr Γ 52), (3, vr Γ 65), (4, vi x4)]) [0, 1, 2, 3, 4] rfl (by decide) ?_
    refine V_room (Nat.le_succ _) (Nat.le_add_right _ 6) ?_
    cases h
    exact kk
  · have h := ite_f h c418_7
    refine V_iconst (pc := 421) C dL_law_421 ?_
    cases h
set_option maxRecDepth 100000 in
set_option maxHeartbeats 4000000 in
theorem c_L_case7 (l : Launch) (Γ : GG) (sk : List SD) (hsk : ExtL sk) (hl9 : l.stackTraces = false) (fu : Nat) {nS : Nat} (hs2 : sk[2]? = some (.inl (0, nS))) (hnS : nS ≤ 2147483647) {M M' : Mem} {x4 r : Int} (hx4 : rng x4) (hM : mR M) (h : f_L_case7 fu nS M x4 = some (M', r)) {p : Program} {e : Env} {s : State} {m : MethodId} {args : Array Value} {below : List Frame} {meth : Method} {c : Code} {Q : State → Prop} {cells slots : Nat} (hf1 : cells + 1 ≤ room_1.cells ∧ slots + 6 ≤ room_1.slots) (C : CX p s m args c cL_law 9 RL Γ sk) (kk : VV p l e room_1 s m args below meth c Q 9 Γ sk M' (cells + 1) (slots + 6) 2654 [(0, vr Γ 2), (1, vr Γ 3), (2, vr Γ 52), (3, vr Γ 65), (4, vi x4)] []) : VV p l e room_1 s m args below meth c Q 9 Γ sk M cells slots 423 [(0, vr Γ 2), (1, vr Γ 3), (2, vr Γ 52), (3, vr Γ 65), (4, vi x4)] [] := by
  unfold f_L_case7 at h
  have hf0 : cells ≤ room_1.cells ∧ slots ≤ room_1.slots := ⟨Nat.le_of_succ_le hf1.1, Nat.le_trans (Nat.le_add_right _ 6) hf1.2⟩
  have e3 := hsk 3 _ (by decide) rfl
  have e52 := hsk 52 _ (by decide) rfl
  refine V_aload_n (pc := 423) C 1 rfl dL_law_423 ?_
  obtain ⟨M1, r2, hc3, h⟩ := cal_of h
  refine V_callVI (pc := 424) C (c_X11_liveCount l Γ sk hsk.m.c fu hc3) cf_X11_liveCount lk_L_154 ⟨rfl, rfl⟩ ⟨Nat.le_of_ble_eq_true rfl, Nat.le_of_ble_eq_true rfl⟩ e3 rfl rfl rfl (Nat.le_of_ble_eq_true rfl) hf0 rfl dL_law_424 (fun hr2 => ?_)
  refine V_aload_n (pc := 427) C 2 rfl dL_law_427 ?_
  obtain ⟨M4, r5, hc6, h⟩ := cal_of h
  refine V_callVI (pc := 428) C (c_X12_liveCount l Γ sk hsk.m fu hc6) cf_X12_liveCount lk_L_157 ⟨rfl, rfl⟩ ⟨Nat.le_of_ble_eq_true rfl, Nat.le_of_ble_eq_true rfl⟩ e52 rfl rfl rfl (Nat.le_of_ble_eq_true rfl) hf0 rfl dL_law_428 (fun hr5 => ?_)
  refine V_icmp_eq (pc := 431) C 2654 hr2 hr5 dL_law_431 (by decide) (fun c431_7 => ?_) (fun c431_7 => ?_)
  · have h := ite_t h c431_7
    refine V_sub (L' := [(0, vr Γ 2), (1, vr Γ 3), (2, vr Γ 52), (3, vr Γ 65), (4, vi x4)]) [0, 1, 2, 3, 4] rfl (by decide) ?_
    refine V_room (Nat.le_succ _) (Nat.le_add_right _ 6) ?_
    cases h
    exact kk
  · have h := ite_f h c431_7
    refine V_iconst (pc := 434) C dL_law_434 ?_
    cases h
set_option maxRecDepth 100000 in
set_option maxHeartbeats 4000000 in
theorem c_L_case8 (l : Launch) (Γ : GG) (sk : List SD) (hsk : ExtL sk) (hl9 : l.stackTraces = false) (fu : Nat) {nS : Nat} (hs2 : sk[2]? = some (.inl (0, nS))) (hnS : nS ≤ 2147483647) {M M' : Mem} {x4 r : Int} (hx4 : rng x4) (hM : mR M) (h : f_L_case8 fu nS M x4 = some (M', r)) {p : Program} {e : Env} {s : State} {m : MethodId} {args : Array Value} {below : List Frame} {meth : Method} {c : Code} {Q : State → Prop} {cells slots : Nat} (hf1 : cells + 1 ≤ room_1.cells ∧ slots + 6 ≤ room_1.slots) (C : CX p s m args c cL_law 9 RL Γ sk) (kk : VV p l e room_1 s m args below meth c Q 9 Γ sk M' (cells + 1) (slots + 6) 2654 [(0, vr Γ 2), (1, vr Γ 3), (2, vr Γ 52), (3, vr Γ 65), (4, vi x4)] []) : VV p l e room_1 s m args below meth c Q 9 Γ sk M cells slots 436 [(0, vr Γ 2), (1, vr Γ 3), (2, vr Γ 52), (3, vr Γ 65), (4, vi x4)] [] := by
  unfold f_L_case8 at h
  have hf0 : cells ≤ room_1.cells ∧ slots ≤ room_1.slots := ⟨Nat.le_of_succ_le hf1.1, Nat.le_trans (Nat.le_add_right _ 6) hf1.2⟩
  have e52 := hsk 52 _ (by decide) rfl
  have e65 := hsk 65 _ (by decide) rfl
  refine V_aload_n (pc := 436) C 1 rfl dL_law_436 ?_
  refine V_aload_n (pc := 437) C 0 rfl dL_law_437 ?_
  refine V_iload (pc := 438) C 4 rfl dL_law_438 ?_
  refine V_iconst (pc := 440) C dL_law_440 ?_
  refine V_iadd (pc := 441) C dL_law_441 ?_
  obtain ⟨g1, h⟩ := grd_of h
  obtain ⟨g2, h⟩ := grd_of h
  refine V_iald (pc := 442) C hs2 g2 g1 dL_law_442 ?_
  refine V_aload_n (pc := 443) C 3 rfl dL_law_443 ?_
  obtain ⟨M3, r4, hc5, h⟩ := cal_of h
  refine V_callH (pc := 444) C (c_L_isReleased l Γ sk hsk hl9 fu (hM _ _) hc5) chf_L_isReleased lk_L_158 ⟨rfl, rfl⟩ ⟨Nat.le_of_ble_eq_true rfl, Nat.le_of_ble_eq_true rfl⟩ rfl (Nat.le_of_ble_eq_true rfl) hf1 rfl dL_law_444 (fun hr4 => ?_)
  refine V_istore (pc := 447) C (L' := [(0, vr Γ 2), (1, vr Γ 3), (2, vr Γ 52), (3, vr Γ 65), (4, vi x4), (5, vi r4)]) rfl (by decide) dL_law_447 ?_
  refine V_aload_n (pc := 449) C 2 rfl dL_law_449 ?_
  refine V_aload_n (pc := 450) C 0 rfl dL_law_450 ?_
  refine V_iload (pc := 451) C 4 rfl dL_law_451 ?_
  refine V_iconst (pc := 453) C dL_law_453 ?_
  refine V_iadd (pc := 454) C dL_law_454 ?_
  refine V_rng fun hM6 => ?_
  obtain ⟨g7, h⟩ := grd_of h
  obtain ⟨g8, h⟩ := grd_of h
  refine V_iald (pc := 455) C hs2 g8 g7 dL_law_455 ?_
  obtain ⟨M9, r10, hc11, h⟩ := cal_of h
  refine V_callVI (pc := 456) C (c_X12_isReleased l Γ sk hsk.m fu (hM6 _ _) hc11) cf_X12_isReleased lk_L_163 ⟨rfl, rfl⟩ ⟨Nat.le_of_ble_eq_true rfl, Nat.le_of_ble_eq_true rfl⟩ e52 rfl rfl rfl (Nat.le_of_ble_eq_true rfl) hf1 rfl dL_law_456 (fun hr10 => ?_)
  refine V_istore (pc := 459) C (L' := [(0, vr Γ 2), (1, vr Γ 3), (2, vr Γ 52), (3, vr Γ 65), (4, vi x4), (5, vi r4), (6, vi r10)]) rfl (by decide) dL_law_459 ?_
  refine V_aload_n (pc := 461) C 2 rfl dL_law_461 ?_
  obtain ⟨M12, r13, hc14, h⟩ := cal_of h
  refine V_callVI (pc := 462) C (c_X12_thrown l Γ sk hsk.m fu hc14) cf_X12_thrown lk_L_164 ⟨rfl, rfl⟩ ⟨Nat.le_of_ble_eq_true rfl, Nat.le_of_ble_eq_true rfl⟩ e52 rfl rfl rfl (Nat.le_of_ble_eq_true rfl) hf1 rfl dL_law_462 (fun hr13 => ?_)
  refine V_iload (pc := 465) C 5 rfl dL_law_465 ?_
  refine V_icmp_eq (pc := 467) C 472 hr13 hr4 dL_law_467 (by decide) (fun c467_15 => ?_) (fun c467_15 => ?_)
  · have h := ite_t h c467_15
    refine V_iload (pc := 472) C 5 rfl dL_law_472 ?_
    refine V_if_ne (pc := 474) C 496 hr4 dL_law_474 (by decide) (fun c474_16 => ?_) (fun c474_16 => ?_)
    · have h := ite_f h c474_16
      refine V_goto (pc := 496) C 2654 dL_law_496 (by decide) ?_
      refine V_sub (L' := [(0, vr Γ 2), (1, vr Γ 3), (2, vr Γ 52), (3, vr Γ 65), (4, vi x4)]) [0, 1, 2, 3, 4] rfl (by decide) ?_
      cases h
      exact kk
    · have h := ite_t h c474_16
      refine V_aload_n (pc := 477) C 3 rfl dL_law_477 ?_
      refine V_iconst (pc := 478) C dL_law_478 ?_
      refine V_rng fun hM17 => ?_
      refine V_lald (pc := 479) C e65 (by decide) (by decide) dL_law_479 ?_
      refine V_iload (pc := 480) C 6 rfl dL_law_480 ?_
      refine V_if_eq (pc := 482) C 489 hr10 dL_law_482 (by decide) (fun c482_18 => ?_) (fun c482_18 => ?_)
      · have h := ite_t h c482_18
        refine V_lconst (pc := 489) C (x := (0 : Int)) dL_law_489 rfl ?_
        refine V_lcmp (pc := 490) C (hM17 _ _) (by decide) dL_law_490 ?_
        refine V_if_eq (pc := 491) C 496 (lcmp_rng _ _) dL_law_491 (by decide) (fun c491_19 => ?_) (fun c491_19 => ?_)
        · have h := ite_t h c491_19
          refine V_goto (pc := 496) C 2654 dL_law_496 (by decide) ?_
          refine V_sub (L' := [(0, vr Γ 2), (1, vr Γ 3), (2, vr Γ 52), (3, vr Γ 65), (4, vi x4)]) [0, 1, 2, 3, 4] rfl (by decide) ?_
          cases h
          exact kk
        · have h := ite_f h c491_19
          refine V_iconst (pc := 494) C dL_law_494 ?_
          cases h
      · have h := ite_f h c482_18
        refine V_lconst (pc := 485) C (x := (1 : Int)) dL_law_485 rfl ?_
        refine V_goto (pc := 486) C 490 dL_law_486 (by decide) ?_
        refine V_lcmp (pc := 490) C (hM17 _ _) (by decide) dL_law_490 ?_
        refine V_if_eq (pc := 491) C 496 (lcmp_rng _ _) dL_law_491 (by decide) (fun c491_20 => ?_) (fun c491_20 => ?_)
        · have h := ite_t h c491_20
          refine V_goto (pc := 496) C 2654 dL_law_496 (by decide) ?_
          refine V_sub (L' := [(0, vr Γ 2), (1, vr Γ 3), (2, vr Γ 52), (3, vr Γ 65), (4, vi x4)]) [0, 1, 2, 3, 4] rfl (by decide) ?_
          cases h
          exact kk
        · have h := ite_f h c491_20
          refine V_iconst (pc := 494) C dL_law_494 ?_
          cases h
  · have h := ite_f h c467_15
    refine V_iconst (pc := 470) C dL_law_470 ?_
    cases h
set_option maxRecDepth 100000 in
set_option maxHeartbeats 4000000 in
theorem c_L_case9 (l : Launch) (Γ : GG) (sk : List SD) (hsk : ExtL sk) (hl9 : l.stackTraces = false) (fu : Nat) {nS : Nat} (hs2 : sk[2]? = some (.inl (0, nS))) (hnS : nS ≤ 2147483647) {M M' : Mem} {x4 r : Int} (hx4 : rng x4) (hM : mR M) (h : f_L_case9 fu nS M x4 = some (M', r)) {p : Program} {e : Env} {s : State} {m : MethodId} {args : Array Value} {below : List Frame} {meth : Method} {c : Code} {Q : State → Prop} {cells slots : Nat} (hf1 : cells + 1 ≤ room_1.cells ∧ slots + 6 ≤ room_1.slots) (C : CX p s m args c cL_law 9 RL Γ sk) (kk : VV p l e room_1 s m args below meth c Q 9 Γ sk M' (cells + 1) (slots + 6) 2654 [(0, vr Γ 2), (1, vr Γ 3), (2, vr Γ 52), (3, vr Γ 65), (4, vi x4)] []) : VV p l e room_1 s m args below meth c Q 9 Γ sk M cells slots 499 [(0, vr Γ 2), (1, vr Γ 3), (2, vr Γ 52), (3, vr Γ 65), (4, vi x4)] [] := by
  unfold f_L_case9 at h
  have hf0 : cells ≤ room_1.cells ∧ slots ≤ room_1.slots := ⟨Nat.le_of_succ_le hf1.1, Nat.le_trans (Nat.le_add_right _ 6) hf1.2⟩
  have e52 := hsk 52 _ (by decide) rfl
  have e65 := hsk 65 _ (by decide) rfl
  refine V_aload_n (pc := 499) C 1 rfl dL_law_499 ?_
  refine V_aload_n (pc := 500) C 0 rfl dL_law_500 ?_
  refine V_iload (pc := 501) C 4 rfl dL_law_501 ?_
  refine V_iconst (pc := 503) C dL_law_503 ?_
  refine V_iadd (pc := 504) C dL_law_504 ?_
  obtain ⟨g1, h⟩ := grd_of h
  obtain ⟨g2, h⟩ := grd_of h
  refine V_iald (pc := 505) C hs2 g2 g1 dL_law_505 ?_
  refine V_aload_n (pc := 506) C 3 rfl dL_law_506 ?_
  obtain ⟨M3, r4, hc5, h⟩ := cal_of h
  refine V_callH (pc := 507) C (c_L_parentOf l Γ sk hsk hl9 fu (hM _ _) hc5) chf_L_parentOf lk_L_167 ⟨rfl, rfl⟩ ⟨Nat.le_of_ble_eq_true rfl, Nat.le_of_ble_eq_true rfl⟩ rfl (Nat.le_of_ble_eq_true rfl) hf1 rfl dL_law_507 (fun hr4 => ?_)
  refine V_istore (pc := 510) C (L' := [(0, vr Γ 2), (1, vr Γ 3), (2, vr Γ 52), (3, vr Γ 65), (4, vi x4), (5, vi r4)]) rfl (by decide) dL_law_510 ?_
  refine V_aload_n (pc := 512) C 2 rfl dL_law_512 ?_
  refine V_aload_n (pc := 513) C 0 rfl dL_law_513 ?_
  refine V_iload (pc := 514) C 4 rfl dL_law_514 ?_
  refine V_iconst (pc := 516) C dL_law_516 ?_
  refine V_iadd (pc := 517) C dL_law_517 ?_
  refine V_rng fun hM6 => ?_
  obtain ⟨g7, h⟩ := grd_of h
  obtain ⟨g8, h⟩ := grd_of h
  refine V_iald (pc := 518) C hs2 g8 g7 dL_law_518 ?_
  obtain ⟨M9, r10, hc11, h⟩ := cal_of h
  refine V_callVI (pc := 519) C (c_X12_parentOf l Γ sk hsk.m fu (hM6 _ _) hc11) cf_X12_parentOf lk_L_169 ⟨rfl, rfl⟩ ⟨Nat.le_of_ble_eq_true rfl, Nat.le_of_ble_eq_true rfl⟩ e52 rfl rfl rfl (Nat.le_of_ble_eq_true rfl) hf1 rfl dL_law_519 (fun hr10 => ?_)
  refine V_istore (pc := 522) C (L' := [(0, vr Γ 2), (1, vr Γ 3), (2, vr Γ 52), (3, vr Γ 65), (4, vi x4), (5, vi r4), (6, vi r10)]) rfl (by decide) dL_law_522 ?_
  refine V_aload_n (pc := 524) C 2 rfl dL_law_524 ?_
  obtain ⟨M12, r13, hc14, h⟩ := cal_of h
  refine V_callVI (pc := 525) C (c_X12_thrown l Γ sk hsk.m fu hc14) cf_X12_thrown lk_L_164 ⟨rfl, rfl⟩ ⟨Nat.le_of_ble_eq_true rfl, Nat.le_of_ble_eq_true rfl⟩ e52 rfl rfl rfl (Nat.le_of_ble_eq_true rfl) hf1 rfl dL_law_525 (fun hr13 => ?_)
  refine V_iload (pc := 528) C 5 rfl dL_law_528 ?_
  refine V_icmp_eq (pc := 530) C 535 hr13 hr4 dL_law_530 (by decide) (fun c530_15 => ?_) (fun c530_15 => ?_)
  · have h := ite_t h c530_15
    refine V_iload (pc := 535) C 5 rfl dL_law_535 ?_
    refine V_if_ne (pc := 537) C 552 hr4 dL_law_537 (by decide) (fun c537_16 => ?_) (fun c537_16 => ?_)
    · have h := ite_f h c537_16
      refine V_goto (pc := 552) C 2654 dL_law_552 (by decide) ?_
      refine V_sub (L' := [(0, vr Γ 2), (1, vr Γ 3), (2, vr Γ 52), (3, vr Γ 65), (4, vi x4)]) [0, 1, 2, 3, 4] rfl (by decide) ?_
      cases h
      exact kk
    · have h := ite_t h c537_16
      refine V_aload_n (pc := 540) C 3 rfl dL_law_540 ?_
      refine V_iconst (pc := 541) C dL_law_541 ?_
      refine V_rng fun hM17 => ?_
      refine V_lald (pc := 542) C e65 (by decide) (by decide) dL_law_542 ?_
      refine V_iload (pc := 543) C 6 rfl dL_law_543 ?_
      refine V_i2l (pc := 545) C hr10 dL_law_545 ?_
      refine V_lcmp (pc := 546) C (hM17 _ _) hr10 dL_law_546 ?_
      refine V_if_eq (pc := 547) C 552 (lcmp_rng _ _) dL_law_547 (by decide) (fun c547_18 => ?_) (fun c547_18 => ?_)
      · have h := ite_t h c547_18
        refine V_goto (pc := 552) C 2654 dL_law_552 (by decide) ?_
        refine V_sub (L' := [(0, vr Γ 2), (1, vr Γ 3), (2, vr Γ 52), (3, vr Γ 65), (4, vi x4)]) [0, 1, 2, 3, 4] rfl (by decide) ?_
        cases h
        exact kk
      · have h := ite_f h c547_18
        refine V_iconst (pc := 550) C dL_law_550 ?_
        cases h
  · have h := ite_f h c530_15
    refine V_iconst (pc := 533) C dL_law_533 ?_
    cases h
set_option maxRecDepth 100000 in
set_option maxHeartbeats 4000000 in
theorem c_L_case10 (l : Launch) (Γ : GG) (sk : List SD) (hsk : ExtL sk) (hl9 : l.stackTraces = false) (fu : Nat) {nS : Nat} (hs2 : sk[2]? = some (.inl (0, nS))) (hnS : nS ≤ 2147483647) {M M' : Mem} {x4 r : Int} (hx4 : rng x4) (hM : mR M) (h : f_L_case10 fu nS M x4 = some (M', r)) {p : Program} {e : Env} {s : State} {m : MethodId} {args : Array Value} {below : List Frame} {meth : Method} {c : Code} {Q : State → Prop} {cells slots : Nat} (hf1 : cells + 1 ≤ room_1.cells ∧ slots + 6 ≤ room_1.slots) (C : CX p s m args c cL_law 9 RL Γ sk) (kk : VV p l e room_1 s m args below meth c Q 9 Γ sk M' (cells + 1) (slots + 6) 2654 [(0, vr Γ 2), (1, vr Γ 3), (2, vr Γ 52), (3, vr Γ 65), (4, vi x4)] []) : VV p l e room_1 s m args below meth c Q 9 Γ sk M cells slots 555 [(0, vr Γ 2), (1, vr Γ 3), (2, vr Γ 52), (3, vr Γ 65), (4, vi x4)] [] := by
  unfold f_L_case10 at h
  have hf0 : cells ≤ room_1.cells ∧ slots ≤ room_1.slots := ⟨Nat.le_of_succ_le hf1.1, Nat.le_trans (Nat.le_add_right _ 6) hf1.2⟩
  have e52 := hsk 52 _ (by decide) rfl
  have e65 := hsk 65 _ (by decide) rfl
  refine V_aload_n (pc := 555) C 1 rfl dL_law_555 ?_
  refine V_aload_n (pc := 556) C 0 rfl dL_law_556 ?_
  refine V_iload (pc := 557) C 4 rfl dL_law_557 ?_
  refine V_iconst (pc := 559) C dL_law_559 ?_
  refine V_iadd (pc := 560) C dL_law_560 ?_
  obtain ⟨g1, h⟩ := grd_of h
  obtain ⟨g2, h⟩ := grd_of h
  refine V_iald (pc := 561) C hs2 g2 g1 dL_law_561 ?_
  refine V_aload_n (pc := 562) C 3 rfl dL_law_562 ?_
  obtain ⟨M3, r4, hc5, h⟩ := cal_of h
  refine V_callH (pc := 563) C (c_L_depthOf l Γ sk hsk hl9 fu (hM _ _) hc5) chf_L_depthOf lk_L_170 ⟨rfl, rfl⟩ ⟨Nat.le_of_ble_eq_true rfl, Nat.le_of_ble_eq_true rfl⟩ rfl (Nat.le_of_ble_eq_true rfl) hf1 rfl dL_law_563 (fun hr4 => ?_)
  refine V_istore (pc := 566) C (L' := [(0, vr Γ 2), (1, vr Γ 3), (2, vr Γ 52), (3, vr Γ 65), (4, vi x4), (5, vi r4)]) rfl (by decide) dL_law_566 ?_
  refine V_aload_n (pc := 568) C 2 rfl dL_law_568 ?_
  refine V_aload_n (pc := 569) C 0 rfl dL_law_569 ?_
  refine V_iload (pc := 570) C 4 rfl dL_law_570 ?_
  refine V_iconst (pc := 572) C dL_law_572 ?_
  refine V_iadd (pc := 573) C dL_law_573 ?_
  refine V_rng fun hM6 => ?_
  obtain ⟨g7, h⟩ := grd_of h
  obtain ⟨g8, h⟩ := grd_of h
  refine V_iald (pc := 574) C hs2 g8 g7 dL_law_574 ?_
  obtain ⟨M9, r10, hc11, h⟩ := cal_of h
  refine V_callVI (pc := 575) C (c_X12_depthOf l Γ sk hsk.m fu (hM6 _ _) hc11) cf_X12_depthOf lk_L_172 ⟨rfl, rfl⟩ ⟨Nat.le_of_ble_eq_true rfl, Nat.le_of_ble_eq_true rfl⟩ e52 rfl rfl rfl (Nat.le_of_ble_eq_true rfl) hf1 rfl dL_law_575 (fun hr10 => ?_)
  refine V_istore (pc := 578) C (L' := [(0, vr Γ 2), (1, vr Γ 3), (2, vr Γ 52), (3, vr Γ 65), (4, vi x4), (5, vi r4), (6, vi r10)]) rfl (by decide) dL_law_578 ?_
  refine V_aload_n (pc := 580) C 2 rfl dL_law_580 ?_
  obtain ⟨M12, r13, hc14, h⟩ := cal_of h
  refine V_callVI (pc := 581) C (c_X12_thrown l Γ sk hsk.m fu hc14) cf_X12_thrown lk_L_164 ⟨rfl, rfl⟩ ⟨Nat.le_of_ble_eq_true rfl, Nat.le_of_ble_eq_true rfl⟩ e52 rfl rfl rfl (Nat.le_of_ble_eq_true rfl) hf1 rfl dL_law_581 (fun hr13 => ?_)
  refine V_iload (pc := 584) C 5 rfl dL_law_584 ?_
  refine V_icmp_eq (pc := 586) C 591 hr13 hr4 dL_law_586 (by decide) (fun c586_15 => ?_) (fun c586_15 => ?_)
  · have h := ite_t h c586_15
    refine V_iload (pc := 591) C 5 rfl dL_law_591 ?_
    refine V_if_ne (pc := 593) C 608 hr4 dL_law_593 (by decide) (fun c593_16 => ?_) (fun c593_16 => ?_)
    · have h := ite_f h c593_16
      refine V_goto (pc := 608) C 2654 dL_law_608 (by decide) ?_
      refine V_sub (L' := [(0, vr Γ 2), (1, vr Γ 3), (2, vr Γ 52), (3, vr Γ 65), (4, vi x4)]) [0, 1, 2, 3, 4] rfl (by decide) ?_
      cases h
      exact kk
    · have h := ite_t h c593_16
      refine V_aload_n (pc := 596) C 3 rfl dL_law_596 ?_
      refine V_iconst (pc := 597) C dL_law_597 ?_
      refine V_rng fun hM17 => ?_
      refine V_lald (pc := 598) C e65 (by decide) (by decide) dL_law_598 ?_
      refine V_iload (pc := 599) C 6 rfl dL_law_599 ?_
      refine V_i2l (pc := 601) C hr10 dL_law_601 ?_
      refine V_lcmp (pc := 602) C (hM17 _ _) hr10 dL_law_602 ?_
      refine V_if_eq (pc := 603) C 608 (lcmp_rng _ _) dL_law_603 (by decide) (fun c603_18 => ?_) (fun c603_18 => ?_)
      · have h := ite_t h c603_18
        refine V_goto (pc := 608) C 2654 dL_law_608 (by decide) ?_
        refine V_sub (L' := [(0, vr Γ 2), (1, vr Γ 3), (2, vr Γ 52), (3, vr Γ 65), (4, vi x4)]) [0, 1, 2, 3, 4] rfl (by decide) ?_
        cases h
        exact kk
      · have h := ite_f h c603_18
        refine V_iconst (pc := 606) C dL_law_606 ?_
        cases h
  · have h := ite_f h c586_15
    refine V_iconst (pc := 589) C dL_law_589 ?_
    cases h
set_option maxRecDepth 100000 in
set_option maxHeartbeats 4000000 in
theorem c_L_case11 (l : Launch) (Γ : GG) (sk : List SD) (hsk : ExtL sk) (hl9 : l.stackTraces = false) (fu : Nat) {nS : Nat} (hs2 : sk[2]? = some (.inl (0, nS))) (hnS : nS ≤ 2147483647) {M M' : Mem} {x4 r : Int} (hx4 : rng x4) (hM : mR M) (h : f_L_case11 fu nS M x4 = some (M', r)) {p : Program} {e : Env} {s : State} {m : MethodId} {args : Array Value} {below : List Frame} {meth : Method} {c : Code} {Q : State → Prop} {cells slots : Nat} (hf1 : cells + 1 ≤ room_1.cells ∧ slots + 6 ≤ room_1.slots) (C : CX p s m args c cL_law 9 RL Γ sk) (kk : VV p l e room_1 s m args below meth c Q 9 Γ sk M' (cells + 1) (slots + 6) 2654 [(0, vr Γ 2), (1, vr Γ 3), (2, vr Γ 52), (3, vr Γ 65), (4, vi x4)] []) : VV p l e room_1 s m args below meth c Q 9 Γ sk M cells slots 611 [(0, vr Γ 2), (1, vr Γ 3), (2, vr Γ 52), (3, vr Γ 65), (4, vi x4)] [] := by
  unfold f_L_case11 at h
  have hf0 : cells ≤ room_1.cells ∧ slots ≤ room_1.slots := ⟨Nat.le_of_succ_le hf1.1, Nat.le_trans (Nat.le_add_right _ 6) hf1.2⟩
  have e52 := hsk 52 _ (by decide) rfl
  have e65 := hsk 65 _ (by decide) rfl
  refine V_aload_n (pc := 611) C 1 rfl dL_law_611 ?_
  refine V_aload_n (pc := 612) C 0 rfl dL_law_612 ?_
  refine V_iload (pc := 613) C 4 rfl dL_law_613 ?_
  refine V_iconst (pc := 615) C dL_law_615 ?_
  refine V_iadd (pc := 616) C dL_law_616 ?_
  obtain ⟨g1, h⟩ := grd_of h
  obtain ⟨g2, h⟩ := grd_of h
  refine V_iald (pc := 617) C hs2 g2 g1 dL_law_617 ?_
  refine V_aload_n (pc := 618) C 3 rfl dL_law_618 ?_
  obtain ⟨M3, r4, hc5, h⟩ := cal_of h
  refine V_callH (pc := 619) C (c_L_childCount l Γ sk hsk hl9 fu (hM _ _) hc5) chf_L_childCount lk_L_173 ⟨rfl, rfl⟩ ⟨Nat.le_of_ble_eq_true rfl, Nat.le_of_ble_eq_true rfl⟩ rfl (Nat.le_of_ble_eq_true rfl) hf1 rfl dL_law_619 (fun hr4 => ?_)
  refine V_istore (pc := 622) C (L' := [(0, vr Γ 2), (1, vr Γ 3), (2, vr Γ 52), (3, vr Γ 65), (4, vi x4), (5, vi r4)]) rfl (by decide) dL_law_622 ?_
  refine V_aload_n (pc := 624) C 2 rfl dL_law_624 ?_
  refine V_aload_n (pc := 625) C 0 rfl dL_law_625 ?_
  refine V_iload (pc := 626) C 4 rfl dL_law_626 ?_
  refine V_iconst (pc := 628) C dL_law_628 ?_
  refine V_iadd (pc := 629) C dL_law_629 ?_
  refine V_rng fun hM6 => ?_
  obtain ⟨g7, h⟩ := grd_of h
  obtain ⟨g8, h⟩ := grd_of h
  refine V_iald (pc := 630) C hs2 g8 g7 dL_law_630 ?_
  obtain ⟨M9, r10, hc11, h⟩ := cal_of h
  refine V_callVI (pc := 631) C (c_X12_childCount l Γ sk hsk.m fu (hM6 _ _) hc11) cf_X12_childCount lk_L_175 ⟨rfl, rfl⟩ ⟨Nat.le_of_ble_eq_true rfl, Nat.le_of_ble_eq_true rfl⟩ e52 rfl rfl rfl (Nat.le_of_ble_eq_true rfl) hf1 rfl dL_law_631 (fun hr10 => ?_)
  refine V_istore (pc := 634) C (L' := [(0, vr Γ 2), (1, vr Γ 3), (2, vr Γ 52), (3, vr Γ 65), (4, vi x4), (5, vi r4), (6, vi r10)]) rfl (by decide) dL_law_634 ?_
  refine V_aload_n (pc := 636) C 2 rfl dL_law_636 ?_
  obtain ⟨M12, r13, hc14, h⟩ := cal_of h
  refine V_callVI (pc := 637) C (c_X12_thrown l Γ sk hsk.m fu hc14) cf_X12_thrown lk_L_164 ⟨rfl, rfl⟩ ⟨Nat.le_of_ble_eq_true rfl, Nat.le_of_ble_eq_true rfl⟩ e52 rfl rfl rfl (Nat.le_of_ble_eq_true rfl) hf1 rfl dL_law_637 (fun hr13 => ?_)
  refine V_iload (pc := 640) C 5 rfl dL_law_640 ?_
  refine V_icmp_eq (pc := 642) C 647 hr13 hr4 dL_law_642 (by decide) (fun c642_15 => ?_) (fun c642_15 => ?_)
  · have h := ite_t h c642_15
    refine V_iload (pc := 647) C 5 rfl dL_law_647 ?_
    refine V_if_ne (pc := 649) C 664 hr4 dL_law_649 (by decide) (fun c649_16 => ?_) (fun c649_16 => ?_)
    · have h := ite_f h c649_16
      refine V_goto (pc := 664) C 2654 dL_law_664 (by decide) ?_
      refine V_sub (L' := [(0, vr Γ 2), (1, vr Γ 3), (2, vr Γ 52), (3, vr Γ 65), (4, vi x4)]) [0, 1, 2, 3, 4] rfl (by decide) ?_
      cases h
      exact kk
    · have h := ite_t h c649_16
      refine V_aload_n (pc := 652) C 3 rfl dL_law_652 ?_
      refine V_iconst (pc := 653) C dL_law_653 ?_
      refine V_rng fun hM17 => ?_
      refine V_lald (pc := 654) C e65 (by decide) (by decide) dL_law_654 ?_
      refine V_iload (pc := 655) C 6 rfl dL_law_655 ?_
      refine V_i2l (pc := 657) C hr10 dL_law_657 ?_
      refine V_lcmp (pc := 658) C (hM17 _ _) hr10 dL_law_658 ?_
      refine V_if_eq (pc := 659) C 664 (lcmp_rng _ _) dL_law_659 (by decide) (fun c659_18 => ?_) (fun c659_18 => ?_)
      · have h := ite_t h c659_18
        refine V_goto (pc := 664) C 2654 dL_law_664 (by decide) ?_
        refine V_sub (L' := [(0, vr Γ 2), (1, vr Γ 3), (2, vr Γ 52), (3, vr Γ 65), (4, vi x4)]) [0, 1, 2, 3, 4] rfl (by decide) ?_
        cases h
        exact kk
      · have h := ite_f h c659_18
        refine V_iconst (pc := 662) C dL_law_662 ?_
        cases h
  · have h := ite_f h c642_15
    refine V_iconst (pc := 645) C dL_law_645 ?_
    cases h
set_option maxRecDepth 100000 in
set_option maxHeartbeats 4000000 in
theorem c_L_case12 (l : Launch) (Γ : GG) (sk : List SD) (hsk : ExtL sk) (hl9 : l.stackTraces = false) (fu : Nat) {nS : Nat} (hs2 : sk[2]? = some (.inl (0, nS))) (hnS : nS ≤ 2147483647) {M M' : Mem} {x4 r : Int} (hx4 : rng x4) (hM : mR M) (h : f_L_case12 fu nS M x4 = some (M', r)) {p : Program} {e : Env} {s : State} {m : MethodId} {args : Array Value} {below : List Frame} {meth : Method} {c : Code} {Q : State → Prop} {cells slots : Nat} (hf1 : cells + 1 ≤ room_1.cells ∧ slots + 6 ≤ room_1.slots) (C : CX p s m args c cL_law 9 RL Γ sk) (kk : VV p l e room_1 s m args below meth c Q 9 Γ sk M' (cells + 1) (slots + 6) 2654 [(0, vr Γ 2), (1, vr Γ 3), (2, vr Γ 52), (3, vr Γ 65), (4, vi x4)] []) : VV p l e room_1 s m args below meth c Q 9 Γ sk M cells slots 667 [(0, vr Γ 2), (1, vr Γ 3), (2, vr Γ 52), (3, vr Γ 65), (4, vi x4)] [] := by
  unfold f_L_case12 at h
  have hf0 : cells ≤ room_1.cells ∧ slots ≤ room_1.slots := ⟨Nat.le_of_succ_le hf1.1, Nat.le_trans (Nat.le_add_right _ 6) hf1.2⟩
  have e52 := hsk 52 _ (by decide) rfl
  have e65 := hsk 65 _ (by decide) rfl
  refine V_aload_n (pc := 667) C 1 rfl dL_law_667 ?_
  refine V_aload_n (pc := 668) C 0 rfl dL_law_668 ?_
  refine V_iload (pc := 669) C 4 rfl dL_law_669 ?_
  refine V_iconst (pc := 671) C dL_law_671 ?_
  refine V_iadd (pc := 672) C dL_law_672 ?_
  obtain ⟨g1, h⟩ := grd_of h
  obtain ⟨g2, h⟩ := grd_of h
  refine V_iald (pc := 673) C hs2 g2 g1 dL_law_673 ?_
  refine V_aload_n (pc := 674) C 0 rfl dL_law_674 ?_
  refine V_iload (pc := 675) C 4 rfl dL_law_675 ?_
  refine V_iconst (pc := 677) C dL_law_677 ?_
  refine V_iadd (pc := 678) C dL_law_678 ?_
  obtain ⟨g3, h⟩ := grd_of h
  obtain ⟨g4, h⟩ := grd_of h
  refine V_iald (pc := 679) C hs2 g4 g3 dL_law_679 ?_
  refine V_aload_n (pc := 680) C 3 rfl dL_law_680 ?_
  obtain ⟨M5, r6, hc7, h⟩ := cal_of h
  refine V_callH (pc := 681) C (c_L_commonAncestor l Γ sk hsk hl9 fu (hM _ _) (hM _ _) hc7) chf_L_commonAncestor lk_L_176 ⟨rfl, rfl⟩ ⟨Nat.le_of_ble_eq_true rfl, Nat.le_of_ble_eq_true rfl⟩ rfl (Nat.le_of_ble_eq_true rfl) hf1 rfl dL_law_681 (fun hr6 => ?_)
  refine V_istore (pc := 684) C (L' := [(0, vr Γ 2), (1, vr Γ 3), (2, vr Γ 52), (3, vr Γ 65), (4, vi x4), (5, vi r6)]) rfl (by decide) dL_law_684 ?_
  refine V_aload_n (pc := 686) C 2 rfl dL_law_686 ?_
  refine V_aload_n (pc := 687) C 0 rfl dL_law_687 ?_
  refine V_iload (pc := 688) C 4 rfl dL_law_688 ?_
  refine V_iconst (pc := 690) C dL_law_690 ?_
  refine V_iadd (pc := 691) C dL_law_691 ?_
  refine V_rng fun hM8 => ?_
  obtain ⟨g9, h⟩ := grd_of h
  obtain ⟨g10, h⟩ := grd_of h
  refine V_iald (pc := 692) C hs2 g10 g9 dL_law_692 ?_
  refine V_aload_n (pc := 693) C 0 rfl dL_law_693 ?_
  refine V_iload (pc := 694) C 4 rfl dL_law_694 ?_
  refine V_iconst (pc := 696) C dL_law_696 ?_
  refine V_iadd (pc := 697) C dL_law_697 ?_
  obtain ⟨g11, h⟩ := grd_of h
  obtain ⟨g12, h⟩ := grd_of h
  refine V_iald (pc := 698) C hs2 g12 g11 dL_law_698 ?_
  obtain ⟨M13, r14, hc15, h⟩ := cal_of h
  refine V_callVI (pc := 699) C (c_X12_commonAncestor l Γ sk hsk.m fu (hM8 _ _) (hM8 _ _) hc15) cf_X12_commonAncestor lk_L_179 ⟨rfl, rfl⟩ ⟨Nat.le_of_ble_eq_true rfl, Nat.le_of_ble_eq_true rfl⟩ e52 rfl rfl rfl (Nat.le_of_ble_eq_true rfl) hf1 rfl dL_law_699 (fun hr14 => ?_)
  refine V_istore (pc := 702) C (L' := [(0, vr Γ 2), (1, vr Γ 3), (2, vr Γ 52), (3, vr Γ 65), (4, vi x4), (5, vi r6), (6, vi r14)]) rfl (by decide) dL_law_702 ?_
  refine V_aload_n (pc := 704) C 2 rfl dL_law_704 ?_
  obtain ⟨M16, r17, hc18, h⟩ := cal_of h
  refine V_callVI (pc := 705) C (c_X12_thrown l Γ sk hsk.m fu hc18) cf_X12_thrown lk_L_164 ⟨rfl, rfl⟩ ⟨Nat.le_of_ble_eq_true rfl, Nat.le_of_ble_eq_true rfl⟩ e52 rfl rfl rfl (Nat.le_of_ble_eq_true rfl) hf1 rfl dL_law_705 (fun hr17 => ?_)
  refine V_iload (pc := 708) C 5 rfl dL_law_708 ?_
  refine V_icmp_eq (pc := 710) C 715 hr17 hr6 dL_law_710 (by decide) (fun c710_19 => ?_) (fun c710_19 => ?_)
  · have h := ite_t h c710_19
    refine V_iload (pc := 715) C 5 rfl dL_law_715 ?_
    refine V_if_ne (pc := 717) C 732 hr6 dL_law_717 (by decide) (fun c717_20 => ?_) (fun c717_20 => ?_)
    · have h := ite_f h c717_20
      refine V_goto (pc := 732) C 2654 dL_law_732 (by decide) ?_
      refine V_sub (L' := [(0, vr Γ 2), (1, vr Γ 3), (2, vr Γ 52), (3, vr Γ 65), (4, vi x4)]) [0, 1, 2, 3, 4] rfl (by decide) ?_
      cases h
      exact kk
    · have h := ite_t h c717_20
      refine V_aload_n (pc := 720) C 3 rfl dL_law_720 ?_
      refine V_iconst (pc := 721) C dL_law_721 ?_
      refine V_rng fun hM21 => ?_
      refine V_lald (pc := 722) C e65 (by decide) (by decide) dL_law_722 ?_
      refine V_iload (pc := 723) C 6 rfl dL_law_723 ?_
      refine V_i2l (pc := 725) C hr14 dL_law_725 ?_
      refine V_lcmp (pc := 726) C (hM21 _ _) hr14 dL_law_726 ?_
      refine V_if_eq (pc := 727) C 732 (lcmp_rng _ _) dL_law_727 (by decide) (fun c727_22 => ?_) (fun c727_22 => ?_)
      · have h := ite_t h c727_22
        refine V_goto (pc := 732) C 2654 dL_law_732 (by decide) ?_
        refine V_sub (L' := [(0, vr Γ 2), (1, vr Γ 3), (2, vr Γ 52), (3, vr Γ 65), (4, vi x4)]) [0, 1, 2, 3, 4] rfl (by decide) ?_
        cases h
        exact kk
      · have h := ite_f h c727_22
        refine V_iconst (pc := 730) C dL_law_730 ?_
        cases h
  · have h := ite_f h c710_19
    refine V_iconst (pc := 713) C dL_law_713 ?_
    cases h
set_option maxRecDepth 100000 in
set_option maxHeartbeats 4000000 in
theorem c_L_case13 (l : Launch) (Γ : GG) (sk : List SD) (hsk : ExtL sk) (hl9 : l.stackTraces = false) (fu : Nat) {nS : Nat} (hs2 : sk[2]? = some (.inl (0, nS))) (hnS : nS ≤ 2147483647) {M M' : Mem} {x4 r : Int} (hx4 : rng x4) (hM : mR M) (h : f_L_case13 fu nS M x4 = some (M', r)) {p : Program} {e : Env} {s : State} {m : MethodId} {args : Array Value} {below : List Frame} {meth : Method} {c : Code} {Q : State → Prop} {cells slots : Nat} (hf1 : cells + 1 ≤ room_1.cells ∧ slots + 6 ≤ room_1.slots) (C : CX p s m args c cL_law 9 RL Γ sk) (kk : VV p l e room_1 s m args below meth c Q 9 Γ sk M' (cells + 1) (slots + 6) 2654 [(0, vr Γ 2), (1, vr Γ 3), (2, vr Γ 52), (3, vr Γ 65), (4, vi x4)] []) : VV p l e room_1 s m args below meth c Q 9 Γ sk M cells slots 735 [(0, vr Γ 2), (1, vr Γ 3), (2, vr Γ 52), (3, vr Γ 65), (4, vi x4)] [] := by
  unfold f_L_case13 at h
  have hf0 : cells ≤ room_1.cells ∧ slots ≤ room_1.slots := ⟨Nat.le_of_succ_le hf1.1, Nat.le_trans (Nat.le_add_right _ 6) hf1.2⟩
  have e52 := hsk 52 _ (by decide) rfl
  have e65 := hsk 65 _ (by decide) rfl
  refine V_aload_n (pc := 735) C 1 rfl dL_law_735 ?_
  refine V_aload_n (pc := 736) C 0 rfl dL_law_736 ?_
  refine V_iload (pc := 737) C 4 rfl dL_law_737 ?_
  refine V_iconst (pc := 739) C dL_law_739 ?_
  refine V_iadd (pc := 740) C dL_law_740 ?_
  obtain ⟨g1, h⟩ := grd_of h
  obtain ⟨g2, h⟩ := grd_of h
  refine V_iald (pc := 741) C hs2 g2 g1 dL_law_741 ?_
  refine V_aload_n (pc := 742) C 3 rfl dL_law_742 ?_
  obtain ⟨M3, r4, hc5, h⟩ := cal_of h
  refine V_callH (pc := 743) C (c_L_size l Γ sk hsk hl9 fu (hM _ _) hc5) chf_L_size lk_L_180 ⟨rfl, rfl⟩ ⟨Nat.le_of_ble_eq_true rfl, Nat.le_of_ble_eq_true rfl⟩ rfl (Nat.le_of_ble_eq_true rfl) hf1 rfl dL_law_743 (fun hr4 => ?_)
  refine V_istore (pc := 746) C (L' := [(0, vr Γ 2), (1, vr Γ 3), (2, vr Γ 52), (3, vr Γ 65), (4, vi x4), (5, vi r4)]) rfl (by decide) dL_law_746 ?_
  refine V_aload_n (pc := 748) C 2 rfl dL_law_748 ?_
  refine V_aload_n (pc := 749) C 0 rfl dL_law_749 ?_
  refine V_iload (pc := 750) C 4 rfl dL_law_750 ?_
  refine V_iconst (pc := 752) C dL_law_752 ?_
  refine V_iadd (pc := 753) C dL_law_753 ?_
  refine V_rng fun hM6 => ?_
  obtain ⟨g7, h⟩ := grd_of h
  obtain ⟨g8, h⟩ := grd_of h
  refine V_iald (pc := 754) C hs2 g8 g7 dL_law_754 ?_
  obtain ⟨M9, r10, hc11, h⟩ := cal_of h
  refine V_callVI (pc := 755) C (c_X12_size l Γ sk hsk.m fu (hM6 _ _) hc11) cf_X12_size lk_L_182 ⟨rfl, rfl⟩ ⟨Nat.le_of_ble_eq_true rfl, Nat.le_of_ble_eq_true rfl⟩ e52 rfl rfl rfl (Nat.le_of_ble_eq_true rfl) hf1 rfl dL_law_755 (fun hr10 => ?_)
  refine V_istore (pc := 758) C (L' := [(0, vr Γ 2), (1, vr Γ 3), (2, vr Γ 52), (3, vr Γ 65), (4, vi x4), (5, vi r4), (6, vi r10)]) rfl (by decide) dL_law_758 ?_
  refine V_aload_n (pc := 760) C 2 rfl dL_law_760 ?_
  obtain ⟨M12, r13, hc14, h⟩ := cal_of h
  refine V_callVI (pc := 761) C (c_X12_thrown l Γ sk hsk.m fu hc14) cf_X12_thrown lk_L_164 ⟨rfl, rfl⟩ ⟨Nat.le_of_ble_eq_true rfl, Nat.le_of_ble_eq_true rfl⟩ e52 rfl rfl rfl (Nat.le_of_ble_eq_true rfl) hf1 rfl dL_law_761 (fun hr13 => ?_)
  refine V_iload (pc := 764) C 5 rfl dL_law_764 ?_
  refine V_icmp_eq (pc := 766) C 771 hr13 hr4 dL_law_766 (by decide) (fun c766_15 => ?_) (fun c766_15 => ?_)
  · have h := ite_t h c766_15
    refine V_iload (pc := 771) C 5 rfl dL_law_771 ?_
    refine V_if_ne (pc := 773) C 788 hr4 dL_law_773 (by decide) (fun c773_16 => ?_) (fun c773_16 => ?_)
    · have h := ite_f h c773_16
      refine V_goto (pc := 788) C 2654 dL_law_788 (by decide) ?_
      refine V_sub (L' := [(0, vr Γ 2), (1, vr Γ 3), (2, vr Γ 52), (3, vr Γ 65), (4, vi x4)]) [0, 1, 2, 3, 4] rfl (by decide) ?_
      cases h
      exact kk
    · have h := ite_t h c773_16
      refine V_aload_n (pc := 776) C 3 rfl dL_law_776 ?_
      refine V_iconst (pc := 777) C dL_law_777 ?_
      refine V_rng fun hM17 => ?_
      refine V_lald (pc := 778) C e65 (by decide) (by decide) dL_law_778 ?_
      refine V_iload (pc := 779) C 6 rfl dL_law_779 ?_
      refine V_i2l (pc := 781) C hr10 dL_law_781 ?_
      refine V_lcmp (pc := 782) C (hM17 _ _) hr10 dL_law_782 ?_
      refine V_if_eq (pc := 783) C 788 (lcmp_rng _ _) dL_law_783 (by decide) (fun c783_18 => ?_) (fun c783_18 => ?_)
      · have h := ite_t h c783_18
        refine V_goto (pc := 788) C 2654 dL_law_788 (by decide) ?_
        refine V_sub (L' := [(0, vr Γ 2), (1, vr Γ 3), (2, vr Γ 52), (3, vr Γ 65), (4, vi x4)]) [0, 1, 2, 3, 4] rfl (by decide) ?_
        cases h
        exact kk
      · have h := ite_f h c783_18
        refine V_iconst (pc := 786) C dL_law_786 ?_
        cases h
  · have h := ite_f h c766_15
    refine V_iconst (pc := 769) C dL_law_769 ?_
    cases h
set_option maxRecDepth 100000 in
set_option maxHeartbeats 4000000 in
theorem c_L_case14 (l : Launch) (Γ : GG) (sk : List SD) (hsk : ExtL sk) (hl9 : l.stackTraces = false) (fu : Nat) {nS : Nat} (hs2 : sk[2]? = some (.inl (0, nS))) (hnS : nS ≤ 2147483647) {M M' : Mem} {x4 r : Int} (hx4 : rng x4) (hM : mR M) (h : f_L_case14 fu nS M x4 = some (M', r)) {p : Program} {e : Env} {s : State} {m : MethodId} {args : Array Value} {below : List Frame} {meth : Method} {c : Code} {Q : State → Prop} {cells slots : Nat} (hf1 : cells + 1 ≤ room_1.cells ∧ slots + 6 ≤ room_1.slots) (C : CX p s m args c cL_law 9 RL Γ sk) (kk : VV p l e room_1 s m args below meth c Q 9 Γ sk M' (cells + 1) (slots + 6) 2654 [(0, vr Γ 2), (1, vr Γ 3), (2, vr Γ 52), (3, vr Γ 65), (4, vi x4)] []) : VV p l e room_1 s m args below meth c Q 9 Γ sk M cells slots 791 [(0, vr Γ 2), (1, vr Γ 3), (2, vr Γ 52), (3, vr Γ 65), (4, vi x4)] [] := by
  unfold f_L_case14 at h
  have hf0 : cells ≤ room_1.cells ∧ slots ≤ room_1.slots := ⟨Nat.le_of_succ_le hf1.1, Nat.le_trans (Nat.le_add_right _ 6) hf1.2⟩
  have e52 := hsk 52 _ (by decide) rfl
  have e65 := hsk 65 _ (by decide) rfl
  refine V_aload_n (pc := 791) C 1 rfl dL_law_791 ?_
  refine V_aload_n (pc := 792) C 0 rfl dL_law_792 ?_
  refine V_iload (pc := 793) C 4 rfl dL_law_793 ?_
  refine V_iconst (pc := 795) C dL_law_795 ?_
  refine V_iadd (pc := 796) C dL_law_796 ?_
  obtain ⟨g1, h⟩ := grd_of h
  obtain ⟨g2, h⟩ := grd_of h
  refine V_iald (pc := 797) C hs2 g2 g1 dL_law_797 ?_
  refine V_aload_n (pc := 798) C 3 rfl dL_law_798 ?_
  obtain ⟨M3, r4, hc5, h⟩ := cal_of h
  refine V_callH (pc := 799) C (c_L_height l Γ sk hsk hl9 fu (hM _ _) hc5) chf_L_height lk_L_183 ⟨rfl, rfl⟩ ⟨Nat.le_of_ble_eq_true rfl, Nat.le_of_ble_eq_true rfl⟩ rfl (Nat.le_of_ble_eq_true rfl) hf1 rfl dL_law_799 (fun hr4 => ?_)
  refine V_istore (pc := 802) C (L' := [(0, vr Γ 2), (1, vr Γ 3), (2, vr Γ 52), (3, vr Γ 65), (4, vi x4), (5, vi r4)]) rfl (by decide) dL_law_802 ?_
  refine V_aload_n (pc := 804) C 2 rfl dL_law_804 ?_
  refine V_aload_n (pc := 805) C 0 rfl dL_law_805 ?_
  refine V_iload (pc := 806) C 4 rfl dL_law_806 ?_
  refine V_iconst (pc := 808) C dL_law_808 ?_
  refine V_iadd (pc := 809) C dL_law_809 ?_
  refine V_rng fun hM6 => ?_
  obtain ⟨g7, h⟩ := grd_of h
  obtain ⟨g8, h⟩ := grd_of h
  refine V_iald (pc := 810) C hs2 g8 g7 dL_law_810 ?_
  obtain ⟨M9, r10, hc11, h⟩ := cal_of h
  refine V_callVI (pc := 811) C (c_X12_height l Γ sk hsk.m fu (hM6 _ _) hc11) cf_X12_height lk_L_185 ⟨rfl, rfl⟩ ⟨Nat.le_of_ble_eq_true rfl, Nat.le_of_ble_eq_true rfl⟩ e52 rfl rfl rfl (Nat.le_of_ble_eq_true rfl) hf1 rfl dL_law_811 (fun hr10 => ?_)
  refine V_istore (pc := 814) C (L' := [(0, vr Γ 2), (1, vr Γ 3), (2, vr Γ 52), (3, vr Γ 65), (4, vi x4), (5, vi r4), (6, vi r10)]) rfl (by decide) dL_law_814 ?_
  refine V_aload_n (pc := 816) C 2 rfl dL_law_816 ?_
  obtain ⟨M12, r13, hc14, h⟩ := cal_of h
  refine V_callVI (pc := 817) C (c_X12_thrown l Γ sk hsk.m fu hc14) cf_X12_thrown lk_L_164 ⟨rfl, rfl⟩ ⟨Nat.le_of_ble_eq_true rfl, Nat.le_of_ble_eq_true rfl⟩ e52 rfl rfl rfl (Nat.le_of_ble_eq_true rfl) hf1 rfl dL_law_817 (fun hr13 => ?_)
  refine V_iload (pc := 820) C 5 rfl dL_law_820 ?_
  refine V_icmp_eq (pc := 822) C 827 hr13 hr4 dL_law_822 (by decide) (fun c822_15 => ?_) (fun c822_15 => ?_)
  · have h := ite_t h c822_15
    refine V_iload (pc := 827) C 5 rfl dL_law_827 ?_
    refine V_if_ne (pc := 829) C 844 hr4 dL_law_829 (by decide) (fun c829_16 => ?_) (fun c829_16 => ?_)
    · have h := ite_f h c829_16
      refine V_goto (pc := 844) C 2654 dL_law_844 (by decide) ?_
      refine V_sub (L' := [(0, vr Γ 2), (1, vr Γ 3), (2, vr Γ 52), (3, vr Γ 65), (4, vi x4)]) [0, 1, 2, 3, 4] rfl (by decide) ?_
      cases h
      exact kk
    · have h := ite_t h c829_16
      refine V_aload_n (pc := 832) C 3 rfl dL_law_832 ?_
      refine V_iconst (pc := 833) C dL_law_833 ?_
      refine V_rng fun hM17 => ?_
      refine V_lald (pc := 834) C e65 (by decide) (by decide) dL_law_834 ?_
      refine V_iload (pc := 835) C 6 rfl dL_law_835 ?_
      refine V_i2l (pc := 837) C hr10 dL_law_837 ?_
      refine V_lcmp (pc := 838) C (hM17 _ _) hr10 dL_law_838 ?_
      refine V_if_eq (pc := 839) C 844 (lcmp_rng _ _) dL_law_839 (by decide) (fun c839_18 => ?_) (fun c839_18 => ?_)
      · have h := ite_t h c839_18
        refine V_goto (pc := 844) C 2654 dL_law_844 (by decide) ?_
        refine V_sub (L' := [(0, vr Γ 2), (1, vr Γ 3), (2, vr Γ 52), (3, vr Γ 65), (4, vi x4)]) [0, 1, 2, 3, 4] rfl (by decide) ?_
        cases h
        exact kk
      · have h := ite_f h c839_18
        refine V_iconst (pc := 842) C dL_law_842 ?_
        cases h
  · have h := ite_f h c822_15
    refine V_iconst (pc := 825) C dL_law_825 ?_
    cases h
