set_option maxRecDepth 100000 in
set_option maxHeartbeats 4000000 in
theorem c_L_case41 (l : Launch) (Γ : GG) (sk : List SD) (hsk : ExtL sk) (hl9 : l.stackTraces = false) (fu : Nat) {nS : Nat} (hs2 : sk[2]? = some (.inl (0, nS))) (hnS : nS ≤ 2147483647) {M M' : Mem} {x4 r : Int} (hx4 : rng x4) (hM : mR M) (h : f_L_case41 fu nS M x4 = some (M', r)) {p : Program} {e : Env} {s : State} {m : MethodId} {args : Array Value} {below : List Frame} {meth : Method} {c : Code} {Q : State → Prop} {cells slots : Nat} (hf1 : cells + 1 ≤ room_1.cells ∧ slots + 6 ≤ room_1.slots) (C : CX p s m args c cL_law 9 RL Γ sk) (kk : VV p l e room_1 s m args below meth c Q 9 Γ sk M' (cells + 1) (slots + 6) 2654 [(0, vr Γ 2), (1, vr Γ 3), (2, vr Γ 52), (3, vr Γ 65), (4, vi x4)] []) : VV p l e room_1 s m args below meth c Q 9 Γ sk M cells slots 2187 [(0, vr Γ 2), (1, vr Γ 3), (2, vr Γ 52), (3, vr Γ 65), (4, vi x4)] [] := by
  unfold f_L_case41 at h
  have hf0 : cells ≤ room_1.cells ∧ slots ≤ room_1.slots := ⟨Nat.le_of_succ_le hf1.1, Nat.le_trans (Nat.le_add_right _ 6) hf1.2⟩
  have e52 := hsk 52 _ (by decide) rfl
  have e65 := hsk 65 _ (by decide) rfl
  refine V_aload_n (pc := 2187) C 1 rfl dL_law_2187 ?_
  refine V_aload_n (pc := 2188) C 0 rfl dL_law_2188 ?_
  refine V_iload (pc := 2189) C 4 rfl dL_law_2189 ?_
  refine V_iconst (pc := 2191) C dL_law_2191 ?_
  refine V_iadd (pc := 2192) C dL_law_2192 ?_
  obtain ⟨g1, h⟩ := grd_of h
  obtain ⟨g2, h⟩ := grd_of h
  refine V_iald (pc := 2193) C hs2 g2 g1 dL_law_2193 ?_
  refine V_aload_n (pc := 2194) C 0 rfl dL_law_2194 ?_
  refine V_iload (pc := 2195) C 4 rfl dL_law_2195 ?_
  refine V_iconst (pc := 2197) C dL_law_2197 ?_
  refine V_iadd (pc := 2198) C dL_law_2198 ?_
  obtain ⟨g3, h⟩ := grd_of h
  obtain ⟨g4, h⟩ := grd_of h
  refine V_iald (pc := 2199) C hs2 g4 g3 dL_law_2199 ?_
  refine V_aload_n (pc := 2200) C 0 rfl dL_law_2200 ?_
  refine V_iload (pc := 2201) C 4 rfl dL_law_2201 ?_
  refine V_iconst (pc := 2203) C dL_law_2203 ?_
  refine V_iadd (pc := 2204) C dL_law_2204 ?_
  obtain ⟨g5, h⟩ := grd_of h
  obtain ⟨g6, h⟩ := grd_of h
  refine V_iald (pc := 2205) C hs2 g6 g5 dL_law_2205 ?_
  refine V_aload_n (pc := 2206) C 3 rfl dL_law_2206 ?_
  obtain ⟨M7, r8, hc9, h⟩ := cal_of h
  refine V_callH (pc := 2207) C (c_L_set l Γ sk hsk hl9 fu (hM _ _) (hM _ _) (hM _ _) hc9) chf_L_set lk_L_275 ⟨rfl, rfl⟩ ⟨Nat.le_of_ble_eq_true rfl, Nat.le_of_ble_eq_true rfl⟩ rfl (Nat.le_of_ble_eq_true rfl) hf1 rfl dL_law_2207 (fun hr8 => ?_)
  refine V_istore (pc := 2210) C (L' := [(0, vr Γ 2), (1, vr Γ 3), (2, vr Γ 52), (3, vr Γ 65), (4, vi x4), (5, vi r8)]) rfl (by decide) dL_law_2210 ?_
  refine V_aload_n (pc := 2212) C 2 rfl dL_law_2212 ?_
  refine V_aload_n (pc := 2213) C 0 rfl dL_law_2213 ?_
  refine V_iload (pc := 2214) C 4 rfl dL_law_2214 ?_
  refine V_iconst (pc := 2216) C dL_law_2216 ?_
  refine V_iadd (pc := 2217) C dL_law_2217 ?_
  refine V_rng fun hM10 => ?_
  obtain ⟨g11, h⟩ := grd_of h
  obtain ⟨g12, h⟩ := grd_of h
  refine V_iald (pc := 2218) C hs2 g12 g11 dL_law_2218 ?_
  refine V_aload_n (pc := 2219) C 0 rfl dL_law_2219 ?_
  refine V_iload (pc := 2220) C 4 rfl dL_law_2220 ?_
  refine V_iconst (pc := 2222) C dL_law_2222 ?_
  refine V_iadd (pc := 2223) C dL_law_2223 ?_
  obtain ⟨g13, h⟩ := grd_of h
  obtain ⟨g14, h⟩ := grd_of h
  refine V_iald (pc := 2224) C hs2 g14 g13 dL_law_2224 ?_
  refine V_aload_n (pc := 2225) C 0 rfl dL_law_2225 ?_
  refine V_iload (pc := 2226) C 4 rfl dL_law_2226 ?_
  refine V_iconst (pc := 2228) C dL_law_2228 ?_
  refine V_iadd (pc := 2229) C dL_law_2229 ?_
  obtain ⟨g15, h⟩ := grd_of h
  obtain ⟨g16, h⟩ := grd_of h
  refine V_iald (pc := 2230) C hs2 g16 g15 dL_law_2230 ?_
  obtain ⟨M17, r18, hc19, h⟩ := cal_of h
  refine V_callVI (pc := 2231) C (c_X12_set l Γ sk hsk.m fu (hM10 _ _) (hM10 _ _) (hM10 _ _) hc19) cf_X12_set lk_L_277 ⟨rfl, rfl⟩ ⟨Nat.le_of_ble_eq_true rfl, Nat.le_of_ble_eq_true rfl⟩ e52 rfl rfl rfl (Nat.le_of_ble_eq_true rfl) hf1 rfl dL_law_2231 (fun hr18 => ?_)
  refine V_istore (pc := 2234) C (L' := [(0, vr Γ 2), (1, vr Γ 3), (2, vr Γ 52), (3, vr Γ 65), (4, vi x4), (5, vi r8), (6, vi r18)]) rfl (by decide) dL_law_2234 ?_
  refine V_aload_n (pc := 2236) C 2 rfl dL_law_2236 ?_
  obtain ⟨M20, r21, hc22, h⟩ := cal_of h
  refine V_callVI (pc := 2237) C (c_X12_thrown l Γ sk hsk.m fu hc22) cf_X12_thrown lk_L_164 ⟨rfl, rfl⟩ ⟨Nat.le_of_ble_eq_true rfl, Nat.le_of_ble_eq_true rfl⟩ e52 rfl rfl rfl (Nat.le_of_ble_eq_true rfl) hf1 rfl dL_law_2237 (fun hr21 => ?_)
  refine V_iload (pc := 2240) C 5 rfl dL_law_2240 ?_
  refine V_icmp_eq (pc := 2242) C 2247 hr21 hr8 dL_law_2242 (by decide) (fun c2242_23 => ?_) (fun c2242_23 => ?_)
  · have h := ite_t h c2242_23
    refine V_iload (pc := 2247) C 5 rfl dL_law_2247 ?_
    refine V_if_ne (pc := 2249) C 2264 hr8 dL_law_2249 (by decide) (fun c2249_24 => ?_) (fun c2249_24 => ?_)
    · have h := ite_f h c2249_24
      refine V_goto (pc := 2264) C 2654 dL_law_2264 (by decide) ?_
      refine V_sub (L' := [(0, vr Γ 2), (1, vr Γ 3), (2, vr Γ 52), (3, vr Γ 65), (4, vi x4)]) [0, 1, 2, 3, 4] rfl (by decide) ?_
      cases h
      exact kk
    · have h := ite_t h c2249_24
      refine V_aload_n (pc := 2252) C 3 rfl dL_law_2252 ?_
      refine V_iconst (pc := 2253) C dL_law_2253 ?_
      refine V_rng fun hM25 => ?_
      refine V_lald (pc := 2254) C e65 (by decide) (by decide) dL_law_2254 ?_
      refine V_iload (pc := 2255) C 6 rfl dL_law_2255 ?_
      refine V_i2l (pc := 2257) C hr18 dL_law_2257 ?_
      refine V_lcmp (pc := 2258) C (hM25 _ _) hr18 dL_law_2258 ?_
      refine V_if_eq (pc := 2259) C 2264 (lcmp_rng _ _) dL_law_2259 (by decide) (fun c2259_26 => ?_) (fun c2259_26 => ?_)
      · have h := ite_t h c2259_26
        refine V_goto (pc := 2264) C 2654 dL_law_2264 (by decide) ?_
        refine V_sub (L' := [(0, vr Γ 2), (1, vr Γ 3), (2, vr Γ 52), (3, vr Γ 65), (4, vi x4)]) [0, 1, 2, 3, 4] rfl (by decide) ?_
        cases h
        exact kk
      · have h := ite_f h c2259_26
        refine V_iconst (pc := 2262) C dL_law_2262 ?_
        cases h
  · have h := ite_f h c2242_23
    refine V_iconst (pc := 2245) C dL_law_2245 ?_
    cases h
set_option maxRecDepth 100000 in
set_option maxHeartbeats 4000000 in
theorem c_L_case42 (l : Launch) (Γ : GG) (sk : List SD) (hsk : ExtL sk) (hl9 : l.stackTraces = false) (fu : Nat) {nS : Nat} (hs2 : sk[2]? = some (.inl (0, nS))) (hnS : nS ≤ 2147483647) {M M' : Mem} {x4 r : Int} (hx4 : rng x4) (hM : mR M) (h : f_L_case42 fu nS M x4 = some (M', r)) {p : Program} {e : Env} {s : State} {m : MethodId} {args : Array Value} {below : List Frame} {meth : Method} {c : Code} {Q : State → Prop} {cells slots : Nat} (hf1 : cells + 1 ≤ room_1.cells ∧ slots + 6 ≤ room_1.slots) (C : CX p s m args c cL_law 9 RL Γ sk) (kk : VV p l e room_1 s m args below meth c Q 9 Γ sk M' (cells + 1) (slots + 6) 2654 [(0, vr Γ 2), (1, vr Γ 3), (2, vr Γ 52), (3, vr Γ 65), (4, vi x4)] []) : VV p l e room_1 s m args below meth c Q 9 Γ sk M cells slots 2267 [(0, vr Γ 2), (1, vr Γ 3), (2, vr Γ 52), (3, vr Γ 65), (4, vi x4)] [] := by
  unfold f_L_case42 at h
  have hf0 : cells ≤ room_1.cells ∧ slots ≤ room_1.slots := ⟨Nat.le_of_succ_le hf1.1, Nat.le_trans (Nat.le_add_right _ 6) hf1.2⟩
  have e52 := hsk 52 _ (by decide) rfl
  have e65 := hsk 65 _ (by decide) rfl
  refine V_aload_n (pc := 2267) C 1 rfl dL_law_2267 ?_
  refine V_aload_n (pc := 2268) C 0 rfl dL_law_2268 ?_
  refine V_iload (pc := 2269) C 4 rfl dL_law_2269 ?_
  refine V_iconst (pc := 2271) C dL_law_2271 ?_
  refine V_iadd (pc := 2272) C dL_law_2272 ?_
  obtain ⟨g1, h⟩ := grd_of h
  obtain ⟨g2, h⟩ := grd_of h
  refine V_iald (pc := 2273) C hs2 g2 g1 dL_law_2273 ?_
  refine V_aload_n (pc := 2274) C 0 rfl dL_law_2274 ?_
  refine V_iload (pc := 2275) C 4 rfl dL_law_2275 ?_
  refine V_iconst (pc := 2277) C dL_law_2277 ?_
  refine V_iadd (pc := 2278) C dL_law_2278 ?_
  obtain ⟨g3, h⟩ := grd_of h
  obtain ⟨g4, h⟩ := grd_of h
  refine V_iald (pc := 2279) C hs2 g4 g3 dL_law_2279 ?_
  refine V_aload_n (pc := 2280) C 3 rfl dL_law_2280 ?_
  obtain ⟨M5, r6, hc7, h⟩ := cal_of h
  refine V_callH (pc := 2281) C (c_L_append l Γ sk hsk hl9 fu (hM _ _) (hM _ _) hc7) chf_L_append lk_L_278 ⟨rfl, rfl⟩ ⟨Nat.le_of_ble_eq_true rfl, Nat.le_of_ble_eq_true rfl⟩ rfl (Nat.le_of_ble_eq_true rfl) hf1 rfl dL_law_2281 (fun hr6 => ?_)
  refine V_istore (pc := 2284) C (L' := [(0, vr Γ 2), (1, vr Γ 3), (2, vr Γ 52), (3, vr Γ 65), (4, vi x4), (5, vi r6)]) rfl (by decide) dL_law_2284 ?_
  refine V_aload_n (pc := 2286) C 2 rfl dL_law_2286 ?_
  refine V_aload_n (pc := 2287) C 0 rfl dL_law_2287 ?_
  refine V_iload (pc := 2288) C 4 rfl dL_law_2288 ?_
  refine V_iconst (pc := 2290) C dL_law_2290 ?_
  refine V_iadd (pc := 2291) C dL_law_2291 ?_
  refine V_rng fun hM8 => ?_
  obtain ⟨g9, h⟩ := grd_of h
  obtain ⟨g10, h⟩ := grd_of h
  refine V_iald (pc := 2292) C hs2 g10 g9 dL_law_2292 ?_
  refine V_aload_n (pc := 2293) C 0 rfl dL_law_2293 ?_
  refine V_iload (pc := 2294) C 4 rfl dL_law_2294 ?_
  refine V_iconst (pc := 2296) C dL_law_2296 ?_
  refine V_iadd (pc := 2297) C dL_law_2297 ?_
  obtain ⟨g11, h⟩ := grd_of h
  obtain ⟨g12, h⟩ := grd_of h
  refine V_iald (pc := 2298) C hs2 g12 g11 dL_law_2298 ?_
  obtain ⟨M13, r14, hc15, h⟩ := cal_of h
  refine V_callVI (pc := 2299) C (c_X12_append l Γ sk hsk.m fu (hM8 _ _) (hM8 _ _) hc15) cf_X12_append lk_L_280 ⟨rfl, rfl⟩ ⟨Nat.le_of_ble_eq_true rfl, Nat.le_of_ble_eq_true rfl⟩ e52 rfl rfl rfl (Nat.le_of_ble_eq_true rfl) hf1 rfl dL_law_2299 (fun hr14 => ?_)
  refine V_istore (pc := 2302) C (L' := [(0, vr Γ 2), (1, vr Γ 3), (2, vr Γ 52), (3, vr Γ 65), (4, vi x4), (5, vi r6), (6, vi r14)]) rfl (by decide) dL_law_2302 ?_
  refine V_aload_n (pc := 2304) C 2 rfl dL_law_2304 ?_
  obtain ⟨M16, r17, hc18, h⟩ := cal_of h
  refine V_callVI (pc := 2305) C (c_X12_thrown l Γ sk hsk.m fu hc18) cf_X12_thrown lk_L_164 ⟨rfl, rfl⟩ ⟨Nat.le_of_ble_eq_true rfl, Nat.le_of_ble_eq_true rfl⟩ e52 rfl rfl rfl (Nat.le_of_ble_eq_true rfl) hf1 rfl dL_law_2305 (fun hr17 => ?_)
  refine V_iload (pc := 2308) C 5 rfl dL_law_2308 ?_
  refine V_icmp_eq (pc := 2310) C 2315 hr17 hr6 dL_law_2310 (by decide) (fun c2310_19 => ?_) (fun c2310_19 => ?_)
  · have h := ite_t h c2310_19
    refine V_iload (pc := 2315) C 5 rfl dL_law_2315 ?_
    refine V_if_ne (pc := 2317) C 2332 hr6 dL_law_2317 (by decide) (fun c2317_20 => ?_) (fun c2317_20 => ?_)
    · have h := ite_f h c2317_20
      refine V_goto (pc := 2332) C 2654 dL_law_2332 (by decide) ?_
      refine V_sub (L' := [(0, vr Γ 2), (1, vr Γ 3), (2, vr Γ 52), (3, vr Γ 65), (4, vi x4)]) [0, 1, 2, 3, 4] rfl (by decide) ?_
      cases h
      exact kk
    · have h := ite_t h c2317_20
      refine V_aload_n (pc := 2320) C 3 rfl dL_law_2320 ?_
      refine V_iconst (pc := 2321) C dL_law_2321 ?_
      refine V_rng fun hM21 => ?_
      refine V_lald (pc := 2322) C e65 (by decide) (by decide) dL_law_2322 ?_
      refine V_iload (pc := 2323) C 6 rfl dL_law_2323 ?_
      refine V_i2l (pc := 2325) C hr14 dL_law_2325 ?_
      refine V_lcmp (pc := 2326) C (hM21 _ _) hr14 dL_law_2326 ?_
      refine V_if_eq (pc := 2327) C 2332 (lcmp_rng _ _) dL_law_2327 (by decide) (fun c2327_22 => ?_) (fun c2327_22 => ?_)
      · have h := ite_t h c2327_22
        refine V_goto (pc := 2332) C 2654 dL_law_2332 (by decide) ?_
        refine V_sub (L' := [(0, vr Γ 2), (1, vr Γ 3), (2, vr Γ 52), (3, vr Γ 65), (4, vi x4)]) [0, 1, 2, 3, 4] rfl (by decide) ?_
        cases h
        exact kk
      · have h := ite_f h c2327_22
        refine V_iconst (pc := 2330) C dL_law_2330 ?_
        cases h
  · have h := ite_f h c2310_19
    refine V_iconst (pc := 2313) C dL_law_2313 ?_
    cases h
set_option maxRecDepth 100000 in
set_option maxHeartbeats 4000000 in
theorem c_L_case43 (l : Launch) (Γ : GG) (sk : List SD) (hsk : ExtL sk) (hl9 : l.stackTraces = false) (fu : Nat) {nS : Nat} (hs2 : sk[2]? = some (.inl (0, nS))) (hnS : nS ≤ 2147483647) {M M' : Mem} {x4 r : Int} (hx4 : rng x4) (hM : mR M) (h : f_L_case43 fu nS M x4 = some (M', r)) {p : Program} {e : Env} {s : State} {m : MethodId} {args : Array Value} {below : List Frame} {meth : Method} {c : Code} {Q : State → Prop} {cells slots : Nat} (hf1 : cells + 1 ≤ room_1.cells ∧ slots + 6 ≤ room_1.slots) (C : CX p s m args c cL_law 9 RL Γ sk) (kk : VV p l e room_1 s m args below meth c Q 9 Γ sk M' (cells + 1) (slots + 6) 2654 [(0, vr Γ 2), (1, vr Γ 3), (2, vr Γ 52), (3, vr Γ 65), (4, vi x4)] []) : VV p l e room_1 s m args below meth c Q 9 Γ sk M cells slots 2335 [(0, vr Γ 2), (1, vr Γ 3), (2, vr Γ 52), (3, vr Γ 65), (4, vi x4)] [] := by
  unfold f_L_case43 at h
  have hf0 : cells ≤ room_1.cells ∧ slots ≤ room_1.slots := ⟨Nat.le_of_succ_le hf1.1, Nat.le_trans (Nat.le_add_right _ 6) hf1.2⟩
  have e52 := hsk 52 _ (by decide) rfl
  have e65 := hsk 65 _ (by decide) rfl
  refine V_aload_n (pc := 2335) C 1 rfl dL_law_2335 ?_
  refine V_aload_n (pc := 2336) C 0 rfl dL_law_2336 ?_
  refine V_iload (pc := 2337) C 4 rfl dL_law_2337 ?_
  refine V_iconst (pc := 2339) C dL_law_2339 ?_
  refine V_iadd (pc := 2340) C dL_law_2340 ?_
  obtain ⟨g1, h⟩ := grd_of h
  obtain ⟨g2, h⟩ := grd_of h
  refine V_iald (pc := 2341) C hs2 g2 g1 dL_law_2341 ?_
  refine V_aload_n (pc := 2342) C 0 rfl dL_law_2342 ?_
  refine V_iload (pc := 2343) C 4 rfl dL_law_2343 ?_
  refine V_iconst (pc := 2345) C dL_law_2345 ?_
  refine V_iadd (pc := 2346) C dL_law_2346 ?_
  obtain ⟨g3, h⟩ := grd_of h
  obtain ⟨g4, h⟩ := grd_of h
  refine V_iald (pc := 2347) C hs2 g4 g3 dL_law_2347 ?_
  refine V_aload_n (pc := 2348) C 3 rfl dL_law_2348 ?_
  obtain ⟨M5, r6, hc7, h⟩ := cal_of h
  refine V_callH (pc := 2349) C (c_L_truncate l Γ sk hsk hl9 fu (hM _ _) (hM _ _) hc7) chf_L_truncate lk_L_281 ⟨rfl, rfl⟩ ⟨Nat.le_of_ble_eq_true rfl, Nat.le_of_ble_eq_true rfl⟩ rfl (Nat.le_of_ble_eq_true rfl) hf1 rfl dL_law_2349 (fun hr6 => ?_)
  refine V_istore (pc := 2352) C (L' := [(0, vr Γ 2), (1, vr Γ 3), (2, vr Γ 52), (3, vr Γ 65), (4, vi x4), (5, vi r6)]) rfl (by decide) dL_law_2352 ?_
  refine V_aload_n (pc := 2354) C 2 rfl dL_law_2354 ?_
  refine V_aload_n (pc := 2355) C 0 rfl dL_law_2355 ?_
  refine V_iload (pc := 2356) C 4 rfl dL_law_2356 ?_
  refine V_iconst (pc := 2358) C dL_law_2358 ?_
  refine V_iadd (pc := 2359) C dL_law_2359 ?_
  refine V_rng fun hM8 => ?_
  obtain ⟨g9, h⟩ := grd_of h
  obtain ⟨g10, h⟩ := grd_of h
  refine V_iald (pc := 2360) C hs2 g10 g9 dL_law_2360 ?_
  refine V_aload_n (pc := 2361) C 0 rfl dL_law_2361 ?_
  refine V_iload (pc := 2362) C 4 rfl dL_law_2362 ?_
  refine V_iconst (pc := 2364) C dL_law_2364 ?_
  refine V_iadd (pc := 2365) C dL_law_2365 ?_
  obtain ⟨g11, h⟩ := grd_of h
  obtain ⟨g12, h⟩ := grd_of h
  refine V_iald (pc := 2366) C hs2 g12 g11 dL_law_2366 ?_
  obtain ⟨M13, r14, hc15, h⟩ := cal_of h
  refine V_callVI (pc := 2367) C (c_X12_truncate l Γ sk hsk.m fu (hM8 _ _) (hM8 _ _) hc15) cf_X12_truncate lk_L_283 ⟨rfl, rfl⟩ ⟨Nat.le_of_ble_eq_true rfl, Nat.le_of_ble_eq_true rfl⟩ e52 rfl rfl rfl (Nat.le_of_ble_eq_true rfl) hf1 rfl dL_law_2367 (fun hr14 => ?_)
  refine V_istore (pc := 2370) C (L' := [(0, vr Γ 2), (1, vr Γ 3), (2, vr Γ 52), (3, vr Γ 65), (4, vi x4), (5, vi r6), (6, vi r14)]) rfl (by decide) dL_law_2370 ?_
  refine V_aload_n (pc := 2372) C 2 rfl dL_law_2372 ?_
  obtain ⟨M16, r17, hc18, h⟩ := cal_of h
  refine V_callVI (pc := 2373) C (c_X12_thrown l Γ sk hsk.m fu hc18) cf_X12_thrown lk_L_164 ⟨rfl, rfl⟩ ⟨Nat.le_of_ble_eq_true rfl, Nat.le_of_ble_eq_true rfl⟩ e52 rfl rfl rfl (Nat.le_of_ble_eq_true rfl) hf1 rfl dL_law_2373 (fun hr17 => ?_)
  refine V_iload (pc := 2376) C 5 rfl dL_law_2376 ?_
  refine V_icmp_eq (pc := 2378) C 2383 hr17 hr6 dL_law_2378 (by decide) (fun c2378_19 => ?_) (fun c2378_19 => ?_)
  · have h := ite_t h c2378_19
    refine V_iload (pc := 2383) C 5 rfl dL_law_2383 ?_
    refine V_if_ne (pc := 2385) C 2400 hr6 dL_law_2385 (by decide) (fun c2385_20 => ?_) (fun c2385_20 => ?_)
    · have h := ite_f h c2385_20
      refine V_goto (pc := 2400) C 2654 dL_law_2400 (by decide) ?_
      refine V_sub (L' := [(0, vr Γ 2), (1, vr Γ 3), (2, vr Γ 52), (3, vr Γ 65), (4, vi x4)]) [0, 1, 2, 3, 4] rfl (by decide) ?_
      cases h
      exact kk
    · have h := ite_t h c2385_20
      refine V_aload_n (pc := 2388) C 3 rfl dL_law_2388 ?_
      refine V_iconst (pc := 2389) C dL_law_2389 ?_
      refine V_rng fun hM21 => ?_
      refine V_lald (pc := 2390) C e65 (by decide) (by decide) dL_law_2390 ?_
      refine V_iload (pc := 2391) C 6 rfl dL_law_2391 ?_
      refine V_i2l (pc := 2393) C hr14 dL_law_2393 ?_
      refine V_lcmp (pc := 2394) C (hM21 _ _) hr14 dL_law_2394 ?_
      refine V_if_eq (pc := 2395) C 2400 (lcmp_rng _ _) dL_law_2395 (by decide) (fun c2395_22 => ?_) (fun c2395_22 => ?_)
      · have h := ite_t h c2395_22
        refine V_goto (pc := 2400) C 2654 dL_law_2400 (by decide) ?_
        refine V_sub (L' := [(0, vr Γ 2), (1, vr Γ 3), (2, vr Γ 52), (3, vr Γ 65), (4, vi x4)]) [0, 1, 2, 3, 4] rfl (by decide) ?_
        cases h
        exact kk
      · have h := ite_f h c2395_22
        refine V_iconst (pc := 2398) C dL_law_2398 ?_
        cases h
  · have h := ite_f h c2378_19
    refine V_iconst (pc := 2381) C dL_law_2381 ?_
    cases h
set_option maxRecDepth 100000 in
set_option maxHeartbeats 4000000 in
theorem c_L_case44 (l : Launch) (Γ : GG) (sk : List SD) (hsk : ExtL sk) (hl9 : l.stackTraces = false) (fu : Nat) {nS : Nat} (hs2 : sk[2]? = some (.inl (0, nS))) (hnS : nS ≤ 2147483647) {M M' : Mem} {x4 r : Int} (hx4 : rng x4) (hM : mR M) (h : f_L_case44 fu nS M x4 = some (M', r)) {p : Program} {e : Env} {s : State} {m : MethodId} {args : Array Value} {below : List Frame} {meth : Method} {c : Code} {Q : State → Prop} {cells slots : Nat} (hf1 : cells + 1 ≤ room_1.cells ∧ slots + 6 ≤ room_1.slots) (C : CX p s m args c cL_law 9 RL Γ sk) (kk : VV p l e room_1 s m args below meth c Q 9 Γ sk M' (cells + 1) (slots + 6) 2654 [(0, vr Γ 2), (1, vr Γ 3), (2, vr Γ 52), (3, vr Γ 65), (4, vi x4)] []) : VV p l e room_1 s m args below meth c Q 9 Γ sk M cells slots 2403 [(0, vr Γ 2), (1, vr Γ 3), (2, vr Γ 52), (3, vr Γ 65), (4, vi x4)] [] := by
  unfold f_L_case44 at h
  have hf0 : cells ≤ room_1.cells ∧ slots ≤ room_1.slots := ⟨Nat.le_of_succ_le hf1.1, Nat.le_trans (Nat.le_add_right _ 6) hf1.2⟩
  have e52 := hsk 52 _ (by decide) rfl
  have e65 := hsk 65 _ (by decide) rfl
  refine V_aload_n (pc := 2403) C 1 rfl dL_law_2403 ?_
  refine V_aload_n (pc := 2404) C 0 rfl dL_law_2404 ?_
  refine V_iload (pc := 2405) C 4 rfl dL_law_2405 ?_
  refine V_iconst (pc := 2407) C dL_law_2407 ?_
  refine V_iadd (pc := 2408) C dL_law_2408 ?_
  obtain ⟨g1, h⟩ := grd_of h
  obtain ⟨g2, h⟩ := grd_of h
  refine V_iald (pc := 2409) C hs2 g2 g1 dL_law_2409 ?_
  refine V_aload_n (pc := 2410) C 3 rfl dL_law_2410 ?_
  obtain ⟨M3, r4, hc5, h⟩ := cal_of h
  refine V_callH (pc := 2411) C (c_L_release l Γ sk hsk hl9 fu (hM _ _) hc5) chf_L_release lk_L_284 ⟨rfl, rfl⟩ ⟨Nat.le_of_ble_eq_true rfl, Nat.le_of_ble_eq_true rfl⟩ rfl (Nat.le_of_ble_eq_true rfl) hf1 rfl dL_law_2411 (fun hr4 => ?_)
  refine V_istore (pc := 2414) C (L' := [(0, vr Γ 2), (1, vr Γ 3), (2, vr Γ 52), (3, vr Γ 65), (4, vi x4), (5, vi r4)]) rfl (by decide) dL_law_2414 ?_
  refine V_aload_n (pc := 2416) C 2 rfl dL_law_2416 ?_
  refine V_aload_n (pc := 2417) C 0 rfl dL_law_2417 ?_
  refine V_iload (pc := 2418) C 4 rfl dL_law_2418 ?_
  refine V_iconst (pc := 2420) C dL_law_2420 ?_
  refine V_iadd (pc := 2421) C dL_law_2421 ?_
  refine V_rng fun hM6 => ?_
  obtain ⟨g7, h⟩ := grd_of h
  obtain ⟨g8, h⟩ := grd_of h
  refine V_iald (pc := 2422) C hs2 g8 g7 dL_law_2422 ?_
  obtain ⟨M9, r10, hc11, h⟩ := cal_of h
  refine V_callVI (pc := 2423) C (c_X12_release l Γ sk hsk.m fu (hM6 _ _) hc11) cf_X12_release lk_L_286 ⟨rfl, rfl⟩ ⟨Nat.le_of_ble_eq_true rfl, Nat.le_of_ble_eq_true rfl⟩ e52 rfl rfl rfl (Nat.le_of_ble_eq_true rfl) hf1 rfl dL_law_2423 (fun hr10 => ?_)
  refine V_istore (pc := 2426) C (L' := [(0, vr Γ 2), (1, vr Γ 3), (2, vr Γ 52), (3, vr Γ 65), (4, vi x4), (5, vi r4), (6, vi r10)]) rfl (by decide) dL_law_2426 ?_
  refine V_aload_n (pc := 2428) C 2 rfl dL_law_2428 ?_
  obtain ⟨M12, r13, hc14, h⟩ := cal_of h
  refine V_callVI (pc := 2429) C (c_X12_thrown l Γ sk hsk.m fu hc14) cf_X12_thrown lk_L_164 ⟨rfl, rfl⟩ ⟨Nat.le_of_ble_eq_true rfl, Nat.le_of_ble_eq_true rfl⟩ e52 rfl rfl rfl (Nat.le_of_ble_eq_true rfl) hf1 rfl dL_law_2429 (fun hr13 => ?_)
  refine V_iload (pc := 2432) C 5 rfl dL_law_2432 ?_
  refine V_icmp_eq (pc := 2434) C 2439 hr13 hr4 dL_law_2434 (by decide) (fun c2434_15 => ?_) (fun c2434_15 => ?_)
  · have h := ite_t h c2434_15
    refine V_iload (pc := 2439) C 5 rfl dL_law_2439 ?_
    refine V_if_ne (pc := 2441) C 2456 hr4 dL_law_2441 (by decide) (fun c2441_16 => ?_) (fun c2441_16 => ?_)
    · have h := ite_f h c2441_16
      refine V_goto (pc := 2456) C 2654 dL_law_2456 (by decide) ?_
      refine V_sub (L' := [(0, vr Γ 2), (1, vr Γ 3), (2, vr Γ 52), (3, vr Γ 65), (4, vi x4)]) [0, 1, 2, 3, 4] rfl (by decide) ?_
      cases h
      exact kk
    · have h := ite_t h c2441_16
      refine V_aload_n (pc := 2444) C 3 rfl dL_law_2444 ?_
      refine V_iconst (pc := 2445) C dL_law_2445 ?_
      refine V_rng fun hM17 => ?_
      refine V_lald (pc := 2446) C e65 (by decide) (by decide) dL_law_2446 ?_
      refine V_iload (pc := 2447) C 6 rfl dL_law_2447 ?_
      refine V_i2l (pc := 2449) C hr10 dL_law_2449 ?_
      refine V_lcmp (pc := 2450) C (hM17 _ _) hr10 dL_law_2450 ?_
      refine V_if_eq (pc := 2451) C 2456 (lcmp_rng _ _) dL_law_2451 (by decide) (fun c2451_18 => ?_) (fun c2451_18 => ?_)
      · have h := ite_t h c2451_18
        refine V_goto (pc := 2456) C 2654 dL_law_2456 (by decide) ?_
        refine V_sub (L' := [(0, vr Γ 2), (1, vr Γ 3), (2, vr Γ 52), (3, vr Γ 65), (4, vi x4)]) [0, 1, 2, 3, 4] rfl (by decide) ?_
        cases h
        exact kk
      · have h := ite_f h c2451_18
        refine V_iconst (pc := 2454) C dL_law_2454 ?_
        cases h
  · have h := ite_f h c2434_15
    refine V_iconst (pc := 2437) C dL_law_2437 ?_
    cases h
set_option maxRecDepth 100000 in
set_option maxHeartbeats 4000000 in
theorem c_L_case45 (l : Launch) (Γ : GG) (sk : List SD) (hsk : ExtL sk) (hl9 : l.stackTraces = false) (fu : Nat) {nS : Nat} (hs2 : sk[2]? = some (.inl (0, nS))) (hnS : nS ≤ 2147483647) {M M' : Mem} {x4 r : Int} (hx4 : rng x4) (hM : mR M) (h : f_L_case45 fu nS M x4 = some (M', r)) {p : Program} {e : Env} {s : State} {m : MethodId} {args : Array Value} {below : List Frame} {meth : Method} {c : Code} {Q : State → Prop} {cells slots : Nat} (hf1 : cells + 1 ≤ room_1.cells ∧ slots + 6 ≤ room_1.slots) (C : CX p s m args c cL_law 9 RL Γ sk) (kk : VV p l e room_1 s m args below meth c Q 9 Γ sk M' (cells + 1) (slots + 6) 2654 [(0, vr Γ 2), (1, vr Γ 3), (2, vr Γ 52), (3, vr Γ 65), (4, vi x4)] []) : VV p l e room_1 s m args below meth c Q 9 Γ sk M cells slots 2459 [(0, vr Γ 2), (1, vr Γ 3), (2, vr Γ 52), (3, vr Γ 65), (4, vi x4)] [] := by
  unfold f_L_case45 at h
  have hf0 : cells ≤ room_1.cells ∧ slots ≤ room_1.slots := ⟨Nat.le_of_succ_le hf1.1, Nat.le_trans (Nat.le_add_right _ 6) hf1.2⟩
  have e3 := hsk 3 _ (by decide) rfl
  have e52 := hsk 52 _ (by decide) rfl
  refine V_aload_n (pc := 2459) C 1 rfl dL_law_2459 ?_
  rcases cax_of h with ⟨M1, r2, hc3, h⟩ | ⟨M1, n4, z5, hc3, h⟩
  · refine V_callXI0 (pc := 2460) C (c_X11_collect l Γ sk hsk.m.c hl9 fu hc3) cf_X11_collect lk_L_287 ⟨rfl, rfl⟩ ⟨Nat.le_of_ble_eq_true rfl, Nat.le_of_ble_eq_true rfl⟩ e3 rfl rfl rfl (Nat.le_of_ble_eq_true rfl) hf0 rfl dL_law_2460 (fun hr2 => ?_)
    refine V_aload_n (pc := 2463) C 2 rfl dL_law_2463 ?_
    obtain ⟨M6, r7, hc8, h⟩ := cal_of h
    refine V_callVI (pc := 2464) C (c_X12_collect l Γ sk hsk.m fu hc8) cf_X12_collect lk_L_290 ⟨rfl, rfl⟩ ⟨Nat.le_of_ble_eq_true rfl, Nat.le_of_ble_eq_true rfl⟩ e52 rfl rfl rfl (Nat.le_of_ble_eq_true rfl) hf0 rfl dL_law_2464 (fun hr7 => ?_)
    refine V_icmp_eq (pc := 2467) C 2654 hr2 hr7 dL_law_2467 (by decide) (fun c2467_9 => ?_) (fun c2467_9 => ?_)
    · have h := ite_t h c2467_9
      refine V_sub (L' := [(0, vr Γ 2), (1, vr Γ 3), (2, vr Γ 52), (3, vr Γ 65), (4, vi x4)]) [0, 1, 2, 3, 4] rfl (by decide) ?_
      refine V_room (Nat.le_succ _) (Nat.le_add_right _ 6) ?_
      cases h
      exact kk
    · have h := ite_f h c2467_9
      refine V_iconst (pc := 2470) C dL_law_2470 ?_
      cases h
  · cases h
set_option maxRecDepth 100000 in
set_option maxHeartbeats 4000000 in
theorem c_L_case46 (l : Launch) (Γ : GG) (sk : List SD) (hsk : ExtL sk) (hl9 : l.stackTraces = false) (fu : Nat) {nS : Nat} (hs2 : sk[2]? = some (.inl (0, nS))) (hnS : nS ≤ 2147483647) {M M' : Mem} {x4 r : Int} (hx4 : rng x4) (hM : mR M) (h : f_L_case46 fu nS M x4 = some (M', r)) {p : Program} {e : Env} {s : State} {m : MethodId} {args : Array Value} {below : List Frame} {meth : Method} {c : Code} {Q : State → Prop} {cells slots : Nat} (hf1 : cells + 1 ≤ room_1.cells ∧ slots + 6 ≤ room_1.slots) (C : CX p s m args c cL_law 9 RL Γ sk) (kk : VV p l e room_1 s m args below meth c Q 9 Γ sk M' (cells + 1) (slots + 6) 2654 [(0, vr Γ 2), (1, vr Γ 3), (2, vr Γ 52), (3, vr Γ 65), (4, vi x4)] []) : VV p l e room_1 s m args below meth c Q 9 Γ sk M cells slots 2472 [(0, vr Γ 2), (1, vr Γ 3), (2, vr Γ 52), (3, vr Γ 65), (4, vi x4)] [] := by
  unfold f_L_case46 at h
  have hf0 : cells ≤ room_1.cells ∧ slots ≤ room_1.slots := ⟨Nat.le_of_succ_le hf1.1, Nat.le_trans (Nat.le_add_right _ 6) hf1.2⟩
  have e52 := hsk 52 _ (by decide) rfl
  have e65 := hsk 65 _ (by decide) rfl
  refine V_aload_n (pc := 2472) C 1 rfl dL_law_2472 ?_
  refine V_aload_n (pc := 2473) C 3 rfl dL_law_2473 ?_
  obtain ⟨M1, r2, hc3, h⟩ := cal_of h
  refine V_callH (pc := 2474) C (c_L_undo l Γ sk hsk hl9 fu hc3) chf_L_undo lk_L_291 ⟨rfl, rfl⟩ ⟨Nat.le_of_ble_eq_true rfl, Nat.le_of_ble_eq_true rfl⟩ rfl (Nat.le_of_ble_eq_true rfl) hf1 rfl dL_law_2474 (fun hr2 => ?_)
  refine V_istore (pc := 2477) C (L' := [(0, vr Γ 2), (1, vr Γ 3), (2, vr Γ 52), (3, vr Γ 65), (4, vi x4), (5, vi r2)]) rfl (by decide) dL_law_2477 ?_
  refine V_aload_n (pc := 2479) C 2 rfl dL_law_2479 ?_
  obtain ⟨M4, r5, hc6, h⟩ := cal_of h
  refine V_callVI (pc := 2480) C (c_X12_undo l Γ sk hsk.m fu hc6) cf_X12_undo lk_L_294 ⟨rfl, rfl⟩ ⟨Nat.le_of_ble_eq_true rfl, Nat.le_of_ble_eq_true rfl⟩ e52 rfl rfl rfl (Nat.le_of_ble_eq_true rfl) hf1 rfl dL_law_2480 (fun hr5 => ?_)
  refine V_istore (pc := 2483) C (L' := [(0, vr Γ 2), (1, vr Γ 3), (2, vr Γ 52), (3, vr Γ 65), (4, vi x4), (5, vi r2), (6, vi r5)]) rfl (by decide) dL_law_2483 ?_
  refine V_aload_n (pc := 2485) C 2 rfl dL_law_2485 ?_
  obtain ⟨M7, r8, hc9, h⟩ := cal_of h
  refine V_callVI (pc := 2486) C (c_X12_thrown l Γ sk hsk.m fu hc9) cf_X12_thrown lk_L_164 ⟨rfl, rfl⟩ ⟨Nat.le_of_ble_eq_true rfl, Nat.le_of_ble_eq_true rfl⟩ e52 rfl rfl rfl (Nat.le_of_ble_eq_true rfl) hf1 rfl dL_law_2486 (fun hr8 => ?_)
  refine V_iload (pc := 2489) C 5 rfl dL_law_2489 ?_
  refine V_icmp_eq (pc := 2491) C 2496 hr8 hr2 dL_law_2491 (by decide) (fun c2491_10 => ?_) (fun c2491_10 => ?_)
  · have h := ite_t h c2491_10
    refine V_iload (pc := 2496) C 5 rfl dL_law_2496 ?_
    refine V_if_ne (pc := 2498) C 2513 hr2 dL_law_2498 (by decide) (fun c2498_11 => ?_) (fun c2498_11 => ?_)
    · have h := ite_f h c2498_11
      refine V_goto (pc := 2513) C 2654 dL_law_2513 (by decide) ?_
      refine V_sub (L' := [(0, vr Γ 2), (1, vr Γ 3), (2, vr Γ 52), (3, vr Γ 65), (4, vi x4)]) [0, 1, 2, 3, 4] rfl (by decide) ?_
      cases h
      exact kk
    · have h := ite_t h c2498_11
      refine V_aload_n (pc := 2501) C 3 rfl dL_law_2501 ?_
      refine V_iconst (pc := 2502) C dL_law_2502 ?_
      refine V_rng fun hM12 => ?_
      refine V_lald (pc := 2503) C e65 (by decide) (by decide) dL_law_2503 ?_
      refine V_iload (pc := 2504) C 6 rfl dL_law_2504 ?_
      refine V_i2l (pc := 2506) C hr5 dL_law_2506 ?_
      refine V_lcmp (pc := 2507) C (hM12 _ _) hr5 dL_law_2507 ?_
      refine V_if_eq (pc := 2508) C 2513 (lcmp_rng _ _) dL_law_2508 (by decide) (fun c2508_13 => ?_) (fun c2508_13 => ?_)
      · have h := ite_t h c2508_13
        refine V_goto (pc := 2513) C 2654 dL_law_2513 (by decide) ?_
        refine V_sub (L' := [(0, vr Γ 2), (1, vr Γ 3), (2, vr Γ 52), (3, vr Γ 65), (4, vi x4)]) [0, 1, 2, 3, 4] rfl (by decide) ?_
        cases h
        exact kk
      · have h := ite_f h c2508_13
        refine V_iconst (pc := 2511) C dL_law_2511 ?_
        cases h
  · have h := ite_f h c2491_10
    refine V_iconst (pc := 2494) C dL_law_2494 ?_
    cases h
set_option maxRecDepth 100000 in
set_option maxHeartbeats 4000000 in
theorem c_L_case47 (l : Launch) (Γ : GG) (sk : List SD) (hsk : ExtL sk) (hl9 : l.stackTraces = false) (fu : Nat) {nS : Nat} (hs2 : sk[2]? = some (.inl (0, nS))) (hnS : nS ≤ 2147483647) {M M' : Mem} {x4 r : Int} (hx4 : rng x4) (hM : mR M) (h : f_L_case47 fu nS M x4 = some (M', r)) {p : Program} {e : Env} {s : State} {m : MethodId} {args : Array Value} {below : List Frame} {meth : Method} {c : Code} {Q : State → Prop} {cells slots : Nat} (hf1 : cells + 1 ≤ room_1.cells ∧ slots + 6 ≤ room_1.slots) (C : CX p s m args c cL_law 9 RL Γ sk) (kk : VV p l e room_1 s m args below meth c Q 9 Γ sk M' (cells + 1) (slots + 6) 2654 [(0, vr Γ 2), (1, vr Γ 3), (2, vr Γ 52), (3, vr Γ 65), (4, vi x4)] []) : VV p l e room_1 s m args below meth c Q 9 Γ sk M cells slots 2516 [(0, vr Γ 2), (1, vr Γ 3), (2, vr Γ 52), (3, vr Γ 65), (4, vi x4)] [] := by
  unfold f_L_case47 at h
  have hf0 : cells ≤ room_1.cells ∧ slots ≤ room_1.slots := ⟨Nat.le_of_succ_le hf1.1, Nat.le_trans (Nat.le_add_right _ 6) hf1.2⟩
  have e52 := hsk 52 _ (by decide) rfl
  have e65 := hsk 65 _ (by decide) rfl
  refine V_aload_n (pc := 2516) C 1 rfl dL_law_2516 ?_
  refine V_aload_n (pc := 2517) C 0 rfl dL_law_2517 ?_
  refine V_iload (pc := 2518) C 4 rfl dL_law_2518 ?_
  refine V_iconst (pc := 2520) C dL_law_2520 ?_
  refine V_iadd (pc := 2521) C dL_law_2521 ?_
  obtain ⟨g1, h⟩ := grd_of h
  obtain ⟨g2, h⟩ := grd_of h
  refine V_iald (pc := 2522) C hs2 g2 g1 dL_law_2522 ?_
  refine V_aload_n (pc := 2523) C 3 rfl dL_law_2523 ?_
  obtain ⟨M3, r4, hc5, h⟩ := cal_of h
  refine V_callH (pc := 2524) C (c_L_writeVersion l Γ sk hsk hl9 fu (hM _ _) hc5) chf_L_writeVersion lk_L_295 ⟨rfl, rfl⟩ ⟨Nat.le_of_ble_eq_true rfl, Nat.le_of_ble_eq_true rfl⟩ rfl (Nat.le_of_ble_eq_true rfl) hf1 rfl dL_law_2524 (fun hr4 => ?_)
  refine V_istore (pc := 2527) C (L' := [(0, vr Γ 2), (1, vr Γ 3), (2, vr Γ 52), (3, vr Γ 65), (4, vi x4), (5, vi r4)]) rfl (by decide) dL_law_2527 ?_
  refine V_aload_n (pc := 2529) C 2 rfl dL_law_2529 ?_
  refine V_aload_n (pc := 2530) C 0 rfl dL_law_2530 ?_
  refine V_iload (pc := 2531) C 4 rfl dL_law_2531 ?_
  refine V_iconst (pc := 2533) C dL_law_2533 ?_
  refine V_iadd (pc := 2534) C dL_law_2534 ?_
  refine V_rng fun hM6 => ?_
  obtain ⟨g7, h⟩ := grd_of h
  obtain ⟨g8, h⟩ := grd_of h
  refine V_iald (pc := 2535) C hs2 g8 g7 dL_law_2535 ?_
  obtain ⟨M9, r10, hc11, h⟩ := cal_of h
  refine V_callVI (pc := 2536) C (c_X12_writeVersion l Γ sk hsk.m fu (hM6 _ _) hc11) cf_X12_writeVersion lk_L_297 ⟨rfl, rfl⟩ ⟨Nat.le_of_ble_eq_true rfl, Nat.le_of_ble_eq_true rfl⟩ e52 rfl rfl rfl (Nat.le_of_ble_eq_true rfl) hf1 rfl dL_law_2536 (fun hr10 => ?_)
  refine V_istore (pc := 2539) C (L' := [(0, vr Γ 2), (1, vr Γ 3), (2, vr Γ 52), (3, vr Γ 65), (4, vi x4), (5, vi r4), (6, vi r10)]) rfl (by decide) dL_law_2539 ?_
  refine V_aload_n (pc := 2541) C 2 rfl dL_law_2541 ?_
  obtain ⟨M12, r13, hc14, h⟩ := cal_of h
  refine V_callVI (pc := 2542) C (c_X12_thrown l Γ sk hsk.m fu hc14) cf_X12_thrown lk_L_164 ⟨rfl, rfl⟩ ⟨Nat.le_of_ble_eq_true rfl, Nat.le_of_ble_eq_true rfl⟩ e52 rfl rfl rfl (Nat.le_of_ble_eq_true rfl) hf1 rfl dL_law_2542 (fun hr13 => ?_)
  refine V_iload (pc := 2545) C 5 rfl dL_law_2545 ?_
  refine V_icmp_eq (pc := 2547) C 2552 hr13 hr4 dL_law_2547 (by decide) (fun c2547_15 => ?_) (fun c2547_15 => ?_)
  · have h := ite_t h c2547_15
    refine V_iload (pc := 2552) C 5 rfl dL_law_2552 ?_
    refine V_if_ne (pc := 2554) C 2569 hr4 dL_law_2554 (by decide) (fun c2554_16 => ?_) (fun c2554_16 => ?_)
    · have h := ite_f h c2554_16
      refine V_goto (pc := 2569) C 2654 dL_law_2569 (by decide) ?_
      refine V_sub (L' := [(0, vr Γ 2), (1, vr Γ 3), (2, vr Γ 52), (3, vr Γ 65), (4, vi x4)]) [0, 1, 2, 3, 4] rfl (by decide) ?_
      cases h
      exact kk
    · have h := ite_t h c2554_16
      refine V_aload_n (pc := 2557) C 3 rfl dL_law_2557 ?_
      refine V_iconst (pc := 2558) C dL_law_2558 ?_
      refine V_rng fun hM17 => ?_
      refine V_lald (pc := 2559) C e65 (by decide) (by decide) dL_law_2559 ?_
      refine V_iload (pc := 2560) C 6 rfl dL_law_2560 ?_
      refine V_i2l (pc := 2562) C hr10 dL_law_2562 ?_
      refine V_lcmp (pc := 2563) C (hM17 _ _) hr10 dL_law_2563 ?_
      refine V_if_eq (pc := 2564) C 2569 (lcmp_rng _ _) dL_law_2564 (by decide) (fun c2564_18 => ?_) (fun c2564_18 => ?_)
      · have h := ite_t h c2564_18
        refine V_goto (pc := 2569) C 2654 dL_law_2569 (by decide) ?_
        refine V_sub (L' := [(0, vr Γ 2), (1, vr Γ 3), (2, vr Γ 52), (3, vr Γ 65), (4, vi x4)]) [0, 1, 2, 3, 4] rfl (by decide) ?_
        cases h
        exact kk
      · have h := ite_f h c2564_18
        refine V_iconst (pc := 2567) C dL_law_2567 ?_
        cases h
  · have h := ite_f h c2547_15
    refine V_iconst (pc := 2550) C dL_law_2550 ?_
    cases h
set_option maxRecDepth 100000 in
set_option maxHeartbeats 4000000 in
theorem c_L_case48 (l : Launch) (Γ : GG) (sk : List SD) (hsk : ExtL sk) (hl9 : l.stackTraces = false) (fu : Nat) {nS : Nat} (hs2 : sk[2]? = some (.inl (0, nS))) (hnS : nS ≤ 2147483647) {M M' : Mem} {x4 r : Int} (hx4 : rng x4) (hM : mR M) (h : f_L_case48 fu nS M x4 = some (M', r)) {p : Program} {e : Env} {s : State} {m : MethodId} {args : Array Value} {below : List Frame} {meth : Method} {c : Code} {Q : State → Prop} {cells slots : Nat} (hf1 : cells + 1 ≤ room_1.cells ∧ slots + 6 ≤ room_1.slots) (C : CX p s m args c cL_law 9 RL Γ sk) (kk : VV p l e room_1 s m args below meth c Q 9 Γ sk M' (cells + 1) (slots + 6) 2654 [(0, vr Γ 2), (1, vr Γ 3), (2, vr Γ 52), (3, vr Γ 65), (4, vi x4)] []) : VV p l e room_1 s m args below meth c Q 9 Γ sk M cells slots 2572 [(0, vr Γ 2), (1, vr Γ 3), (2, vr Γ 52), (3, vr Γ 65), (4, vi x4)] [] := by
  unfold f_L_case48 at h
  have hf0 : cells ≤ room_1.cells ∧ slots ≤ room_1.slots := ⟨Nat.le_of_succ_le hf1.1, Nat.le_trans (Nat.le_add_right _ 6) hf1.2⟩
  have e3 := hsk 3 _ (by decide) rfl
  have e52 := hsk 52 _ (by decide) rfl
  refine V_aload_n (pc := 2572) C 1 rfl dL_law_2572 ?_
  refine V_aload_n (pc := 2573) C 0 rfl dL_law_2573 ?_
  refine V_iload (pc := 2574) C 4 rfl dL_law_2574 ?_
  refine V_iconst (pc := 2576) C dL_law_2576 ?_
  refine V_iadd (pc := 2577) C dL_law_2577 ?_
  obtain ⟨g1, h⟩ := grd_of h
  obtain ⟨g2, h⟩ := grd_of h
  refine V_iald (pc := 2578) C hs2 g2 g1 dL_law_2578 ?_
  obtain ⟨M3, r4, hc5, h⟩ := cal_of h
  refine V_callVI (pc := 2579) C (c_X11_outputByte l Γ sk hsk.m.c fu (hM _ _) hc5) cf_X11_outputByte lk_L_298 ⟨rfl, rfl⟩ ⟨Nat.le_of_ble_eq_true rfl, Nat.le_of_ble_eq_true rfl⟩ e3 rfl rfl rfl (Nat.le_of_ble_eq_true rfl) hf0 rfl dL_law_2579 (fun hr4 => ?_)
  refine V_aload_n (pc := 2582) C 2 rfl dL_law_2582 ?_
  refine V_aload_n (pc := 2583) C 0 rfl dL_law_2583 ?_
  refine V_iload (pc := 2584) C 4 rfl dL_law_2584 ?_
  refine V_iconst (pc := 2586) C dL_law_2586 ?_
  refine V_iadd (pc := 2587) C dL_law_2587 ?_
  refine V_rng fun hM6 => ?_
  obtain ⟨g7, h⟩ := grd_of h
  obtain ⟨g8, h⟩ := grd_of h
  refine V_iald (pc := 2588) C hs2 g8 g7 dL_law_2588 ?_
  obtain ⟨M9, r10, hc11, h⟩ := cal_of h
  refine V_callVI (pc := 2589) C (c_X12_outputByte l Γ sk hsk.m fu (hM6 _ _) hc11) cf_X12_outputByte lk_L_301 ⟨rfl, rfl⟩ ⟨Nat.le_of_ble_eq_true rfl, Nat.le_of_ble_eq_true rfl⟩ e52 rfl rfl rfl (Nat.le_of_ble_eq_true rfl) hf0 rfl dL_law_2589 (fun hr10 => ?_)
  refine V_icmp_eq (pc := 2592) C 2654 hr4 hr10 dL_law_2592 (by decide) (fun c2592_12 => ?_) (fun c2592_12 => ?_)
  · have h := ite_t h c2592_12
    refine V_sub (L' := [(0, vr Γ 2), (1, vr Γ 3), (2, vr Γ 52), (3, vr Γ 65), (4, vi x4)]) [0, 1, 2, 3, 4] rfl (by decide) ?_
    refine V_room (Nat.le_succ _) (Nat.le_add_right _ 6) ?_
    cases h
    exact kk
  · have h := ite_f h c2592_12
    refine V_iconst (pc := 2595) C dL_law_2595 ?_
    cases h
set_option maxRecDepth 100000 in
set_option maxHeartbeats 4000000 in
theorem c_L_case49 (l : Launch) (Γ : GG) (sk : List SD) (hsk : ExtL sk) (hl9 : l.stackTraces = false) (fu : Nat) {nS : Nat} (hs2 : sk[2]? = some (.inl (0, nS))) (hnS : nS ≤ 2147483647) {M M' : Mem} {x4 r : Int} (hx4 : rng x4) (hM : mR M) (h : f_L_case49 fu nS M x4 = some (M', r)) {p : Program} {e : Env} {s : State} {m : MethodId} {args : Array Value} {below : List Frame} {meth : Method} {c : Code} {Q : State → Prop} {cells slots : Nat} (hf1 : cells + 1 ≤ room_1.cells ∧ slots + 6 ≤ room_1.slots) (C : CX p s m args c cL_law 9 RL Γ sk) (kk : VV p l e room_1 s m args below meth c Q 9 Γ sk M' (cells + 1) (slots + 6) 2654 [(0, vr Γ 2), (1, vr Γ 3), (2, vr Γ 52), (3, vr Γ 65), (4, vi x4)] []) : VV p l e room_1 s m args below meth c Q 9 Γ sk M cells slots 2597 [(0, vr Γ 2), (1, vr Γ 3), (2, vr Γ 52), (3, vr Γ 65), (4, vi x4)] [] := by
  unfold f_L_case49 at h
  have hf0 : cells ≤ room_1.cells ∧ slots ≤ room_1.slots := ⟨Nat.le_of_succ_le hf1.1, Nat.le_trans (Nat.le_add_right _ 6) hf1.2⟩
  have e3 := hsk 3 _ (by decide) rfl
  have e52 := hsk 52 _ (by decide) rfl
  refine V_aload_n (pc := 2597) C 1 rfl dL_law_2597 ?_
  obtain ⟨M1, r2, hc3, h⟩ := cal_of h
  refine V_callVI (pc := 2598) C (c_X11_saveState l Γ sk hsk.m.c fu hc3) cf_X11_saveState lk_L_302 ⟨rfl, rfl⟩ ⟨Nat.le_of_ble_eq_true rfl, Nat.le_of_ble_eq_true rfl⟩ e3 rfl rfl rfl (Nat.le_of_ble_eq_true rfl) hf0 rfl dL_law_2598 (fun hr2 => ?_)
  refine V_aload_n (pc := 2601) C 2 rfl dL_law_2601 ?_
  obtain ⟨M4, r5, hc6, h⟩ := cal_of h
  refine V_callVI (pc := 2602) C (c_X12_saveState l Γ sk hsk.m fu hc6) cf_X12_saveState lk_L_305 ⟨rfl, rfl⟩ ⟨Nat.le_of_ble_eq_true rfl, Nat.le_of_ble_eq_true rfl⟩ e52 rfl rfl rfl (Nat.le_of_ble_eq_true rfl) hf0 rfl dL_law_2602 (fun hr5 => ?_)
  refine V_icmp_eq (pc := 2605) C 2654 hr2 hr5 dL_law_2605 (by decide) (fun c2605_7 => ?_) (fun c2605_7 => ?_)
  · have h := ite_t h c2605_7
    refine V_sub (L' := [(0, vr Γ 2), (1, vr Γ 3), (2, vr Γ 52), (3, vr Γ 65), (4, vi x4)]) [0, 1, 2, 3, 4] rfl (by decide) ?_
    refine V_room (Nat.le_succ _) (Nat.le_add_right _ 6) ?_
    cases h
    exact kk
  · have h := ite_f h c2605_7
    refine V_iconst (pc := 2608) C dL_law_2608 ?_
    cases h
set_option maxRecDepth 100000 in
set_option maxHeartbeats 4000000 in
theorem c_L_case50 (l : Launch) (Γ : GG) (sk : List SD) (hsk : ExtL sk) (hl9 : l.stackTraces = false) (fu : Nat) {nS : Nat} (hs2 : sk[2]? = some (.inl (0, nS))) (hnS : nS ≤ 2147483647) {M M' : Mem} {x4 r : Int} (hx4 : rng x4) (hM : mR M) (h : f_L_case50 fu nS M x4 = some (M', r)) {p : Program} {e : Env} {s : State} {m : MethodId} {args : Array Value} {below : List Frame} {meth : Method} {c : Code} {Q : State → Prop} {cells slots : Nat} (hf1 : cells + 1 ≤ room_1.cells ∧ slots + 6 ≤ room_1.slots) (C : CX p s m args c cL_law 9 RL Γ sk) (kk : VV p l e room_1 s m args below meth c Q 9 Γ sk M' (cells + 1) (slots + 6) 2654 [(0, vr Γ 2), (1, vr Γ 3), (2, vr Γ 52), (3, vr Γ 65), (4, vi x4)] []) : VV p l e room_1 s m args below meth c Q 9 Γ sk M cells slots 2610 [(0, vr Γ 2), (1, vr Γ 3), (2, vr Γ 52), (3, vr Γ 65), (4, vi x4)] [] := by
  unfold f_L_case50 at h
  have hf0 : cells ≤ room_1.cells ∧ slots ≤ room_1.slots := ⟨Nat.le_of_succ_le hf1.1, Nat.le_trans (Nat.le_add_right _ 6) hf1.2⟩
  have e52 := hsk 52 _ (by decide) rfl
  have e65 := hsk 65 _ (by decide) rfl
  refine V_aload_n (pc := 2610) C 1 rfl dL_law_2610 ?_
  refine V_aload_n (pc := 2611) C 3 rfl dL_law_2611 ?_
  obtain ⟨M1, r2, hc3, h⟩ := cal_of h
  refine V_callH (pc := 2612) C (c_L_restoreState l Γ sk hsk hl9 fu hc3) chf_L_restoreState lk_L_306 ⟨rfl, rfl⟩ ⟨Nat.le_of_ble_eq_true rfl, Nat.le_of_ble_eq_true rfl⟩ rfl (Nat.le_of_ble_eq_true rfl) hf1 rfl dL_law_2612 (fun hr2 => ?_)
  refine V_istore (pc := 2615) C (L' := [(0, vr Γ 2), (1, vr Γ 3), (2, vr Γ 52), (3, vr Γ 65), (4, vi x4), (5, vi r2)]) rfl (by decide) dL_law_2615 ?_
  refine V_aload_n (pc := 2617) C 2 rfl dL_law_2617 ?_
  obtain ⟨M4, r5, hc6, h⟩ := cal_of h
  refine V_callVI (pc := 2618) C (c_X12_restoreState l Γ sk hsk.m fu hc6) cf_X12_restoreState lk_L_308 ⟨rfl, rfl⟩ ⟨Nat.le_of_ble_eq_true rfl, Nat.le_of_ble_eq_true rfl⟩ e52 rfl rfl rfl (Nat.le_of_ble_eq_true rfl) hf1 rfl dL_law_2618 (fun hr5 => ?_)
  refine V_istore (pc := 2621) C (L' := [(0, vr Γ 2), (1, vr Γ 3), (2, vr Γ 52), (3, vr Γ 65), (4, vi x4), (5, vi r2), (6, vi r5)]) rfl (by decide) dL_law_2621 ?_
  refine V_aload_n (pc := 2623) C 2 rfl dL_law_2623 ?_
  obtain ⟨M7, r8, hc9, h⟩ := cal_of h
  refine V_callVI (pc := 2624) C (c_X12_thrown l Γ sk hsk.m fu hc9) cf_X12_thrown lk_L_164 ⟨rfl, rfl⟩ ⟨Nat.le_of_ble_eq_true rfl, Nat.le_of_ble_eq_true rfl⟩ e52 rfl rfl rfl (Nat.le_of_ble_eq_true rfl) hf1 rfl dL_law_2624 (fun hr8 => ?_)
  refine V_iload (pc := 2627) C 5 rfl dL_law_2627 ?_
  refine V_icmp_eq (pc := 2629) C 2634 hr8 hr2 dL_law_2629 (by decide) (fun c2629_10 => ?_) (fun c2629_10 => ?_)
  · have h := ite_t h c2629_10
    refine V_iload (pc := 2634) C 5 rfl dL_law_2634 ?_
    refine V_if_ne (pc := 2636) C 2651 hr2 dL_law_2636 (by decide) (fun c2636_11 => ?_) (fun c2636_11 => ?_)
    · have h := ite_f h c2636_11
      refine V_goto (pc := 2651) C 2654 dL_law_2651 (by decide) ?_
      refine V_sub (L' := [(0, vr Γ 2), (1, vr Γ 3), (2, vr Γ 52), (3, vr Γ 65), (4, vi x4)]) [0, 1, 2, 3, 4] rfl (by decide) ?_
      cases h
      exact kk
    · have h := ite_t h c2636_11
      refine V_aload_n (pc := 2639) C 3 rfl dL_law_2639 ?_
      refine V_iconst (pc := 2640) C dL_law_2640 ?_
      refine V_rng fun hM12 => ?_
      refine V_lald (pc := 2641) C e65 (by decide) (by decide) dL_law_2641 ?_
      refine V_iload (pc := 2642) C 6 rfl dL_law_2642 ?_
      refine V_i2l (pc := 2644) C hr5 dL_law_2644 ?_
      refine V_lcmp (pc := 2645) C (hM12 _ _) hr5 dL_law_2645 ?_
      refine V_if_eq (pc := 2646) C 2651 (lcmp_rng _ _) dL_law_2646 (by decide) (fun c2646_13 => ?_) (fun c2646_13 => ?_)
      · have h := ite_t h c2646_13
        refine V_goto (pc := 2651) C 2654 dL_law_2651 (by decide) ?_
        refine V_sub (L' := [(0, vr Γ 2), (1, vr Γ 3), (2, vr Γ 52), (3, vr Γ 65), (4, vi x4)]) [0, 1, 2, 3, 4] rfl (by decide) ?_
        cases h
        exact kk
      · have h := ite_f h c2646_13
        refine V_iconst (pc := 2649) C dL_law_2649 ?_
        cases h
  · have h := ite_f h c2629_10
    refine V_iconst (pc := 2632) C dL_law_2632 ?_
    cases h
