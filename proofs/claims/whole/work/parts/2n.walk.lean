set_option maxRecDepth 100000 in
set_option maxHeartbeats 4000000 in
theorem c_X12_loadSetup (l : Launch) (Γ : GG) (sk : List SD) (hsk : ExtM sk) (fu : Nat) {M M' : Mem}  {r : Int}  (h : f_X12_loadSetup fu M  = some (M', r)) : MetI l yX12_loadSetup cX12_loadSetup 1 .int ({ frames := 15, cells := 0, slots := 0, locals := 466 } : Room) Γ sk [vr Γ 52] M M' r := by
  unfold f_X12_loadSetup at h
  refine MetI_of RX12 rfl (by decide) rfl (Nat.le_of_ble_eq_true rfl) rfl ?_
  intro p e s m args below meth c C hr hlk hM
  have e52 := hsk 52 _ (by decide) rfl
  have JP35 : ∀ {M : Mem}, f_X12_loadSetup_J35 fu M = some (M', r) → VV p l e ({ frames := 15, cells := 0, slots := 0, locals := 466 } : Room) s m args below meth c (MQ below (PostI Γ sk M' r s.heap.size) args s 0 0 (Fr Γ sk s.heap.size)) 1 Γ sk M 0 0 35 [(0, vr Γ 52)] [] := by
    intro M h
    unfold f_X12_loadSetup_J35 at h
    refine V_aload_n (pc := 35) C 0 rfl dX12_loadSetup_35 ?_
    obtain ⟨M6, r7, hc8, h⟩ := cal_of h
    refine V_callVV (pc := 36) C (c_X12_endText l Γ sk hsk fu hc8) cf_X12_endText lk_X12_259 ⟨rfl, rfl⟩ ⟨Nat.le_of_ble_eq_true rfl, Nat.le_of_ble_eq_true rfl⟩ e52 rfl rfl rfl (Nat.le_of_ble_eq_true rfl) ⟨Nat.zero_le _, Nat.zero_le _⟩ rfl dX12_loadSetup_36 ?_
    refine V_aload_n (pc := 39) C 0 rfl dX12_loadSetup_39 ?_
    refine V_rng fun hM9 => ?_
    refine V_getI (pc := 40) C e52 rfl inX12 20 (by decide) rfl lf_X12_197 rfl dX12_loadSetup_40 ?_
    refine V_if_le (pc := 43) C 48 (hM9 _ _) dX12_loadSetup_43 (by decide) (fun c43_10 => ?_) (fun c43_10 => ?_)
    · have h := ite_t h c43_10
      refine V_aload_n (pc := 48) C 0 rfl dX12_loadSetup_48 ?_
      obtain ⟨M11, r12, hc13, h⟩ := cal_of h
      refine V_callVV (pc := 49) C (c_X12_begin l Γ sk hsk fu hc13) cf_X12_begin lk_X12_55 ⟨rfl, rfl⟩ ⟨Nat.le_of_ble_eq_true rfl, Nat.le_of_ble_eq_true rfl⟩ e52 rfl rfl rfl (Nat.le_of_ble_eq_true rfl) ⟨Nat.zero_le _, Nat.zero_le _⟩ rfl dX12_loadSetup_49 ?_
      refine V_aload_n (pc := 52) C 0 rfl dX12_loadSetup_52 ?_
      refine V_iconst (pc := 53) C dX12_loadSetup_53 ?_
      refine V_putI (pc := 54) C (by decide) e52 rfl inX12 tyX12 tyX12_ok nmX12 4 (by decide) rfl rfl lf_X12_61 rfl (by decide) rfl dX12_loadSetup_54 ?_
      refine V_aload_n (pc := 57) C 0 rfl dX12_loadSetup_57 ?_
      refine V_iconst (pc := 58) C dX12_loadSetup_58 ?_
      obtain ⟨g14, h⟩ := grd_of h
      refine V_putZ (pc := 59) C (by decide) e52 rfl inX12 tyX12 tyX12_ok nmX12 5 (by decide) rfl rfl lf_X12_262 rfl g14 rfl dX12_loadSetup_59 ?_
      refine V_aload_n (pc := 62) C 0 rfl dX12_loadSetup_62 ?_
      refine V_rng fun hM15 => ?_
      refine V_getI (pc := 63) C e52 rfl inX12 9 (by decide) rfl lf_X12_52 rfl dX12_loadSetup_63 ?_
      exact V_iret (pc := 66) C hr hlk (hM15 _ _) h dX12_loadSetup_66
    · have h := ite_f h c43_10
      refine V_iconst (pc := 46) C dX12_loadSetup_46 ?_
      exact V_iret (pc := 47) C hr hlk (by decide) h dX12_loadSetup_47
  have LP14 : ∀ (n : Nat) {M : Mem}, f_X12_loadSetup_L14 fu n M = some (M', r) → VV p l e ({ frames := 15, cells := 0, slots := 0, locals := 466 } : Room) s m args below meth c (MQ below (PostI Γ sk M' r s.heap.size) args s 0 0 (Fr Γ sk s.heap.size)) 1 Γ sk M 0 0 14 [(0, vr Γ 52)] [] := by
    intro n
    induction n with
    | zero =>
      intro M h
      cases h
    | succ n ih =>
      intro M h
      rw [f_X12_loadSetup_L14] at h
      refine V_aload_n (pc := 14) C 0 rfl dX12_loadSetup_14 ?_
      refine V_rng fun hM4 => ?_
      refine V_getI (pc := 15) C e52 rfl inX12 20 (by decide) rfl lf_X12_197 rfl dX12_loadSetup_15 ?_
      refine V_if_ne (pc := 18) C 35 (hM4 _ _) dX12_loadSetup_18 (by decide) (fun c18_5 => ?_) (fun c18_5 => ?_)
      · have h := ite_f h c18_5
        refine V_sub (L' := [(0, vr Γ 52)]) [0] rfl (by decide) ?_
        exact JP35 h
      · have h := ite_t h c18_5
        refine V_aload_n (pc := 21) C 0 rfl dX12_loadSetup_21 ?_
        refine V_getI (pc := 22) C e52 rfl inX12 18 (by decide) rfl lf_X12_206 rfl dX12_loadSetup_22 ?_
        refine V_if_eq (pc := 25) C 35 (hM4 _ _) dX12_loadSetup_25 (by decide) (fun c25_16 => ?_) (fun c25_16 => ?_)
        · have h := ite_t h c25_16
          refine V_sub (L' := [(0, vr Γ 52)]) [0] rfl (by decide) ?_
          exact JP35 h
        · have h := ite_f h c25_16
          refine V_aload_n (pc := 28) C 0 rfl dX12_loadSetup_28 ?_
          obtain ⟨M17, r18, hc19, h⟩ := cal_of h
          refine V_callVV (pc := 29) C (c_X12_parseList l Γ sk hsk fu hc19) cf_X12_parseList lk_X12_256 ⟨rfl, rfl⟩ ⟨Nat.le_of_ble_eq_true rfl, Nat.le_of_ble_eq_true rfl⟩ e52 rfl rfl rfl (Nat.le_of_ble_eq_true rfl) ⟨Nat.zero_le _, Nat.zero_le _⟩ rfl dX12_loadSetup_29 ?_
          refine V_goto (pc := 32) C 14 dX12_loadSetup_32 (by decide) ?_
          refine V_sub (L' := [(0, vr Γ 52)]) [0] rfl (by decide) ?_
          exact ih h
  skip
  refine V_aload_n (pc := 0) C 0 rfl dX12_loadSetup_0 ?_
  refine V_iconst (pc := 1) C dX12_loadSetup_1 ?_
  refine V_putI (pc := 2) C (by decide) e52 rfl inX12 tyX12 tyX12_ok nmX12 6 (by decide) rfl rfl lf_X12_58 rfl (by decide) rfl dX12_loadSetup_2 ?_
  refine V_aload_n (pc := 5) C 0 rfl dX12_loadSetup_5 ?_
  refine V_iconst (pc := 6) C dX12_loadSetup_6 ?_
  refine V_putI (pc := 7) C (by decide) e52 rfl inX12 tyX12 tyX12_ok nmX12 9 (by decide) rfl rfl lf_X12_52 rfl (by decide) rfl dX12_loadSetup_7 ?_
  refine V_aload_n (pc := 10) C 0 rfl dX12_loadSetup_10 ?_
  obtain ⟨M1, r2, hc3, h⟩ := cal_of h
  refine V_callVV (pc := 11) C (c_X12_beginText l Γ sk hsk fu hc3) cf_X12_beginText lk_X12_253 ⟨rfl, rfl⟩ ⟨Nat.le_of_ble_eq_true rfl, Nat.le_of_ble_eq_true rfl⟩ e52 rfl rfl rfl (Nat.le_of_ble_eq_true rfl) ⟨Nat.zero_le _, Nat.zero_le _⟩ rfl dX12_loadSetup_11 ?_
  refine V_sub (L' := [(0, vr Γ 52)]) [0] rfl (by decide) ?_
  exact LP14 fu  h
set_option maxRecDepth 100000 in
set_option maxHeartbeats 4000000 in
theorem c_X12_statementKind (l : Launch) (Γ : GG) (sk : List SD) (hsk : ExtM sk) (fu : Nat) {M M' : Mem}  {r : Int}  (h : f_X12_statementKind fu M  = some (M', r)) : MetI l yX12_statementKind cX12_statementKind 1 .int ({ frames := 13, cells := 0, slots := 0, locals := 422 } : Room) Γ sk [vr Γ 52] M M' r := by
  unfold f_X12_statementKind at h
  refine MetI_of RX12 rfl (by decide) rfl (Nat.le_of_ble_eq_true rfl) rfl ?_
  intro p e s m args below meth c C hr hlk hM
  have e52 := hsk 52 _ (by decide) rfl
  refine V_aload_n (pc := 0) C 0 rfl dX12_statementKind_0 ?_
  refine V_ldcSw (pc := 1) C (q := 2) (C.2.2.2.2.2.2.2.2.2.2.2.1 _ (List.mem_of_getElem? (i := 14) (by decide +kernel) : (RX12, 266, "set", 2) ∈ strL)) dX12_statementKind_1 ?_
  obtain ⟨M1, r2, hc3, h⟩ := cal_of h
  refine V_callVI (pc := 4) C (c_X12_isWord l Γ sk hsk fu (by decide) hc3) cf_X12_isWord lk_X12_238 ⟨rfl, rfl⟩ ⟨Nat.le_of_ble_eq_true rfl, Nat.le_of_ble_eq_true rfl⟩ e52 rfl rfl rfl (Nat.le_of_ble_eq_true rfl) ⟨Nat.zero_le _, Nat.zero_le _⟩ rfl dX12_statementKind_4 (fun hr2 => ?_)
  refine V_if_eq (pc := 7) C 12 hr2 dX12_statementKind_7 (by decide) (fun c7_4 => ?_) (fun c7_4 => ?_)
  · have h := ite_t h c7_4
    refine V_aload_n (pc := 12) C 0 rfl dX12_statementKind_12 ?_
    refine V_ldcSw (pc := 13) C (q := 3) (C.2.2.2.2.2.2.2.2.2.2.2.1 _ (List.mem_of_getElem? (i := 15) (by decide +kernel) : (RX12, 268, "append", 3) ∈ strL)) dX12_statementKind_13 ?_
    obtain ⟨M5, r6, hc7, h⟩ := cal_of h
    refine V_callVI (pc := 16) C (c_X12_isWord l Γ sk hsk fu (by decide) hc7) cf_X12_isWord lk_X12_238 ⟨rfl, rfl⟩ ⟨Nat.le_of_ble_eq_true rfl, Nat.le_of_ble_eq_true rfl⟩ e52 rfl rfl rfl (Nat.le_of_ble_eq_true rfl) ⟨Nat.zero_le _, Nat.zero_le _⟩ rfl dX12_statementKind_16 (fun hr6 => ?_)
    refine V_if_eq (pc := 19) C 24 hr6 dX12_statementKind_19 (by decide) (fun c19_8 => ?_) (fun c19_8 => ?_)
    · have h := ite_t h c19_8
      refine V_aload_n (pc := 24) C 0 rfl dX12_statementKind_24 ?_
      refine V_ldcSw (pc := 25) C (q := 4) (C.2.2.2.2.2.2.2.2.2.2.2.1 _ (List.mem_of_getElem? (i := 16) (by decide +kernel) : (RX12, 270, "truncate", 4) ∈ strL)) dX12_statementKind_25 ?_
      obtain ⟨M9, r10, hc11, h⟩ := cal_of h
      refine V_callVI (pc := 28) C (c_X12_isWord l Γ sk hsk fu (by decide) hc11) cf_X12_isWord lk_X12_238 ⟨rfl, rfl⟩ ⟨Nat.le_of_ble_eq_true rfl, Nat.le_of_ble_eq_true rfl⟩ e52 rfl rfl rfl (Nat.le_of_ble_eq_true rfl) ⟨Nat.zero_le _, Nat.zero_le _⟩ rfl dX12_statementKind_28 (fun hr10 => ?_)
      refine V_if_eq (pc := 31) C 36 hr10 dX12_statementKind_31 (by decide) (fun c31_12 => ?_) (fun c31_12 => ?_)
      · have h := ite_t h c31_12
        refine V_aload_n (pc := 36) C 0 rfl dX12_statementKind_36 ?_
        refine V_ldcSw (pc := 37) C (q := 5) (C.2.2.2.2.2.2.2.2.2.2.2.1 _ (List.mem_of_getElem? (i := 17) (by decide +kernel) : (RX12, 272, "release", 5) ∈ strL)) dX12_statementKind_37 ?_
        obtain ⟨M13, r14, hc15, h⟩ := cal_of h
        refine V_callVI (pc := 40) C (c_X12_isWord l Γ sk hsk fu (by decide) hc15) cf_X12_isWord lk_X12_238 ⟨rfl, rfl⟩ ⟨Nat.le_of_ble_eq_true rfl, Nat.le_of_ble_eq_true rfl⟩ e52 rfl rfl rfl (Nat.le_of_ble_eq_true rfl) ⟨Nat.zero_le _, Nat.zero_le _⟩ rfl dX12_statementKind_40 (fun hr14 => ?_)
        refine V_if_eq (pc := 43) C 48 hr14 dX12_statementKind_43 (by decide) (fun c43_16 => ?_) (fun c43_16 => ?_)
        · have h := ite_t h c43_16
          refine V_aload_n (pc := 48) C 0 rfl dX12_statementKind_48 ?_
          refine V_ldcSw (pc := 49) C (q := 6) (C.2.2.2.2.2.2.2.2.2.2.2.1 _ (List.mem_of_getElem? (i := 18) (by decide +kernel) : (RX12, 274, "collect", 6) ∈ strL)) dX12_statementKind_49 ?_
          obtain ⟨M17, r18, hc19, h⟩ := cal_of h
          refine V_callVI (pc := 52) C (c_X12_isWord l Γ sk hsk fu (by decide) hc19) cf_X12_isWord lk_X12_238 ⟨rfl, rfl⟩ ⟨Nat.le_of_ble_eq_true rfl, Nat.le_of_ble_eq_true rfl⟩ e52 rfl rfl rfl (Nat.le_of_ble_eq_true rfl) ⟨Nat.zero_le _, Nat.zero_le _⟩ rfl dX12_statementKind_52 (fun hr18 => ?_)
          refine V_if_eq (pc := 55) C 62 hr18 dX12_statementKind_55 (by decide) (fun c55_20 => ?_) (fun c55_20 => ?_)
          · have h := ite_t h c55_20
            refine V_iconst (pc := 62) C dX12_statementKind_62 ?_
            exact V_iret (pc := 63) C hr hlk (by decide) h dX12_statementKind_63
          · have h := ite_f h c55_20
            refine V_iconst (pc := 58) C dX12_statementKind_58 ?_
            refine V_goto (pc := 59) C 63 dX12_statementKind_59 (by decide) ?_
            exact V_iret (pc := 63) C hr hlk (by decide) h dX12_statementKind_63
        · have h := ite_f h c43_16
          refine V_iconst (pc := 46) C dX12_statementKind_46 ?_
          exact V_iret (pc := 47) C hr hlk (by decide) h dX12_statementKind_47
      · have h := ite_f h c31_12
        refine V_iconst (pc := 34) C dX12_statementKind_34 ?_
        exact V_iret (pc := 35) C hr hlk (by decide) h dX12_statementKind_35
    · have h := ite_f h c19_8
      refine V_iconst (pc := 22) C dX12_statementKind_22 ?_
      exact V_iret (pc := 23) C hr hlk (by decide) h dX12_statementKind_23
  · have h := ite_f h c7_4
    refine V_iconst (pc := 10) C dX12_statementKind_10 ?_
    exact V_iret (pc := 11) C hr hlk (by decide) h dX12_statementKind_11
set_option maxRecDepth 100000 in
set_option maxHeartbeats 4000000 in
theorem c_X12_parseVersion (l : Launch) (Γ : GG) (sk : List SD) (hsk : ExtM sk) (fu : Nat) {M M' : Mem}  {r : Int}  (h : f_X12_parseVersion fu M  = some (M', r)) : MetI l yX12_parseVersion cX12_parseVersion 1 .int ({ frames := 4, cells := 0, slots := 0, locals := 89 } : Room) Γ sk [vr Γ 52] M M' r := by
  unfold f_X12_parseVersion at h
  refine MetI_of RX12 rfl (by decide) rfl (Nat.le_of_ble_eq_true rfl) rfl ?_
  intro p e s m args below meth c C hr hlk hM
  have e52 := hsk 52 _ (by decide) rfl
  refine V_aload_n (pc := 0) C 0 rfl dX12_parseVersion_0 ?_
  refine V_iconst (pc := 1) C dX12_parseVersion_1 ?_
  refine V_bipush (pc := 2) C dX12_parseVersion_2 rfl ?_
  obtain ⟨M1, r2, hc3, h⟩ := cal_of h
  refine V_callVI (pc := 4) C (c_X12_parseNumber l Γ sk hsk fu (by decide) (by decide) hc3) cf_X12_parseNumber lk_X12_242 ⟨rfl, rfl⟩ ⟨Nat.le_of_ble_eq_true rfl, Nat.le_of_ble_eq_true rfl⟩ e52 rfl rfl rfl (Nat.le_of_ble_eq_true rfl) ⟨Nat.zero_le _, Nat.zero_le _⟩ rfl dX12_parseVersion_4 (fun hr2 => ?_)
  exact V_iret (pc := 7) C hr hlk hr2 h dX12_parseVersion_7
set_option maxRecDepth 100000 in
set_option maxHeartbeats 4000000 in
theorem c_X12_parseStatement (l : Launch) (Γ : GG) (sk : List SD) (hsk : ExtM sk) (fu : Nat) {M M' : Mem}  {r : Int}  (h : f_X12_parseStatement fu M  = some (M', r)) : MetV l yX12_parseStatement cX12_parseStatement 3 ({ frames := 14, cells := 0, slots := 0, locals := 445 } : Room) Γ sk [vr Γ 52] M M' := by
  unfold f_X12_parseStatement at h
  refine MetV_of RX12 rfl (by decide) rfl (Nat.le_of_ble_eq_true rfl) rfl ?_
  intro p e s m args below meth c C hr hlk hM
  have e52 := hsk 52 _ (by decide) rfl
  have e62 := hsk 62 _ (by decide) rfl
  have JP212 : ∀ {M : Mem}, f_X12_parseStatement_J212 fu M = some (M', r) → VV p l e ({ frames := 14, cells := 0, slots := 0, locals := 445 } : Room) s m args below meth c (MQ below (PostV Γ sk M' s.heap.size) args s 0 0 (Fr Γ sk s.heap.size)) 3 Γ sk M 0 0 212 [(0, vr Γ 52)] [] := by
    intro M h
    unfold f_X12_parseStatement_J212 at h
    refine V_aload_n (pc := 212) C 0 rfl dX12_parseStatement_212 ?_
    obtain ⟨M36, r37, hc38, h⟩ := cal_of h
    refine V_callVV (pc := 213) C (c_X12_parseSemicolon l Γ sk hsk fu hc38) cf_X12_parseSemicolon lk_X12_250 ⟨rfl, rfl⟩ ⟨Nat.le_of_ble_eq_true rfl, Nat.le_of_ble_eq_true rfl⟩ e52 rfl rfl rfl (Nat.le_of_ble_eq_true rfl) ⟨Nat.zero_le _, Nat.zero_le _⟩ rfl dX12_parseStatement_213 ?_
    refine V_aload_n (pc := 216) C 0 rfl dX12_parseStatement_216 ?_
    refine V_dup (pc := 217) C rfl dX12_parseStatement_217 ?_
    refine V_rng fun hM39 => ?_
    refine V_getI (pc := 218) C e52 rfl inX12 23 (by decide) rfl lf_X12_279 rfl dX12_parseStatement_218 ?_
    refine V_iconst (pc := 221) C dX12_parseStatement_221 ?_
    refine V_iadd (pc := 222) C dX12_parseStatement_222 ?_
    obtain ⟨g40, h⟩ := grd_of h
    refine V_putI (pc := 223) C (by decide) e52 rfl inX12 tyX12 tyX12_ok nmX12 23 (by decide) rfl rfl lf_X12_279 rfl g40 rfl dX12_parseStatement_223 ?_
    exact V_vret (pc := 226) C hr hlk h dX12_parseStatement_226
  have JP35 : ∀ {x1 : Int} {y1 : Int} {M : Mem}, rng x1 → rng y1 → f_X12_parseStatement_J35 fu x1 y1 M = some (M', r) → VV p l e ({ frames := 14, cells := 0, slots := 0, locals := 445 } : Room) s m args below meth c (MQ below (PostV Γ sk M' s.heap.size) args s 0 0 (Fr Γ sk s.heap.size)) 3 Γ sk M 0 0 35 [(0, vr Γ 52), (1, vi x1)] [vi y1, vr Γ 52] := by
    intro x1 y1 M hx1 hy1 h
    unfold f_X12_parseStatement_J35 at h
    refine V_iconst (pc := 35) C dX12_parseStatement_35 ?_
    obtain ⟨M10, r11, hc12, h⟩ := cal_of h
    refine V_callVV (pc := 36) C (c_X12_expect l Γ sk hsk fu hy1 (by decide) hc12) cf_X12_expect lk_X12_232 ⟨rfl, rfl⟩ ⟨Nat.le_of_ble_eq_true rfl, Nat.le_of_ble_eq_true rfl⟩ e52 rfl rfl rfl (Nat.le_of_ble_eq_true rfl) ⟨Nat.zero_le _, Nat.zero_le _⟩ rfl dX12_parseStatement_36 ?_
    refine V_aload_n (pc := 39) C 0 rfl dX12_parseStatement_39 ?_
    obtain ⟨M13, r14, hc15, h⟩ := cal_of h
    refine V_callVV (pc := 40) C (c_X12_advanceToken l Γ sk hsk fu hc15) cf_X12_advanceToken lk_X12_221 ⟨rfl, rfl⟩ ⟨Nat.le_of_ble_eq_true rfl, Nat.le_of_ble_eq_true rfl⟩ e52 rfl rfl rfl (Nat.le_of_ble_eq_true rfl) ⟨Nat.zero_le _, Nat.zero_le _⟩ rfl dX12_parseStatement_40 ?_
    refine V_aload_n (pc := 43) C 0 rfl dX12_parseStatement_43 ?_
    refine V_rng fun hM16 => ?_
    refine V_getI (pc := 44) C e52 rfl inX12 20 (by decide) rfl lf_X12_197 rfl dX12_parseStatement_44 ?_
    refine V_if_le (pc := 47) C 51 (hM16 _ _) dX12_parseStatement_47 (by decide) (fun c47_17 => ?_) (fun c47_17 => ?_)
    · have h := ite_t h c47_17
      refine V_iconst (pc := 51) C dX12_parseStatement_51 ?_
      refine V_aload_n (pc := 52) C 0 rfl dX12_parseStatement_52 ?_
      refine V_getI (pc := 53) C e52 rfl inX12 23 (by decide) rfl lf_X12_279 rfl dX12_parseStatement_53 ?_
      refine V_imul (pc := 56) C dX12_parseStatement_56 ?_
      refine V_istore_n (pc := 57) C (L' := [(0, vr Γ 52), (1, vi x1), (2, vi ((4 : Int) * (M13 52 23)))]) rfl (by decide) dX12_parseStatement_57 ?_
      refine V_aload_n (pc := 58) C 0 rfl dX12_parseStatement_58 ?_
      refine V_getR (pc := 59) C e52 rfl inX12 22 (by decide) rfl lf_X12_43 rfl dX12_parseStatement_59 ?_
      refine V_iload_n (pc := 62) C 2 rfl dX12_parseStatement_62 ?_
      refine V_iload_n (pc := 63) C 1 rfl dX12_parseStatement_63 ?_
      obtain ⟨g18, h⟩ := grd_of h
      obtain ⟨g19, h⟩ := grd_of h
      refine V_iast (pc := 64) C (by decide) e62 g19 g18 hx1 dX12_parseStatement_64 ?_
      refine V_iload_n (pc := 65) C 1 rfl dX12_parseStatement_65 ?_
      by_cases c66_0_20 : x1 = (0 : Int)
      · have h := ite_t h c66_0_20
        refine V_tabIn (pc := 66) C 96 (0 : Int) c66_0_20 hx1 dX12_parseStatement_66 (by decide) (by decide) rfl (by decide) ?_
        refine V_aload_n (pc := 96) C 0 rfl dX12_parseStatement_96 ?_
        refine V_getR (pc := 97) C e52 rfl inX12 22 (by decide) rfl lf_X12_43 rfl dX12_parseStatement_97 ?_
        refine V_iload_n (pc := 100) C 2 rfl dX12_parseStatement_100 ?_
        refine V_iconst (pc := 101) C dX12_parseStatement_101 ?_
        refine V_iadd (pc := 102) C dX12_parseStatement_102 ?_
        refine V_aload_n (pc := 103) C 0 rfl dX12_parseStatement_103 ?_
        obtain ⟨M21, r22, hc23, h⟩ := cal_of h
        refine V_callVI (pc := 104) C (c_X12_parseVersion l Γ sk hsk fu hc23) cf_X12_parseVersion lk_X12_282 ⟨rfl, rfl⟩ ⟨Nat.le_of_ble_eq_true rfl, Nat.le_of_ble_eq_true rfl⟩ e52 rfl rfl rfl (Nat.le_of_ble_eq_true rfl) ⟨Nat.zero_le _, Nat.zero_le _⟩ rfl dX12_parseStatement_104 (fun hr22 => ?_)
        obtain ⟨g24, h⟩ := grd_of h
        obtain ⟨g25, h⟩ := grd_of h
        refine V_iast (pc := 107) C (by decide) e62 g25 g24 hr22 dX12_parseStatement_107 ?_
        refine V_aload_n (pc := 108) C 0 rfl dX12_parseStatement_108 ?_
        refine V_getR (pc := 109) C e52 rfl inX12 22 (by decide) rfl lf_X12_43 rfl dX12_parseStatement_109 ?_
        refine V_iload_n (pc := 112) C 2 rfl dX12_parseStatement_112 ?_
        refine V_iconst (pc := 113) C dX12_parseStatement_113 ?_
        refine V_iadd (pc := 114) C dX12_parseStatement_114 ?_
        refine V_aload_n (pc := 115) C 0 rfl dX12_parseStatement_115 ?_
        refine V_iconst (pc := 116) C dX12_parseStatement_116 ?_
        refine V_bipush (pc := 117) C dX12_parseStatement_117 rfl ?_
        obtain ⟨M26, r27, hc28, h⟩ := cal_of h
        refine V_callVI (pc := 119) C (c_X12_parseNumber l Γ sk hsk fu (by decide) (by decide) hc28) cf_X12_parseNumber lk_X12_242 ⟨rfl, rfl⟩ ⟨Nat.le_of_ble_eq_true rfl, Nat.le_of_ble_eq_true rfl⟩ e52 rfl rfl rfl (Nat.le_of_ble_eq_true rfl) ⟨Nat.zero_le _, Nat.zero_le _⟩ rfl dX12_parseStatement_119 (fun hr27 => ?_)
        obtain ⟨g29, h⟩ := grd_of h
        obtain ⟨g30, h⟩ := grd_of h
        refine V_iast (pc := 122) C (by decide) e62 g30 g29 hr27 dX12_parseStatement_122 ?_
        refine V_aload_n (pc := 123) C 0 rfl dX12_parseStatement_123 ?_
        refine V_getR (pc := 124) C e52 rfl inX12 22 (by decide) rfl lf_X12_43 rfl dX12_parseStatement_124 ?_
        refine V_iload_n (pc := 127) C 2 rfl dX12_parseStatement_127 ?_
        refine V_iconst (pc := 128) C dX12_parseStatement_128 ?_
        refine V_iadd (pc := 129) C dX12_parseStatement_129 ?_
        refine V_aload_n (pc := 130) C 0 rfl dX12_parseStatement_130 ?_
        refine V_iconst (pc := 131) C dX12_parseStatement_131 ?_
        obtain ⟨M31, r32, hc33, h⟩ := cal_of h
        refine V_callVI (pc := 132) C (c_X12_parseValue l Γ sk hsk fu (by decide) hc33) cf_X12_parseValue lk_X12_247 ⟨rfl, rfl⟩ ⟨Nat.le_of_ble_eq_true rfl, Nat.le_of_ble_eq_true rfl⟩ e52 rfl rfl rfl (Nat.le_of_ble_eq_true rfl) ⟨Nat.zero_le _, Nat.zero_le _⟩ rfl dX12_parseStatement_132 (fun hr32 => ?_)
        obtain ⟨g34, h⟩ := grd_of h
        obtain ⟨g35, h⟩ := grd_of h
        refine V_iast (pc := 135) C (by decide) e62 g35 g34 hr32 dX12_parseStatement_135 ?_
        refine V_goto (pc := 136) C 212 dX12_parseStatement_136 (by decide) ?_
        refine V_sub (L' := [(0, vr Γ 52)]) [0] rfl (by decide) ?_
        exact JP212 h
      have h := ite_f h c66_0_20
      by_cases c66_1_41 : x1 = (1 : Int)
      · have h := ite_t h c66_1_41
        refine V_tabIn (pc := 66) C 139 (1 : Int) c66_1_41 hx1 dX12_parseStatement_66 (by decide) (by decide) rfl (by decide) ?_
        refine V_aload_n (pc := 139) C 0 rfl dX12_parseStatement_139 ?_
        refine V_getR (pc := 140) C e52 rfl inX12 22 (by decide) rfl lf_X12_43 rfl dX12_parseStatement_140 ?_
        refine V_iload_n (pc := 143) C 2 rfl dX12_parseStatement_143 ?_
        refine V_iconst (pc := 144) C dX12_parseStatement_144 ?_
        refine V_iadd (pc := 145) C dX12_parseStatement_145 ?_
        refine V_aload_n (pc := 146) C 0 rfl dX12_parseStatement_146 ?_
        obtain ⟨M42, r43, hc44, h⟩ := cal_of h
        refine V_callVI (pc := 147) C (c_X12_parseVersion l Γ sk hsk fu hc44) cf_X12_parseVersion lk_X12_282 ⟨rfl, rfl⟩ ⟨Nat.le_of_ble_eq_true rfl, Nat.le_of_ble_eq_true rfl⟩ e52 rfl rfl rfl (Nat.le_of_ble_eq_true rfl) ⟨Nat.zero_le _, Nat.zero_le _⟩ rfl dX12_parseStatement_147 (fun hr43 => ?_)
        obtain ⟨g45, h⟩ := grd_of h
        obtain ⟨g46, h⟩ := grd_of h
        refine V_iast (pc := 150) C (by decide) e62 g46 g45 hr43 dX12_parseStatement_150 ?_
        refine V_aload_n (pc := 151) C 0 rfl dX12_parseStatement_151 ?_
        refine V_getR (pc := 152) C e52 rfl inX12 22 (by decide) rfl lf_X12_43 rfl dX12_parseStatement_152 ?_
        refine V_iload_n (pc := 155) C 2 rfl dX12_parseStatement_155 ?_
        refine V_iconst (pc := 156) C dX12_parseStatement_156 ?_
        refine V_iadd (pc := 157) C dX12_parseStatement_157 ?_
        refine V_aload_n (pc := 158) C 0 rfl dX12_parseStatement_158 ?_
        refine V_iconst (pc := 159) C dX12_parseStatement_159 ?_
        obtain ⟨M47, r48, hc49, h⟩ := cal_of h
        refine V_callVI (pc := 160) C (c_X12_parseValue l Γ sk hsk fu (by decide) hc49) cf_X12_parseValue lk_X12_247 ⟨rfl, rfl⟩ ⟨Nat.le_of_ble_eq_true rfl, Nat.le_of_ble_eq_true rfl⟩ e52 rfl rfl rfl (Nat.le_of_ble_eq_true rfl) ⟨Nat.zero_le _, Nat.zero_le _⟩ rfl dX12_parseStatement_160 (fun hr48 => ?_)
        obtain ⟨g50, h⟩ := grd_of h
        obtain ⟨g51, h⟩ := grd_of h
        refine V_iast (pc := 163) C (by decide) e62 g51 g50 hr48 dX12_parseStatement_163 ?_
        refine V_goto (pc := 164) C 212 dX12_parseStatement_164 (by decide) ?_
        refine V_sub (L' := [(0, vr Γ 52)]) [0] rfl (by decide) ?_
        exact JP212 h
      have h := ite_f h c66_1_41
      by_cases c66_2_52 : x1 = (2 : Int)
      · have h := ite_t h c66_2_52
        refine V_tabIn (pc := 66) C 167 (2 : Int) c66_2_52 hx1 dX12_parseStatement_66 (by decide) (by decide) rfl (by decide) ?_
        refine V_aload_n (pc := 167) C 0 rfl dX12_parseStatement_167 ?_
        refine V_getR (pc := 168) C e52 rfl inX12 22 (by decide) rfl lf_X12_43 rfl dX12_parseStatement_168 ?_
        refine V_iload_n (pc := 171) C 2 rfl dX12_parseStatement_171 ?_
        refine V_iconst (pc := 172) C dX12_parseStatement_172 ?_
        refine V_iadd (pc := 173) C dX12_parseStatement_173 ?_
        refine V_aload_n (pc := 174) C 0 rfl dX12_parseStatement_174 ?_
        obtain ⟨M53, r54, hc55, h⟩ := cal_of h
        refine V_callVI (pc := 175) C (c_X12_parseVersion l Γ sk hsk fu hc55) cf_X12_parseVersion lk_X12_282 ⟨rfl, rfl⟩ ⟨Nat.le_of_ble_eq_true rfl, Nat.le_of_ble_eq_true rfl⟩ e52 rfl rfl rfl (Nat.le_of_ble_eq_true rfl) ⟨Nat.zero_le _, Nat.zero_le _⟩ rfl dX12_parseStatement_175 (fun hr54 => ?_)
        obtain ⟨g56, h⟩ := grd_of h
        obtain ⟨g57, h⟩ := grd_of h
        refine V_iast (pc := 178) C (by decide) e62 g57 g56 hr54 dX12_parseStatement_178 ?_
        refine V_aload_n (pc := 179) C 0 rfl dX12_parseStatement_179 ?_
        refine V_getR (pc := 180) C e52 rfl inX12 22 (by decide) rfl lf_X12_43 rfl dX12_parseStatement_180 ?_
        refine V_iload_n (pc := 183) C 2 rfl dX12_parseStatement_183 ?_
        refine V_iconst (pc := 184) C dX12_parseStatement_184 ?_
        refine V_iadd (pc := 185) C dX12_parseStatement_185 ?_
        refine V_aload_n (pc := 186) C 0 rfl dX12_parseStatement_186 ?_
        refine V_iconst (pc := 187) C dX12_parseStatement_187 ?_
        refine V_bipush (pc := 188) C dX12_parseStatement_188 rfl ?_
        obtain ⟨M58, r59, hc60, h⟩ := cal_of h
        refine V_callVI (pc := 190) C (c_X12_parseNumber l Γ sk hsk fu (by decide) (by decide) hc60) cf_X12_parseNumber lk_X12_242 ⟨rfl, rfl⟩ ⟨Nat.le_of_ble_eq_true rfl, Nat.le_of_ble_eq_true rfl⟩ e52 rfl rfl rfl (Nat.le_of_ble_eq_true rfl) ⟨Nat.zero_le _, Nat.zero_le _⟩ rfl dX12_parseStatement_190 (fun hr59 => ?_)
        obtain ⟨g61, h⟩ := grd_of h
        obtain ⟨g62, h⟩ := grd_of h
        refine V_iast (pc := 193) C (by decide) e62 g62 g61 hr59 dX12_parseStatement_193 ?_
        refine V_goto (pc := 194) C 212 dX12_parseStatement_194 (by decide) ?_
        refine V_sub (L' := [(0, vr Γ 52)]) [0] rfl (by decide) ?_
        exact JP212 h
      have h := ite_f h c66_2_52
      by_cases c66_3_63 : x1 = (3 : Int)
      · have h := ite_t h c66_3_63
        refine V_tabIn (pc := 66) C 197 (3 : Int) c66_3_63 hx1 dX12_parseStatement_66 (by decide) (by decide) rfl (by decide) ?_
        refine V_aload_n (pc := 197) C 0 rfl dX12_parseStatement_197 ?_
        refine V_getR (pc := 198) C e52 rfl inX12 22 (by decide) rfl lf_X12_43 rfl dX12_parseStatement_198 ?_
        refine V_iload_n (pc := 201) C 2 rfl dX12_parseStatement_201 ?_
        refine V_iconst (pc := 202) C dX12_parseStatement_202 ?_
        refine V_iadd (pc := 203) C dX12_parseStatement_203 ?_
        refine V_aload_n (pc := 204) C 0 rfl dX12_parseStatement_204 ?_
        obtain ⟨M64, r65, hc66, h⟩ := cal_of h
        refine V_callVI (pc := 205) C (c_X12_parseVersion l Γ sk hsk fu hc66) cf_X12_parseVersion lk_X12_282 ⟨rfl, rfl⟩ ⟨Nat.le_of_ble_eq_true rfl, Nat.le_of_ble_eq_true rfl⟩ e52 rfl rfl rfl (Nat.le_of_ble_eq_true rfl) ⟨Nat.zero_le _, Nat.zero_le _⟩ rfl dX12_parseStatement_205 (fun hr65 => ?_)
        obtain ⟨g67, h⟩ := grd_of h
        obtain ⟨g68, h⟩ := grd_of h
        refine V_iast (pc := 208) C (by decide) e62 g68 g67 hr65 dX12_parseStatement_208 ?_
        refine V_goto (pc := 209) C 212 dX12_parseStatement_209 (by decide) ?_
        refine V_sub (L' := [(0, vr Γ 52)]) [0] rfl (by decide) ?_
        exact JP212 h
      have h := ite_f h c66_3_63
      refine V_tabOut (pc := 66) C 212 hx1 dX12_parseStatement_66 (tabout_0_3 c66_0_20 c66_1_41 c66_2_52 c66_3_63) (by decide) ?_
      refine V_sub (L' := [(0, vr Γ 52)]) [0] rfl (by decide) ?_
      exact JP212 h
    · have h := ite_f h c47_17
      exact V_vret (pc := 50) C hr hlk h dX12_parseStatement_50
  have JP16 : ∀ {x1 : Int} {y1 : Int} {M : Mem}, rng x1 → rng y1 → f_X12_parseStatement_J16 fu x1 y1 M = some (M', r) → VV p l e ({ frames := 14, cells := 0, slots := 0, locals := 445 } : Room) s m args below meth c (MQ below (PostV Γ sk M' s.heap.size) args s 0 0 (Fr Γ sk s.heap.size)) 3 Γ sk M 0 0 16 [(0, vr Γ 52), (1, vi x1)] [vi y1, vr Γ 52] := by
    intro x1 y1 M hx1 hy1 h
    unfold f_X12_parseStatement_J16 at h
    refine V_iconst (pc := 16) C dX12_parseStatement_16 ?_
    obtain ⟨M5, r6, hc7, h⟩ := cal_of h
    refine V_callVV (pc := 17) C (c_X12_expect l Γ sk hsk fu hy1 (by decide) hc7) cf_X12_expect lk_X12_232 ⟨rfl, rfl⟩ ⟨Nat.le_of_ble_eq_true rfl, Nat.le_of_ble_eq_true rfl⟩ e52 rfl rfl rfl (Nat.le_of_ble_eq_true rfl) ⟨Nat.zero_le _, Nat.zero_le _⟩ rfl dX12_parseStatement_17 ?_
    refine V_aload_n (pc := 20) C 0 rfl dX12_parseStatement_20 ?_
    refine V_aload_n (pc := 21) C 0 rfl dX12_parseStatement_21 ?_
    refine V_rng fun hM8 => ?_
    refine V_getI (pc := 22) C e52 rfl inX12 23 (by decide) rfl lf_X12_279 rfl dX12_parseStatement_22 ?_
    refine V_bipush (pc := 25) C dX12_parseStatement_25 rfl ?_
    refine V_icmp_ge (pc := 27) C 34 (hM8 _ _) (by decide) dX12_parseStatement_27 (by decide) (fun c27_9 => ?_) (fun c27_9 => ?_)
    · have h := ite_t h c27_9
      refine V_iconst (pc := 34) C dX12_parseStatement_34 ?_
      refine V_sub (L' := [(0, vr Γ 52), (1, vi x1)]) [0, 1] rfl (by decide) ?_
      exact JP35 hx1 (by decide) h
    · have h := ite_f h c27_9
      refine V_iconst (pc := 30) C dX12_parseStatement_30 ?_
      refine V_goto (pc := 31) C 35 dX12_parseStatement_31 (by decide) ?_
      refine V_sub (L' := [(0, vr Γ 52), (1, vi x1)]) [0, 1] rfl (by decide) ?_
      exact JP35 hx1 (by decide) h
  skip
  refine V_aload_n (pc := 0) C 0 rfl dX12_parseStatement_0 ?_
  obtain ⟨M1, r2, hc3, h⟩ := cal_of h
  refine V_callVI (pc := 1) C (c_X12_statementKind l Γ sk hsk fu hc3) cf_X12_statementKind lk_X12_276 ⟨rfl, rfl⟩ ⟨Nat.le_of_ble_eq_true rfl, Nat.le_of_ble_eq_true rfl⟩ e52 rfl rfl rfl (Nat.le_of_ble_eq_true rfl) ⟨Nat.zero_le _, Nat.zero_le _⟩ rfl dX12_parseStatement_1 (fun hr2 => ?_)
  refine V_istore_n (pc := 4) C (L' := [(0, vr Γ 52), (1, vi r2)]) rfl (by decide) dX12_parseStatement_4 ?_
  refine V_aload_n (pc := 5) C 0 rfl dX12_parseStatement_5 ?_
  refine V_iload_n (pc := 6) C 1 rfl dX12_parseStatement_6 ?_
  refine V_iconst (pc := 7) C dX12_parseStatement_7 ?_
  refine V_icmp_eq (pc := 8) C 15 hr2 (by decide) dX12_parseStatement_8 (by decide) (fun c8_4 => ?_) (fun c8_4 => ?_)
  · have h := ite_t h c8_4
    refine V_iconst (pc := 15) C dX12_parseStatement_15 ?_
    refine V_sub (L' := [(0, vr Γ 52), (1, vi r2)]) [0, 1] rfl (by decide) ?_
    exact JP16 hr2 (by decide) h
  · have h := ite_f h c8_4
    refine V_iconst (pc := 11) C dX12_parseStatement_11 ?_
    refine V_goto (pc := 12) C 16 dX12_parseStatement_12 (by decide) ?_
    refine V_sub (L' := [(0, vr Γ 52), (1, vi r2)]) [0, 1] rfl (by decide) ?_
    exact JP16 hr2 (by decide) h
set_option maxRecDepth 100000 in
set_option maxHeartbeats 4000000 in
theorem c_X12_isVersion (l : Launch) (Γ : GG) (sk : List SD) (hsk : ExtM sk) (fu : Nat) {M M' : Mem} {a1 : Int} {r : Int} (ha1 : rng a1) (h : f_X12_isVersion fu M a1 = some (M', r)) : MetI l yX12_isVersion cX12_isVersion 2 .boolean ({ frames := 1, cells := 0, slots := 0, locals := 25 } : Room) Γ sk [vr Γ 52, vi a1] M M' r := by
  unfold f_X12_isVersion at h
  refine MetI_of RX12 rfl (by decide) rfl (Nat.le_of_ble_eq_true rfl) rfl ?_
  intro p e s m args below meth c C hr hlk hM
  have e52 := hsk 52 _ (by decide) rfl
  have e53 := hsk 53 _ (by decide) rfl
  refine V_iload_n (pc := 0) C 1 rfl dX12_isVersion_0 ?_
  refine V_i2l (pc := 1) C ha1 dX12_isVersion_1 ?_
  refine V_lconst (pc := 2) C (x := (0 : Int)) dX12_isVersion_2 rfl ?_
  refine V_aload_n (pc := 3) C 0 rfl dX12_isVersion_3 ?_
  refine V_getR (pc := 4) C e52 rfl inX12 0 (by decide) rfl lf_X12_9 rfl dX12_isVersion_4 ?_
  refine V_iconst (pc := 7) C dX12_isVersion_7 ?_
  obtain ⟨g1, h⟩ := grd_of h
  refine V_iald (pc := 8) C e53 g1 (by decide) dX12_isVersion_8 ?_
  refine V_iconst (pc := 9) C dX12_isVersion_9 ?_
  refine V_isub (pc := 10) C dX12_isVersion_10 ?_
  obtain ⟨g2, h⟩ := grd_of h
  refine V_i2l (pc := 11) C g2 dX12_isVersion_11 ?_
  obtain ⟨M3, r4, hc5, h⟩ := cal_of h
  refine V_callSI (pc := 12) C (c_X12_isWithin l Γ sk hsk fu ha1 (by decide) g2 hc5) cf_X12_isWithin lk_X12_167 ⟨rfl, rfl⟩ ⟨Nat.le_of_ble_eq_true rfl, Nat.le_of_ble_eq_true rfl⟩ rfl (Nat.le_of_ble_eq_true rfl) ⟨Nat.zero_le _, Nat.zero_le _⟩ rfl dX12_isVersion_12 (fun hr4 => ?_)
  obtain ⟨g6, h⟩ := grd_of h
  exact V_zret (pc := 15) C hr hlk g6 h dX12_isVersion_15
set_option maxRecDepth 100000 in
set_option maxHeartbeats 4000000 in
theorem c_X12_isLive (l : Launch) (Γ : GG) (sk : List SD) (hsk : ExtM sk) (fu : Nat) {M M' : Mem} {a1 : Int} {r : Int} (ha1 : rng a1) (h : f_X12_isLive fu M a1 = some (M', r)) : MetI l yX12_isLive cX12_isLive 2 .boolean ({ frames := 2, cells := 0, slots := 0, locals := 46 } : Room) Γ sk [vr Γ 52, vi a1] M M' r := by
  unfold f_X12_isLive at h
  refine MetI_of RX12 rfl (by decide) rfl (Nat.le_of_ble_eq_true rfl) rfl ?_
  intro p e s m args below meth c C hr hlk hM
  have e52 := hsk 52 _ (by decide) rfl
  refine V_aload_n (pc := 0) C 0 rfl dX12_isLive_0 ?_
  refine V_iload_n (pc := 1) C 1 rfl dX12_isLive_1 ?_
  obtain ⟨M1, r2, hc3, h⟩ := cal_of h
  refine V_callVI (pc := 2) C (c_X12_isVersion l Γ sk hsk fu ha1 hc3) cf_X12_isVersion lk_X12_285 ⟨rfl, rfl⟩ ⟨Nat.le_of_ble_eq_true rfl, Nat.le_of_ble_eq_true rfl⟩ e52 rfl rfl rfl (Nat.le_of_ble_eq_true rfl) ⟨Nat.zero_le _, Nat.zero_le _⟩ rfl dX12_isLive_2 (fun hr2 => ?_)
  refine V_if_eq (pc := 5) C 20 hr2 dX12_isLive_5 (by decide) (fun c5_4 => ?_) (fun c5_4 => ?_)
  · have h := ite_t h c5_4
    refine V_iconst (pc := 20) C dX12_isLive_20 ?_
    exact V_zret (pc := 21) C hr hlk (by decide) h dX12_isLive_21
  · have h := ite_f h c5_4
    refine V_aload_n (pc := 8) C 0 rfl dX12_isLive_8 ?_
    refine V_iload_n (pc := 9) C 1 rfl dX12_isLive_9 ?_
    obtain ⟨M5, r6, hc7, h⟩ := cal_of h
    refine V_callVI (pc := 10) C (c_X12_isGone l Γ sk hsk fu ha1 hc7) cf_X12_isGone lk_X12_164 ⟨rfl, rfl⟩ ⟨Nat.le_of_ble_eq_true rfl, Nat.le_of_ble_eq_true rfl⟩ e52 rfl rfl rfl (Nat.le_of_ble_eq_true rfl) ⟨Nat.zero_le _, Nat.zero_le _⟩ rfl dX12_isLive_10 (fun hr6 => ?_)
    refine V_if_ne (pc := 13) C 20 hr6 dX12_isLive_13 (by decide) (fun c13_8 => ?_) (fun c13_8 => ?_)
    · have h := ite_f h c13_8
      refine V_iconst (pc := 20) C dX12_isLive_20 ?_
      exact V_zret (pc := 21) C hr hlk (by decide) h dX12_isLive_21
    · have h := ite_t h c13_8
      refine V_iconst (pc := 16) C dX12_isLive_16 ?_
      refine V_goto (pc := 17) C 21 dX12_isLive_17 (by decide) ?_
      exact V_zret (pc := 21) C hr hlk (by decide) h dX12_isLive_21
set_option maxRecDepth 100000 in
set_option maxHeartbeats 4000000 in
theorem c_X12_hasRoom (l : Launch) (Γ : GG) (sk : List SD) (hsk : ExtM sk) (fu : Nat) {M M' : Mem}  {r : Int}  (h : f_X12_hasRoom fu M  = some (M', r)) : MetI l yX12_hasRoom cX12_hasRoom 1 .boolean ({ frames := 0, cells := 0, slots := 0, locals := 0 } : Room) Γ sk [vr Γ 52] M M' r := by
  unfold f_X12_hasRoom at h
  refine MetI_of RX12 rfl (by decide) rfl (Nat.le_of_ble_eq_true rfl) rfl ?_
  intro p e s m args below meth c C hr hlk hM
  have e52 := hsk 52 _ (by decide) rfl
  have e53 := hsk 53 _ (by decide) rfl
  refine V_aload_n (pc := 0) C 0 rfl dX12_hasRoom_0 ?_
  refine V_getR (pc := 1) C e52 rfl inX12 0 (by decide) rfl lf_X12_9 rfl dX12_hasRoom_1 ?_
  refine V_iconst (pc := 4) C dX12_hasRoom_4 ?_
  obtain ⟨g1, h⟩ := grd_of h
  refine V_iald (pc := 5) C e53 g1 (by decide) dX12_hasRoom_5 ?_
  refine V_bipush (pc := 6) C dX12_hasRoom_6 rfl ?_
  refine V_icmp_ge (pc := 8) C 15 (hM _ _) (by decide) dX12_hasRoom_8 (by decide) (fun c8_2 => ?_) (fun c8_2 => ?_)
  · have h := ite_t h c8_2
    refine V_iconst (pc := 15) C dX12_hasRoom_15 ?_
    exact V_zret (pc := 16) C hr hlk (by decide) h dX12_hasRoom_16
  · have h := ite_f h c8_2
    refine V_iconst (pc := 11) C dX12_hasRoom_11 ?_
    refine V_goto (pc := 12) C 16 dX12_hasRoom_12 (by decide) ?_
    exact V_zret (pc := 16) C hr hlk (by decide) h dX12_hasRoom_16
set_option maxRecDepth 100000 in
set_option maxHeartbeats 4000000 in
theorem c_X12_executeSet (l : Launch) (Γ : GG) (sk : List SD) (hsk : ExtM sk) (fu : Nat) {M M' : Mem} {a1 : Int} {a2 : Int} {a3 : Int} {r : Int} (ha1 : rng a1) (ha2 : rng a2) (ha3 : rng a3) (h : f_X12_executeSet fu M a1 a2 a3 = some (M', r)) : MetI l yX12_executeSet cX12_executeSet 4 .boolean ({ frames := 47, cells := 0, slots := 0, locals := 1413 } : Room) Γ sk [vr Γ 52, vi a1, vi a2, vi a3] M M' r := by
  unfold f_X12_executeSet at h
  refine MetI_of RX12 rfl (by decide) rfl (Nat.le_of_ble_eq_true rfl) rfl ?_
  intro p e s m args below meth c C hr hlk hM
  have e52 := hsk 52 _ (by decide) rfl
  refine V_aload_n (pc := 0) C 0 rfl dX12_executeSet_0 ?_
  refine V_iload_n (pc := 1) C 1 rfl dX12_executeSet_1 ?_
  obtain ⟨M1, r2, hc3, h⟩ := cal_of h
  refine V_callVI (pc := 2) C (c_X12_isLive l Γ sk hsk fu ha1 hc3) cf_X12_isLive lk_X12_288 ⟨rfl, rfl⟩ ⟨Nat.le_of_ble_eq_true rfl, Nat.le_of_ble_eq_true rfl⟩ e52 rfl rfl rfl (Nat.le_of_ble_eq_true rfl) ⟨Nat.zero_le _, Nat.zero_le _⟩ rfl dX12_executeSet_2 (fun hr2 => ?_)
  refine V_if_eq (pc := 5) C 24 hr2 dX12_executeSet_5 (by decide) (fun c5_4 => ?_) (fun c5_4 => ?_)
  · have h := ite_t h c5_4
    refine V_iconst (pc := 24) C dX12_executeSet_24 ?_
    exact V_zret (pc := 25) C hr hlk (by decide) h dX12_executeSet_25
  · have h := ite_f h c5_4
    refine V_iload_n (pc := 8) C 2 rfl dX12_executeSet_8 ?_
    refine V_aload_n (pc := 9) C 0 rfl dX12_executeSet_9 ?_
    refine V_iload_n (pc := 10) C 1 rfl dX12_executeSet_10 ?_
    obtain ⟨M5, r6, hc7, h⟩ := cal_of h
    refine V_callVI (pc := 11) C (c_X12_lengthOf l Γ sk hsk fu ha1 hc7) cf_X12_lengthOf lk_X12_121 ⟨rfl, rfl⟩ ⟨Nat.le_of_ble_eq_true rfl, Nat.le_of_ble_eq_true rfl⟩ e52 rfl rfl rfl (Nat.le_of_ble_eq_true rfl) ⟨Nat.zero_le _, Nat.zero_le _⟩ rfl dX12_executeSet_11 (fun hr6 => ?_)
    refine V_icmp_ge (pc := 14) C 24 ha2 hr6 dX12_executeSet_14 (by decide) (fun c14_8 => ?_) (fun c14_8 => ?_)
    · have h := ite_t h c14_8
      refine V_iconst (pc := 24) C dX12_executeSet_24 ?_
      exact V_zret (pc := 25) C hr hlk (by decide) h dX12_executeSet_25
    · have h := ite_f h c14_8
      refine V_aload_n (pc := 17) C 0 rfl dX12_executeSet_17 ?_
      obtain ⟨M9, r10, hc11, h⟩ := cal_of h
      refine V_callVI (pc := 18) C (c_X12_hasRoom l Γ sk hsk fu hc11) cf_X12_hasRoom lk_X12_291 ⟨rfl, rfl⟩ ⟨Nat.le_of_ble_eq_true rfl, Nat.le_of_ble_eq_true rfl⟩ e52 rfl rfl rfl (Nat.le_of_ble_eq_true rfl) ⟨Nat.zero_le _, Nat.zero_le _⟩ rfl dX12_executeSet_18 (fun hr10 => ?_)
      refine V_if_ne (pc := 21) C 26 hr10 dX12_executeSet_21 (by decide) (fun c21_12 => ?_) (fun c21_12 => ?_)
      · have h := ite_f h c21_12
        refine V_aload_n (pc := 26) C 0 rfl dX12_executeSet_26 ?_
        refine V_iload_n (pc := 27) C 1 rfl dX12_executeSet_27 ?_
        refine V_iload_n (pc := 28) C 2 rfl dX12_executeSet_28 ?_
        refine V_iload_n (pc := 29) C 3 rfl dX12_executeSet_29 ?_
        obtain ⟨M13, r14, hc15, h⟩ := cal_of h
        refine V_callVI (pc := 30) C (c_X12_makeSet l Γ sk hsk fu ha1 ha2 ha3 hc15) cf_X12_makeSet lk_X12_295 ⟨rfl, rfl⟩ ⟨Nat.le_of_ble_eq_true rfl, Nat.le_of_ble_eq_true rfl⟩ e52 rfl rfl rfl (Nat.le_of_ble_eq_true rfl) ⟨Nat.zero_le _, Nat.zero_le _⟩ rfl dX12_executeSet_30 (fun hr14 => ?_)
        refine V_if_le (pc := 33) C 40 hr14 dX12_executeSet_33 (by decide) (fun c33_16 => ?_) (fun c33_16 => ?_)
        · have h := ite_t h c33_16
          refine V_iconst (pc := 40) C dX12_executeSet_40 ?_
          exact V_zret (pc := 41) C hr hlk (by decide) h dX12_executeSet_41
        · have h := ite_f h c33_16
          refine V_iconst (pc := 36) C dX12_executeSet_36 ?_
          refine V_goto (pc := 37) C 41 dX12_executeSet_37 (by decide) ?_
          exact V_zret (pc := 41) C hr hlk (by decide) h dX12_executeSet_41
      · have h := ite_t h c21_12
        refine V_iconst (pc := 24) C dX12_executeSet_24 ?_
        exact V_zret (pc := 25) C hr hlk (by decide) h dX12_executeSet_25
set_option maxRecDepth 100000 in
set_option maxHeartbeats 4000000 in
theorem c_X12_executeAppend (l : Launch) (Γ : GG) (sk : List SD) (hsk : ExtM sk) (fu : Nat) {M M' : Mem} {a1 : Int} {a2 : Int} {r : Int} (ha1 : rng a1) (ha2 : rng a2) (h : f_X12_executeAppend fu M a1 a2 = some (M', r)) : MetI l yX12_executeAppend cX12_executeAppend 3 .boolean ({ frames := 48, cells := 0, slots := 0, locals := 1438 } : Room) Γ sk [vr Γ 52, vi a1, vi a2] M M' r := by
  unfold f_X12_executeAppend at h
  refine MetI_of RX12 rfl (by decide) rfl (Nat.le_of_ble_eq_true rfl) rfl ?_
  intro p e s m args below meth c C hr hlk hM
  have e52 := hsk 52 _ (by decide) rfl
  refine V_aload_n (pc := 0) C 0 rfl dX12_executeAppend_0 ?_
  refine V_iload_n (pc := 1) C 1 rfl dX12_executeAppend_1 ?_
  obtain ⟨M1, r2, hc3, h⟩ := cal_of h
  refine V_callVI (pc := 2) C (c_X12_isLive l Γ sk hsk fu ha1 hc3) cf_X12_isLive lk_X12_288 ⟨rfl, rfl⟩ ⟨Nat.le_of_ble_eq_true rfl, Nat.le_of_ble_eq_true rfl⟩ e52 rfl rfl rfl (Nat.le_of_ble_eq_true rfl) ⟨Nat.zero_le _, Nat.zero_le _⟩ rfl dX12_executeAppend_2 (fun hr2 => ?_)
  refine V_if_eq (pc := 5) C 25 hr2 dX12_executeAppend_5 (by decide) (fun c5_4 => ?_) (fun c5_4 => ?_)
  · have h := ite_t h c5_4
    refine V_iconst (pc := 25) C dX12_executeAppend_25 ?_
    exact V_zret (pc := 26) C hr hlk (by decide) h dX12_executeAppend_26
  · have h := ite_f h c5_4
    refine V_aload_n (pc := 8) C 0 rfl dX12_executeAppend_8 ?_
    refine V_iload_n (pc := 9) C 1 rfl dX12_executeAppend_9 ?_
    obtain ⟨M5, r6, hc7, h⟩ := cal_of h
    refine V_callVI (pc := 10) C (c_X12_lengthOf l Γ sk hsk fu ha1 hc7) cf_X12_lengthOf lk_X12_121 ⟨rfl, rfl⟩ ⟨Nat.le_of_ble_eq_true rfl, Nat.le_of_ble_eq_true rfl⟩ e52 rfl rfl rfl (Nat.le_of_ble_eq_true rfl) ⟨Nat.zero_le _, Nat.zero_le _⟩ rfl dX12_executeAppend_10 (fun hr6 => ?_)
    refine V_bipush (pc := 13) C dX12_executeAppend_13 rfl ?_
    refine V_icmp_eq (pc := 15) C 25 hr6 (by decide) dX12_executeAppend_15 (by decide) (fun c15_8 => ?_) (fun c15_8 => ?_)
    · have h := ite_t h c15_8
      refine V_iconst (pc := 25) C dX12_executeAppend_25 ?_
      exact V_zret (pc := 26) C hr hlk (by decide) h dX12_executeAppend_26
    · have h := ite_f h c15_8
      refine V_aload_n (pc := 18) C 0 rfl dX12_executeAppend_18 ?_
      obtain ⟨M9, r10, hc11, h⟩ := cal_of h
      refine V_callVI (pc := 19) C (c_X12_hasRoom l Γ sk hsk fu hc11) cf_X12_hasRoom lk_X12_291 ⟨rfl, rfl⟩ ⟨Nat.le_of_ble_eq_true rfl, Nat.le_of_ble_eq_true rfl⟩ e52 rfl rfl rfl (Nat.le_of_ble_eq_true rfl) ⟨Nat.zero_le _, Nat.zero_le _⟩ rfl dX12_executeAppend_19 (fun hr10 => ?_)
      refine V_if_ne (pc := 22) C 27 hr10 dX12_executeAppend_22 (by decide) (fun c22_12 => ?_) (fun c22_12 => ?_)
      · have h := ite_f h c22_12
        refine V_aload_n (pc := 27) C 0 rfl dX12_executeAppend_27 ?_
        refine V_iload_n (pc := 28) C 1 rfl dX12_executeAppend_28 ?_
        refine V_iload_n (pc := 29) C 2 rfl dX12_executeAppend_29 ?_
        obtain ⟨M13, r14, hc15, h⟩ := cal_of h
        refine V_callVI (pc := 30) C (c_X12_makeAppend l Γ sk hsk fu ha1 ha2 hc15) cf_X12_makeAppend lk_X12_298 ⟨rfl, rfl⟩ ⟨Nat.le_of_ble_eq_true rfl, Nat.le_of_ble_eq_true rfl⟩ e52 rfl rfl rfl (Nat.le_of_ble_eq_true rfl) ⟨Nat.zero_le _, Nat.zero_le _⟩ rfl dX12_executeAppend_30 (fun hr14 => ?_)
        refine V_if_le (pc := 33) C 40 hr14 dX12_executeAppend_33 (by decide) (fun c33_16 => ?_) (fun c33_16 => ?_)
        · have h := ite_t h c33_16
          refine V_iconst (pc := 40) C dX12_executeAppend_40 ?_
          exact V_zret (pc := 41) C hr hlk (by decide) h dX12_executeAppend_41
        · have h := ite_f h c33_16
          refine V_iconst (pc := 36) C dX12_executeAppend_36 ?_
          refine V_goto (pc := 37) C 41 dX12_executeAppend_37 (by decide) ?_
          exact V_zret (pc := 41) C hr hlk (by decide) h dX12_executeAppend_41
      · have h := ite_t h c22_12
        refine V_iconst (pc := 25) C dX12_executeAppend_25 ?_
        exact V_zret (pc := 26) C hr hlk (by decide) h dX12_executeAppend_26
set_option maxRecDepth 100000 in
set_option maxHeartbeats 4000000 in
theorem c_X12_executeTruncate (l : Launch) (Γ : GG) (sk : List SD) (hsk : ExtM sk) (fu : Nat) {M M' : Mem} {a1 : Int} {a2 : Int} {r : Int} (ha1 : rng a1) (ha2 : rng a2) (h : f_X12_executeTruncate fu M a1 a2 = some (M', r)) : MetI l yX12_executeTruncate cX12_executeTruncate 3 .boolean ({ frames := 264, cells := 0, slots := 0, locals := 9083 } : Room) Γ sk [vr Γ 52, vi a1, vi a2] M M' r := by
  unfold f_X12_executeTruncate at h
  refine MetI_of RX12 rfl (by decide) rfl (Nat.le_of_ble_eq_true rfl) rfl ?_
  intro p e s m args below meth c C hr hlk hM
  have e52 := hsk 52 _ (by decide) rfl
  refine V_aload_n (pc := 0) C 0 rfl dX12_executeTruncate_0 ?_
  refine V_iload_n (pc := 1) C 1 rfl dX12_executeTruncate_1 ?_
  obtain ⟨M1, r2, hc3, h⟩ := cal_of h
  refine V_callVI (pc := 2) C (c_X12_isLive l Γ sk hsk fu ha1 hc3) cf_X12_isLive lk_X12_288 ⟨rfl, rfl⟩ ⟨Nat.le_of_ble_eq_true rfl, Nat.le_of_ble_eq_true rfl⟩ e52 rfl rfl rfl (Nat.le_of_ble_eq_true rfl) ⟨Nat.zero_le _, Nat.zero_le _⟩ rfl dX12_executeTruncate_2 (fun hr2 => ?_)
  refine V_if_eq (pc := 5) C 24 hr2 dX12_executeTruncate_5 (by decide) (fun c5_4 => ?_) (fun c5_4 => ?_)
  · have h := ite_t h c5_4
    refine V_iconst (pc := 24) C dX12_executeTruncate_24 ?_
    exact V_zret (pc := 25) C hr hlk (by decide) h dX12_executeTruncate_25
  · have h := ite_f h c5_4
    refine V_iload_n (pc := 8) C 2 rfl dX12_executeTruncate_8 ?_
    refine V_aload_n (pc := 9) C 0 rfl dX12_executeTruncate_9 ?_
    refine V_iload_n (pc := 10) C 1 rfl dX12_executeTruncate_10 ?_
    obtain ⟨M5, r6, hc7, h⟩ := cal_of h
    refine V_callVI (pc := 11) C (c_X12_lengthOf l Γ sk hsk fu ha1 hc7) cf_X12_lengthOf lk_X12_121 ⟨rfl, rfl⟩ ⟨Nat.le_of_ble_eq_true rfl, Nat.le_of_ble_eq_true rfl⟩ e52 rfl rfl rfl (Nat.le_of_ble_eq_true rfl) ⟨Nat.zero_le _, Nat.zero_le _⟩ rfl dX12_executeTruncate_11 (fun hr6 => ?_)
    refine V_icmp_gt (pc := 14) C 24 ha2 hr6 dX12_executeTruncate_14 (by decide) (fun c14_8 => ?_) (fun c14_8 => ?_)
    · have h := ite_t h c14_8
      refine V_iconst (pc := 24) C dX12_executeTruncate_24 ?_
      exact V_zret (pc := 25) C hr hlk (by decide) h dX12_executeTruncate_25
    · have h := ite_f h c14_8
      refine V_aload_n (pc := 17) C 0 rfl dX12_executeTruncate_17 ?_
      obtain ⟨M9, r10, hc11, h⟩ := cal_of h
      refine V_callVI (pc := 18) C (c_X12_hasRoom l Γ sk hsk fu hc11) cf_X12_hasRoom lk_X12_291 ⟨rfl, rfl⟩ ⟨Nat.le_of_ble_eq_true rfl, Nat.le_of_ble_eq_true rfl⟩ e52 rfl rfl rfl (Nat.le_of_ble_eq_true rfl) ⟨Nat.zero_le _, Nat.zero_le _⟩ rfl dX12_executeTruncate_18 (fun hr10 => ?_)
      refine V_if_ne (pc := 21) C 26 hr10 dX12_executeTruncate_21 (by decide) (fun c21_12 => ?_) (fun c21_12 => ?_)
      · have h := ite_f h c21_12
        refine V_aload_n (pc := 26) C 0 rfl dX12_executeTruncate_26 ?_
        refine V_iload_n (pc := 27) C 1 rfl dX12_executeTruncate_27 ?_
        refine V_iload_n (pc := 28) C 2 rfl dX12_executeTruncate_28 ?_
        obtain ⟨M13, r14, hc15, h⟩ := cal_of h
        refine V_callVI (pc := 29) C (c_X12_makeTruncate l Γ sk hsk fu ha1 ha2 hc15) cf_X12_makeTruncate lk_X12_301 ⟨rfl, rfl⟩ ⟨Nat.le_of_ble_eq_true rfl, Nat.le_of_ble_eq_true rfl⟩ e52 rfl rfl rfl (Nat.le_of_ble_eq_true rfl) ⟨Nat.zero_le _, Nat.zero_le _⟩ rfl dX12_executeTruncate_29 (fun hr14 => ?_)
        refine V_if_le (pc := 32) C 39 hr14 dX12_executeTruncate_32 (by decide) (fun c32_16 => ?_) (fun c32_16 => ?_)
        · have h := ite_t h c32_16
          refine V_iconst (pc := 39) C dX12_executeTruncate_39 ?_
          exact V_zret (pc := 40) C hr hlk (by decide) h dX12_executeTruncate_40
        · have h := ite_f h c32_16
          refine V_iconst (pc := 35) C dX12_executeTruncate_35 ?_
          refine V_goto (pc := 36) C 40 dX12_executeTruncate_36 (by decide) ?_
          exact V_zret (pc := 40) C hr hlk (by decide) h dX12_executeTruncate_40
      · have h := ite_t h c21_12
        refine V_iconst (pc := 24) C dX12_executeTruncate_24 ?_
        exact V_zret (pc := 25) C hr hlk (by decide) h dX12_executeTruncate_25
set_option maxRecDepth 100000 in
set_option maxHeartbeats 4000000 in
theorem c_X12_execute (l : Launch) (Γ : GG) (sk : List SD) (hsk : ExtM sk) (fu : Nat) {M M' : Mem} {a1 : Int} {r : Int} (ha1 : rng a1) (h : f_X12_execute fu M a1 = some (M', r)) : MetI l yX12_execute cX12_execute 5 .boolean ({ frames := 265, cells := 0, slots := 0, locals := 9105 } : Room) Γ sk [vr Γ 52, vi a1] M M' r := by
  unfold f_X12_execute at h
  refine MetI_of RX12 rfl (by decide) rfl (Nat.le_of_ble_eq_true rfl) rfl ?_
  intro p e s m args below meth c C hr hlk hM
  have e52 := hsk 52 _ (by decide) rfl
  have e62 := hsk 62 _ (by decide) rfl
  refine V_iconst (pc := 0) C dX12_execute_0 ?_
  refine V_iload_n (pc := 1) C 1 rfl dX12_execute_1 ?_
  refine V_imul (pc := 2) C dX12_execute_2 ?_
  refine V_istore_n (pc := 3) C (L' := [(0, vr Γ 52), (1, vi a1), (2, vi ((4 : Int) * a1))]) rfl (by decide) dX12_execute_3 ?_
  refine V_aload_n (pc := 4) C 0 rfl dX12_execute_4 ?_
  refine V_getR (pc := 5) C e52 rfl inX12 22 (by decide) rfl lf_X12_43 rfl dX12_execute_5 ?_
  refine V_iload_n (pc := 8) C 2 rfl dX12_execute_8 ?_
  refine V_iconst (pc := 9) C dX12_execute_9 ?_
  refine V_iadd (pc := 10) C dX12_execute_10 ?_
  obtain ⟨g1, h⟩ := grd_of h
  obtain ⟨g2, h⟩ := grd_of h
  refine V_iald (pc := 11) C e62 g2 g1 dX12_execute_11 ?_
  refine V_istore_n (pc := 12) C (L' := [(0, vr Γ 52), (1, vi a1), (2, vi ((4 : Int) * a1)), (3, vi (M 62 (((4 : Int) * a1) + (1 : Int) : Int).toNat))]) rfl (by decide) dX12_execute_12 ?_
  refine V_aload_n (pc := 13) C 0 rfl dX12_execute_13 ?_
  refine V_getR (pc := 14) C e52 rfl inX12 22 (by decide) rfl lf_X12_43 rfl dX12_execute_14 ?_
  refine V_iload_n (pc := 17) C 2 rfl dX12_execute_17 ?_
  refine V_iconst (pc := 18) C dX12_execute_18 ?_
  refine V_iadd (pc := 19) C dX12_execute_19 ?_
  obtain ⟨g3, h⟩ := grd_of h
  obtain ⟨g4, h⟩ := grd_of h
  refine V_iald (pc := 20) C e62 g4 g3 dX12_execute_20 ?_
  refine V_istore (pc := 21) C (L' := [(0, vr Γ 52), (1, vi a1), (2, vi ((4 : Int) * a1)), (3, vi (M 62 (((4 : Int) * a1) + (1 : Int) : Int).toNat)), (4, vi (M 62 (((4 : Int) * a1) + (2 : Int) : Int).toNat))]) rfl (by decide) dX12_execute_21 ?_
  refine V_aload_n (pc := 23) C 0 rfl dX12_execute_23 ?_
  refine V_getR (pc := 24) C e52 rfl inX12 22 (by decide) rfl lf_X12_43 rfl dX12_execute_24 ?_
  refine V_iload_n (pc := 27) C 2 rfl dX12_execute_27 ?_
  obtain ⟨g5, h⟩ := grd_of h
  obtain ⟨g6, h⟩ := grd_of h
  refine V_iald (pc := 28) C e62 g6 g5 dX12_execute_28 ?_
  by_cases c29_0_7 : M 62 ((4 : Int) * a1 : Int).toNat = (0 : Int)
  · have h := ite_t h c29_0_7
    refine V_tabIn (pc := 29) C 60 (0 : Int) c29_0_7 (hM _ _) dX12_execute_29 (by decide) (by decide) rfl (by decide) ?_
    refine V_aload_n (pc := 60) C 0 rfl dX12_execute_60 ?_
    refine V_iload_n (pc := 61) C 3 rfl dX12_execute_61 ?_
    refine V_iload (pc := 62) C 4 rfl dX12_execute_62 ?_
    refine V_aload_n (pc := 64) C 0 rfl dX12_execute_64 ?_
    refine V_getR (pc := 65) C e52 rfl inX12 22 (by decide) rfl lf_X12_43 rfl dX12_execute_65 ?_
    refine V_iload_n (pc := 68) C 2 rfl dX12_execute_68 ?_
    refine V_iconst (pc := 69) C dX12_execute_69 ?_
    refine V_iadd (pc := 70) C dX12_execute_70 ?_
    obtain ⟨g8, h⟩ := grd_of h
    obtain ⟨g9, h⟩ := grd_of h
    refine V_iald (pc := 71) C e62 g9 g8 dX12_execute_71 ?_
    obtain ⟨M10, r11, hc12, h⟩ := cal_of h
    refine V_callVI (pc := 72) C (c_X12_executeSet l Γ sk hsk fu (hM _ _) (hM _ _) (hM _ _) hc12) cf_X12_executeSet lk_X12_304 ⟨rfl, rfl⟩ ⟨Nat.le_of_ble_eq_true rfl, Nat.le_of_ble_eq_true rfl⟩ e52 rfl rfl rfl (Nat.le_of_ble_eq_true rfl) ⟨Nat.zero_le _, Nat.zero_le _⟩ rfl dX12_execute_72 (fun hr11 => ?_)
    obtain ⟨g13, h⟩ := grd_of h
    exact V_zret (pc := 75) C hr hlk g13 h dX12_execute_75
  have h := ite_f h c29_0_7
  by_cases c29_1_14 : M 62 ((4 : Int) * a1 : Int).toNat = (1 : Int)
  · have h := ite_t h c29_1_14
    refine V_tabIn (pc := 29) C 76 (1 : Int) c29_1_14 (hM _ _) dX12_execute_29 (by decide) (by decide) rfl (by decide) ?_
    refine V_aload_n (pc := 76) C 0 rfl dX12_execute_76 ?_
    refine V_iload_n (pc := 77) C 3 rfl dX12_execute_77 ?_
    refine V_iload (pc := 78) C 4 rfl dX12_execute_78 ?_
    obtain ⟨M15, r16, hc17, h⟩ := cal_of h
    refine V_callVI (pc := 80) C (c_X12_executeAppend l Γ sk hsk fu (hM _ _) (hM _ _) hc17) cf_X12_executeAppend lk_X12_308 ⟨rfl, rfl⟩ ⟨Nat.le_of_ble_eq_true rfl, Nat.le_of_ble_eq_true rfl⟩ e52 rfl rfl rfl (Nat.le_of_ble_eq_true rfl) ⟨Nat.zero_le _, Nat.zero_le _⟩ rfl dX12_execute_80 (fun hr16 => ?_)
    obtain ⟨g18, h⟩ := grd_of h
    exact V_zret (pc := 83) C hr hlk g18 h dX12_execute_83
  have h := ite_f h c29_1_14
  by_cases c29_2_19 : M 62 ((4 : Int) * a1 : Int).toNat = (2 : Int)
  · have h := ite_t h c29_2_19
    refine V_tabIn (pc := 29) C 84 (2 : Int) c29_2_19 (hM _ _) dX12_execute_29 (by decide) (by decide) rfl (by decide) ?_
    refine V_aload_n (pc := 84) C 0 rfl dX12_execute_84 ?_
    refine V_iload_n (pc := 85) C 3 rfl dX12_execute_85 ?_
    refine V_iload (pc := 86) C 4 rfl dX12_execute_86 ?_
    obtain ⟨M20, r21, hc22, h⟩ := cal_of h
    refine V_callVI (pc := 88) C (c_X12_executeTruncate l Γ sk hsk fu (hM _ _) (hM _ _) hc22) cf_X12_executeTruncate lk_X12_312 ⟨rfl, rfl⟩ ⟨Nat.le_of_ble_eq_true rfl, Nat.le_of_ble_eq_true rfl⟩ e52 rfl rfl rfl (Nat.le_of_ble_eq_true rfl) ⟨Nat.zero_le _, Nat.zero_le _⟩ rfl dX12_execute_88 (fun hr21 => ?_)
    obtain ⟨g23, h⟩ := grd_of h
    exact V_zret (pc := 91) C hr hlk g23 h dX12_execute_91
  have h := ite_f h c29_2_19
  by_cases c29_3_24 : M 62 ((4 : Int) * a1 : Int).toNat = (3 : Int)
  · have h := ite_t h c29_3_24
    refine V_tabIn (pc := 29) C 92 (3 : Int) c29_3_24 (hM _ _) dX12_execute_29 (by decide) (by decide) rfl (by decide) ?_
    refine V_aload_n (pc := 92) C 0 rfl dX12_execute_92 ?_
    refine V_iload_n (pc := 93) C 3 rfl dX12_execute_93 ?_
    obtain ⟨M25, r26, hc27, h⟩ := cal_of h
    refine V_callVI (pc := 94) C (c_X12_isLive l Γ sk hsk fu (hM _ _) hc27) cf_X12_isLive lk_X12_288 ⟨rfl, rfl⟩ ⟨Nat.le_of_ble_eq_true rfl, Nat.le_of_ble_eq_true rfl⟩ e52 rfl rfl rfl (Nat.le_of_ble_eq_true rfl) ⟨Nat.zero_le _, Nat.zero_le _⟩ rfl dX12_execute_94 (fun hr26 => ?_)
    refine V_if_eq (pc := 97) C 112 hr26 dX12_execute_97 (by decide) (fun c97_28 => ?_) (fun c97_28 => ?_)
    · have h := ite_t h c97_28
      refine V_iconst (pc := 112) C dX12_execute_112 ?_
      exact V_zret (pc := 113) C hr hlk (by decide) h dX12_execute_113
    · have h := ite_f h c97_28
      refine V_aload_n (pc := 100) C 0 rfl dX12_execute_100 ?_
      refine V_iload_n (pc := 101) C 3 rfl dX12_execute_101 ?_
      obtain ⟨M29, r30, hc31, h⟩ := cal_of h
      refine V_callVI (pc := 102) C (c_X12_releaseVersion l Γ sk hsk fu (hM _ _) hc31) cf_X12_releaseVersion lk_X12_315 ⟨rfl, rfl⟩ ⟨Nat.le_of_ble_eq_true rfl, Nat.le_of_ble_eq_true rfl⟩ e52 rfl rfl rfl (Nat.le_of_ble_eq_true rfl) ⟨Nat.zero_le _, Nat.zero_le _⟩ rfl dX12_execute_102 (fun hr30 => ?_)
      refine V_if_lt (pc := 105) C 112 hr30 dX12_execute_105 (by decide) (fun c105_32 => ?_) (fun c105_32 => ?_)
      · have h := ite_t h c105_32
        refine V_iconst (pc := 112) C dX12_execute_112 ?_
        exact V_zret (pc := 113) C hr hlk (by decide) h dX12_execute_113
      · have h := ite_f h c105_32
        refine V_iconst (pc := 108) C dX12_execute_108 ?_
        refine V_goto (pc := 109) C 113 dX12_execute_109 (by decide) ?_
        exact V_zret (pc := 113) C hr hlk (by decide) h dX12_execute_113
  have h := ite_f h c29_3_24
  refine V_tabOut (pc := 29) C 114 (hM _ _) dX12_execute_29 (tabout_0_3 c29_0_7 c29_1_14 c29_2_19 c29_3_24) (by decide) ?_
  refine V_aload_n (pc := 114) C 0 rfl dX12_execute_114 ?_
  obtain ⟨M33, r34, hc35, h⟩ := cal_of h
  refine V_callVI (pc := 115) C (c_X12_collectAll l Γ sk hsk fu hc35) cf_X12_collectAll lk_X12_318 ⟨rfl, rfl⟩ ⟨Nat.le_of_ble_eq_true rfl, Nat.le_of_ble_eq_true rfl⟩ e52 rfl rfl rfl (Nat.le_of_ble_eq_true rfl) ⟨Nat.zero_le _, Nat.zero_le _⟩ rfl dX12_execute_115 (fun hr34 => ?_)
  refine V_if_lt (pc := 118) C 125 hr34 dX12_execute_118 (by decide) (fun c118_36 => ?_) (fun c118_36 => ?_)
  · have h := ite_t h c118_36
    refine V_iconst (pc := 125) C dX12_execute_125 ?_
    exact V_zret (pc := 126) C hr hlk (by decide) h dX12_execute_126
  · have h := ite_f h c118_36
    refine V_iconst (pc := 121) C dX12_execute_121 ?_
    refine V_goto (pc := 122) C 126 dX12_execute_122 (by decide) ?_
    exact V_zret (pc := 126) C hr hlk (by decide) h dX12_execute_126
set_option maxRecDepth 100000 in
set_option maxHeartbeats 4000000 in
theorem c_X12_runScript (l : Launch) (Γ : GG) (sk : List SD) (hsk : ExtM sk) (fu : Nat) {M M' : Mem}  {r : Int}  (h : f_X12_runScript fu M  = some (M', r)) : MetI l yX12_runScript cX12_runScript 2 .int ({ frames := 266, cells := 0, slots := 0, locals := 9129 } : Room) Γ sk [vr Γ 52] M M' r := by
  unfold f_X12_runScript at h
  refine MetI_of RX12 rfl (by decide) rfl (Nat.le_of_ble_eq_true rfl) rfl ?_
  intro p e s m args below meth c C hr hlk hM
  have e52 := hsk 52 _ (by decide) rfl
  have LP54 : ∀ (n : Nat) {x1 : Int} {M : Mem}, rng x1 → f_X12_runScript_L54 fu n x1 M = some (M', r) → VV p l e ({ frames := 266, cells := 0, slots := 0, locals := 9129 } : Room) s m args below meth c (MQ below (PostI Γ sk M' r s.heap.size) args s 0 0 (Fr Γ sk s.heap.size)) 2 Γ sk M 0 0 54 [(0, vr Γ 52), (1, vi x1)] [] := by
    intro n
    induction n with
    | zero =>
      intro x1 M hx1 h
      cases h
    | succ n ih =>
      intro x1 M hx1 h
      rw [f_X12_runScript_L54] at h
      refine V_iload_n (pc := 54) C 1 rfl dX12_runScript_54 ?_
      refine V_aload_n (pc := 55) C 0 rfl dX12_runScript_55 ?_
      refine V_rng fun hM14 => ?_
      refine V_getI (pc := 56) C e52 rfl inX12 23 (by decide) rfl lf_X12_279 rfl dX12_runScript_56 ?_
      refine V_icmp_ge (pc := 59) C 76 hx1 (hM14 _ _) dX12_runScript_59 (by decide) (fun c59_15 => ?_) (fun c59_15 => ?_)
      · have h := ite_t h c59_15
        refine V_iload_n (pc := 76) C 1 rfl dX12_runScript_76 ?_
        exact V_iret (pc := 77) C hr hlk hx1 h dX12_runScript_77
      · have h := ite_f h c59_15
        refine V_aload_n (pc := 62) C 0 rfl dX12_runScript_62 ?_
        refine V_iload_n (pc := 63) C 1 rfl dX12_runScript_63 ?_
        obtain ⟨M16, r17, hc18, h⟩ := cal_of h
        refine V_callVI (pc := 64) C (c_X12_execute l Γ sk hsk fu hx1 hc18) cf_X12_execute lk_X12_327 ⟨rfl, rfl⟩ ⟨Nat.le_of_ble_eq_true rfl, Nat.le_of_ble_eq_true rfl⟩ e52 rfl rfl rfl (Nat.le_of_ble_eq_true rfl) ⟨Nat.zero_le _, Nat.zero_le _⟩ rfl dX12_runScript_64 (fun hr17 => ?_)
        refine V_if_eq (pc := 67) C 76 hr17 dX12_runScript_67 (by decide) (fun c67_19 => ?_) (fun c67_19 => ?_)
        · have h := ite_t h c67_19
          refine V_iload_n (pc := 76) C 1 rfl dX12_runScript_76 ?_
          exact V_iret (pc := 77) C hr hlk hx1 h dX12_runScript_77
        · have h := ite_f h c67_19
          refine V_iinc (pc := 70) C (L' := [(0, vr Γ 52), (1, vi (x1 + (1 : Int)))]) 1 rfl rfl (by decide) dX12_runScript_70 ?_
          refine V_goto (pc := 73) C 54 dX12_runScript_73 (by decide) ?_
          obtain ⟨g20, h⟩ := grd_of h
          refine V_sub (L' := [(0, vr Γ 52), (1, vi (x1 + (1 : Int)))]) [0, 1] rfl (by decide) ?_
          exact ih g20 h
  have JP35 : ∀ {M : Mem}, f_X12_runScript_J35 fu M = some (M', r) → VV p l e ({ frames := 266, cells := 0, slots := 0, locals := 9129 } : Room) s m args below meth c (MQ below (PostI Γ sk M' r s.heap.size) args s 0 0 (Fr Γ sk s.heap.size)) 2 Γ sk M 0 0 35 [(0, vr Γ 52)] [] := by
    intro M h
    unfold f_X12_runScript_J35 at h
    refine V_aload_n (pc := 35) C 0 rfl dX12_runScript_35 ?_
    obtain ⟨M6, r7, hc8, h⟩ := cal_of h
    refine V_callVV (pc := 36) C (c_X12_endText l Γ sk hsk fu hc8) cf_X12_endText lk_X12_259 ⟨rfl, rfl⟩ ⟨Nat.le_of_ble_eq_true rfl, Nat.le_of_ble_eq_true rfl⟩ e52 rfl rfl rfl (Nat.le_of_ble_eq_true rfl) ⟨Nat.zero_le _, Nat.zero_le _⟩ rfl dX12_runScript_36 ?_
    refine V_aload_n (pc := 39) C 0 rfl dX12_runScript_39 ?_
    refine V_rng fun hM9 => ?_
    refine V_getI (pc := 40) C e52 rfl inX12 20 (by decide) rfl lf_X12_197 rfl dX12_runScript_40 ?_
    refine V_if_le (pc := 43) C 48 (hM9 _ _) dX12_runScript_43 (by decide) (fun c43_10 => ?_) (fun c43_10 => ?_)
    · have h := ite_t h c43_10
      refine V_aload_n (pc := 48) C 0 rfl dX12_runScript_48 ?_
      obtain ⟨M11, r12, hc13, h⟩ := cal_of h
      refine V_callVV (pc := 49) C (c_X12_remember l Γ sk hsk fu hc13) cf_X12_remember lk_X12_324 ⟨rfl, rfl⟩ ⟨Nat.le_of_ble_eq_true rfl, Nat.le_of_ble_eq_true rfl⟩ e52 rfl rfl rfl (Nat.le_of_ble_eq_true rfl) ⟨Nat.zero_le _, Nat.zero_le _⟩ rfl dX12_runScript_49 ?_
      refine V_iconst (pc := 52) C dX12_runScript_52 ?_
      refine V_istore_n (pc := 53) C (L' := [(0, vr Γ 52), (1, vi (0 : Int))]) rfl (by decide) dX12_runScript_53 ?_
      refine V_sub (L' := [(0, vr Γ 52), (1, vi (0 : Int))]) [0, 1] rfl (by decide) ?_
      exact LP54 fu  (by decide) h
    · have h := ite_f h c43_10
      refine V_iconst (pc := 46) C dX12_runScript_46 ?_
      exact V_iret (pc := 47) C hr hlk (by decide) h dX12_runScript_47
  have LP14 : ∀ (n : Nat) {M : Mem}, f_X12_runScript_L14 fu n M = some (M', r) → VV p l e ({ frames := 266, cells := 0, slots := 0, locals := 9129 } : Room) s m args below meth c (MQ below (PostI Γ sk M' r s.heap.size) args s 0 0 (Fr Γ sk s.heap.size)) 2 Γ sk M 0 0 14 [(0, vr Γ 52)] [] := by
    intro n
    induction n with
    | zero =>
      intro M h
      cases h
    | succ n ih =>
      intro M h
      rw [f_X12_runScript_L14] at h
      refine V_aload_n (pc := 14) C 0 rfl dX12_runScript_14 ?_
      refine V_rng fun hM4 => ?_
      refine V_getI (pc := 15) C e52 rfl inX12 20 (by decide) rfl lf_X12_197 rfl dX12_runScript_15 ?_
      refine V_if_ne (pc := 18) C 35 (hM4 _ _) dX12_runScript_18 (by decide) (fun c18_5 => ?_) (fun c18_5 => ?_)
      · have h := ite_f h c18_5
        refine V_sub (L' := [(0, vr Γ 52)]) [0] rfl (by decide) ?_
        exact JP35 h
      · have h := ite_t h c18_5
        refine V_aload_n (pc := 21) C 0 rfl dX12_runScript_21 ?_
        refine V_getI (pc := 22) C e52 rfl inX12 18 (by decide) rfl lf_X12_206 rfl dX12_runScript_22 ?_
        refine V_if_eq (pc := 25) C 35 (hM4 _ _) dX12_runScript_25 (by decide) (fun c25_21 => ?_) (fun c25_21 => ?_)
        · have h := ite_t h c25_21
          refine V_sub (L' := [(0, vr Γ 52)]) [0] rfl (by decide) ?_
          exact JP35 h
        · have h := ite_f h c25_21
          refine V_aload_n (pc := 28) C 0 rfl dX12_runScript_28 ?_
          obtain ⟨M22, r23, hc24, h⟩ := cal_of h
          refine V_callVV (pc := 29) C (c_X12_parseStatement l Γ sk hsk fu hc24) cf_X12_parseStatement lk_X12_321 ⟨rfl, rfl⟩ ⟨Nat.le_of_ble_eq_true rfl, Nat.le_of_ble_eq_true rfl⟩ e52 rfl rfl rfl (Nat.le_of_ble_eq_true rfl) ⟨Nat.zero_le _, Nat.zero_le _⟩ rfl dX12_runScript_29 ?_
          refine V_goto (pc := 32) C 14 dX12_runScript_32 (by decide) ?_
          refine V_sub (L' := [(0, vr Γ 52)]) [0] rfl (by decide) ?_
          exact ih h
  skip
  refine V_aload_n (pc := 0) C 0 rfl dX12_runScript_0 ?_
  refine V_iconst (pc := 1) C dX12_runScript_1 ?_
  refine V_putI (pc := 2) C (by decide) e52 rfl inX12 tyX12 tyX12_ok nmX12 6 (by decide) rfl rfl lf_X12_58 rfl (by decide) rfl dX12_runScript_2 ?_
  refine V_aload_n (pc := 5) C 0 rfl dX12_runScript_5 ?_
  refine V_iconst (pc := 6) C dX12_runScript_6 ?_
  refine V_putI (pc := 7) C (by decide) e52 rfl inX12 tyX12 tyX12_ok nmX12 23 (by decide) rfl rfl lf_X12_279 rfl (by decide) rfl dX12_runScript_7 ?_
  refine V_aload_n (pc := 10) C 0 rfl dX12_runScript_10 ?_
  obtain ⟨M1, r2, hc3, h⟩ := cal_of h
  refine V_callVV (pc := 11) C (c_X12_beginText l Γ sk hsk fu hc3) cf_X12_beginText lk_X12_253 ⟨rfl, rfl⟩ ⟨Nat.le_of_ble_eq_true rfl, Nat.le_of_ble_eq_true rfl⟩ e52 rfl rfl rfl (Nat.le_of_ble_eq_true rfl) ⟨Nat.zero_le _, Nat.zero_le _⟩ rfl dX12_runScript_11 ?_
  refine V_sub (L' := [(0, vr Γ 52)]) [0] rfl (by decide) ?_
  exact LP14 fu  h
