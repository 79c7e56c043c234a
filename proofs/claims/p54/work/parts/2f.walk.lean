set_option maxRecDepth 100000 in
set_option maxHeartbeats 4000000 in
theorem c_X9_begin (l : Launch) (Γ : GG) (sk : List SD) (hsk : Ext sk) (fu : Nat) {M M' : Mem}  {r : Int}  (h : f_X9_begin fu M  = some (M', r)) : MetV l yX9_begin cX9_begin 1 ({ frames := 0, cells := 0, slots := 0, locals := 0 } : Room) Γ sk [vr Γ 45] M M' := by
  unfold f_X9_begin at h
  refine MetV_of RX9 rfl (by decide) rfl (Nat.le_of_ble_eq_true rfl) rfl ?_
  intro p e s m args below meth c C hr hlk hM
  have e45 := hsk 45 _ (by decide) rfl
  refine V_aload_n (pc := 0) C 0 rfl dX9_begin_0 ?_
  refine V_iconst (pc := 1) C dX9_begin_1 ?_
  refine V_putI (pc := 2) C (by decide) e45 rfl inX9 tyX9 tyX9_ok nmX9 6 (by decide) rfl rfl lf_X9_9 rfl (by decide) rfl dX9_begin_2 ?_
  refine V_aload_n (pc := 5) C 0 rfl dX9_begin_5 ?_
  refine V_iconst (pc := 6) C dX9_begin_6 ?_
  refine V_putI (pc := 7) C (by decide) e45 rfl inX9 tyX9 tyX9_ok nmX9 7 (by decide) rfl rfl lf_X9_15 rfl (by decide) rfl dX9_begin_7 ?_
  refine V_aload_n (pc := 10) C 0 rfl dX9_begin_10 ?_
  refine V_iconst (pc := 11) C dX9_begin_11 ?_
  refine V_putI (pc := 12) C (by decide) e45 rfl inX9 tyX9 tyX9_ok nmX9 1 (by decide) rfl rfl lf_X9_22 rfl (by decide) rfl dX9_begin_12 ?_
  exact V_vret (pc := 15) C hr hlk h dX9_begin_15
set_option maxRecDepth 100000 in
set_option maxHeartbeats 4000000 in
theorem c_X9_fail (l : Launch) (Γ : GG) (sk : List SD) (hsk : Ext sk) (fu : Nat) {M M' : Mem} {a1 : Int} {r : Int} (ha1 : rng a1) (h : f_X9_fail fu M a1 = some (M', r)) : MetI l yX9_fail cX9_fail 2 .boolean ({ frames := 0, cells := 0, slots := 0, locals := 0 } : Room) Γ sk [vr Γ 45, vi a1] M M' r := by
  unfold f_X9_fail at h
  refine MetI_of RX9 rfl (by decide) rfl (Nat.le_of_ble_eq_true rfl) rfl ?_
  intro p e s m args below meth c C hr hlk hM
  have e45 := hsk 45 _ (by decide) rfl
  refine V_aload_n (pc := 0) C 0 rfl dX9_fail_0 ?_
  refine V_iload_n (pc := 1) C 1 rfl dX9_fail_1 ?_
  refine V_putI (pc := 2) C (by decide) e45 rfl inX9 tyX9 tyX9_ok nmX9 6 (by decide) rfl rfl lf_X9_9 rfl ha1 rfl dX9_fail_2 ?_
  refine V_aload_n (pc := 5) C 0 rfl dX9_fail_5 ?_
  refine V_aload_n (pc := 6) C 0 rfl dX9_fail_6 ?_
  refine V_rng fun hM1 => ?_
  refine V_getI (pc := 7) C e45 rfl inX9 2 (by decide) rfl lf_X9_25 rfl dX9_fail_7 ?_
  refine V_putI (pc := 10) C (by decide) e45 rfl inX9 tyX9 tyX9_ok nmX9 7 (by decide) rfl rfl lf_X9_15 rfl (hM1 _ _) rfl dX9_fail_10 ?_
  refine V_iconst (pc := 13) C dX9_fail_13 ?_
  exact V_zret (pc := 14) C hr hlk (by decide) h dX9_fail_14
set_option maxRecDepth 100000 in
set_option maxHeartbeats 4000000 in
theorem c_X9_isLetter (l : Launch) (Γ : GG) (sk : List SD) (hsk : Ext sk) (fu : Nat) {M M' : Mem} {a0 : Int} {r : Int} (ha0 : rng a0) (h : f_X9_isLetter fu M a0 = some (M', r)) : MetI l yX9_isLetter cX9_isLetter 1 .boolean ({ frames := 0, cells := 0, slots := 0, locals := 0 } : Room) Γ sk [vi a0] M M' r := by
  unfold f_X9_isLetter at h
  refine MetI_of RX9 rfl (by decide) rfl (Nat.le_of_ble_eq_true rfl) rfl ?_
  intro p e s m args below meth c C hr hlk hM
  refine V_iload_n (pc := 0) C 0 rfl dX9_isLetter_0 ?_
  refine V_bipush (pc := 1) C dX9_isLetter_1 rfl ?_
  refine V_icmp_lt (pc := 3) C 16 ha0 (by decide) dX9_isLetter_3 (by decide) (fun c3_1 => ?_) (fun c3_1 => ?_)
  · have h := ite_t h c3_1
    refine V_iconst (pc := 16) C dX9_isLetter_16 ?_
    exact V_zret (pc := 17) C hr hlk (by decide) h dX9_isLetter_17
  · have h := ite_f h c3_1
    refine V_iload_n (pc := 6) C 0 rfl dX9_isLetter_6 ?_
    refine V_bipush (pc := 7) C dX9_isLetter_7 rfl ?_
    refine V_icmp_gt (pc := 9) C 16 ha0 (by decide) dX9_isLetter_9 (by decide) (fun c9_2 => ?_) (fun c9_2 => ?_)
    · have h := ite_t h c9_2
      refine V_iconst (pc := 16) C dX9_isLetter_16 ?_
      exact V_zret (pc := 17) C hr hlk (by decide) h dX9_isLetter_17
    · have h := ite_f h c9_2
      refine V_iconst (pc := 12) C dX9_isLetter_12 ?_
      refine V_goto (pc := 13) C 17 dX9_isLetter_13 (by decide) ?_
      exact V_zret (pc := 17) C hr hlk (by decide) h dX9_isLetter_17
set_option maxRecDepth 100000 in
set_option maxHeartbeats 4000000 in
theorem c_X9_isDigit (l : Launch) (Γ : GG) (sk : List SD) (hsk : Ext sk) (fu : Nat) {M M' : Mem} {a0 : Int} {r : Int} (ha0 : rng a0) (h : f_X9_isDigit fu M a0 = some (M', r)) : MetI l yX9_isDigit cX9_isDigit 1 .boolean ({ frames := 0, cells := 0, slots := 0, locals := 0 } : Room) Γ sk [vi a0] M M' r := by
  unfold f_X9_isDigit at h
  refine MetI_of RX9 rfl (by decide) rfl (Nat.le_of_ble_eq_true rfl) rfl ?_
  intro p e s m args below meth c C hr hlk hM
  refine V_iload_n (pc := 0) C 0 rfl dX9_isDigit_0 ?_
  refine V_bipush (pc := 1) C dX9_isDigit_1 rfl ?_
  refine V_icmp_lt (pc := 3) C 16 ha0 (by decide) dX9_isDigit_3 (by decide) (fun c3_1 => ?_) (fun c3_1 => ?_)
  · have h := ite_t h c3_1
    refine V_iconst (pc := 16) C dX9_isDigit_16 ?_
    exact V_zret (pc := 17) C hr hlk (by decide) h dX9_isDigit_17
  · have h := ite_f h c3_1
    refine V_iload_n (pc := 6) C 0 rfl dX9_isDigit_6 ?_
    refine V_bipush (pc := 7) C dX9_isDigit_7 rfl ?_
    refine V_icmp_gt (pc := 9) C 16 ha0 (by decide) dX9_isDigit_9 (by decide) (fun c9_2 => ?_) (fun c9_2 => ?_)
    · have h := ite_t h c9_2
      refine V_iconst (pc := 16) C dX9_isDigit_16 ?_
      exact V_zret (pc := 17) C hr hlk (by decide) h dX9_isDigit_17
    · have h := ite_f h c9_2
      refine V_iconst (pc := 12) C dX9_isDigit_12 ?_
      refine V_goto (pc := 13) C 17 dX9_isDigit_13 (by decide) ?_
      exact V_zret (pc := 17) C hr hlk (by decide) h dX9_isDigit_17
set_option maxRecDepth 100000 in
set_option maxHeartbeats 4000000 in
theorem c_X9_readNumber (l : Launch) (Γ : GG) (sk : List SD) (hsk : Ext sk) (fu : Nat) {M M' : Mem}  {r : Int}  (h : f_X9_readNumber fu M  = some (M', r)) : MetV l yX9_readNumber cX9_readNumber 1 ({ frames := 1, cells := 0, slots := 0, locals := 21 } : Room) Γ sk [vr Γ 45] M M' := by
  unfold f_X9_readNumber at h
  refine MetV_of RX9 rfl (by decide) rfl (Nat.le_of_ble_eq_true rfl) rfl ?_
  intro p e s m args below meth c C hr hlk hM
  have e43 := hsk 43 _ (by decide) rfl
  have e45 := hsk 45 _ (by decide) rfl
  have JP75 : ∀ {M : Mem}, f_X9_readNumber_J75 fu M = some (M', r) → VV p l e ({ frames := 1, cells := 0, slots := 0, locals := 21 } : Room) s m args below meth c (MQ below (PostV Γ sk M' s.heap.size) args s 0 0 (Fr Γ sk s.heap.size)) 1 Γ sk M 0 0 75 [(0, vr Γ 45)] [] := by
    intro M h
    unfold f_X9_readNumber_J75 at h
    refine V_aload_n (pc := 75) C 0 rfl dX9_readNumber_75 ?_
    refine V_aload_n (pc := 76) C 0 rfl dX9_readNumber_76 ?_
    refine V_rng fun hM3 => ?_
    refine V_getI (pc := 77) C e45 rfl inX9 1 (by decide) rfl lf_X9_22 rfl dX9_readNumber_77 ?_
    refine V_aload_n (pc := 80) C 0 rfl dX9_readNumber_80 ?_
    refine V_getI (pc := 81) C e45 rfl inX9 2 (by decide) rfl lf_X9_25 rfl dX9_readNumber_81 ?_
    refine V_isub (pc := 84) C dX9_readNumber_84 ?_
    refine V_iconst (pc := 85) C dX9_readNumber_85 ?_
    obtain ⟨g4, h⟩ := grd_of h
    refine V_icmp_le (pc := 86) C 93 g4 (by decide) dX9_readNumber_86 (by decide) (fun c86_5 => ?_) (fun c86_5 => ?_)
    · have h := ite_t h c86_5
      refine V_iconst (pc := 93) C dX9_readNumber_93 ?_
      refine V_putI (pc := 94) C (by decide) e45 rfl inX9 tyX9 tyX9_ok nmX9 3 (by decide) rfl rfl lf_X9_56 rfl (by decide) rfl dX9_readNumber_94 ?_
      exact V_vret (pc := 97) C hr hlk h dX9_readNumber_97
    · have h := ite_f h c86_5
      refine V_iconst (pc := 89) C dX9_readNumber_89 ?_
      refine V_goto (pc := 90) C 94 dX9_readNumber_90 (by decide) ?_
      refine V_putI (pc := 94) C (by decide) e45 rfl inX9 tyX9 tyX9_ok nmX9 3 (by decide) rfl rfl lf_X9_56 rfl (by decide) rfl dX9_readNumber_94 ?_
      exact V_vret (pc := 97) C hr hlk h dX9_readNumber_97
  have LP5 : ∀ (n : Nat) {M : Mem}, f_X9_readNumber_L5 fu n M = some (M', r) → VV p l e ({ frames := 1, cells := 0, slots := 0, locals := 21 } : Room) s m args below meth c (MQ below (PostV Γ sk M' s.heap.size) args s 0 0 (Fr Γ sk s.heap.size)) 1 Γ sk M 0 0 5 [(0, vr Γ 45)] [] := by
    intro n
    induction n with
    | zero =>
      intro M h
      cases h
    | succ n ih =>
      intro M h
      rw [f_X9_readNumber_L5] at h
      refine V_aload_n (pc := 5) C 0 rfl dX9_readNumber_5 ?_
      refine V_rng fun hM1 => ?_
      refine V_getI (pc := 6) C e45 rfl inX9 1 (by decide) rfl lf_X9_22 rfl dX9_readNumber_6 ?_
      refine V_aload_n (pc := 9) C 0 rfl dX9_readNumber_9 ?_
      refine V_getR (pc := 10) C e45 rfl inX9 0 (by decide) rfl lf_X9_18 rfl dX9_readNumber_10 ?_
      refine V_getI (pc := 13) C e43 rfl inX2 0 (by decide) rfl lf_X9_28 rfl dX9_readNumber_13 ?_
      refine V_icmp_ge (pc := 16) C 75 (hM1 _ _) (hM1 _ _) dX9_readNumber_16 (by decide) (fun c16_2 => ?_) (fun c16_2 => ?_)
      · have h := ite_t h c16_2
        refine V_sub (L' := [(0, vr Γ 45)]) [0] rfl (by decide) ?_
        exact JP75 h
      · have h := ite_f h c16_2
        refine V_aload_n (pc := 19) C 0 rfl dX9_readNumber_19 ?_
        refine V_getR (pc := 20) C e45 rfl inX9 0 (by decide) rfl lf_X9_18 rfl dX9_readNumber_20 ?_
        refine V_aload_n (pc := 23) C 0 rfl dX9_readNumber_23 ?_
        refine V_getI (pc := 24) C e45 rfl inX9 1 (by decide) rfl lf_X9_22 rfl dX9_readNumber_24 ?_
        obtain ⟨M6, r7, hc8, h⟩ := cal_of h
        refine V_callVI (pc := 27) C (c_X2_byteAt l Γ sk hsk fu (hM1 _ _) hc8) cf_X2_byteAt lk_X9_33 ⟨rfl, rfl⟩ ⟨Nat.le_of_ble_eq_true rfl, Nat.le_of_ble_eq_true rfl⟩ e43 rfl rfl rfl (Nat.le_of_ble_eq_true rfl) ⟨Nat.zero_le _, Nat.zero_le _⟩ rfl dX9_readNumber_27 (fun hr7 => ?_)
        obtain ⟨M9, r10, hc11, h⟩ := cal_of h
        refine V_callSI (pc := 30) C (c_X9_isDigit l Γ sk hsk fu hr7 hc11) cf_X9_isDigit lk_X9_50 ⟨rfl, rfl⟩ ⟨Nat.le_of_ble_eq_true rfl, Nat.le_of_ble_eq_true rfl⟩ rfl (Nat.le_of_ble_eq_true rfl) ⟨Nat.zero_le _, Nat.zero_le _⟩ rfl dX9_readNumber_30 (fun hr10 => ?_)
        refine V_if_eq (pc := 33) C 75 hr10 dX9_readNumber_33 (by decide) (fun c33_12 => ?_) (fun c33_12 => ?_)
        · have h := ite_t h c33_12
          refine V_sub (L' := [(0, vr Γ 45)]) [0] rfl (by decide) ?_
          exact JP75 h
        · have h := ite_f h c33_12
          refine V_aload_n (pc := 36) C 0 rfl dX9_readNumber_36 ?_
          refine V_aload_n (pc := 37) C 0 rfl dX9_readNumber_37 ?_
          refine V_rng fun hM13 => ?_
          refine V_getI (pc := 38) C e45 rfl inX9 5 (by decide) rfl lf_X9_63 rfl dX9_readNumber_38 ?_
          refine V_bipush (pc := 41) C dX9_readNumber_41 rfl ?_
          refine V_imul (pc := 43) C dX9_readNumber_43 ?_
          refine V_aload_n (pc := 44) C 0 rfl dX9_readNumber_44 ?_
          refine V_getR (pc := 45) C e45 rfl inX9 0 (by decide) rfl lf_X9_18 rfl dX9_readNumber_45 ?_
          refine V_aload_n (pc := 48) C 0 rfl dX9_readNumber_48 ?_
          refine V_getI (pc := 49) C e45 rfl inX9 1 (by decide) rfl lf_X9_22 rfl dX9_readNumber_49 ?_
          obtain ⟨M14, r15, hc16, h⟩ := cal_of h
          refine V_callVI (pc := 52) C (c_X2_byteAt l Γ sk hsk fu (hM13 _ _) hc16) cf_X2_byteAt lk_X9_33 ⟨rfl, rfl⟩ ⟨Nat.le_of_ble_eq_true rfl, Nat.le_of_ble_eq_true rfl⟩ e43 rfl rfl rfl (Nat.le_of_ble_eq_true rfl) ⟨Nat.zero_le _, Nat.zero_le _⟩ rfl dX9_readNumber_52 (fun hr15 => ?_)
          refine V_iadd (pc := 55) C dX9_readNumber_55 ?_
          refine V_bipush (pc := 56) C dX9_readNumber_56 rfl ?_
          refine V_isub (pc := 58) C dX9_readNumber_58 ?_
          refine V_wrap ?_
          refine V_putI (pc := 59) C (by decide) e45 rfl inX9 tyX9 tyX9_ok nmX9 5 (by decide) rfl rfl lf_X9_63 rfl (w32_rng _) rfl dX9_readNumber_59 ?_
          refine V_aload_n (pc := 62) C 0 rfl dX9_readNumber_62 ?_
          refine V_dup (pc := 63) C rfl dX9_readNumber_63 ?_
          refine V_rng fun hM17 => ?_
          refine V_getI (pc := 64) C e45 rfl inX9 1 (by decide) rfl lf_X9_22 rfl dX9_readNumber_64 ?_
          refine V_iconst (pc := 67) C dX9_readNumber_67 ?_
          refine V_iadd (pc := 68) C dX9_readNumber_68 ?_
          obtain ⟨g18, h⟩ := grd_of h
          refine V_putI (pc := 69) C (by decide) e45 rfl inX9 tyX9 tyX9_ok nmX9 1 (by decide) rfl rfl lf_X9_22 rfl g18 rfl dX9_readNumber_69 ?_
          refine V_goto (pc := 72) C 5 dX9_readNumber_72 (by decide) ?_
          refine V_sub (L' := [(0, vr Γ 45)]) [0] rfl (by decide) ?_
          exact ih h
  skip
  refine V_aload_n (pc := 0) C 0 rfl dX9_readNumber_0 ?_
  refine V_iconst (pc := 1) C dX9_readNumber_1 ?_
  refine V_putI (pc := 2) C (by decide) e45 rfl inX9 tyX9 tyX9_ok nmX9 5 (by decide) rfl rfl lf_X9_63 rfl (by decide) rfl dX9_readNumber_2 ?_
  refine V_sub (L' := [(0, vr Γ 45)]) [0] rfl (by decide) ?_
  exact LP5 fu  h
set_option maxRecDepth 100000 in
set_option maxHeartbeats 4000000 in
theorem c_X9_spells (l : Launch) (Γ : GG) (sk : List SD) (hsk : Ext sk) (fu : Nat) {M M' : Mem} {q1 : Nat} {r : Int} (hq1 : q1 < lensL.length) (h : f_X9_spells fu M q1 = some (M', r)) : MetI l yX9_spells cX9_spells 3 .boolean ({ frames := 12, cells := 0, slots := 0, locals := 400 } : Room) Γ sk [vr Γ 45, vs Γ q1] M M' r := by
  unfold f_X9_spells at h
  refine MetI_of RX9 rfl (by decide) rfl (Nat.le_of_ble_eq_true rfl) rfl ?_
  intro p e s m args below meth c C hr hlk hM
  have e43 := hsk 43 _ (by decide) rfl
  have e45 := hsk 45 _ (by decide) rfl
  have LP20 : ∀ (n : Nat) {x2 : Int} {M : Mem}, rng x2 → f_X9_spells_L20 fu q1 n x2 M = some (M', r) → VV p l e ({ frames := 12, cells := 0, slots := 0, locals := 400 } : Room) s m args below meth c (MQ below (PostI Γ sk M' r s.heap.size) args s 0 0 (Fr Γ sk s.heap.size)) 3 Γ sk M 0 0 20 [(0, vr Γ 45), (1, vs Γ q1), (2, vi x2)] [] := by
    intro n
    induction n with
    | zero =>
      intro x2 M hx2 h
      cases h
    | succ n ih =>
      intro x2 M hx2 h
      rw [f_X9_spells_L20] at h
      refine V_iload_n (pc := 20) C 2 rfl dX9_spells_20 ?_
      refine V_aload_n (pc := 21) C 1 rfl dX9_spells_21 ?_
      refine V_slen (pc := 22) C hq1 lk_X9_84 ⟨Nat.le_of_ble_eq_true rfl, Nat.le_of_ble_eq_true rfl⟩ ⟨Nat.zero_le _, Nat.zero_le _⟩ (Nat.le_of_ble_eq_true rfl) dX9_spells_22 ?_
      refine V_icmp_ge (pc := 25) C 57 hx2 (slen_rng _) dX9_spells_25 (by decide) (fun c25_3 => ?_) (fun c25_3 => ?_)
      · have h := ite_t h c25_3
        refine V_iconst (pc := 57) C dX9_spells_57 ?_
        exact V_zret (pc := 58) C hr hlk (by decide) h dX9_spells_58
      · have h := ite_f h c25_3
        refine V_aload_n (pc := 28) C 0 rfl dX9_spells_28 ?_
        refine V_getR (pc := 29) C e45 rfl inX9 0 (by decide) rfl lf_X9_18 rfl dX9_spells_29 ?_
        refine V_aload_n (pc := 32) C 0 rfl dX9_spells_32 ?_
        refine V_rng fun hM4 => ?_
        refine V_getI (pc := 33) C e45 rfl inX9 2 (by decide) rfl lf_X9_25 rfl dX9_spells_33 ?_
        refine V_iload_n (pc := 36) C 2 rfl dX9_spells_36 ?_
        refine V_iadd (pc := 37) C dX9_spells_37 ?_
        obtain ⟨g5, h⟩ := grd_of h
        obtain ⟨M6, r7, hc8, h⟩ := cal_of h
        refine V_callVI (pc := 38) C (c_X2_byteAt l Γ sk hsk fu g5 hc8) cf_X2_byteAt lk_X9_33 ⟨rfl, rfl⟩ ⟨Nat.le_of_ble_eq_true rfl, Nat.le_of_ble_eq_true rfl⟩ e43 rfl rfl rfl (Nat.le_of_ble_eq_true rfl) ⟨Nat.zero_le _, Nat.zero_le _⟩ rfl dX9_spells_38 (fun hr7 => ?_)
        refine V_aload_n (pc := 41) C 1 rfl dX9_spells_41 ?_
        refine V_iload_n (pc := 42) C 2 rfl dX9_spells_42 ?_
        obtain ⟨g9, h⟩ := grd_of h
        refine V_schar (pc := 43) C hq1 g9 hx2 lk_X9_88 ⟨Nat.le_of_ble_eq_true rfl, Nat.le_of_ble_eq_true rfl⟩ ⟨Nat.zero_le _, Nat.zero_le _⟩ (Nat.le_of_ble_eq_true rfl) dX9_spells_43 ?_
        refine V_icmp_eq (pc := 46) C 51 hr7 (schar_rng _ _) dX9_spells_46 (by decide) (fun c46_10 => ?_) (fun c46_10 => ?_)
        · have h := ite_t h c46_10
          refine V_iinc (pc := 51) C (L' := [(0, vr Γ 45), (1, vs Γ q1), (2, vi (x2 + (1 : Int)))]) 2 rfl rfl (by decide) dX9_spells_51 ?_
          refine V_goto (pc := 54) C 20 dX9_spells_54 (by decide) ?_
          obtain ⟨g11, h⟩ := grd_of h
          refine V_sub (L' := [(0, vr Γ 45), (1, vs Γ q1), (2, vi (x2 + (1 : Int)))]) [0, 1, 2] rfl (by decide) ?_
          exact ih g11 h
        · have h := ite_f h c46_10
          refine V_iconst (pc := 49) C dX9_spells_49 ?_
          exact V_zret (pc := 50) C hr hlk (by decide) h dX9_spells_50
  skip
  refine V_aload_n (pc := 0) C 0 rfl dX9_spells_0 ?_
  refine V_getI (pc := 1) C e45 rfl inX9 1 (by decide) rfl lf_X9_22 rfl dX9_spells_1 ?_
  refine V_aload_n (pc := 4) C 0 rfl dX9_spells_4 ?_
  refine V_getI (pc := 5) C e45 rfl inX9 2 (by decide) rfl lf_X9_25 rfl dX9_spells_5 ?_
  refine V_isub (pc := 8) C dX9_spells_8 ?_
  refine V_aload_n (pc := 9) C 1 rfl dX9_spells_9 ?_
  refine V_slen (pc := 10) C hq1 lk_X9_84 ⟨Nat.le_of_ble_eq_true rfl, Nat.le_of_ble_eq_true rfl⟩ ⟨Nat.zero_le _, Nat.zero_le _⟩ (Nat.le_of_ble_eq_true rfl) dX9_spells_10 ?_
  obtain ⟨g1, h⟩ := grd_of h
  refine V_icmp_eq (pc := 13) C 18 g1 (slen_rng _) dX9_spells_13 (by decide) (fun c13_2 => ?_) (fun c13_2 => ?_)
  · have h := ite_t h c13_2
    refine V_iconst (pc := 18) C dX9_spells_18 ?_
    refine V_istore_n (pc := 19) C (L' := [(0, vr Γ 45), (1, vs Γ q1), (2, vi (0 : Int))]) rfl (by decide) dX9_spells_19 ?_
    refine V_sub (L' := [(0, vr Γ 45), (1, vs Γ q1), (2, vi (0 : Int))]) [0, 1, 2] rfl (by decide) ?_
    exact LP20 fu  (by decide) h
  · have h := ite_f h c13_2
    refine V_iconst (pc := 16) C dX9_spells_16 ?_
    exact V_zret (pc := 17) C hr hlk (by decide) h dX9_spells_17
set_option maxRecDepth 100000 in
set_option maxHeartbeats 4000000 in
theorem c_X9_knownWord (l : Launch) (Γ : GG) (sk : List SD) (hsk : Ext sk) (fu : Nat) {M M' : Mem}  {r : Int}  (h : f_X9_knownWord fu M  = some (M', r)) : MetI l yX9_knownWord cX9_knownWord 1 .int ({ frames := 13, cells := 0, slots := 0, locals := 422 } : Room) Γ sk [vr Γ 45] M M' r := by
  unfold f_X9_knownWord at h
  refine MetI_of RX9 rfl (by decide) rfl (Nat.le_of_ble_eq_true rfl) rfl ?_
  intro p e s m args below meth c C hr hlk hM
  have e45 := hsk 45 _ (by decide) rfl
  refine V_aload_n (pc := 0) C 0 rfl dX9_knownWord_0 ?_
  refine V_ldcS (pc := 1) C (q := 0) (C.2.2.2.2.2.2.2.2.2.2.2.1 _ (List.mem_of_getElem? (i := 0) (by decide +kernel) : (RX9, 66, "list", 0) ∈ strL)) dX9_knownWord_1 ?_
  obtain ⟨M1, r2, hc3, h⟩ := cal_of h
  refine V_callVI (pc := 3) C (c_X9_spells l Γ sk hsk fu (by decide) hc3) cf_X9_spells lk_X9_68 ⟨rfl, rfl⟩ ⟨Nat.le_of_ble_eq_true rfl, Nat.le_of_ble_eq_true rfl⟩ e45 rfl rfl rfl (Nat.le_of_ble_eq_true rfl) ⟨Nat.zero_le _, Nat.zero_le _⟩ rfl dX9_knownWord_3 (fun hr2 => ?_)
  refine V_if_eq (pc := 6) C 11 hr2 dX9_knownWord_6 (by decide) (fun c6_4 => ?_) (fun c6_4 => ?_)
  · have h := ite_t h c6_4
    refine V_aload_n (pc := 11) C 0 rfl dX9_knownWord_11 ?_
    refine V_ldcS (pc := 12) C (q := 1) (C.2.2.2.2.2.2.2.2.2.2.2.1 _ (List.mem_of_getElem? (i := 1) (by decide +kernel) : (RX9, 72, "minus", 1) ∈ strL)) dX9_knownWord_12 ?_
    obtain ⟨M5, r6, hc7, h⟩ := cal_of h
    refine V_callVI (pc := 14) C (c_X9_spells l Γ sk hsk fu (by decide) hc7) cf_X9_spells lk_X9_68 ⟨rfl, rfl⟩ ⟨Nat.le_of_ble_eq_true rfl, Nat.le_of_ble_eq_true rfl⟩ e45 rfl rfl rfl (Nat.le_of_ble_eq_true rfl) ⟨Nat.zero_le _, Nat.zero_le _⟩ rfl dX9_knownWord_14 (fun hr6 => ?_)
    refine V_if_eq (pc := 17) C 22 hr6 dX9_knownWord_17 (by decide) (fun c17_8 => ?_) (fun c17_8 => ?_)
    · have h := ite_t h c17_8
      refine V_aload_n (pc := 22) C 0 rfl dX9_knownWord_22 ?_
      refine V_ldcS (pc := 23) C (q := 2) (C.2.2.2.2.2.2.2.2.2.2.2.1 _ (List.mem_of_getElem? (i := 2) (by decide +kernel) : (RX9, 74, "set", 2) ∈ strL)) dX9_knownWord_23 ?_
      obtain ⟨M9, r10, hc11, h⟩ := cal_of h
      refine V_callVI (pc := 25) C (c_X9_spells l Γ sk hsk fu (by decide) hc11) cf_X9_spells lk_X9_68 ⟨rfl, rfl⟩ ⟨Nat.le_of_ble_eq_true rfl, Nat.le_of_ble_eq_true rfl⟩ e45 rfl rfl rfl (Nat.le_of_ble_eq_true rfl) ⟨Nat.zero_le _, Nat.zero_le _⟩ rfl dX9_knownWord_25 (fun hr10 => ?_)
      refine V_if_eq (pc := 28) C 33 hr10 dX9_knownWord_28 (by decide) (fun c28_12 => ?_) (fun c28_12 => ?_)
      · have h := ite_t h c28_12
        refine V_aload_n (pc := 33) C 0 rfl dX9_knownWord_33 ?_
        refine V_ldcS (pc := 34) C (q := 3) (C.2.2.2.2.2.2.2.2.2.2.2.1 _ (List.mem_of_getElem? (i := 3) (by decide +kernel) : (RX9, 76, "append", 3) ∈ strL)) dX9_knownWord_34 ?_
        obtain ⟨M13, r14, hc15, h⟩ := cal_of h
        refine V_callVI (pc := 36) C (c_X9_spells l Γ sk hsk fu (by decide) hc15) cf_X9_spells lk_X9_68 ⟨rfl, rfl⟩ ⟨Nat.le_of_ble_eq_true rfl, Nat.le_of_ble_eq_true rfl⟩ e45 rfl rfl rfl (Nat.le_of_ble_eq_true rfl) ⟨Nat.zero_le _, Nat.zero_le _⟩ rfl dX9_knownWord_36 (fun hr14 => ?_)
        refine V_if_eq (pc := 39) C 44 hr14 dX9_knownWord_39 (by decide) (fun c39_16 => ?_) (fun c39_16 => ?_)
        · have h := ite_t h c39_16
          refine V_aload_n (pc := 44) C 0 rfl dX9_knownWord_44 ?_
          refine V_ldcS (pc := 45) C (q := 4) (C.2.2.2.2.2.2.2.2.2.2.2.1 _ (List.mem_of_getElem? (i := 4) (by decide +kernel) : (RX9, 78, "truncate", 4) ∈ strL)) dX9_knownWord_45 ?_
          obtain ⟨M17, r18, hc19, h⟩ := cal_of h
          refine V_callVI (pc := 47) C (c_X9_spells l Γ sk hsk fu (by decide) hc19) cf_X9_spells lk_X9_68 ⟨rfl, rfl⟩ ⟨Nat.le_of_ble_eq_true rfl, Nat.le_of_ble_eq_true rfl⟩ e45 rfl rfl rfl (Nat.le_of_ble_eq_true rfl) ⟨Nat.zero_le _, Nat.zero_le _⟩ rfl dX9_knownWord_47 (fun hr18 => ?_)
          refine V_if_eq (pc := 50) C 55 hr18 dX9_knownWord_50 (by decide) (fun c50_20 => ?_) (fun c50_20 => ?_)
          · have h := ite_t h c50_20
            refine V_aload_n (pc := 55) C 0 rfl dX9_knownWord_55 ?_
            refine V_ldcS (pc := 56) C (q := 5) (C.2.2.2.2.2.2.2.2.2.2.2.1 _ (List.mem_of_getElem? (i := 5) (by decide +kernel) : (RX9, 80, "release", 5) ∈ strL)) dX9_knownWord_56 ?_
            obtain ⟨M21, r22, hc23, h⟩ := cal_of h
            refine V_callVI (pc := 58) C (c_X9_spells l Γ sk hsk fu (by decide) hc23) cf_X9_spells lk_X9_68 ⟨rfl, rfl⟩ ⟨Nat.le_of_ble_eq_true rfl, Nat.le_of_ble_eq_true rfl⟩ e45 rfl rfl rfl (Nat.le_of_ble_eq_true rfl) ⟨Nat.zero_le _, Nat.zero_le _⟩ rfl dX9_knownWord_58 (fun hr22 => ?_)
            refine V_if_eq (pc := 61) C 67 hr22 dX9_knownWord_61 (by decide) (fun c61_24 => ?_) (fun c61_24 => ?_)
            · have h := ite_t h c61_24
              refine V_aload_n (pc := 67) C 0 rfl dX9_knownWord_67 ?_
              refine V_ldcS (pc := 68) C (q := 6) (C.2.2.2.2.2.2.2.2.2.2.2.1 _ (List.mem_of_getElem? (i := 6) (by decide +kernel) : (RX9, 82, "collect", 6) ∈ strL)) dX9_knownWord_68 ?_
              obtain ⟨M25, r26, hc27, h⟩ := cal_of h
              refine V_callVI (pc := 70) C (c_X9_spells l Γ sk hsk fu (by decide) hc27) cf_X9_spells lk_X9_68 ⟨rfl, rfl⟩ ⟨Nat.le_of_ble_eq_true rfl, Nat.le_of_ble_eq_true rfl⟩ e45 rfl rfl rfl (Nat.le_of_ble_eq_true rfl) ⟨Nat.zero_le _, Nat.zero_le _⟩ rfl dX9_knownWord_70 (fun hr26 => ?_)
              refine V_if_eq (pc := 73) C 81 hr26 dX9_knownWord_73 (by decide) (fun c73_28 => ?_) (fun c73_28 => ?_)
              · have h := ite_t h c73_28
                refine V_iconst (pc := 81) C dX9_knownWord_81 ?_
                exact V_iret (pc := 82) C hr hlk (by decide) h dX9_knownWord_82
              · have h := ite_f h c73_28
                refine V_bipush (pc := 76) C dX9_knownWord_76 rfl ?_
                refine V_goto (pc := 78) C 82 dX9_knownWord_78 (by decide) ?_
                exact V_iret (pc := 82) C hr hlk (by decide) h dX9_knownWord_82
            · have h := ite_f h c61_24
              refine V_bipush (pc := 64) C dX9_knownWord_64 rfl ?_
              exact V_iret (pc := 66) C hr hlk (by decide) h dX9_knownWord_66
          · have h := ite_f h c50_20
            refine V_iconst (pc := 53) C dX9_knownWord_53 ?_
            exact V_iret (pc := 54) C hr hlk (by decide) h dX9_knownWord_54
        · have h := ite_f h c39_16
          refine V_iconst (pc := 42) C dX9_knownWord_42 ?_
          exact V_iret (pc := 43) C hr hlk (by decide) h dX9_knownWord_43
      · have h := ite_f h c28_12
        refine V_iconst (pc := 31) C dX9_knownWord_31 ?_
        exact V_iret (pc := 32) C hr hlk (by decide) h dX9_knownWord_32
    · have h := ite_f h c17_8
      refine V_iconst (pc := 20) C dX9_knownWord_20 ?_
      exact V_iret (pc := 21) C hr hlk (by decide) h dX9_knownWord_21
  · have h := ite_f h c6_4
    refine V_iconst (pc := 9) C dX9_knownWord_9 ?_
    exact V_iret (pc := 10) C hr hlk (by decide) h dX9_knownWord_10
set_option maxRecDepth 100000 in
set_option maxHeartbeats 4000000 in
theorem c_X9_readWord (l : Launch) (Γ : GG) (sk : List SD) (hsk : Ext sk) (fu : Nat) {M M' : Mem}  {r : Int}  (h : f_X9_readWord fu M  = some (M', r)) : MetV l yX9_readWord cX9_readWord 1 ({ frames := 14, cells := 0, slots := 0, locals := 442 } : Room) Γ sk [vr Γ 45] M M' := by
  unfold f_X9_readWord at h
  refine MetV_of RX9 rfl (by decide) rfl (Nat.le_of_ble_eq_true rfl) rfl ?_
  intro p e s m args below meth c C hr hlk hM
  have e43 := hsk 43 _ (by decide) rfl
  have e45 := hsk 45 _ (by decide) rfl
  have JP44 : ∀ {M : Mem}, f_X9_readWord_J44 fu M = some (M', r) → VV p l e ({ frames := 14, cells := 0, slots := 0, locals := 442 } : Room) s m args below meth c (MQ below (PostV Γ sk M' s.heap.size) args s 0 0 (Fr Γ sk s.heap.size)) 1 Γ sk M 0 0 44 [(0, vr Γ 45)] [] := by
    intro M h
    unfold f_X9_readWord_J44 at h
    refine V_aload_n (pc := 44) C 0 rfl dX9_readWord_44 ?_
    refine V_iconst (pc := 45) C dX9_readWord_45 ?_
    refine V_putI (pc := 46) C (by decide) e45 rfl inX9 tyX9 tyX9_ok nmX9 3 (by decide) rfl rfl lf_X9_56 rfl (by decide) rfl dX9_readWord_46 ?_
    refine V_aload_n (pc := 49) C 0 rfl dX9_readWord_49 ?_
    refine V_aload_n (pc := 50) C 0 rfl dX9_readWord_50 ?_
    obtain ⟨M3, r4, hc5, h⟩ := cal_of h
    refine V_callVI (pc := 51) C (c_X9_knownWord l Γ sk hsk fu hc5) cf_X9_knownWord lk_X9_59 ⟨rfl, rfl⟩ ⟨Nat.le_of_ble_eq_true rfl, Nat.le_of_ble_eq_true rfl⟩ e45 rfl rfl rfl (Nat.le_of_ble_eq_true rfl) ⟨Nat.zero_le _, Nat.zero_le _⟩ rfl dX9_readWord_51 (fun hr4 => ?_)
    refine V_putI (pc := 54) C (by decide) e45 rfl inX9 tyX9 tyX9_ok nmX9 4 (by decide) rfl rfl lf_X9_41 rfl hr4 rfl dX9_readWord_54 ?_
    exact V_vret (pc := 57) C hr hlk h dX9_readWord_57
  have LP0 : ∀ (n : Nat) {M : Mem}, f_X9_readWord_L0 fu n M = some (M', r) → VV p l e ({ frames := 14, cells := 0, slots := 0, locals := 442 } : Room) s m args below meth c (MQ below (PostV Γ sk M' s.heap.size) args s 0 0 (Fr Γ sk s.heap.size)) 1 Γ sk M 0 0 0 [(0, vr Γ 45)] [] := by
    intro n
    induction n with
    | zero =>
      intro M h
      cases h
    | succ n ih =>
      intro M h
      rw [f_X9_readWord_L0] at h
      refine V_aload_n (pc := 0) C 0 rfl dX9_readWord_0 ?_
      refine V_rng fun hM1 => ?_
      refine V_getI (pc := 1) C e45 rfl inX9 1 (by decide) rfl lf_X9_22 rfl dX9_readWord_1 ?_
      refine V_aload_n (pc := 4) C 0 rfl dX9_readWord_4 ?_
      refine V_getR (pc := 5) C e45 rfl inX9 0 (by decide) rfl lf_X9_18 rfl dX9_readWord_5 ?_
      refine V_getI (pc := 8) C e43 rfl inX2 0 (by decide) rfl lf_X9_28 rfl dX9_readWord_8 ?_
      refine V_icmp_ge (pc := 11) C 44 (hM1 _ _) (hM1 _ _) dX9_readWord_11 (by decide) (fun c11_2 => ?_) (fun c11_2 => ?_)
      · have h := ite_t h c11_2
        refine V_sub (L' := [(0, vr Γ 45)]) [0] rfl (by decide) ?_
        exact JP44 h
      · have h := ite_f h c11_2
        refine V_aload_n (pc := 14) C 0 rfl dX9_readWord_14 ?_
        refine V_getR (pc := 15) C e45 rfl inX9 0 (by decide) rfl lf_X9_18 rfl dX9_readWord_15 ?_
        refine V_aload_n (pc := 18) C 0 rfl dX9_readWord_18 ?_
        refine V_getI (pc := 19) C e45 rfl inX9 1 (by decide) rfl lf_X9_22 rfl dX9_readWord_19 ?_
        obtain ⟨M6, r7, hc8, h⟩ := cal_of h
        refine V_callVI (pc := 22) C (c_X2_byteAt l Γ sk hsk fu (hM1 _ _) hc8) cf_X2_byteAt lk_X9_33 ⟨rfl, rfl⟩ ⟨Nat.le_of_ble_eq_true rfl, Nat.le_of_ble_eq_true rfl⟩ e43 rfl rfl rfl (Nat.le_of_ble_eq_true rfl) ⟨Nat.zero_le _, Nat.zero_le _⟩ rfl dX9_readWord_22 (fun hr7 => ?_)
        obtain ⟨M9, r10, hc11, h⟩ := cal_of h
        refine V_callSI (pc := 25) C (c_X9_isLetter l Γ sk hsk fu hr7 hc11) cf_X9_isLetter lk_X9_44 ⟨rfl, rfl⟩ ⟨Nat.le_of_ble_eq_true rfl, Nat.le_of_ble_eq_true rfl⟩ rfl (Nat.le_of_ble_eq_true rfl) ⟨Nat.zero_le _, Nat.zero_le _⟩ rfl dX9_readWord_25 (fun hr10 => ?_)
        refine V_if_eq (pc := 28) C 44 hr10 dX9_readWord_28 (by decide) (fun c28_12 => ?_) (fun c28_12 => ?_)
        · have h := ite_t h c28_12
          refine V_sub (L' := [(0, vr Γ 45)]) [0] rfl (by decide) ?_
          exact JP44 h
        · have h := ite_f h c28_12
          refine V_aload_n (pc := 31) C 0 rfl dX9_readWord_31 ?_
          refine V_dup (pc := 32) C rfl dX9_readWord_32 ?_
          refine V_rng fun hM13 => ?_
          refine V_getI (pc := 33) C e45 rfl inX9 1 (by decide) rfl lf_X9_22 rfl dX9_readWord_33 ?_
          refine V_iconst (pc := 36) C dX9_readWord_36 ?_
          refine V_iadd (pc := 37) C dX9_readWord_37 ?_
          obtain ⟨g14, h⟩ := grd_of h
          refine V_putI (pc := 38) C (by decide) e45 rfl inX9 tyX9 tyX9_ok nmX9 1 (by decide) rfl rfl lf_X9_22 rfl g14 rfl dX9_readWord_38 ?_
          refine V_goto (pc := 41) C 0 dX9_readWord_41 (by decide) ?_
          refine V_sub (L' := [(0, vr Γ 45)]) [0] rfl (by decide) ?_
          exact ih h
  skip
  refine V_sub (L' := [(0, vr Γ 45)]) [0] rfl (by decide) ?_
  exact LP0 fu  h
set_option maxRecDepth 100000 in
set_option maxHeartbeats 4000000 in
theorem c_X9_isBlank (l : Launch) (Γ : GG) (sk : List SD) (hsk : Ext sk) (fu : Nat) {M M' : Mem} {a0 : Int} {r : Int} (ha0 : rng a0) (h : f_X9_isBlank fu M a0 = some (M', r)) : MetI l yX9_isBlank cX9_isBlank 1 .boolean ({ frames := 0, cells := 0, slots := 0, locals := 0 } : Room) Γ sk [vi a0] M M' r := by
  unfold f_X9_isBlank at h
  refine MetI_of RX9 rfl (by decide) rfl (Nat.le_of_ble_eq_true rfl) rfl ?_
  intro p e s m args below meth c C hr hlk hM
  refine V_iload_n (pc := 0) C 0 rfl dX9_isBlank_0 ?_
  refine V_bipush (pc := 1) C dX9_isBlank_1 rfl ?_
  refine V_icmp_eq (pc := 3) C 12 ha0 (by decide) dX9_isBlank_3 (by decide) (fun c3_1 => ?_) (fun c3_1 => ?_)
  · have h := ite_t h c3_1
    refine V_iconst (pc := 12) C dX9_isBlank_12 ?_
    refine V_goto (pc := 13) C 17 dX9_isBlank_13 (by decide) ?_
    exact V_zret (pc := 17) C hr hlk (by decide) h dX9_isBlank_17
  · have h := ite_f h c3_1
    refine V_iload_n (pc := 6) C 0 rfl dX9_isBlank_6 ?_
    refine V_bipush (pc := 7) C dX9_isBlank_7 rfl ?_
    refine V_icmp_ne (pc := 9) C 16 ha0 (by decide) dX9_isBlank_9 (by decide) (fun c9_2 => ?_) (fun c9_2 => ?_)
    · have h := ite_f h c9_2
      refine V_iconst (pc := 16) C dX9_isBlank_16 ?_
      exact V_zret (pc := 17) C hr hlk (by decide) h dX9_isBlank_17
    · have h := ite_t h c9_2
      refine V_iconst (pc := 12) C dX9_isBlank_12 ?_
      refine V_goto (pc := 13) C 17 dX9_isBlank_13 (by decide) ?_
      exact V_zret (pc := 17) C hr hlk (by decide) h dX9_isBlank_17
set_option maxRecDepth 100000 in
set_option maxHeartbeats 4000000 in
theorem c_X9_advance (l : Launch) (Γ : GG) (sk : List SD) (hsk : Ext sk) (fu : Nat) {M M' : Mem}  {r : Int}  (h : f_X9_advance fu M  = some (M', r)) : MetI l yX9_advance cX9_advance 2 .boolean ({ frames := 15, cells := 0, slots := 0, locals := 462 } : Room) Γ sk [vr Γ 45] M M' r := by
  unfold f_X9_advance at h
  refine MetI_of RX9 rfl (by decide) rfl (Nat.le_of_ble_eq_true rfl) rfl ?_
  intro p e s m args below meth c C hr hlk hM
  have e43 := hsk 43 _ (by decide) rfl
  have e45 := hsk 45 _ (by decide) rfl
  have JP122 : ∀ {x1 : Int} {M : Mem}, rng x1 → f_X9_advance_J122 fu x1 M = some (M', r) → VV p l e ({ frames := 15, cells := 0, slots := 0, locals := 462 } : Room) s m args below meth c (MQ below (PostI Γ sk M' r s.heap.size) args s 0 0 (Fr Γ sk s.heap.size)) 2 Γ sk M 0 0 122 [(1, vi x1)] [] := by
    intro x1 M hx1 h
    unfold f_X9_advance_J122 at h
    refine V_iload_n (pc := 122) C 0 rfl dX9_advance_122 ?_
    refine V_iconst (pc := 123) C dX9_advance_123 ?_
    refine V_icmp_eq (pc := 124) C 131 hx1 (by decide) dX9_advance_124 (by decide) (fun c124_19 => ?_) (fun c124_19 => ?_)
    · have h := ite_t h c124_19
      refine V_iconst (pc := 131) C dX9_advance_131 ?_
      exact V_zret (pc := 132) C hr hlk (by decide) h dX9_advance_132
    · have h := ite_f h c124_19
      refine V_iconst (pc := 127) C dX9_advance_127 ?_
      refine V_goto (pc := 128) C 132 dX9_advance_128 (by decide) ?_
      exact V_zret (pc := 132) C hr hlk (by decide) h dX9_advance_132
  have JP109 : ∀ {x1 : Int} {y1 : Int} {M : Mem}, rng x1 → rng y1 → f_X9_advance_J109 fu x1 y1 M = some (M', r) → VV p l e ({ frames := 15, cells := 0, slots := 0, locals := 462 } : Room) s m args below meth c (MQ below (PostI Γ sk M' r s.heap.size) args s 0 0 (Fr Γ sk s.heap.size)) 2 Γ sk M 0 0 109 [(0, vr Γ 45), (1, vi x1)] [vi y1, vr Γ 45] := by
    intro x1 y1 M hx1 hy1 h
    unfold f_X9_advance_J109 at h
    refine V_putI (pc := 109) C (by decide) e45 rfl inX9 tyX9 tyX9_ok nmX9 3 (by decide) rfl rfl lf_X9_56 rfl hy1 rfl dX9_advance_109 ?_
    refine V_aload_n (pc := 112) C 0 rfl dX9_advance_112 ?_
    refine V_dup (pc := 113) C rfl dX9_advance_113 ?_
    refine V_rng fun hM17 => ?_
    refine V_getI (pc := 114) C e45 rfl inX9 1 (by decide) rfl lf_X9_22 rfl dX9_advance_114 ?_
    refine V_iconst (pc := 117) C dX9_advance_117 ?_
    refine V_iadd (pc := 118) C dX9_advance_118 ?_
    obtain ⟨g18, h⟩ := grd_of h
    refine V_putI (pc := 119) C (by decide) e45 rfl inX9 tyX9 tyX9_ok nmX9 1 (by decide) rfl rfl lf_X9_22 rfl g18 rfl dX9_advance_119 ?_
    refine V_sub (L' := [(1, vi x1)]) [1] rfl (by decide) ?_
    exact JP122 hx1 h
  have JP44 : ∀ {M : Mem}, f_X9_advance_J44 fu M = some (M', r) → VV p l e ({ frames := 15, cells := 0, slots := 0, locals := 462 } : Room) s m args below meth c (MQ below (PostI Γ sk M' r s.heap.size) args s 0 0 (Fr Γ sk s.heap.size)) 2 Γ sk M 0 0 44 [(0, vr Γ 45)] [] := by
    intro M h
    unfold f_X9_advance_J44 at h
    refine V_aload_n (pc := 44) C 0 rfl dX9_advance_44 ?_
    refine V_aload_n (pc := 45) C 0 rfl dX9_advance_45 ?_
    refine V_rng fun hM3 => ?_
    refine V_getI (pc := 46) C e45 rfl inX9 1 (by decide) rfl lf_X9_22 rfl dX9_advance_46 ?_
    refine V_putI (pc := 49) C (by decide) e45 rfl inX9 tyX9 tyX9_ok nmX9 2 (by decide) rfl rfl lf_X9_25 rfl (hM3 _ _) rfl dX9_advance_49 ?_
    refine V_aload_n (pc := 52) C 0 rfl dX9_advance_52 ?_
    refine V_iconst (pc := 53) C dX9_advance_53 ?_
    refine V_putI (pc := 54) C (by decide) e45 rfl inX9 tyX9 tyX9_ok nmX9 4 (by decide) rfl rfl lf_X9_41 rfl (by decide) rfl dX9_advance_54 ?_
    refine V_aload_n (pc := 57) C 0 rfl dX9_advance_57 ?_
    refine V_getR (pc := 58) C e45 rfl inX9 0 (by decide) rfl lf_X9_18 rfl dX9_advance_58 ?_
    refine V_aload_n (pc := 61) C 0 rfl dX9_advance_61 ?_
    refine V_rng fun hM4 => ?_
    refine V_getI (pc := 62) C e45 rfl inX9 1 (by decide) rfl lf_X9_22 rfl dX9_advance_62 ?_
    obtain ⟨M5, r6, hc7, h⟩ := cal_of h
    refine V_callVI (pc := 65) C (c_X2_byteAt l Γ sk hsk fu (hM4 _ _) hc7) cf_X2_byteAt lk_X9_33 ⟨rfl, rfl⟩ ⟨Nat.le_of_ble_eq_true rfl, Nat.le_of_ble_eq_true rfl⟩ e43 rfl rfl rfl (Nat.le_of_ble_eq_true rfl) ⟨Nat.zero_le _, Nat.zero_le _⟩ rfl dX9_advance_65 (fun hr6 => ?_)
    refine V_istore_n (pc := 68) C (L' := [(0, vr Γ 45), (1, vi r6)]) rfl (by decide) dX9_advance_68 ?_
    refine V_iload_n (pc := 69) C 1 rfl dX9_advance_69 ?_
    obtain ⟨M8, r9, hc10, h⟩ := cal_of h
    refine V_callSI (pc := 70) C (c_X9_isLetter l Γ sk hsk fu hr6 hc10) cf_X9_isLetter lk_X9_44 ⟨rfl, rfl⟩ ⟨Nat.le_of_ble_eq_true rfl, Nat.le_of_ble_eq_true rfl⟩ rfl (Nat.le_of_ble_eq_true rfl) ⟨Nat.zero_le _, Nat.zero_le _⟩ rfl dX9_advance_70 (fun hr9 => ?_)
    refine V_if_eq (pc := 73) C 83 hr9 dX9_advance_73 (by decide) (fun c73_11 => ?_) (fun c73_11 => ?_)
    · have h := ite_t h c73_11
      refine V_iload_n (pc := 83) C 1 rfl dX9_advance_83 ?_
      obtain ⟨M12, r13, hc14, h⟩ := cal_of h
      refine V_callSI (pc := 84) C (c_X9_isDigit l Γ sk hsk fu hr6 hc14) cf_X9_isDigit lk_X9_50 ⟨rfl, rfl⟩ ⟨Nat.le_of_ble_eq_true rfl, Nat.le_of_ble_eq_true rfl⟩ rfl (Nat.le_of_ble_eq_true rfl) ⟨Nat.zero_le _, Nat.zero_le _⟩ rfl dX9_advance_84 (fun hr13 => ?_)
      refine V_if_eq (pc := 87) C 97 hr13 dX9_advance_87 (by decide) (fun c87_15 => ?_) (fun c87_15 => ?_)
      · have h := ite_t h c87_15
        refine V_aload_n (pc := 97) C 0 rfl dX9_advance_97 ?_
        refine V_iload_n (pc := 98) C 1 rfl dX9_advance_98 ?_
        refine V_bipush (pc := 99) C dX9_advance_99 rfl ?_
        refine V_icmp_ne (pc := 101) C 108 hr6 (by decide) dX9_advance_101 (by decide) (fun c101_16 => ?_) (fun c101_16 => ?_)
        · have h := ite_f h c101_16
          refine V_iconst (pc := 108) C dX9_advance_108 ?_
          refine V_sub (L' := [(0, vr Γ 45), (1, vi r6)]) [0, 1] rfl (by decide) ?_
          exact JP109 hr6 (by decide) h
        · have h := ite_t h c101_16
          refine V_iconst (pc := 104) C dX9_advance_104 ?_
          refine V_goto (pc := 105) C 109 dX9_advance_105 (by decide) ?_
          refine V_sub (L' := [(0, vr Γ 45), (1, vi r6)]) [0, 1] rfl (by decide) ?_
          exact JP109 hr6 (by decide) h
      · have h := ite_f h c87_15
        refine V_aload_n (pc := 90) C 0 rfl dX9_advance_90 ?_
        obtain ⟨M20, r21, hc22, h⟩ := cal_of h
        refine V_callVV (pc := 91) C (c_X9_readNumber l Γ sk hsk fu hc22) cf_X9_readNumber lk_X9_53 ⟨rfl, rfl⟩ ⟨Nat.le_of_ble_eq_true rfl, Nat.le_of_ble_eq_true rfl⟩ e45 rfl rfl rfl (Nat.le_of_ble_eq_true rfl) ⟨Nat.zero_le _, Nat.zero_le _⟩ rfl dX9_advance_91 ?_
        refine V_goto (pc := 94) C 122 dX9_advance_94 (by decide) ?_
        refine V_sub (L' := [(1, vi r6)]) [1] rfl (by decide) ?_
        exact JP122 hr6 h
    · have h := ite_f h c73_11
      refine V_aload_n (pc := 76) C 0 rfl dX9_advance_76 ?_
      obtain ⟨M23, r24, hc25, h⟩ := cal_of h
      refine V_callVV (pc := 77) C (c_X9_readWord l Γ sk hsk fu hc25) cf_X9_readWord lk_X9_47 ⟨rfl, rfl⟩ ⟨Nat.le_of_ble_eq_true rfl, Nat.le_of_ble_eq_true rfl⟩ e45 rfl rfl rfl (Nat.le_of_ble_eq_true rfl) ⟨Nat.zero_le _, Nat.zero_le _⟩ rfl dX9_advance_77 ?_
      refine V_goto (pc := 80) C 122 dX9_advance_80 (by decide) ?_
      refine V_sub (L' := [(1, vi r6)]) [1] rfl (by decide) ?_
      exact JP122 hr6 h
  have LP0 : ∀ (n : Nat) {M : Mem}, f_X9_advance_L0 fu n M = some (M', r) → VV p l e ({ frames := 15, cells := 0, slots := 0, locals := 462 } : Room) s m args below meth c (MQ below (PostI Γ sk M' r s.heap.size) args s 0 0 (Fr Γ sk s.heap.size)) 2 Γ sk M 0 0 0 [(0, vr Γ 45)] [] := by
    intro n
    induction n with
    | zero =>
      intro M h
      cases h
    | succ n ih =>
      intro M h
      rw [f_X9_advance_L0] at h
      refine V_aload_n (pc := 0) C 0 rfl dX9_advance_0 ?_
      refine V_rng fun hM1 => ?_
      refine V_getI (pc := 1) C e45 rfl inX9 1 (by decide) rfl lf_X9_22 rfl dX9_advance_1 ?_
      refine V_aload_n (pc := 4) C 0 rfl dX9_advance_4 ?_
      refine V_getR (pc := 5) C e45 rfl inX9 0 (by decide) rfl lf_X9_18 rfl dX9_advance_5 ?_
      refine V_getI (pc := 8) C e43 rfl inX2 0 (by decide) rfl lf_X9_28 rfl dX9_advance_8 ?_
      refine V_icmp_ge (pc := 11) C 44 (hM1 _ _) (hM1 _ _) dX9_advance_11 (by decide) (fun c11_2 => ?_) (fun c11_2 => ?_)
      · have h := ite_t h c11_2
        refine V_sub (L' := [(0, vr Γ 45)]) [0] rfl (by decide) ?_
        exact JP44 h
      · have h := ite_f h c11_2
        refine V_aload_n (pc := 14) C 0 rfl dX9_advance_14 ?_
        refine V_getR (pc := 15) C e45 rfl inX9 0 (by decide) rfl lf_X9_18 rfl dX9_advance_15 ?_
        refine V_aload_n (pc := 18) C 0 rfl dX9_advance_18 ?_
        refine V_getI (pc := 19) C e45 rfl inX9 1 (by decide) rfl lf_X9_22 rfl dX9_advance_19 ?_
        obtain ⟨M26, r27, hc28, h⟩ := cal_of h
        refine V_callVI (pc := 22) C (c_X2_byteAt l Γ sk hsk fu (hM1 _ _) hc28) cf_X2_byteAt lk_X9_33 ⟨rfl, rfl⟩ ⟨Nat.le_of_ble_eq_true rfl, Nat.le_of_ble_eq_true rfl⟩ e43 rfl rfl rfl (Nat.le_of_ble_eq_true rfl) ⟨Nat.zero_le _, Nat.zero_le _⟩ rfl dX9_advance_22 (fun hr27 => ?_)
        obtain ⟨M29, r30, hc31, h⟩ := cal_of h
        refine V_callSI (pc := 25) C (c_X9_isBlank l Γ sk hsk fu hr27 hc31) cf_X9_isBlank lk_X9_37 ⟨rfl, rfl⟩ ⟨Nat.le_of_ble_eq_true rfl, Nat.le_of_ble_eq_true rfl⟩ rfl (Nat.le_of_ble_eq_true rfl) ⟨Nat.zero_le _, Nat.zero_le _⟩ rfl dX9_advance_25 (fun hr30 => ?_)
        refine V_if_eq (pc := 28) C 44 hr30 dX9_advance_28 (by decide) (fun c28_32 => ?_) (fun c28_32 => ?_)
        · have h := ite_t h c28_32
          refine V_sub (L' := [(0, vr Γ 45)]) [0] rfl (by decide) ?_
          exact JP44 h
        · have h := ite_f h c28_32
          refine V_aload_n (pc := 31) C 0 rfl dX9_advance_31 ?_
          refine V_dup (pc := 32) C rfl dX9_advance_32 ?_
          refine V_rng fun hM33 => ?_
          refine V_getI (pc := 33) C e45 rfl inX9 1 (by decide) rfl lf_X9_22 rfl dX9_advance_33 ?_
          refine V_iconst (pc := 36) C dX9_advance_36 ?_
          refine V_iadd (pc := 37) C dX9_advance_37 ?_
          obtain ⟨g34, h⟩ := grd_of h
          refine V_putI (pc := 38) C (by decide) e45 rfl inX9 tyX9 tyX9_ok nmX9 1 (by decide) rfl rfl lf_X9_22 rfl g34 rfl dX9_advance_38 ?_
          refine V_goto (pc := 41) C 0 dX9_advance_41 (by decide) ?_
          refine V_sub (L' := [(0, vr Γ 45)]) [0] rfl (by decide) ?_
          exact ih h
  skip
  refine V_sub (L' := [(0, vr Γ 45)]) [0] rfl (by decide) ?_
  exact LP0 fu  h
set_option maxRecDepth 100000 in
set_option maxHeartbeats 4000000 in
theorem c_X7_open (l : Launch) (Γ : GG) (sk : List SD) (hsk : Ext sk) (fu : Nat) {M M' : Mem}  {r : Int}  (h : f_X7_open fu M  = some (M', r)) : MetI l yX7_open cX7_open 1 .int ({ frames := 0, cells := 0, slots := 0, locals := 0 } : Room) Γ sk [vr Γ 46] M M' r := by
  unfold f_X7_open at h
  refine MetI_of RX7 rfl (by decide) rfl (Nat.le_of_ble_eq_true rfl) rfl ?_
  intro p e s m args below meth c C hr hlk hM
  have e45 := hsk 45 _ (by decide) rfl
  have e46 := hsk 46 _ (by decide) rfl
  refine V_aload_n (pc := 0) C 0 rfl dX7_open_0 ?_
  refine V_iconst (pc := 1) C dX7_open_1 ?_
  obtain ⟨g1, h⟩ := grd_of h
  refine V_putZ (pc := 2) C (by decide) e46 rfl inX7 tyX7 tyX7_ok nmX7 1 (by decide) rfl rfl lf_X7_23 rfl g1 rfl dX7_open_2 ?_
  refine V_aload_n (pc := 5) C 0 rfl dX7_open_5 ?_
  refine V_getR (pc := 6) C e46 rfl inX7 0 (by decide) rfl lf_X7_15 rfl dX7_open_6 ?_
  refine V_rng fun hM2 => ?_
  refine V_getI (pc := 9) C e45 rfl inX9 4 (by decide) rfl lf_X7_50 rfl dX7_open_9 ?_
  refine V_iconst (pc := 12) C dX7_open_12 ?_
  refine V_icmp_ne (pc := 13) C 20 (hM2 _ _) (by decide) dX7_open_13 (by decide) (fun c13_3 => ?_) (fun c13_3 => ?_)
  · have h := ite_f h c13_3
    refine V_iconst (pc := 20) C dX7_open_20 ?_
    exact V_iret (pc := 21) C hr hlk (by decide) h dX7_open_21
  · have h := ite_t h c13_3
    refine V_iconst (pc := 16) C dX7_open_16 ?_
    refine V_goto (pc := 17) C 21 dX7_open_17 (by decide) ?_
    exact V_iret (pc := 21) C hr hlk (by decide) h dX7_open_21
set_option maxRecDepth 100000 in
set_option maxHeartbeats 4000000 in
theorem c_X7_keep (l : Launch) (Γ : GG) (sk : List SD) (hsk : Ext sk) (fu : Nat) {M M' : Mem} {a1 : Int} {r : Int} (ha1 : rng a1) (h : f_X7_keep fu M a1 = some (M', r)) : MetI l yX7_keep cX7_keep 2 .int ({ frames := 1, cells := 0, slots := 0, locals := 22 } : Room) Γ sk [vr Γ 46, vi a1] M M' r := by
  unfold f_X7_keep at h
  refine MetI_of RX7 rfl (by decide) rfl (Nat.le_of_ble_eq_true rfl) rfl ?_
  intro p e s m args below meth c C hr hlk hM
  have e46 := hsk 46 _ (by decide) rfl
  have e47 := hsk 47 _ (by decide) rfl
  refine V_aload_n (pc := 0) C 0 rfl dX7_keep_0 ?_
  refine V_getR (pc := 1) C e46 rfl inX7 3 (by decide) rfl lf_X7_9 rfl dX7_keep_1 ?_
  refine V_aload_n (pc := 4) C 0 rfl dX7_keep_4 ?_
  refine V_getI (pc := 5) C e46 rfl inX7 4 (by decide) rfl lf_X7_19 rfl dX7_keep_5 ?_
  refine V_iload_n (pc := 8) C 1 rfl dX7_keep_8 ?_
  obtain ⟨M1, r2, hc3, h⟩ := cal_of h
  refine V_callNV (pc := 9) C (c_X11_put l Γ sk hsk fu e47 (by decide) (by decide) (hM _ _) ha1 hc3) cf_X11_put ln_X7_63 ⟨rfl, rfl⟩ ⟨Nat.le_of_ble_eq_true rfl, Nat.le_of_ble_eq_true rfl⟩ rfl (Nat.le_of_ble_eq_true rfl) ⟨Nat.zero_le _, Nat.zero_le _⟩ rfl dX7_keep_9 ?_
  refine V_aload_n (pc := 12) C 0 rfl dX7_keep_12 ?_
  refine V_dup (pc := 13) C rfl dX7_keep_13 ?_
  refine V_rng fun hM4 => ?_
  refine V_getI (pc := 14) C e46 rfl inX7 4 (by decide) rfl lf_X7_19 rfl dX7_keep_14 ?_
  refine V_iconst (pc := 17) C dX7_keep_17 ?_
  refine V_iadd (pc := 18) C dX7_keep_18 ?_
  obtain ⟨g5, h⟩ := grd_of h
  refine V_putI (pc := 19) C (by decide) e46 rfl inX7 tyX7 tyX7_ok nmX7 4 (by decide) rfl rfl lf_X7_19 rfl g5 rfl dX7_keep_19 ?_
  refine V_aload_n (pc := 22) C 0 rfl dX7_keep_22 ?_
  refine V_iconst (pc := 23) C dX7_keep_23 ?_
  obtain ⟨g6, h⟩ := grd_of h
  refine V_putZ (pc := 24) C (by decide) e46 rfl inX7 tyX7 tyX7_ok nmX7 2 (by decide) rfl rfl lf_X7_27 rfl g6 rfl dX7_keep_24 ?_
  refine V_iconst (pc := 27) C dX7_keep_27 ?_
  exact V_iret (pc := 28) C hr hlk (by decide) h dX7_keep_28
set_option maxRecDepth 100000 in
set_option maxHeartbeats 4000000 in
theorem c_X7_accept (l : Launch) (Γ : GG) (sk : List SD) (hsk : Ext sk) (fu : Nat) {M M' : Mem}  {r : Int}  (h : f_X7_accept fu M  = some (M', r)) : MetI l yX7_accept cX7_accept 1 .int ({ frames := 2, cells := 0, slots := 0, locals := 43 } : Room) Γ sk [vr Γ 46] M M' r := by
  unfold f_X7_accept at h
  refine MetI_of RX7 rfl (by decide) rfl (Nat.le_of_ble_eq_true rfl) rfl ?_
  intro p e s m args below meth c C hr hlk hM
  have e45 := hsk 45 _ (by decide) rfl
  have e46 := hsk 46 _ (by decide) rfl
  have JP105 : ∀ {y1 : Int} {M : Mem}, rng y1 → f_X7_accept_J105 fu y1 M = some (M', r) → VV p l e ({ frames := 2, cells := 0, slots := 0, locals := 43 } : Room) s m args below meth c (MQ below (PostI Γ sk M' r s.heap.size) args s 0 0 (Fr Γ sk s.heap.size)) 1 Γ sk M 0 0 105 [(0, vr Γ 46)] [vi y1, vr Γ 46] := by
    intro y1 M hy1 h
    unfold f_X7_accept_J105 at h
    obtain ⟨g7, h⟩ := grd_of h
    refine V_putZ (pc := 105) C (by decide) e46 rfl inX7 tyX7 tyX7_ok nmX7 2 (by decide) rfl rfl lf_X7_27 rfl g7 rfl dX7_accept_105 ?_
    refine V_aload_n (pc := 108) C 0 rfl dX7_accept_108 ?_
    refine V_rng fun hM8 => ?_
    refine V_getI (pc := 109) C e46 rfl inX7 2 (by decide) rfl lf_X7_27 rfl dX7_accept_109 ?_
    refine V_if_eq (pc := 112) C 119 (hM8 _ _) dX7_accept_112 (by decide) (fun c112_9 => ?_) (fun c112_9 => ?_)
    · have h := ite_t h c112_9
      refine V_aload_n (pc := 119) C 0 rfl dX7_accept_119 ?_
      refine V_aload_n (pc := 120) C 0 rfl dX7_accept_120 ?_
      refine V_getR (pc := 121) C e46 rfl inX7 0 (by decide) rfl lf_X7_15 rfl dX7_accept_121 ?_
      refine V_getI (pc := 124) C e45 rfl inX9 5 (by decide) rfl lf_X7_56 rfl dX7_accept_124 ?_
      obtain ⟨M10, r11, hc12, h⟩ := cal_of h
      refine V_callVI (pc := 127) C (c_X7_keep l Γ sk hsk fu (hM8 _ _) hc12) cf_X7_keep lk_X7_59 ⟨rfl, rfl⟩ ⟨Nat.le_of_ble_eq_true rfl, Nat.le_of_ble_eq_true rfl⟩ e46 rfl rfl rfl (Nat.le_of_ble_eq_true rfl) ⟨Nat.zero_le _, Nat.zero_le _⟩ rfl dX7_accept_127 (fun hr11 => ?_)
      exact V_iret (pc := 130) C hr hlk hr11 h dX7_accept_130
    · have h := ite_f h c112_9
      refine V_iconst (pc := 115) C dX7_accept_115 ?_
      refine V_goto (pc := 116) C 130 dX7_accept_116 (by decide) ?_
      exact V_iret (pc := 130) C hr hlk (by decide) h dX7_accept_130
  have JP77 : ∀ {M : Mem}, f_X7_accept_J77 fu M = some (M', r) → VV p l e ({ frames := 2, cells := 0, slots := 0, locals := 43 } : Room) s m args below meth c (MQ below (PostI Γ sk M' r s.heap.size) args s 0 0 (Fr Γ sk s.heap.size)) 1 Γ sk M 0 0 77 [(0, vr Γ 46)] [] := by
    intro M h
    unfold f_X7_accept_J77 at h
    refine V_aload_n (pc := 77) C 0 rfl dX7_accept_77 ?_
    refine V_rng fun hM4 => ?_
    refine V_getI (pc := 78) C e46 rfl inX7 4 (by decide) rfl lf_X7_19 rfl dX7_accept_78 ?_
    refine V_bipush (pc := 81) C dX7_accept_81 rfl ?_
    refine V_icmp_lt (pc := 83) C 88 (hM4 _ _) (by decide) dX7_accept_83 (by decide) (fun c83_5 => ?_) (fun c83_5 => ?_)
    · have h := ite_t h c83_5
      refine V_aload_n (pc := 88) C 0 rfl dX7_accept_88 ?_
      refine V_aload_n (pc := 89) C 0 rfl dX7_accept_89 ?_
      refine V_getR (pc := 90) C e46 rfl inX7 0 (by decide) rfl lf_X7_15 rfl dX7_accept_90 ?_
      refine V_getI (pc := 93) C e45 rfl inX9 4 (by decide) rfl lf_X7_50 rfl dX7_accept_93 ?_
      refine V_iconst (pc := 96) C dX7_accept_96 ?_
      refine V_icmp_ne (pc := 97) C 104 (hM4 _ _) (by decide) dX7_accept_97 (by decide) (fun c97_6 => ?_) (fun c97_6 => ?_)
      · have h := ite_f h c97_6
        refine V_iconst (pc := 104) C dX7_accept_104 ?_
        refine V_sub (L' := [(0, vr Γ 46)]) [0] rfl (by decide) ?_
        exact JP105 (by decide) h
      · have h := ite_t h c97_6
        refine V_iconst (pc := 100) C dX7_accept_100 ?_
        refine V_goto (pc := 101) C 105 dX7_accept_101 (by decide) ?_
        refine V_sub (L' := [(0, vr Γ 46)]) [0] rfl (by decide) ?_
        exact JP105 (by decide) h
    · have h := ite_f h c83_5
      refine V_iconst (pc := 86) C dX7_accept_86 ?_
      exact V_iret (pc := 87) C hr hlk (by decide) h dX7_accept_87
  skip
  refine V_aload_n (pc := 0) C 0 rfl dX7_accept_0 ?_
  refine V_getI (pc := 1) C e46 rfl inX7 2 (by decide) rfl lf_X7_27 rfl dX7_accept_1 ?_
  refine V_if_eq (pc := 4) C 35 (hM _ _) dX7_accept_4 (by decide) (fun c4_1 => ?_) (fun c4_1 => ?_)
  · have h := ite_t h c4_1
    refine V_aload_n (pc := 35) C 0 rfl dX7_accept_35 ?_
    refine V_getR (pc := 36) C e46 rfl inX7 0 (by decide) rfl lf_X7_15 rfl dX7_accept_36 ?_
    refine V_getI (pc := 39) C e45 rfl inX9 3 (by decide) rfl lf_X7_53 rfl dX7_accept_39 ?_
    refine V_iconst (pc := 42) C dX7_accept_42 ?_
    refine V_icmp_ne (pc := 43) C 53 (hM _ _) (by decide) dX7_accept_43 (by decide) (fun c43_2 => ?_) (fun c43_2 => ?_)
    · have h := ite_f h c43_2
      refine V_aload_n (pc := 53) C 0 rfl dX7_accept_53 ?_
      refine V_getR (pc := 54) C e46 rfl inX7 0 (by decide) rfl lf_X7_15 rfl dX7_accept_54 ?_
      refine V_getI (pc := 57) C e45 rfl inX9 3 (by decide) rfl lf_X7_53 rfl dX7_accept_57 ?_
      refine V_iconst (pc := 60) C dX7_accept_60 ?_
      refine V_icmp_eq (pc := 61) C 77 (hM _ _) (by decide) dX7_accept_61 (by decide) (fun c61_3 => ?_) (fun c61_3 => ?_)
      · have h := ite_t h c61_3
        refine V_sub (L' := [(0, vr Γ 46)]) [0] rfl (by decide) ?_
        exact JP77 h
      · have h := ite_f h c61_3
        refine V_aload_n (pc := 64) C 0 rfl dX7_accept_64 ?_
        refine V_getR (pc := 65) C e46 rfl inX7 0 (by decide) rfl lf_X7_15 rfl dX7_accept_65 ?_
        refine V_getI (pc := 68) C e45 rfl inX9 4 (by decide) rfl lf_X7_50 rfl dX7_accept_68 ?_
        refine V_iconst (pc := 71) C dX7_accept_71 ?_
        refine V_icmp_eq (pc := 72) C 77 (hM _ _) (by decide) dX7_accept_72 (by decide) (fun c72_13 => ?_) (fun c72_13 => ?_)
        · have h := ite_t h c72_13
          refine V_sub (L' := [(0, vr Γ 46)]) [0] rfl (by decide) ?_
          exact JP77 h
        · have h := ite_f h c72_13
          refine V_iconst (pc := 75) C dX7_accept_75 ?_
          exact V_iret (pc := 76) C hr hlk (by decide) h dX7_accept_76
    · have h := ite_t h c43_2
      refine V_aload_n (pc := 46) C 0 rfl dX7_accept_46 ?_
      refine V_iconst (pc := 47) C dX7_accept_47 ?_
      obtain ⟨g14, h⟩ := grd_of h
      refine V_putZ (pc := 48) C (by decide) e46 rfl inX7 tyX7 tyX7_ok nmX7 1 (by decide) rfl rfl lf_X7_23 rfl g14 rfl dX7_accept_48 ?_
      refine V_iconst (pc := 51) C dX7_accept_51 ?_
      exact V_iret (pc := 52) C hr hlk (by decide) h dX7_accept_52
  · have h := ite_f h c4_1
    refine V_aload_n (pc := 7) C 0 rfl dX7_accept_7 ?_
    refine V_getR (pc := 8) C e46 rfl inX7 0 (by decide) rfl lf_X7_15 rfl dX7_accept_8 ?_
    refine V_getI (pc := 11) C e45 rfl inX9 3 (by decide) rfl lf_X7_53 rfl dX7_accept_11 ?_
    refine V_iconst (pc := 14) C dX7_accept_14 ?_
    refine V_icmp_ne (pc := 15) C 33 (hM _ _) (by decide) dX7_accept_15 (by decide) (fun c15_15 => ?_) (fun c15_15 => ?_)
    · have h := ite_f h c15_15
      refine V_iconst (pc := 33) C dX7_accept_33 ?_
      exact V_iret (pc := 34) C hr hlk (by decide) h dX7_accept_34
    · have h := ite_t h c15_15
      refine V_aload_n (pc := 18) C 0 rfl dX7_accept_18 ?_
      refine V_aload_n (pc := 19) C 0 rfl dX7_accept_19 ?_
      refine V_getR (pc := 20) C e46 rfl inX7 0 (by decide) rfl lf_X7_15 rfl dX7_accept_20 ?_
      refine V_getI (pc := 23) C e45 rfl inX9 5 (by decide) rfl lf_X7_56 rfl dX7_accept_23 ?_
      refine V_ineg (pc := 26) C dX7_accept_26 ?_
      obtain ⟨g16, h⟩ := grd_of h
      obtain ⟨M17, r18, hc19, h⟩ := cal_of h
      refine V_callVI (pc := 27) C (c_X7_keep l Γ sk hsk fu g16 hc19) cf_X7_keep lk_X7_59 ⟨rfl, rfl⟩ ⟨Nat.le_of_ble_eq_true rfl, Nat.le_of_ble_eq_true rfl⟩ e46 rfl rfl rfl (Nat.le_of_ble_eq_true rfl) ⟨Nat.zero_le _, Nat.zero_le _⟩ rfl dX7_accept_27 (fun hr18 => ?_)
      refine V_goto (pc := 30) C 34 dX7_accept_30 (by decide) ?_
      exact V_iret (pc := 34) C hr hlk hr18 h dX7_accept_34
