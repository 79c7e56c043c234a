set_option maxRecDepth 100000 in
set_option maxHeartbeats 4000000 in
theorem c_X12_isGone (l : Launch) (Γ : GG) (sk : List SD) (hsk : ExtM sk) (fu : Nat) {M M' : Mem} {a1 : Int} {r : Int} (ha1 : rng a1) (h : f_X12_isGone fu M a1 = some (M', r)) : MetI l yX12_isGone cX12_isGone 2 .boolean ({ frames := 1, cells := 0, slots := 0, locals := 20 } : Room) Γ sk [vr Γ 52, vi a1] M M' r := by
  unfold f_X12_isGone at h
  refine MetI_of RX12 rfl (by decide) rfl (Nat.le_of_ble_eq_true rfl) rfl ?_
  intro p e s m args below meth c C hr hlk hM
  have e52 := hsk 52 _ (by decide) rfl
  have e53 := hsk 53 _ (by decide) rfl
  refine V_aload_n (pc := 0) C 0 rfl dX12_isGone_0 ?_
  refine V_getR (pc := 1) C e52 rfl inX12 0 (by decide) rfl lf_X12_9 rfl dX12_isGone_1 ?_
  refine V_iload_n (pc := 4) C 1 rfl dX12_isGone_4 ?_
  obtain ⟨M1, r2, hc3, h⟩ := cal_of h
  refine V_callSI (pc := 5) C (c_X12_v l Γ sk hsk fu ha1 hc3) cf_X12_v lk_X12_112 ⟨rfl, rfl⟩ ⟨Nat.le_of_ble_eq_true rfl, Nat.le_of_ble_eq_true rfl⟩ rfl (Nat.le_of_ble_eq_true rfl) ⟨Nat.zero_le _, Nat.zero_le _⟩ rfl dX12_isGone_5 (fun hr2 => ?_)
  refine V_iconst (pc := 8) C dX12_isGone_8 ?_
  refine V_iadd (pc := 9) C dX12_isGone_9 ?_
  refine V_rng fun hM4 => ?_
  obtain ⟨g5, h⟩ := grd_of h
  obtain ⟨g6, h⟩ := grd_of h
  refine V_iald (pc := 10) C e53 g6 g5 dX12_isGone_10 ?_
  refine V_iconst (pc := 11) C dX12_isGone_11 ?_
  refine V_icmp_ne (pc := 12) C 19 (hM4 _ _) (by decide) dX12_isGone_12 (by decide) (fun c12_7 => ?_) (fun c12_7 => ?_)
  · have h := ite_f h c12_7
    refine V_iconst (pc := 19) C dX12_isGone_19 ?_
    exact V_zret (pc := 20) C hr hlk (by decide) h dX12_isGone_20
  · have h := ite_t h c12_7
    refine V_iconst (pc := 15) C dX12_isGone_15 ?_
    refine V_goto (pc := 16) C 20 dX12_isGone_16 (by decide) ?_
    exact V_zret (pc := 20) C hr hlk (by decide) h dX12_isGone_20
set_option maxRecDepth 100000 in
set_option maxHeartbeats 4000000 in
theorem c_X12_element (l : Launch) (Γ : GG) (sk : List SD) (hsk : ExtM sk) (fu : Nat) {M M' : Mem} {a1 : Int} {a2 : Int} {r : Int} (ha1 : rng a1) (ha2 : rng a2) (h : f_X12_element fu M a1 a2 = some (M', r)) : MetI l yX12_element cX12_element 3 .int ({ frames := 1, cells := 0, slots := 0, locals := 20 } : Room) Γ sk [vr Γ 52, vi a1, vi a2] M M' r := by
  unfold f_X12_element at h
  refine MetI_of RX12 rfl (by decide) rfl (Nat.le_of_ble_eq_true rfl) rfl ?_
  intro p e s m args below meth c C hr hlk hM
  have e52 := hsk 52 _ (by decide) rfl
  have e53 := hsk 53 _ (by decide) rfl
  refine V_aload_n (pc := 0) C 0 rfl dX12_element_0 ?_
  refine V_getR (pc := 1) C e52 rfl inX12 0 (by decide) rfl lf_X12_9 rfl dX12_element_1 ?_
  refine V_iload_n (pc := 4) C 1 rfl dX12_element_4 ?_
  obtain ⟨M1, r2, hc3, h⟩ := cal_of h
  refine V_callSI (pc := 5) C (c_X12_e l Γ sk hsk fu ha1 hc3) cf_X12_e lk_X12_115 ⟨rfl, rfl⟩ ⟨Nat.le_of_ble_eq_true rfl, Nat.le_of_ble_eq_true rfl⟩ rfl (Nat.le_of_ble_eq_true rfl) ⟨Nat.zero_le _, Nat.zero_le _⟩ rfl dX12_element_5 (fun hr2 => ?_)
  refine V_iload_n (pc := 8) C 2 rfl dX12_element_8 ?_
  refine V_iadd (pc := 9) C dX12_element_9 ?_
  refine V_rng fun hM4 => ?_
  obtain ⟨g5, h⟩ := grd_of h
  obtain ⟨g6, h⟩ := grd_of h
  refine V_iald (pc := 10) C e53 g6 g5 dX12_element_10 ?_
  exact V_iret (pc := 11) C hr hlk (hM4 _ _) h dX12_element_11
set_option maxRecDepth 100000 in
set_option maxHeartbeats 4000000 in
theorem c_X12_addVersion (l : Launch) (Γ : GG) (sk : List SD) (hsk : ExtM sk) (fu : Nat) {M M' : Mem} {a1 : Int} {a2 : Int} {a3 : Int} {a4 : Int} {r : Int} (ha1 : rng a1) (ha2 : rng a2) (ha3 : rng a3) (ha4 : rng a4) (h : f_X12_addVersion fu M a1 a2 a3 a4 = some (M', r)) : MetI l yX12_addVersion cX12_addVersion 9 .int ({ frames := 2, cells := 0, slots := 0, locals := 43 } : Room) Γ sk [vr Γ 52, vi a1, vi a2, vi a3, vi a4] M M' r := by
  unfold f_X12_addVersion at h
  refine MetI_of RX12 rfl (by decide) rfl (Nat.le_of_ble_eq_true rfl) rfl ?_
  intro p e s m args below meth c C hr hlk hM
  have e52 := hsk 52 _ (by decide) rfl
  have e53 := hsk 53 _ (by decide) rfl
  have JP120 : ∀ (k89 : Int → Int → Int → Int → Mem → Option (Mem × Int)) (_ : ∀ (x1 : Int) (x2 : Int) (x5 : Int) (x7 : Int) (M : Mem), rng x1 → rng x2 → rng x5 → rng x7 → k89 x1 x2 x5 x7 M = some (M', r) → VV p l e ({ frames := 2, cells := 0, slots := 0, locals := 43 } : Room) s m args below meth c (MQ below (PostI Γ sk M' r s.heap.size) args s 0 0 (Fr Γ sk s.heap.size)) 9 Γ sk M 0 0 89 [(0, vr Γ 52), (1, vi x1), (2, vi x2), (5, vi x5), (7, vi x7)] []) {x1 : Int} {x2 : Int} {x5 : Int} {x7 : Int} {y0 : Int} {M : Mem}, rng x1 → rng x2 → rng x5 → rng x7 → rng y0 → f_X12_addVersion_J120 fu k89 x1 x2 x5 x7 y0 M = some (M', r) → VV p l e ({ frames := 2, cells := 0, slots := 0, locals := 43 } : Room) s m args below meth c (MQ below (PostI Γ sk M' r s.heap.size) args s 0 0 (Fr Γ sk s.heap.size)) 9 Γ sk M 0 0 120 [(0, vr Γ 52), (1, vi x1), (2, vi x2), (5, vi x5), (7, vi x7)] [vi y0] := by
    intro k89 hkk89 x1 x2 x5 x7 y0 M hx1 hx2 hx5 hx7 hy0 h
    unfold f_X12_addVersion_J120 at h
    refine V_istore (pc := 120) C (L' := [(0, vr Γ 52), (1, vi x1), (2, vi x2), (5, vi x5), (7, vi x7), (8, vi y0)]) rfl (by decide) dX12_addVersion_120 ?_
    refine V_aload_n (pc := 122) C 0 rfl dX12_addVersion_122 ?_
    refine V_getR (pc := 123) C e52 rfl inX12 0 (by decide) rfl lf_X12_9 rfl dX12_addVersion_123 ?_
    refine V_iload (pc := 126) C 3 rfl dX12_addVersion_126 ?_
    obtain ⟨M29, r30, hc31, h⟩ := cal_of h
    refine V_callSI (pc := 128) C (c_X12_e l Γ sk hsk fu hx5 hc31) cf_X12_e lk_X12_115 ⟨rfl, rfl⟩ ⟨Nat.le_of_ble_eq_true rfl, Nat.le_of_ble_eq_true rfl⟩ rfl (Nat.le_of_ble_eq_true rfl) ⟨Nat.zero_le _, Nat.zero_le _⟩ rfl dX12_addVersion_128 (fun hr30 => ?_)
    refine V_iload (pc := 131) C 4 rfl dX12_addVersion_131 ?_
    refine V_iadd (pc := 133) C dX12_addVersion_133 ?_
    refine V_iload (pc := 134) C 5 rfl dX12_addVersion_134 ?_
    refine V_if_eq (pc := 136) C 149 hy0 dX12_addVersion_136 (by decide) (fun c136_32 => ?_) (fun c136_32 => ?_)
    · have h := ite_t h c136_32
      refine V_iconst (pc := 149) C dX12_addVersion_149 ?_
      obtain ⟨g33, h⟩ := grd_of h
      obtain ⟨g34, h⟩ := grd_of h
      refine V_iast (pc := 150) C (by decide) e53 g34 g33 (by decide) dX12_addVersion_150 ?_
      refine V_iinc (pc := 151) C (L' := [(0, vr Γ 52), (1, vi x1), (2, vi x2), (5, vi x5), (7, vi (x7 + (1 : Int))), (8, vi y0)]) 4 rfl rfl (by decide) dX12_addVersion_151 ?_
      refine V_goto (pc := 154) C 89 dX12_addVersion_154 (by decide) ?_
      obtain ⟨g35, h⟩ := grd_of h
      refine V_sub (L' := [(0, vr Γ 52), (1, vi x1), (2, vi x2), (5, vi x5), (7, vi (x7 + (1 : Int)))]) [0, 1, 2, 3, 4] rfl (by decide) ?_
      exact hkk89 _ _ _ _ _ hx1 hx2 hx5 g35 h
    · have h := ite_f h c136_32
      refine V_aload_n (pc := 139) C 0 rfl dX12_addVersion_139 ?_
      refine V_iload_n (pc := 140) C 1 rfl dX12_addVersion_140 ?_
      refine V_iload (pc := 141) C 4 rfl dX12_addVersion_141 ?_
      obtain ⟨M36, r37, hc38, h⟩ := cal_of h
      refine V_callVI (pc := 143) C (c_X12_element l Γ sk hsk fu hx1 hx7 hc38) cf_X12_element lk_X12_129 ⟨rfl, rfl⟩ ⟨Nat.le_of_ble_eq_true rfl, Nat.le_of_ble_eq_true rfl⟩ e52 rfl rfl rfl (Nat.le_of_ble_eq_true rfl) ⟨Nat.zero_le _, Nat.zero_le _⟩ rfl dX12_addVersion_143 (fun hr37 => ?_)
      refine V_goto (pc := 146) C 150 dX12_addVersion_146 (by decide) ?_
      obtain ⟨g39, h⟩ := grd_of h
      obtain ⟨g40, h⟩ := grd_of h
      refine V_iast (pc := 150) C (by decide) e53 g40 g39 hr37 dX12_addVersion_150 ?_
      refine V_iinc (pc := 151) C (L' := [(0, vr Γ 52), (1, vi x1), (2, vi x2), (5, vi x5), (7, vi (x7 + (1 : Int))), (8, vi y0)]) 4 rfl rfl (by decide) dX12_addVersion_151 ?_
      refine V_goto (pc := 154) C 89 dX12_addVersion_154 (by decide) ?_
      obtain ⟨g41, h⟩ := grd_of h
      refine V_sub (L' := [(0, vr Γ 52), (1, vi x1), (2, vi x2), (5, vi x5), (7, vi (x7 + (1 : Int)))]) [0, 1, 2, 3, 4] rfl (by decide) ?_
      exact hkk89 _ _ _ _ _ hx1 hx2 hx5 g41 h
  have JP119 : ∀ (k89 : Int → Int → Int → Int → Mem → Option (Mem × Int)) (_ : ∀ (x1 : Int) (x2 : Int) (x5 : Int) (x7 : Int) (M : Mem), rng x1 → rng x2 → rng x5 → rng x7 → k89 x1 x2 x5 x7 M = some (M', r) → VV p l e ({ frames := 2, cells := 0, slots := 0, locals := 43 } : Room) s m args below meth c (MQ below (PostI Γ sk M' r s.heap.size) args s 0 0 (Fr Γ sk s.heap.size)) 9 Γ sk M 0 0 89 [(0, vr Γ 52), (1, vi x1), (2, vi x2), (5, vi x5), (7, vi x7)] []) {x1 : Int} {x2 : Int} {x5 : Int} {x7 : Int} {M : Mem}, rng x1 → rng x2 → rng x5 → rng x7 → f_X12_addVersion_J119 fu k89 x1 x2 x5 x7 M = some (M', r) → VV p l e ({ frames := 2, cells := 0, slots := 0, locals := 43 } : Room) s m args below meth c (MQ below (PostI Γ sk M' r s.heap.size) args s 0 0 (Fr Γ sk s.heap.size)) 9 Γ sk M 0 0 119 [(0, vr Γ 52), (1, vi x1), (2, vi x2), (5, vi x5), (7, vi x7)] [] := by
    intro k89 hkk89 x1 x2 x5 x7 M hx1 hx2 hx5 hx7 h
    unfold f_X12_addVersion_J119 at h
    refine V_iconst (pc := 119) C dX12_addVersion_119 ?_
    refine V_sub (L' := [(0, vr Γ 52), (1, vi x1), (2, vi x2), (5, vi x5), (7, vi x7)]) [0, 1, 2, 3, 4] rfl (by decide) ?_
    exact JP120 _ (fun _ _ _ _ _ hz0 hz1 hz2 hz3 hz => hkk89 _ _ _ _ _ hz0 hz1 hz2 hz3 hz) hx1 hx2 hx5 hx7 (by decide) h
  have LP89 : ∀ (n : Nat) {x1 : Int} {x2 : Int} {x5 : Int} {x7 : Int} {M : Mem}, rng x1 → rng x2 → rng x5 → rng x7 → f_X12_addVersion_L89 fu n x1 x2 x5 x7 M = some (M', r) → VV p l e ({ frames := 2, cells := 0, slots := 0, locals := 43 } : Room) s m args below meth c (MQ below (PostI Γ sk M' r s.heap.size) args s 0 0 (Fr Γ sk s.heap.size)) 9 Γ sk M 0 0 89 [(0, vr Γ 52), (1, vi x1), (2, vi x2), (5, vi x5), (7, vi x7)] [] := by
    intro n
    induction n with
    | zero =>
      intro x1 x2 x5 x7 M hx1 hx2 hx5 hx7 h
      cases h
    | succ n ih =>
      intro x1 x2 x5 x7 M hx1 hx2 hx5 hx7 h
      rw [f_X12_addVersion_L89] at h
      refine V_iload (pc := 89) C 4 rfl dX12_addVersion_89 ?_
      refine V_bipush (pc := 91) C dX12_addVersion_91 rfl ?_
      refine V_icmp_ge (pc := 93) C 157 hx7 (by decide) dX12_addVersion_93 (by decide) (fun c93_23 => ?_) (fun c93_23 => ?_)
      · have h := ite_t h c93_23
        refine V_aload_n (pc := 157) C 0 rfl dX12_addVersion_157 ?_
        refine V_getR (pc := 158) C e52 rfl inX12 0 (by decide) rfl lf_X12_9 rfl dX12_addVersion_158 ?_
        refine V_iconst (pc := 161) C dX12_addVersion_161 ?_
        refine V_dup2 (pc := 162) C rfl rfl dX12_addVersion_162 ?_
        refine V_rng fun hM24 => ?_
        obtain ⟨g25, h⟩ := grd_of h
        refine V_iald (pc := 163) C e53 g25 (by decide) dX12_addVersion_163 ?_
        refine V_iconst (pc := 164) C dX12_addVersion_164 ?_
        refine V_iadd (pc := 165) C dX12_addVersion_165 ?_
        obtain ⟨g26, h⟩ := grd_of h
        obtain ⟨g27, h⟩ := grd_of h
        refine V_iast (pc := 166) C (by decide) e53 g26 (by decide) g27 dX12_addVersion_166 ?_
        refine V_iload (pc := 167) C 3 rfl dX12_addVersion_167 ?_
        exact V_iret (pc := 169) C hr hlk hx5 h dX12_addVersion_169
      · have h := ite_f h c93_23
        refine V_iload_n (pc := 96) C 1 rfl dX12_addVersion_96 ?_
        refine V_iconst (pc := 97) C dX12_addVersion_97 ?_
        refine V_icmp_eq (pc := 98) C 119 hx1 (by decide) dX12_addVersion_98 (by decide) (fun c98_28 => ?_) (fun c98_28 => ?_)
        · have h := ite_t h c98_28
          refine V_sub (L' := [(0, vr Γ 52), (1, vi x1), (2, vi x2), (5, vi x5), (7, vi x7)]) [0, 1, 2, 3, 4] rfl (by decide) ?_
          exact JP119 _ (fun _ _ _ _ _ hz0 hz1 hz2 hz3 hz => ih hz0 hz1 hz2 hz3 hz) hx1 hx2 hx5 hx7 h
        · have h := ite_f h c98_28
          refine V_iload (pc := 101) C 4 rfl dX12_addVersion_101 ?_
          refine V_iload_n (pc := 103) C 2 rfl dX12_addVersion_103 ?_
          refine V_aload_n (pc := 104) C 0 rfl dX12_addVersion_104 ?_
          refine V_iload_n (pc := 105) C 1 rfl dX12_addVersion_105 ?_
          obtain ⟨M42, r43, hc44, h⟩ := cal_of h
          refine V_callVI (pc := 106) C (c_X12_lengthOf l Γ sk hsk fu hx1 hc44) cf_X12_lengthOf lk_X12_121 ⟨rfl, rfl⟩ ⟨Nat.le_of_ble_eq_true rfl, Nat.le_of_ble_eq_true rfl⟩ e52 rfl rfl rfl (Nat.le_of_ble_eq_true rfl) ⟨Nat.zero_le _, Nat.zero_le _⟩ rfl dX12_addVersion_106 (fun hr43 => ?_)
          refine V_min (pc := 109) C lk_X12_124 math_min hx2 hr43 ⟨Nat.le_of_ble_eq_true rfl, Nat.le_of_ble_eq_true rfl⟩ ⟨Nat.zero_le _, Nat.zero_le _⟩ (Nat.le_of_ble_eq_true rfl) dX12_addVersion_109 ?_
          refine V_icmp_ge (pc := 112) C 119 hx7 (imin_rng hx2 hr43) dX12_addVersion_112 (by decide) (fun c112_45 => ?_) (fun c112_45 => ?_)
          · have h := ite_t h c112_45
            refine V_sub (L' := [(0, vr Γ 52), (1, vi x1), (2, vi x2), (5, vi x5), (7, vi x7)]) [0, 1, 2, 3, 4] rfl (by decide) ?_
            exact JP119 _ (fun _ _ _ _ _ hz0 hz1 hz2 hz3 hz => ih hz0 hz1 hz2 hz3 hz) hx1 hx2 hx5 hx7 h
          · have h := ite_f h c112_45
            refine V_iconst (pc := 115) C dX12_addVersion_115 ?_
            refine V_goto (pc := 116) C 120 dX12_addVersion_116 (by decide) ?_
            refine V_sub (L' := [(0, vr Γ 52), (1, vi x1), (2, vi x2), (5, vi x5), (7, vi x7)]) [0, 1, 2, 3, 4] rfl (by decide) ?_
            exact JP120 _ (fun _ _ _ _ _ hz0 hz1 hz2 hz3 hz => ih hz0 hz1 hz2 hz3 hz) hx1 hx2 hx5 hx7 (by decide) h
  skip
  refine V_aload_n (pc := 0) C 0 rfl dX12_addVersion_0 ?_
  refine V_getR (pc := 1) C e52 rfl inX12 0 (by decide) rfl lf_X12_9 rfl dX12_addVersion_1 ?_
  refine V_iconst (pc := 4) C dX12_addVersion_4 ?_
  obtain ⟨g1, h⟩ := grd_of h
  refine V_iald (pc := 5) C e53 g1 (by decide) dX12_addVersion_5 ?_
  refine V_istore (pc := 6) C (L' := [(0, vr Γ 52), (1, vi a1), (2, vi a2), (3, vi a3), (4, vi a4), (5, vi (M 53 ((0 : Int) : Int).toNat))]) rfl (by decide) dX12_addVersion_6 ?_
  refine V_iload (pc := 8) C 5 rfl dX12_addVersion_8 ?_
  obtain ⟨M2, r3, hc4, h⟩ := cal_of h
  refine V_callSI (pc := 10) C (c_X12_v l Γ sk hsk fu (hM _ _) hc4) cf_X12_v lk_X12_112 ⟨rfl, rfl⟩ ⟨Nat.le_of_ble_eq_true rfl, Nat.le_of_ble_eq_true rfl⟩ rfl (Nat.le_of_ble_eq_true rfl) ⟨Nat.zero_le _, Nat.zero_le _⟩ rfl dX12_addVersion_10 (fun hr3 => ?_)
  refine V_istore (pc := 13) C (L' := [(0, vr Γ 52), (1, vi a1), (2, vi a2), (3, vi a3), (4, vi a4), (5, vi (M 53 ((0 : Int) : Int).toNat)), (6, vi r3)]) rfl (by decide) dX12_addVersion_13 ?_
  refine V_aload_n (pc := 15) C 0 rfl dX12_addVersion_15 ?_
  refine V_getR (pc := 16) C e52 rfl inX12 0 (by decide) rfl lf_X12_9 rfl dX12_addVersion_16 ?_
  refine V_iload (pc := 19) C 6 rfl dX12_addVersion_19 ?_
  refine V_iconst (pc := 21) C dX12_addVersion_21 ?_
  refine V_iadd (pc := 22) C dX12_addVersion_22 ?_
  refine V_iload_n (pc := 23) C 2 rfl dX12_addVersion_23 ?_
  obtain ⟨g5, h⟩ := grd_of h
  obtain ⟨g6, h⟩ := grd_of h
  refine V_iast (pc := 24) C (by decide) e53 g6 g5 ha2 dX12_addVersion_24 ?_
  refine V_aload_n (pc := 25) C 0 rfl dX12_addVersion_25 ?_
  refine V_getR (pc := 26) C e52 rfl inX12 0 (by decide) rfl lf_X12_9 rfl dX12_addVersion_26 ?_
  refine V_iload (pc := 29) C 6 rfl dX12_addVersion_29 ?_
  refine V_iconst (pc := 31) C dX12_addVersion_31 ?_
  refine V_iadd (pc := 32) C dX12_addVersion_32 ?_
  refine V_iload_n (pc := 33) C 3 rfl dX12_addVersion_33 ?_
  obtain ⟨g7, h⟩ := grd_of h
  obtain ⟨g8, h⟩ := grd_of h
  refine V_iast (pc := 34) C (by decide) e53 g8 g7 ha3 dX12_addVersion_34 ?_
  refine V_aload_n (pc := 35) C 0 rfl dX12_addVersion_35 ?_
  refine V_getR (pc := 36) C e52 rfl inX12 0 (by decide) rfl lf_X12_9 rfl dX12_addVersion_36 ?_
  refine V_iload (pc := 39) C 6 rfl dX12_addVersion_39 ?_
  refine V_iconst (pc := 41) C dX12_addVersion_41 ?_
  refine V_iadd (pc := 42) C dX12_addVersion_42 ?_
  refine V_iload_n (pc := 43) C 2 rfl dX12_addVersion_43 ?_
  obtain ⟨M9, r10, hc11, h⟩ := cal_of h
  refine V_callSI (pc := 44) C (c_X12_heightFor l Γ sk hsk fu ha2 hc11) cf_X12_heightFor lk_X12_118 ⟨rfl, rfl⟩ ⟨Nat.le_of_ble_eq_true rfl, Nat.le_of_ble_eq_true rfl⟩ rfl (Nat.le_of_ble_eq_true rfl) ⟨Nat.zero_le _, Nat.zero_le _⟩ rfl dX12_addVersion_44 (fun hr10 => ?_)
  obtain ⟨g12, h⟩ := grd_of h
  obtain ⟨g13, h⟩ := grd_of h
  refine V_iast (pc := 47) C (by decide) e53 g13 g12 hr10 dX12_addVersion_47 ?_
  refine V_aload_n (pc := 48) C 0 rfl dX12_addVersion_48 ?_
  refine V_getR (pc := 49) C e52 rfl inX12 0 (by decide) rfl lf_X12_9 rfl dX12_addVersion_49 ?_
  refine V_iload (pc := 52) C 6 rfl dX12_addVersion_52 ?_
  refine V_iconst (pc := 54) C dX12_addVersion_54 ?_
  refine V_iadd (pc := 55) C dX12_addVersion_55 ?_
  refine V_iload_n (pc := 56) C 1 rfl dX12_addVersion_56 ?_
  obtain ⟨g14, h⟩ := grd_of h
  obtain ⟨g15, h⟩ := grd_of h
  refine V_iast (pc := 57) C (by decide) e53 g15 g14 ha1 dX12_addVersion_57 ?_
  refine V_aload_n (pc := 58) C 0 rfl dX12_addVersion_58 ?_
  refine V_getR (pc := 59) C e52 rfl inX12 0 (by decide) rfl lf_X12_9 rfl dX12_addVersion_59 ?_
  refine V_iload (pc := 62) C 6 rfl dX12_addVersion_62 ?_
  refine V_iconst (pc := 64) C dX12_addVersion_64 ?_
  refine V_iadd (pc := 65) C dX12_addVersion_65 ?_
  refine V_iconst (pc := 66) C dX12_addVersion_66 ?_
  obtain ⟨g16, h⟩ := grd_of h
  obtain ⟨g17, h⟩ := grd_of h
  refine V_iast (pc := 67) C (by decide) e53 g17 g16 (by decide) dX12_addVersion_67 ?_
  refine V_aload_n (pc := 68) C 0 rfl dX12_addVersion_68 ?_
  refine V_getR (pc := 69) C e52 rfl inX12 0 (by decide) rfl lf_X12_9 rfl dX12_addVersion_69 ?_
  refine V_iload (pc := 72) C 6 rfl dX12_addVersion_72 ?_
  refine V_iconst (pc := 74) C dX12_addVersion_74 ?_
  refine V_iadd (pc := 75) C dX12_addVersion_75 ?_
  refine V_aload_n (pc := 76) C 0 rfl dX12_addVersion_76 ?_
  refine V_getR (pc := 77) C e52 rfl inX12 0 (by decide) rfl lf_X12_9 rfl dX12_addVersion_77 ?_
  refine V_iconst (pc := 80) C dX12_addVersion_80 ?_
  refine V_rng fun hM18 => ?_
  obtain ⟨g19, h⟩ := grd_of h
  refine V_iald (pc := 81) C e53 g19 (by decide) dX12_addVersion_81 ?_
  refine V_iload (pc := 82) C 4 rfl dX12_addVersion_82 ?_
  refine V_isub (pc := 84) C dX12_addVersion_84 ?_
  obtain ⟨g20, h⟩ := grd_of h
  obtain ⟨g21, h⟩ := grd_of h
  obtain ⟨g22, h⟩ := grd_of h
  refine V_iast (pc := 85) C (by decide) e53 g21 g20 g22 dX12_addVersion_85 ?_
  refine V_iconst (pc := 86) C dX12_addVersion_86 ?_
  refine V_istore (pc := 87) C (L' := [(0, vr Γ 52), (1, vi a1), (2, vi a2), (3, vi a3), (4, vi a4), (5, vi (M 53 ((0 : Int) : Int).toNat)), (6, vi r3), (7, vi (0 : Int))]) rfl (by decide) dX12_addVersion_87 ?_
  refine V_sub (L' := [(0, vr Γ 52), (1, vi a1), (2, vi a2), (5, vi (M 53 ((0 : Int) : Int).toNat)), (7, vi (0 : Int))]) [0, 1, 2, 5, 7] rfl (by decide) ?_
  exact LP89 fu  ha1 ha2 (hM _ _) (by decide) h
set_option maxRecDepth 100000 in
set_option maxHeartbeats 4000000 in
theorem c_X12_makeLeaves (l : Launch) (Γ : GG) (sk : List SD) (hsk : ExtM sk) (fu : Nat) {M M' : Mem}  {r : Int}  (h : f_X12_makeLeaves fu M  = some (M', r)) : MetI l yX12_makeLeaves cX12_makeLeaves 5 .int ({ frames := 2, cells := 0, slots := 0, locals := 44 } : Room) Γ sk [vr Γ 52] M M' r := by
  unfold f_X12_makeLeaves at h
  refine MetI_of RX12 rfl (by decide) rfl (Nat.le_of_ble_eq_true rfl) rfl ?_
  intro p e s m args below meth c C hr hlk hM
  have e52 := hsk 52 _ (by decide) rfl
  have e57 := hsk 57 _ (by decide) rfl
  have e58 := hsk 58 _ (by decide) rfl
  have e59 := hsk 59 _ (by decide) rfl
  have LP26 : ∀ (k4 : Int → Int → Mem → Option (Mem × Int)) (_ : ∀ (x1 : Int) (x2 : Int) (M : Mem), rng x1 → rng x2 → k4 x1 x2 M = some (M', r) → VV p l e ({ frames := 2, cells := 0, slots := 0, locals := 44 } : Room) s m args below meth c (MQ below (PostI Γ sk M' r s.heap.size) args s 0 0 (Fr Γ sk s.heap.size)) 5 Γ sk M 0 0 4 [(0, vr Γ 52), (1, vi x1), (2, vi x2)] []) (n : Nat) {x1 : Int} {x2 : Int} {x3 : Int} {x4 : Int} {M : Mem}, rng x1 → rng x2 → rng x3 → rng x4 → f_X12_makeLeaves_L26 fu k4 n x1 x2 x3 x4 M = some (M', r) → VV p l e ({ frames := 2, cells := 0, slots := 0, locals := 44 } : Room) s m args below meth c (MQ below (PostI Γ sk M' r s.heap.size) args s 0 0 (Fr Γ sk s.heap.size)) 5 Γ sk M 0 0 26 [(0, vr Γ 52), (1, vi x1), (2, vi x2), (3, vi x3), (4, vi x4)] [] := by
    intro k4 hkk4 n
    induction n with
    | zero =>
      intro x1 x2 x3 x4 M hx1 hx2 hx3 hx4 h
      cases h
    | succ n ih =>
      intro x1 x2 x3 x4 M hx1 hx2 hx3 hx4 h
      rw [f_X12_makeLeaves_L26] at h
      refine V_iload (pc := 26) C 4 rfl dX12_makeLeaves_26 ?_
      refine V_iload_n (pc := 28) C 3 rfl dX12_makeLeaves_28 ?_
      refine V_icmp_ge (pc := 29) C 54 hx4 hx3 dX12_makeLeaves_29 (by decide) (fun c29_4 => ?_) (fun c29_4 => ?_)
      · have h := ite_t h c29_4
        refine V_aload_n (pc := 54) C 0 rfl dX12_makeLeaves_54 ?_
        refine V_getR (pc := 55) C e52 rfl inX12 10 (by decide) rfl lf_X12_29 rfl dX12_makeLeaves_55 ?_
        refine V_iload_n (pc := 58) C 1 rfl dX12_makeLeaves_58 ?_
        refine V_aload_n (pc := 59) C 0 rfl dX12_makeLeaves_59 ?_
        refine V_iconst (pc := 60) C dX12_makeLeaves_60 ?_
        refine V_iload_n (pc := 61) C 3 rfl dX12_makeLeaves_61 ?_
        obtain ⟨M5, r6, hc7, h⟩ := cal_of h
        refine V_callVI (pc := 62) C (c_X12_makeNode l Γ sk hsk fu (by decide) hx3 hc7) cf_X12_makeNode lk_X12_86 ⟨rfl, rfl⟩ ⟨Nat.le_of_ble_eq_true rfl, Nat.le_of_ble_eq_true rfl⟩ e52 rfl rfl rfl (Nat.le_of_ble_eq_true rfl) ⟨Nat.zero_le _, Nat.zero_le _⟩ rfl dX12_makeLeaves_62 (fun hr6 => ?_)
        obtain ⟨g8, h⟩ := grd_of h
        refine V_iast (pc := 65) C (by decide) e59 g8 hx1 hr6 dX12_makeLeaves_65 ?_
        refine V_iinc (pc := 66) C (L' := [(0, vr Γ 52), (1, vi (x1 + (1 : Int))), (2, vi x2), (3, vi x3), (4, vi x4)]) 1 rfl rfl (by decide) dX12_makeLeaves_66 ?_
        refine V_iinc (pc := 69) C (L' := [(0, vr Γ 52), (1, vi (x1 + (1 : Int))), (2, vi (x2 + (4 : Int))), (3, vi x3), (4, vi x4)]) 2 rfl rfl (by decide) dX12_makeLeaves_69 ?_
        refine V_goto (pc := 72) C 4 dX12_makeLeaves_72 (by decide) ?_
        obtain ⟨g9, h⟩ := grd_of h
        obtain ⟨g10, h⟩ := grd_of h
        refine V_sub (L' := [(0, vr Γ 52), (1, vi (x1 + (1 : Int))), (2, vi (x2 + (4 : Int)))]) [0, 1, 2] rfl (by decide) ?_
        exact hkk4 _ _ _ g9 g10 h
      · have h := ite_f h c29_4
        refine V_aload_n (pc := 32) C 0 rfl dX12_makeLeaves_32 ?_
        refine V_getR (pc := 33) C e52 rfl inX12 7 (by decide) rfl lf_X12_23 rfl dX12_makeLeaves_33 ?_
        refine V_iload (pc := 36) C 4 rfl dX12_makeLeaves_36 ?_
        refine V_aload_n (pc := 38) C 0 rfl dX12_makeLeaves_38 ?_
        refine V_getR (pc := 39) C e52 rfl inX12 8 (by decide) rfl lf_X12_26 rfl dX12_makeLeaves_39 ?_
        refine V_iload_n (pc := 42) C 2 rfl dX12_makeLeaves_42 ?_
        refine V_iload (pc := 43) C 4 rfl dX12_makeLeaves_43 ?_
        refine V_iadd (pc := 45) C dX12_makeLeaves_45 ?_
        refine V_rng fun hM11 => ?_
        obtain ⟨g12, h⟩ := grd_of h
        obtain ⟨g13, h⟩ := grd_of h
        refine V_iald (pc := 46) C e58 g13 g12 dX12_makeLeaves_46 ?_
        obtain ⟨g14, h⟩ := grd_of h
        refine V_iast (pc := 47) C (by decide) e57 g14 hx4 (hM11 _ _) dX12_makeLeaves_47 ?_
        refine V_iinc (pc := 48) C (L' := [(0, vr Γ 52), (1, vi x1), (2, vi x2), (3, vi x3), (4, vi (x4 + (1 : Int)))]) 4 rfl rfl (by decide) dX12_makeLeaves_48 ?_
        refine V_goto (pc := 51) C 26 dX12_makeLeaves_51 (by decide) ?_
        obtain ⟨g15, h⟩ := grd_of h
        refine V_sub (L' := [(0, vr Γ 52), (1, vi x1), (2, vi x2), (3, vi x3), (4, vi (x4 + (1 : Int)))]) [0, 1, 2, 3, 4] rfl (by decide) ?_
        exact ih hx1 hx2 hx3 g15 h
  have LP4 : ∀ (n : Nat) {x1 : Int} {x2 : Int} {M : Mem}, rng x1 → rng x2 → f_X12_makeLeaves_L4 fu n x1 x2 M = some (M', r) → VV p l e ({ frames := 2, cells := 0, slots := 0, locals := 44 } : Room) s m args below meth c (MQ below (PostI Γ sk M' r s.heap.size) args s 0 0 (Fr Γ sk s.heap.size)) 5 Γ sk M 0 0 4 [(0, vr Γ 52), (1, vi x1), (2, vi x2)] [] := by
    intro n
    induction n with
    | zero =>
      intro x1 x2 M hx1 hx2 h
      cases h
    | succ n ih =>
      intro x1 x2 M hx1 hx2 h
      rw [f_X12_makeLeaves_L4] at h
      refine V_iload_n (pc := 4) C 2 rfl dX12_makeLeaves_4 ?_
      refine V_aload_n (pc := 5) C 0 rfl dX12_makeLeaves_5 ?_
      refine V_rng fun hM1 => ?_
      refine V_getI (pc := 6) C e52 rfl inX12 9 (by decide) rfl lf_X12_52 rfl dX12_makeLeaves_6 ?_
      refine V_icmp_ge (pc := 9) C 75 hx2 (hM1 _ _) dX12_makeLeaves_9 (by decide) (fun c9_2 => ?_) (fun c9_2 => ?_)
      · have h := ite_t h c9_2
        refine V_iload_n (pc := 75) C 1 rfl dX12_makeLeaves_75 ?_
        exact V_iret (pc := 76) C hr hlk hx1 h dX12_makeLeaves_76
      · have h := ite_f h c9_2
        refine V_iconst (pc := 12) C dX12_makeLeaves_12 ?_
        refine V_aload_n (pc := 13) C 0 rfl dX12_makeLeaves_13 ?_
        refine V_getI (pc := 14) C e52 rfl inX12 9 (by decide) rfl lf_X12_52 rfl dX12_makeLeaves_14 ?_
        refine V_iload_n (pc := 17) C 2 rfl dX12_makeLeaves_17 ?_
        refine V_isub (pc := 18) C dX12_makeLeaves_18 ?_
        obtain ⟨g3, h⟩ := grd_of h
        refine V_min (pc := 19) C lk_X12_124 math_min (by decide) g3 ⟨Nat.le_of_ble_eq_true rfl, Nat.le_of_ble_eq_true rfl⟩ ⟨Nat.zero_le _, Nat.zero_le _⟩ (Nat.le_of_ble_eq_true rfl) dX12_makeLeaves_19 ?_
        refine V_istore_n (pc := 22) C (L' := [(0, vr Γ 52), (1, vi x1), (2, vi x2), (3, vi (imin (4 : Int) ((M 52 9) - x2)))]) rfl (by decide) dX12_makeLeaves_22 ?_
        refine V_iconst (pc := 23) C dX12_makeLeaves_23 ?_
        refine V_istore (pc := 24) C (L' := [(0, vr Γ 52), (1, vi x1), (2, vi x2), (3, vi (imin (4 : Int) ((M 52 9) - x2))), (4, vi (0 : Int))]) rfl (by decide) dX12_makeLeaves_24 ?_
        refine V_sub (L' := [(0, vr Γ 52), (1, vi x1), (2, vi x2), (3, vi (imin (4 : Int) ((M 52 9) - x2))), (4, vi (0 : Int))]) [0, 1, 2, 3, 4] rfl (by decide) ?_
        exact LP26 _ (fun _ _ _ hz0 hz1 hz => ih hz0 hz1 hz) fu  hx1 hx2 (imin_rng (by decide) g3) (by decide) h
  skip
  refine V_iconst (pc := 0) C dX12_makeLeaves_0 ?_
  refine V_istore_n (pc := 1) C (L' := [(0, vr Γ 52), (1, vi (0 : Int))]) rfl (by decide) dX12_makeLeaves_1 ?_
  refine V_iconst (pc := 2) C dX12_makeLeaves_2 ?_
  refine V_istore_n (pc := 3) C (L' := [(0, vr Γ 52), (1, vi (0 : Int)), (2, vi (0 : Int))]) rfl (by decide) dX12_makeLeaves_3 ?_
  refine V_sub (L' := [(0, vr Γ 52), (1, vi (0 : Int)), (2, vi (0 : Int))]) [0, 1, 2] rfl (by decide) ?_
  exact LP4 fu  (by decide) (by decide) h
set_option maxRecDepth 100000 in
set_option maxHeartbeats 4000000 in
theorem c_X12_makeLevel (l : Launch) (Γ : GG) (sk : List SD) (hsk : ExtM sk) (fu : Nat) {M M' : Mem} {a1 : Int} {r : Int} (ha1 : rng a1) (h : f_X12_makeLevel fu M a1 = some (M', r)) : MetI l yX12_makeLevel cX12_makeLevel 6 .int ({ frames := 2, cells := 0, slots := 0, locals := 44 } : Room) Γ sk [vr Γ 52, vi a1] M M' r := by
  unfold f_X12_makeLevel at h
  refine MetI_of RX12 rfl (by decide) rfl (Nat.le_of_ble_eq_true rfl) rfl ?_
  intro p e s m args below meth c C hr hlk hM
  have e52 := hsk 52 _ (by decide) rfl
  have e57 := hsk 57 _ (by decide) rfl
  have e59 := hsk 59 _ (by decide) rfl
  have LP21 : ∀ (k4 : Int → Int → Int → Mem → Option (Mem × Int)) (_ : ∀ (x1 : Int) (x2 : Int) (x3 : Int) (M : Mem), rng x1 → rng x2 → rng x3 → k4 x1 x2 x3 M = some (M', r) → VV p l e ({ frames := 2, cells := 0, slots := 0, locals := 44 } : Room) s m args below meth c (MQ below (PostI Γ sk M' r s.heap.size) args s 0 0 (Fr Γ sk s.heap.size)) 6 Γ sk M 0 0 4 [(0, vr Γ 52), (1, vi x1), (2, vi x2), (3, vi x3)] []) (n : Nat) {x1 : Int} {x2 : Int} {x3 : Int} {x4 : Int} {x5 : Int} {M : Mem}, rng x1 → rng x2 → rng x3 → rng x4 → rng x5 → f_X12_makeLevel_L21 fu k4 n x1 x2 x3 x4 x5 M = some (M', r) → VV p l e ({ frames := 2, cells := 0, slots := 0, locals := 44 } : Room) s m args below meth c (MQ below (PostI Γ sk M' r s.heap.size) args s 0 0 (Fr Γ sk s.heap.size)) 6 Γ sk M 0 0 21 [(0, vr Γ 52), (1, vi x1), (2, vi x2), (3, vi x3), (4, vi x4), (5, vi x5)] [] := by
    intro k4 hkk4 n
    induction n with
    | zero =>
      intro x1 x2 x3 x4 x5 M hx1 hx2 hx3 hx4 hx5 h
      cases h
    | succ n ih =>
      intro x1 x2 x3 x4 x5 M hx1 hx2 hx3 hx4 hx5 h
      rw [f_X12_makeLevel_L21] at h
      refine V_iload (pc := 21) C 5 rfl dX12_makeLevel_21 ?_
      refine V_iload (pc := 23) C 4 rfl dX12_makeLevel_23 ?_
      refine V_icmp_ge (pc := 25) C 50 hx5 hx4 dX12_makeLevel_25 (by decide) (fun c25_3 => ?_) (fun c25_3 => ?_)
      · have h := ite_t h c25_3
        refine V_aload_n (pc := 50) C 0 rfl dX12_makeLevel_50 ?_
        refine V_getR (pc := 51) C e52 rfl inX12 10 (by decide) rfl lf_X12_29 rfl dX12_makeLevel_51 ?_
        refine V_iload_n (pc := 54) C 2 rfl dX12_makeLevel_54 ?_
        refine V_aload_n (pc := 55) C 0 rfl dX12_makeLevel_55 ?_
        refine V_iconst (pc := 56) C dX12_makeLevel_56 ?_
        refine V_iload (pc := 57) C 4 rfl dX12_makeLevel_57 ?_
        obtain ⟨M4, r5, hc6, h⟩ := cal_of h
        refine V_callVI (pc := 59) C (c_X12_makeNode l Γ sk hsk fu (by decide) hx4 hc6) cf_X12_makeNode lk_X12_86 ⟨rfl, rfl⟩ ⟨Nat.le_of_ble_eq_true rfl, Nat.le_of_ble_eq_true rfl⟩ e52 rfl rfl rfl (Nat.le_of_ble_eq_true rfl) ⟨Nat.zero_le _, Nat.zero_le _⟩ rfl dX12_makeLevel_59 (fun hr5 => ?_)
        obtain ⟨g7, h⟩ := grd_of h
        refine V_iast (pc := 62) C (by decide) e59 g7 hx2 hr5 dX12_makeLevel_62 ?_
        refine V_iinc (pc := 63) C (L' := [(0, vr Γ 52), (1, vi x1), (2, vi (x2 + (1 : Int))), (3, vi x3), (4, vi x4), (5, vi x5)]) 2 rfl rfl (by decide) dX12_makeLevel_63 ?_
        refine V_iinc (pc := 66) C (L' := [(0, vr Γ 52), (1, vi x1), (2, vi (x2 + (1 : Int))), (3, vi (x3 + (4 : Int))), (4, vi x4), (5, vi x5)]) 3 rfl rfl (by decide) dX12_makeLevel_66 ?_
        refine V_goto (pc := 69) C 4 dX12_makeLevel_69 (by decide) ?_
        obtain ⟨g8, h⟩ := grd_of h
        obtain ⟨g9, h⟩ := grd_of h
        refine V_sub (L' := [(0, vr Γ 52), (1, vi x1), (2, vi (x2 + (1 : Int))), (3, vi (x3 + (4 : Int)))]) [0, 1, 2, 3] rfl (by decide) ?_
        exact hkk4 _ _ _ _ hx1 g8 g9 h
      · have h := ite_f h c25_3
        refine V_aload_n (pc := 28) C 0 rfl dX12_makeLevel_28 ?_
        refine V_getR (pc := 29) C e52 rfl inX12 7 (by decide) rfl lf_X12_23 rfl dX12_makeLevel_29 ?_
        refine V_iload (pc := 32) C 5 rfl dX12_makeLevel_32 ?_
        refine V_aload_n (pc := 34) C 0 rfl dX12_makeLevel_34 ?_
        refine V_getR (pc := 35) C e52 rfl inX12 10 (by decide) rfl lf_X12_29 rfl dX12_makeLevel_35 ?_
        refine V_iload_n (pc := 38) C 3 rfl dX12_makeLevel_38 ?_
        refine V_iload (pc := 39) C 5 rfl dX12_makeLevel_39 ?_
        refine V_iadd (pc := 41) C dX12_makeLevel_41 ?_
        refine V_rng fun hM10 => ?_
        obtain ⟨g11, h⟩ := grd_of h
        obtain ⟨g12, h⟩ := grd_of h
        refine V_iald (pc := 42) C e59 g12 g11 dX12_makeLevel_42 ?_
        obtain ⟨g13, h⟩ := grd_of h
        refine V_iast (pc := 43) C (by decide) e57 g13 hx5 (hM10 _ _) dX12_makeLevel_43 ?_
        refine V_iinc (pc := 44) C (L' := [(0, vr Γ 52), (1, vi x1), (2, vi x2), (3, vi x3), (4, vi x4), (5, vi (x5 + (1 : Int)))]) 5 rfl rfl (by decide) dX12_makeLevel_44 ?_
        refine V_goto (pc := 47) C 21 dX12_makeLevel_47 (by decide) ?_
        obtain ⟨g14, h⟩ := grd_of h
        refine V_sub (L' := [(0, vr Γ 52), (1, vi x1), (2, vi x2), (3, vi x3), (4, vi x4), (5, vi (x5 + (1 : Int)))]) [0, 1, 2, 3, 4, 5] rfl (by decide) ?_
        exact ih hx1 hx2 hx3 hx4 g14 h
  have LP4 : ∀ (n : Nat) {x1 : Int} {x2 : Int} {x3 : Int} {M : Mem}, rng x1 → rng x2 → rng x3 → f_X12_makeLevel_L4 fu n x1 x2 x3 M = some (M', r) → VV p l e ({ frames := 2, cells := 0, slots := 0, locals := 44 } : Room) s m args below meth c (MQ below (PostI Γ sk M' r s.heap.size) args s 0 0 (Fr Γ sk s.heap.size)) 6 Γ sk M 0 0 4 [(0, vr Γ 52), (1, vi x1), (2, vi x2), (3, vi x3)] [] := by
    intro n
    induction n with
    | zero =>
      intro x1 x2 x3 M hx1 hx2 hx3 h
      cases h
    | succ n ih =>
      intro x1 x2 x3 M hx1 hx2 hx3 h
      rw [f_X12_makeLevel_L4] at h
      refine V_iload_n (pc := 4) C 3 rfl dX12_makeLevel_4 ?_
      refine V_iload_n (pc := 5) C 1 rfl dX12_makeLevel_5 ?_
      refine V_icmp_ge (pc := 6) C 72 hx3 hx1 dX12_makeLevel_6 (by decide) (fun c6_1 => ?_) (fun c6_1 => ?_)
      · have h := ite_t h c6_1
        refine V_iload_n (pc := 72) C 2 rfl dX12_makeLevel_72 ?_
        exact V_iret (pc := 73) C hr hlk hx2 h dX12_makeLevel_73
      · have h := ite_f h c6_1
        refine V_iconst (pc := 9) C dX12_makeLevel_9 ?_
        refine V_iload_n (pc := 10) C 1 rfl dX12_makeLevel_10 ?_
        refine V_iload_n (pc := 11) C 3 rfl dX12_makeLevel_11 ?_
        refine V_isub (pc := 12) C dX12_makeLevel_12 ?_
        obtain ⟨g2, h⟩ := grd_of h
        refine V_min (pc := 13) C lk_X12_124 math_min (by decide) g2 ⟨Nat.le_of_ble_eq_true rfl, Nat.le_of_ble_eq_true rfl⟩ ⟨Nat.zero_le _, Nat.zero_le _⟩ (Nat.le_of_ble_eq_true rfl) dX12_makeLevel_13 ?_
        refine V_istore (pc := 16) C (L' := [(0, vr Γ 52), (1, vi x1), (2, vi x2), (3, vi x3), (4, vi (imin (4 : Int) (x1 - x3)))]) rfl (by decide) dX12_makeLevel_16 ?_
        refine V_iconst (pc := 18) C dX12_makeLevel_18 ?_
        refine V_istore (pc := 19) C (L' := [(0, vr Γ 52), (1, vi x1), (2, vi x2), (3, vi x3), (4, vi (imin (4 : Int) (x1 - x3))), (5, vi (0 : Int))]) rfl (by decide) dX12_makeLevel_19 ?_
        refine V_sub (L' := [(0, vr Γ 52), (1, vi x1), (2, vi x2), (3, vi x3), (4, vi (imin (4 : Int) (x1 - x3))), (5, vi (0 : Int))]) [0, 1, 2, 3, 4, 5] rfl (by decide) ?_
        exact LP21 _ (fun _ _ _ _ hz0 hz1 hz2 hz => ih hz0 hz1 hz2 hz) fu  hx1 hx2 hx3 (imin_rng (by decide) g2) (by decide) h
  skip
  refine V_iconst (pc := 0) C dX12_makeLevel_0 ?_
  refine V_istore_n (pc := 1) C (L' := [(0, vr Γ 52), (1, vi a1), (2, vi (0 : Int))]) rfl (by decide) dX12_makeLevel_1 ?_
  refine V_iconst (pc := 2) C dX12_makeLevel_2 ?_
  refine V_istore_n (pc := 3) C (L' := [(0, vr Γ 52), (1, vi a1), (2, vi (0 : Int)), (3, vi (0 : Int))]) rfl (by decide) dX12_makeLevel_3 ?_
  refine V_sub (L' := [(0, vr Γ 52), (1, vi a1), (2, vi (0 : Int)), (3, vi (0 : Int))]) [0, 1, 2, 3] rfl (by decide) ?_
  exact LP4 fu  ha1 (by decide) (by decide) h
set_option maxRecDepth 100000 in
set_option maxHeartbeats 4000000 in
theorem c_X12_begin (l : Launch) (Γ : GG) (sk : List SD) (hsk : ExtM sk) (fu : Nat) {M M' : Mem}  {r : Int}  (h : f_X12_begin fu M  = some (M', r)) : MetV l yX12_begin cX12_begin 4 ({ frames := 3, cells := 0, slots := 0, locals := 71 } : Room) Γ sk [vr Γ 52] M M' := by
  unfold f_X12_begin at h
  refine MetV_of RX12 rfl (by decide) rfl (Nat.le_of_ble_eq_true rfl) rfl ?_
  intro p e s m args below meth c C hr hlk hM
  have e52 := hsk 52 _ (by decide) rfl
  have e53 := hsk 53 _ (by decide) rfl
  have e58 := hsk 58 _ (by decide) rfl
  have e59 := hsk 59 _ (by decide) rfl
  have LP50 : ∀ (n : Nat) {x2 : Int} {x3 : Int} {M : Mem}, rng x2 → rng x3 → f_X12_begin_L50 fu n x2 x3 M = some (M', r) → VV p l e ({ frames := 3, cells := 0, slots := 0, locals := 71 } : Room) s m args below meth c (MQ below (PostV Γ sk M' s.heap.size) args s 0 0 (Fr Γ sk s.heap.size)) 4 Γ sk M 0 0 50 [(0, vr Γ 52), (2, vi x2), (3, vi x3)] [] := by
    intro n
    induction n with
    | zero =>
      intro x2 x3 M hx2 hx3 h
      cases h
    | succ n ih =>
      intro x2 x3 M hx2 hx3 h
      rw [f_X12_begin_L50] at h
      refine V_iload_n (pc := 50) C 2 rfl dX12_begin_50 ?_
      refine V_aload_n (pc := 51) C 0 rfl dX12_begin_51 ?_
      refine V_rng fun hM14 => ?_
      refine V_getI (pc := 52) C e52 rfl inX12 9 (by decide) rfl lf_X12_52 rfl dX12_begin_52 ?_
      refine V_icmp_ge (pc := 55) C 81 hx3 (hM14 _ _) dX12_begin_55 (by decide) (fun c55_15 => ?_) (fun c55_15 => ?_)
      · have h := ite_t h c55_15
        exact V_vret (pc := 81) C hr hlk h dX12_begin_81
      · have h := ite_f h c55_15
        refine V_aload_n (pc := 58) C 0 rfl dX12_begin_58 ?_
        refine V_getR (pc := 59) C e52 rfl inX12 0 (by decide) rfl lf_X12_9 rfl dX12_begin_59 ?_
        refine V_iload_n (pc := 62) C 1 rfl dX12_begin_62 ?_
        obtain ⟨M16, r17, hc18, h⟩ := cal_of h
        refine V_callSI (pc := 63) C (c_X12_e l Γ sk hsk fu hx2 hc18) cf_X12_e lk_X12_115 ⟨rfl, rfl⟩ ⟨Nat.le_of_ble_eq_true rfl, Nat.le_of_ble_eq_true rfl⟩ rfl (Nat.le_of_ble_eq_true rfl) ⟨Nat.zero_le _, Nat.zero_le _⟩ rfl dX12_begin_63 (fun hr17 => ?_)
        refine V_iload_n (pc := 66) C 2 rfl dX12_begin_66 ?_
        refine V_iadd (pc := 67) C dX12_begin_67 ?_
        refine V_aload_n (pc := 68) C 0 rfl dX12_begin_68 ?_
        refine V_getR (pc := 69) C e52 rfl inX12 8 (by decide) rfl lf_X12_26 rfl dX12_begin_69 ?_
        refine V_iload_n (pc := 72) C 2 rfl dX12_begin_72 ?_
        refine V_rng fun hM19 => ?_
        obtain ⟨g20, h⟩ := grd_of h
        refine V_iald (pc := 73) C e58 g20 hx3 dX12_begin_73 ?_
        obtain ⟨g21, h⟩ := grd_of h
        obtain ⟨g22, h⟩ := grd_of h
        refine V_iast (pc := 74) C (by decide) e53 g22 g21 (hM19 _ _) dX12_begin_74 ?_
        refine V_iinc (pc := 75) C (L' := [(0, vr Γ 52), (2, vi x2), (3, vi (x3 + (1 : Int)))]) 2 rfl rfl (by decide) dX12_begin_75 ?_
        refine V_goto (pc := 78) C 50 dX12_begin_78 (by decide) ?_
        obtain ⟨g23, h⟩ := grd_of h
        refine V_sub (L' := [(0, vr Γ 52), (2, vi x2), (3, vi (x3 + (1 : Int)))]) [0, 1, 2] rfl (by decide) ?_
        exact ih hx2 g23 h
  have JP43 : ∀ {y1 : Int} {y2 : Int} {y3 : Int} {M : Mem}, rng y1 → rng y2 → rng y3 → f_X12_begin_J43 fu y1 y2 y3 M = some (M', r) → VV p l e ({ frames := 3, cells := 0, slots := 0, locals := 71 } : Room) s m args below meth c (MQ below (PostV Γ sk M' s.heap.size) args s 0 0 (Fr Γ sk s.heap.size)) 4 Γ sk M 0 0 43 [(0, vr Γ 52)] [vi y3, vi y2, vi y1, vr Γ 52] := by
    intro y1 y2 y3 M hy1 hy2 hy3 h
    unfold f_X12_begin_J43 at h
    refine V_iconst (pc := 43) C dX12_begin_43 ?_
    obtain ⟨M11, r12, hc13, h⟩ := cal_of h
    refine V_callVI (pc := 44) C (c_X12_addVersion l Γ sk hsk fu hy1 hy2 hy3 (by decide) hc13) cf_X12_addVersion lk_X12_142 ⟨rfl, rfl⟩ ⟨Nat.le_of_ble_eq_true rfl, Nat.le_of_ble_eq_true rfl⟩ e52 rfl rfl rfl (Nat.le_of_ble_eq_true rfl) ⟨Nat.zero_le _, Nat.zero_le _⟩ rfl dX12_begin_44 (fun hr12 => ?_)
    refine V_istore_n (pc := 47) C (L' := [(0, vr Γ 52), (2, vi r12)]) rfl (by decide) dX12_begin_47 ?_
    refine V_iconst (pc := 48) C dX12_begin_48 ?_
    refine V_istore_n (pc := 49) C (L' := [(0, vr Γ 52), (2, vi r12), (3, vi (0 : Int))]) rfl (by decide) dX12_begin_49 ?_
    refine V_sub (L' := [(0, vr Γ 52), (2, vi r12), (3, vi (0 : Int))]) [0, 1, 2] rfl (by decide) ?_
    exact LP50 fu  hr12 (by decide) h
  have LP9 : ∀ (n : Nat) {x1 : Int} {M : Mem}, rng x1 → f_X12_begin_L9 fu n x1 M = some (M', r) → VV p l e ({ frames := 3, cells := 0, slots := 0, locals := 71 } : Room) s m args below meth c (MQ below (PostV Γ sk M' s.heap.size) args s 0 0 (Fr Γ sk s.heap.size)) 4 Γ sk M 0 0 9 [(0, vr Γ 52), (1, vi x1)] [] := by
    intro n
    induction n with
    | zero =>
      intro x1 M hx1 h
      cases h
    | succ n ih =>
      intro x1 M hx1 h
      rw [f_X12_begin_L9] at h
      refine V_iload_n (pc := 9) C 1 rfl dX12_begin_9 ?_
      refine V_iconst (pc := 10) C dX12_begin_10 ?_
      refine V_icmp_le (pc := 11) C 23 hx1 (by decide) dX12_begin_11 (by decide) (fun c11_7 => ?_) (fun c11_7 => ?_)
      · have h := ite_t h c11_7
        refine V_aload_n (pc := 23) C 0 rfl dX12_begin_23 ?_
        refine V_iconst (pc := 24) C dX12_begin_24 ?_
        refine V_aload_n (pc := 25) C 0 rfl dX12_begin_25 ?_
        refine V_rng fun hM8 => ?_
        refine V_getI (pc := 26) C e52 rfl inX12 9 (by decide) rfl lf_X12_52 rfl dX12_begin_26 ?_
        refine V_iload_n (pc := 29) C 1 rfl dX12_begin_29 ?_
        refine V_if_ne (pc := 30) C 37 hx1 dX12_begin_30 (by decide) (fun c30_9 => ?_) (fun c30_9 => ?_)
        · have h := ite_f h c30_9
          refine V_aload_n (pc := 37) C 0 rfl dX12_begin_37 ?_
          refine V_getR (pc := 38) C e52 rfl inX12 10 (by decide) rfl lf_X12_29 rfl dX12_begin_38 ?_
          refine V_iconst (pc := 41) C dX12_begin_41 ?_
          obtain ⟨g10, h⟩ := grd_of h
          refine V_iald (pc := 42) C e59 g10 (by decide) dX12_begin_42 ?_
          refine V_sub (L' := [(0, vr Γ 52)]) [0] rfl (by decide) ?_
          exact JP43 (by decide) (hM8 _ _) (hM8 _ _) h
        · have h := ite_t h c30_9
          refine V_iconst (pc := 33) C dX12_begin_33 ?_
          refine V_goto (pc := 34) C 43 dX12_begin_34 (by decide) ?_
          refine V_sub (L' := [(0, vr Γ 52)]) [0] rfl (by decide) ?_
          exact JP43 (by decide) (hM8 _ _) (by decide) h
      · have h := ite_f h c11_7
        refine V_aload_n (pc := 14) C 0 rfl dX12_begin_14 ?_
        refine V_iload_n (pc := 15) C 1 rfl dX12_begin_15 ?_
        obtain ⟨M24, r25, hc26, h⟩ := cal_of h
        refine V_callVI (pc := 16) C (c_X12_makeLevel l Γ sk hsk fu hx1 hc26) cf_X12_makeLevel lk_X12_139 ⟨rfl, rfl⟩ ⟨Nat.le_of_ble_eq_true rfl, Nat.le_of_ble_eq_true rfl⟩ e52 rfl rfl rfl (Nat.le_of_ble_eq_true rfl) ⟨Nat.zero_le _, Nat.zero_le _⟩ rfl dX12_begin_16 (fun hr25 => ?_)
        refine V_istore_n (pc := 19) C (L' := [(0, vr Γ 52), (1, vi r25)]) rfl (by decide) dX12_begin_19 ?_
        refine V_goto (pc := 20) C 9 dX12_begin_20 (by decide) ?_
        refine V_sub (L' := [(0, vr Γ 52), (1, vi r25)]) [0, 1] rfl (by decide) ?_
        exact ih hr25 h
  skip
  refine V_aload_n (pc := 0) C 0 rfl dX12_begin_0 ?_
  obtain ⟨M1, r2, hc3, h⟩ := cal_of h
  refine V_callVV (pc := 1) C (c_X12_clear l Γ sk hsk fu hc3) cf_X12_clear lk_X12_132 ⟨rfl, rfl⟩ ⟨Nat.le_of_ble_eq_true rfl, Nat.le_of_ble_eq_true rfl⟩ e52 rfl rfl rfl (Nat.le_of_ble_eq_true rfl) ⟨Nat.zero_le _, Nat.zero_le _⟩ rfl dX12_begin_1 ?_
  refine V_aload_n (pc := 4) C 0 rfl dX12_begin_4 ?_
  obtain ⟨M4, r5, hc6, h⟩ := cal_of h
  refine V_callVI (pc := 5) C (c_X12_makeLeaves l Γ sk hsk fu hc6) cf_X12_makeLeaves lk_X12_135 ⟨rfl, rfl⟩ ⟨Nat.le_of_ble_eq_true rfl, Nat.le_of_ble_eq_true rfl⟩ e52 rfl rfl rfl (Nat.le_of_ble_eq_true rfl) ⟨Nat.zero_le _, Nat.zero_le _⟩ rfl dX12_begin_5 (fun hr5 => ?_)
  refine V_istore_n (pc := 8) C (L' := [(0, vr Γ 52), (1, vi r5)]) rfl (by decide) dX12_begin_8 ?_
  refine V_sub (L' := [(0, vr Γ 52), (1, vi r5)]) [0, 1] rfl (by decide) ?_
  exact LP9 fu  hr5 h
set_option maxRecDepth 100000 in
set_option maxHeartbeats 4000000 in
theorem c_X12_makeSet (l : Launch) (Γ : GG) (sk : List SD) (hsk : ExtM sk) (fu : Nat) {M M' : Mem} {a1 : Int} {a2 : Int} {a3 : Int} {r : Int} (ha1 : rng a1) (ha2 : rng a2) (ha3 : rng a3) (h : f_X12_makeSet fu M a1 a2 a3 = some (M', r)) : MetI l yX12_makeSet cX12_makeSet 8 .int ({ frames := 46, cells := 0, slots := 0, locals := 1386 } : Room) Γ sk [vr Γ 52, vi a1, vi a2, vi a3] M M' r := by
  unfold f_X12_makeSet at h
  refine MetI_of RX12 rfl (by decide) rfl (Nat.le_of_ble_eq_true rfl) rfl ?_
  intro p e s m args below meth c C hr hlk hM
  have e52 := hsk 52 _ (by decide) rfl
  have e53 := hsk 53 _ (by decide) rfl
  have JP54 : ∀ {x1 : Int} {x2 : Int} {x3 : Int} {x4 : Int} {y0 : Int} {M : Mem}, rng x1 → rng x2 → rng x3 → rng x4 → rng y0 → f_X12_makeSet_J54 fu x1 x2 x3 x4 y0 M = some (M', r) → VV p l e ({ frames := 46, cells := 0, slots := 0, locals := 1386 } : Room) s m args below meth c (MQ below (PostI Γ sk M' r s.heap.size) args s 0 0 (Fr Γ sk s.heap.size)) 8 Γ sk M 0 0 54 [(0, vr Γ 52), (1, vi x1), (2, vi x2), (3, vi x3), (4, vi x4)] [vi y0] := by
    intro x1 x2 x3 x4 y0 M hx1 hx2 hx3 hx4 hy0 h
    unfold f_X12_makeSet_J54 at h
    refine V_istore (pc := 54) C (L' := [(0, vr Γ 52), (1, vi x1), (2, vi x2), (3, vi x3), (4, vi x4), (6, vi y0)]) rfl (by decide) dX12_makeSet_54 ?_
    refine V_aload_n (pc := 56) C 0 rfl dX12_makeSet_56 ?_
    refine V_iload_n (pc := 57) C 1 rfl dX12_makeSet_57 ?_
    refine V_aload_n (pc := 58) C 0 rfl dX12_makeSet_58 ?_
    refine V_iload_n (pc := 59) C 1 rfl dX12_makeSet_59 ?_
    obtain ⟨M16, r17, hc18, h⟩ := cal_of h
    refine V_callVI (pc := 60) C (c_X12_lengthOf l Γ sk hsk fu hx1 hc18) cf_X12_lengthOf lk_X12_121 ⟨rfl, rfl⟩ ⟨Nat.le_of_ble_eq_true rfl, Nat.le_of_ble_eq_true rfl⟩ e52 rfl rfl rfl (Nat.le_of_ble_eq_true rfl) ⟨Nat.zero_le _, Nat.zero_le _⟩ rfl dX12_makeSet_60 (fun hr17 => ?_)
    refine V_iload (pc := 63) C 5 rfl dX12_makeSet_63 ?_
    refine V_iload (pc := 65) C 4 rfl dX12_makeSet_65 ?_
    obtain ⟨M19, r20, hc21, h⟩ := cal_of h
    refine V_callVI (pc := 67) C (c_X12_addVersion l Γ sk hsk fu hx1 hr17 hy0 hx4 hc21) cf_X12_addVersion lk_X12_142 ⟨rfl, rfl⟩ ⟨Nat.le_of_ble_eq_true rfl, Nat.le_of_ble_eq_true rfl⟩ e52 rfl rfl rfl (Nat.le_of_ble_eq_true rfl) ⟨Nat.zero_le _, Nat.zero_le _⟩ rfl dX12_makeSet_67 (fun hr20 => ?_)
    refine V_istore (pc := 70) C (L' := [(0, vr Γ 52), (1, vi x1), (2, vi x2), (3, vi x3), (4, vi x4), (6, vi y0), (7, vi r20)]) rfl (by decide) dX12_makeSet_70 ?_
    refine V_aload_n (pc := 72) C 0 rfl dX12_makeSet_72 ?_
    refine V_getR (pc := 73) C e52 rfl inX12 0 (by decide) rfl lf_X12_9 rfl dX12_makeSet_73 ?_
    refine V_iload (pc := 76) C 6 rfl dX12_makeSet_76 ?_
    obtain ⟨M22, r23, hc24, h⟩ := cal_of h
    refine V_callSI (pc := 78) C (c_X12_e l Γ sk hsk fu hr20 hc24) cf_X12_e lk_X12_115 ⟨rfl, rfl⟩ ⟨Nat.le_of_ble_eq_true rfl, Nat.le_of_ble_eq_true rfl⟩ rfl (Nat.le_of_ble_eq_true rfl) ⟨Nat.zero_le _, Nat.zero_le _⟩ rfl dX12_makeSet_78 (fun hr23 => ?_)
    refine V_iload_n (pc := 81) C 2 rfl dX12_makeSet_81 ?_
    refine V_iadd (pc := 82) C dX12_makeSet_82 ?_
    refine V_iload_n (pc := 83) C 3 rfl dX12_makeSet_83 ?_
    obtain ⟨g25, h⟩ := grd_of h
    obtain ⟨g26, h⟩ := grd_of h
    refine V_iast (pc := 84) C (by decide) e53 g26 g25 hx3 dX12_makeSet_84 ?_
    refine V_iload (pc := 85) C 6 rfl dX12_makeSet_85 ?_
    exact V_iret (pc := 87) C hr hlk hr20 h dX12_makeSet_87
  have JP23 : ∀ {x1 : Int} {x2 : Int} {x3 : Int} {x4 : Int} {y0 : Int} {M : Mem}, rng x1 → rng x2 → rng x3 → rng x4 → rng y0 → f_X12_makeSet_J23 fu x1 x2 x3 x4 y0 M = some (M', r) → VV p l e ({ frames := 46, cells := 0, slots := 0, locals := 1386 } : Room) s m args below meth c (MQ below (PostI Γ sk M' r s.heap.size) args s 0 0 (Fr Γ sk s.heap.size)) 8 Γ sk M 0 0 23 [(0, vr Γ 52), (1, vi x1), (2, vi x2), (3, vi x3), (4, vi x4)] [vi y0] := by
    intro x1 x2 x3 x4 y0 M hx1 hx2 hx3 hx4 hy0 h
    unfold f_X12_makeSet_J23 at h
    refine V_istore (pc := 23) C (L' := [(0, vr Γ 52), (1, vi x1), (2, vi x2), (3, vi x3), (4, vi x4), (5, vi y0)]) rfl (by decide) dX12_makeSet_23 ?_
    refine V_iload (pc := 25) C 5 rfl dX12_makeSet_25 ?_
    refine V_if_eq (pc := 27) C 38 hy0 dX12_makeSet_27 (by decide) (fun c27_6 => ?_) (fun c27_6 => ?_)
    · have h := ite_t h c27_6
      refine V_aload_n (pc := 38) C 0 rfl dX12_makeSet_38 ?_
      refine V_aload_n (pc := 39) C 0 rfl dX12_makeSet_39 ?_
      refine V_iload_n (pc := 40) C 1 rfl dX12_makeSet_40 ?_
      obtain ⟨M7, r8, hc9, h⟩ := cal_of h
      refine V_callVI (pc := 41) C (c_X12_root l Γ sk hsk fu hx1 hc9) cf_X12_root lk_X12_145 ⟨rfl, rfl⟩ ⟨Nat.le_of_ble_eq_true rfl, Nat.le_of_ble_eq_true rfl⟩ e52 rfl rfl rfl (Nat.le_of_ble_eq_true rfl) ⟨Nat.zero_le _, Nat.zero_le _⟩ rfl dX12_makeSet_41 (fun hr8 => ?_)
      refine V_aload_n (pc := 44) C 0 rfl dX12_makeSet_44 ?_
      refine V_iload_n (pc := 45) C 1 rfl dX12_makeSet_45 ?_
      obtain ⟨M10, r11, hc12, h⟩ := cal_of h
      refine V_callVI (pc := 46) C (c_X12_heightOf l Γ sk hsk fu hx1 hc12) cf_X12_heightOf lk_X12_148 ⟨rfl, rfl⟩ ⟨Nat.le_of_ble_eq_true rfl, Nat.le_of_ble_eq_true rfl⟩ e52 rfl rfl rfl (Nat.le_of_ble_eq_true rfl) ⟨Nat.zero_le _, Nat.zero_le _⟩ rfl dX12_makeSet_46 (fun hr11 => ?_)
      refine V_iload_n (pc := 49) C 2 rfl dX12_makeSet_49 ?_
      refine V_iload_n (pc := 50) C 3 rfl dX12_makeSet_50 ?_
      obtain ⟨M13, r14, hc15, h⟩ := cal_of h
      refine V_callVI (pc := 51) C (c_X12_replaced l Γ sk hsk fu 8 hr8 hr11 hx2 hx3 hc15) cf_X12_replaced lk_X12_101 ⟨rfl, rfl⟩ ⟨Nat.le_of_ble_eq_true rfl, Nat.le_of_ble_eq_true rfl⟩ e52 rfl rfl rfl (Nat.le_of_ble_eq_true rfl) ⟨Nat.zero_le _, Nat.zero_le _⟩ rfl dX12_makeSet_51 (fun hr14 => ?_)
      refine V_sub (L' := [(0, vr Γ 52), (1, vi x1), (2, vi x2), (3, vi x3), (4, vi x4)]) [0, 1, 2, 3, 4] rfl (by decide) ?_
      exact JP54 hx1 hx2 hx3 hx4 hr14 h
    · have h := ite_f h c27_6
      refine V_aload_n (pc := 30) C 0 rfl dX12_makeSet_30 ?_
      refine V_iload_n (pc := 31) C 1 rfl dX12_makeSet_31 ?_
      obtain ⟨M27, r28, hc29, h⟩ := cal_of h
      refine V_callVI (pc := 32) C (c_X12_root l Γ sk hsk fu hx1 hc29) cf_X12_root lk_X12_145 ⟨rfl, rfl⟩ ⟨Nat.le_of_ble_eq_true rfl, Nat.le_of_ble_eq_true rfl⟩ e52 rfl rfl rfl (Nat.le_of_ble_eq_true rfl) ⟨Nat.zero_le _, Nat.zero_le _⟩ rfl dX12_makeSet_32 (fun hr28 => ?_)
      refine V_goto (pc := 35) C 54 dX12_makeSet_35 (by decide) ?_
      refine V_sub (L' := [(0, vr Γ 52), (1, vi x1), (2, vi x2), (3, vi x3), (4, vi x4)]) [0, 1, 2, 3, 4] rfl (by decide) ?_
      exact JP54 hx1 hx2 hx3 hx4 hr28 h
  skip
  refine V_aload_n (pc := 0) C 0 rfl dX12_makeSet_0 ?_
  refine V_getR (pc := 1) C e52 rfl inX12 0 (by decide) rfl lf_X12_9 rfl dX12_makeSet_1 ?_
  refine V_iconst (pc := 4) C dX12_makeSet_4 ?_
  obtain ⟨g1, h⟩ := grd_of h
  refine V_iald (pc := 5) C e53 g1 (by decide) dX12_makeSet_5 ?_
  refine V_istore (pc := 6) C (L' := [(0, vr Γ 52), (1, vi a1), (2, vi a2), (3, vi a3), (4, vi (M 53 ((1 : Int) : Int).toNat))]) rfl (by decide) dX12_makeSet_6 ?_
  refine V_aload_n (pc := 8) C 0 rfl dX12_makeSet_8 ?_
  refine V_iload_n (pc := 9) C 1 rfl dX12_makeSet_9 ?_
  refine V_iload_n (pc := 10) C 2 rfl dX12_makeSet_10 ?_
  obtain ⟨M2, r3, hc4, h⟩ := cal_of h
  refine V_callVI (pc := 11) C (c_X12_element l Γ sk hsk fu ha1 ha2 hc4) cf_X12_element lk_X12_129 ⟨rfl, rfl⟩ ⟨Nat.le_of_ble_eq_true rfl, Nat.le_of_ble_eq_true rfl⟩ e52 rfl rfl rfl (Nat.le_of_ble_eq_true rfl) ⟨Nat.zero_le _, Nat.zero_le _⟩ rfl dX12_makeSet_11 (fun hr3 => ?_)
  refine V_iload_n (pc := 14) C 3 rfl dX12_makeSet_14 ?_
  refine V_icmp_ne (pc := 15) C 22 hr3 ha3 dX12_makeSet_15 (by decide) (fun c15_5 => ?_) (fun c15_5 => ?_)
  · have h := ite_f h c15_5
    refine V_iconst (pc := 22) C dX12_makeSet_22 ?_
    refine V_sub (L' := [(0, vr Γ 52), (1, vi a1), (2, vi a2), (3, vi a3), (4, vi (M 53 ((1 : Int) : Int).toNat))]) [0, 1, 2, 3, 4] rfl (by decide) ?_
    exact JP23 ha1 ha2 ha3 (hM _ _) (by decide) h
  · have h := ite_t h c15_5
    refine V_iconst (pc := 18) C dX12_makeSet_18 ?_
    refine V_goto (pc := 19) C 23 dX12_makeSet_19 (by decide) ?_
    refine V_sub (L' := [(0, vr Γ 52), (1, vi a1), (2, vi a2), (3, vi a3), (4, vi (M 53 ((1 : Int) : Int).toNat))]) [0, 1, 2, 3, 4] rfl (by decide) ?_
    exact JP23 ha1 ha2 ha3 (hM _ _) (by decide) h
set_option maxRecDepth 100000 in
set_option maxHeartbeats 4000000 in
theorem c_X12_grownRoot (l : Launch) (Γ : GG) (sk : List SD) (hsk : ExtM sk) (fu : Nat) {M M' : Mem} {a1 : Int} {a2 : Int} {r : Int} (ha1 : rng a1) (ha2 : rng a2) (h : f_X12_grownRoot fu M a1 a2 = some (M', r)) : MetI l yX12_grownRoot cX12_grownRoot 6 .int ({ frames := 46, cells := 0, slots := 0, locals := 1387 } : Room) Γ sk [vr Γ 52, vi a1, vi a2] M M' r := by
  unfold f_X12_grownRoot at h
  refine MetI_of RX12 rfl (by decide) rfl (Nat.le_of_ble_eq_true rfl) rfl ?_
  intro p e s m args below meth c C hr hlk hM
  have e52 := hsk 52 _ (by decide) rfl
  have e57 := hsk 57 _ (by decide) rfl
  refine V_aload_n (pc := 0) C 0 rfl dX12_grownRoot_0 ?_
  refine V_iload_n (pc := 1) C 1 rfl dX12_grownRoot_1 ?_
  obtain ⟨M1, r2, hc3, h⟩ := cal_of h
  refine V_callVI (pc := 2) C (c_X12_lengthOf l Γ sk hsk fu ha1 hc3) cf_X12_lengthOf lk_X12_121 ⟨rfl, rfl⟩ ⟨Nat.le_of_ble_eq_true rfl, Nat.le_of_ble_eq_true rfl⟩ e52 rfl rfl rfl (Nat.le_of_ble_eq_true rfl) ⟨Nat.zero_le _, Nat.zero_le _⟩ rfl dX12_grownRoot_2 (fun hr2 => ?_)
  refine V_istore_n (pc := 5) C (L' := [(0, vr Γ 52), (1, vi a1), (2, vi a2), (3, vi r2)]) rfl (by decide) dX12_grownRoot_5 ?_
  refine V_aload_n (pc := 6) C 0 rfl dX12_grownRoot_6 ?_
  refine V_iload_n (pc := 7) C 1 rfl dX12_grownRoot_7 ?_
  obtain ⟨M4, r5, hc6, h⟩ := cal_of h
  refine V_callVI (pc := 8) C (c_X12_heightOf l Γ sk hsk fu ha1 hc6) cf_X12_heightOf lk_X12_148 ⟨rfl, rfl⟩ ⟨Nat.le_of_ble_eq_true rfl, Nat.le_of_ble_eq_true rfl⟩ e52 rfl rfl rfl (Nat.le_of_ble_eq_true rfl) ⟨Nat.zero_le _, Nat.zero_le _⟩ rfl dX12_grownRoot_8 (fun hr5 => ?_)
  refine V_istore (pc := 11) C (L' := [(0, vr Γ 52), (1, vi a1), (2, vi a2), (3, vi r2), (4, vi r5)]) rfl (by decide) dX12_grownRoot_11 ?_
  refine V_iload_n (pc := 13) C 3 rfl dX12_grownRoot_13 ?_
  refine V_if_ne (pc := 14) C 26 hr2 dX12_grownRoot_14 (by decide) (fun c14_7 => ?_) (fun c14_7 => ?_)
  · have h := ite_f h c14_7
    refine V_iload_n (pc := 26) C 3 rfl dX12_grownRoot_26 ?_
    refine V_iload (pc := 27) C 4 rfl dX12_grownRoot_27 ?_
    obtain ⟨M8, r9, hc10, h⟩ := cal_of h
    refine V_callSI (pc := 29) C (c_X12_span l Γ sk hsk fu hr5 hc10) cf_X12_span lk_X12_64 ⟨rfl, rfl⟩ ⟨Nat.le_of_ble_eq_true rfl, Nat.le_of_ble_eq_true rfl⟩ rfl (Nat.le_of_ble_eq_true rfl) ⟨Nat.zero_le _, Nat.zero_le _⟩ rfl dX12_grownRoot_29 (fun hr9 => ?_)
    refine V_icmp_ge (pc := 32) C 49 hr2 hr9 dX12_grownRoot_32 (by decide) (fun c32_11 => ?_) (fun c32_11 => ?_)
    · have h := ite_t h c32_11
      refine V_aload_n (pc := 49) C 0 rfl dX12_grownRoot_49 ?_
      refine V_iconst (pc := 50) C dX12_grownRoot_50 ?_
      refine V_iload (pc := 51) C 4 rfl dX12_grownRoot_51 ?_
      refine V_iconst (pc := 53) C dX12_grownRoot_53 ?_
      refine V_iload_n (pc := 54) C 2 rfl dX12_grownRoot_54 ?_
      obtain ⟨M12, r13, hc14, h⟩ := cal_of h
      refine V_callVI (pc := 55) C (c_X12_extended l Γ sk hsk fu 8 (by decide) hr5 (by decide) ha2 hc14) cf_X12_extended lk_X12_105 ⟨rfl, rfl⟩ ⟨Nat.le_of_ble_eq_true rfl, Nat.le_of_ble_eq_true rfl⟩ e52 rfl rfl rfl (Nat.le_of_ble_eq_true rfl) ⟨Nat.zero_le _, Nat.zero_le _⟩ rfl dX12_grownRoot_55 (fun hr13 => ?_)
      refine V_istore (pc := 58) C (L' := [(0, vr Γ 52), (1, vi a1), (2, vi a2), (3, vi r2), (4, vi r5), (5, vi r13)]) rfl (by decide) dX12_grownRoot_58 ?_
      refine V_aload_n (pc := 60) C 0 rfl dX12_grownRoot_60 ?_
      refine V_getR (pc := 61) C e52 rfl inX12 7 (by decide) rfl lf_X12_23 rfl dX12_grownRoot_61 ?_
      refine V_iconst (pc := 64) C dX12_grownRoot_64 ?_
      refine V_aload_n (pc := 65) C 0 rfl dX12_grownRoot_65 ?_
      refine V_iload_n (pc := 66) C 1 rfl dX12_grownRoot_66 ?_
      obtain ⟨M15, r16, hc17, h⟩ := cal_of h
      refine V_callVI (pc := 67) C (c_X12_root l Γ sk hsk fu ha1 hc17) cf_X12_root lk_X12_145 ⟨rfl, rfl⟩ ⟨Nat.le_of_ble_eq_true rfl, Nat.le_of_ble_eq_true rfl⟩ e52 rfl rfl rfl (Nat.le_of_ble_eq_true rfl) ⟨Nat.zero_le _, Nat.zero_le _⟩ rfl dX12_grownRoot_67 (fun hr16 => ?_)
      obtain ⟨g18, h⟩ := grd_of h
      refine V_iast (pc := 70) C (by decide) e57 g18 (by decide) hr16 dX12_grownRoot_70 ?_
      refine V_aload_n (pc := 71) C 0 rfl dX12_grownRoot_71 ?_
      refine V_getR (pc := 72) C e52 rfl inX12 7 (by decide) rfl lf_X12_23 rfl dX12_grownRoot_72 ?_
      refine V_iconst (pc := 75) C dX12_grownRoot_75 ?_
      refine V_iload (pc := 76) C 5 rfl dX12_grownRoot_76 ?_
      obtain ⟨g19, h⟩ := grd_of h
      refine V_iast (pc := 78) C (by decide) e57 g19 (by decide) hr13 dX12_grownRoot_78 ?_
      refine V_aload_n (pc := 79) C 0 rfl dX12_grownRoot_79 ?_
      refine V_iconst (pc := 80) C dX12_grownRoot_80 ?_
      refine V_iconst (pc := 81) C dX12_grownRoot_81 ?_
      obtain ⟨M20, r21, hc22, h⟩ := cal_of h
      refine V_callVI (pc := 82) C (c_X12_makeNode l Γ sk hsk fu (by decide) (by decide) hc22) cf_X12_makeNode lk_X12_86 ⟨rfl, rfl⟩ ⟨Nat.le_of_ble_eq_true rfl, Nat.le_of_ble_eq_true rfl⟩ e52 rfl rfl rfl (Nat.le_of_ble_eq_true rfl) ⟨Nat.zero_le _, Nat.zero_le _⟩ rfl dX12_grownRoot_82 (fun hr21 => ?_)
      exact V_iret (pc := 85) C hr hlk hr21 h dX12_grownRoot_85
    · have h := ite_f h c32_11
      refine V_aload_n (pc := 35) C 0 rfl dX12_grownRoot_35 ?_
      refine V_aload_n (pc := 36) C 0 rfl dX12_grownRoot_36 ?_
      refine V_iload_n (pc := 37) C 1 rfl dX12_grownRoot_37 ?_
      obtain ⟨M23, r24, hc25, h⟩ := cal_of h
      refine V_callVI (pc := 38) C (c_X12_root l Γ sk hsk fu ha1 hc25) cf_X12_root lk_X12_145 ⟨rfl, rfl⟩ ⟨Nat.le_of_ble_eq_true rfl, Nat.le_of_ble_eq_true rfl⟩ e52 rfl rfl rfl (Nat.le_of_ble_eq_true rfl) ⟨Nat.zero_le _, Nat.zero_le _⟩ rfl dX12_grownRoot_38 (fun hr24 => ?_)
      refine V_iload (pc := 41) C 4 rfl dX12_grownRoot_41 ?_
      refine V_iload_n (pc := 43) C 3 rfl dX12_grownRoot_43 ?_
      refine V_iload_n (pc := 44) C 2 rfl dX12_grownRoot_44 ?_
      obtain ⟨M26, r27, hc28, h⟩ := cal_of h
      refine V_callVI (pc := 45) C (c_X12_extended l Γ sk hsk fu 8 hr24 hr5 hr2 ha2 hc28) cf_X12_extended lk_X12_105 ⟨rfl, rfl⟩ ⟨Nat.le_of_ble_eq_true rfl, Nat.le_of_ble_eq_true rfl⟩ e52 rfl rfl rfl (Nat.le_of_ble_eq_true rfl) ⟨Nat.zero_le _, Nat.zero_le _⟩ rfl dX12_grownRoot_45 (fun hr27 => ?_)
      exact V_iret (pc := 48) C hr hlk hr27 h dX12_grownRoot_48
  · have h := ite_t h c14_7
    refine V_aload_n (pc := 17) C 0 rfl dX12_grownRoot_17 ?_
    refine V_iconst (pc := 18) C dX12_grownRoot_18 ?_
    refine V_iconst (pc := 19) C dX12_grownRoot_19 ?_
    refine V_iconst (pc := 20) C dX12_grownRoot_20 ?_
    refine V_iload_n (pc := 21) C 2 rfl dX12_grownRoot_21 ?_
    obtain ⟨M29, r30, hc31, h⟩ := cal_of h
    refine V_callVI (pc := 22) C (c_X12_extended l Γ sk hsk fu 8 (by decide) (by decide) (by decide) ha2 hc31) cf_X12_extended lk_X12_105 ⟨rfl, rfl⟩ ⟨Nat.le_of_ble_eq_true rfl, Nat.le_of_ble_eq_true rfl⟩ e52 rfl rfl rfl (Nat.le_of_ble_eq_true rfl) ⟨Nat.zero_le _, Nat.zero_le _⟩ rfl dX12_grownRoot_22 (fun hr30 => ?_)
    exact V_iret (pc := 25) C hr hlk hr30 h dX12_grownRoot_25
set_option maxRecDepth 100000 in
set_option maxHeartbeats 4000000 in
theorem c_X12_makeAppend (l : Launch) (Γ : GG) (sk : List SD) (hsk : ExtM sk) (fu : Nat) {M M' : Mem} {a1 : Int} {a2 : Int} {r : Int} (ha1 : rng a1) (ha2 : rng a2) (h : f_X12_makeAppend fu M a1 a2 = some (M', r)) : MetI l yX12_makeAppend cX12_makeAppend 7 .int ({ frames := 47, cells := 0, slots := 0, locals := 1412 } : Room) Γ sk [vr Γ 52, vi a1, vi a2] M M' r := by
  unfold f_X12_makeAppend at h
  refine MetI_of RX12 rfl (by decide) rfl (Nat.le_of_ble_eq_true rfl) rfl ?_
  intro p e s m args below meth c C hr hlk hM
  have e52 := hsk 52 _ (by decide) rfl
  have e53 := hsk 53 _ (by decide) rfl
  refine V_aload_n (pc := 0) C 0 rfl dX12_makeAppend_0 ?_
  refine V_getR (pc := 1) C e52 rfl inX12 0 (by decide) rfl lf_X12_9 rfl dX12_makeAppend_1 ?_
  refine V_iconst (pc := 4) C dX12_makeAppend_4 ?_
  obtain ⟨g1, h⟩ := grd_of h
  refine V_iald (pc := 5) C e53 g1 (by decide) dX12_makeAppend_5 ?_
  refine V_istore_n (pc := 6) C (L' := [(0, vr Γ 52), (1, vi a1), (2, vi a2), (3, vi (M 53 ((1 : Int) : Int).toNat))]) rfl (by decide) dX12_makeAppend_6 ?_
  refine V_aload_n (pc := 7) C 0 rfl dX12_makeAppend_7 ?_
  refine V_iload_n (pc := 8) C 1 rfl dX12_makeAppend_8 ?_
  obtain ⟨M2, r3, hc4, h⟩ := cal_of h
  refine V_callVI (pc := 9) C (c_X12_lengthOf l Γ sk hsk fu ha1 hc4) cf_X12_lengthOf lk_X12_121 ⟨rfl, rfl⟩ ⟨Nat.le_of_ble_eq_true rfl, Nat.le_of_ble_eq_true rfl⟩ e52 rfl rfl rfl (Nat.le_of_ble_eq_true rfl) ⟨Nat.zero_le _, Nat.zero_le _⟩ rfl dX12_makeAppend_9 (fun hr3 => ?_)
  refine V_istore (pc := 12) C (L' := [(0, vr Γ 52), (1, vi a1), (2, vi a2), (3, vi (M 53 ((1 : Int) : Int).toNat)), (4, vi r3)]) rfl (by decide) dX12_makeAppend_12 ?_
  refine V_aload_n (pc := 14) C 0 rfl dX12_makeAppend_14 ?_
  refine V_iload_n (pc := 15) C 1 rfl dX12_makeAppend_15 ?_
  refine V_iload_n (pc := 16) C 2 rfl dX12_makeAppend_16 ?_
  obtain ⟨M5, r6, hc7, h⟩ := cal_of h
  refine V_callVI (pc := 17) C (c_X12_grownRoot l Γ sk hsk fu ha1 ha2 hc7) cf_X12_grownRoot lk_X12_151 ⟨rfl, rfl⟩ ⟨Nat.le_of_ble_eq_true rfl, Nat.le_of_ble_eq_true rfl⟩ e52 rfl rfl rfl (Nat.le_of_ble_eq_true rfl) ⟨Nat.zero_le _, Nat.zero_le _⟩ rfl dX12_makeAppend_17 (fun hr6 => ?_)
  refine V_istore (pc := 20) C (L' := [(0, vr Γ 52), (1, vi a1), (2, vi a2), (3, vi (M 53 ((1 : Int) : Int).toNat)), (4, vi r3), (5, vi r6)]) rfl (by decide) dX12_makeAppend_20 ?_
  refine V_aload_n (pc := 22) C 0 rfl dX12_makeAppend_22 ?_
  refine V_iload_n (pc := 23) C 1 rfl dX12_makeAppend_23 ?_
  refine V_iload (pc := 24) C 4 rfl dX12_makeAppend_24 ?_
  refine V_iconst (pc := 26) C dX12_makeAppend_26 ?_
  refine V_iadd (pc := 27) C dX12_makeAppend_27 ?_
  refine V_iload (pc := 28) C 5 rfl dX12_makeAppend_28 ?_
  refine V_iload_n (pc := 30) C 3 rfl dX12_makeAppend_30 ?_
  obtain ⟨g8, h⟩ := grd_of h
  obtain ⟨M9, r10, hc11, h⟩ := cal_of h
  refine V_callVI (pc := 31) C (c_X12_addVersion l Γ sk hsk fu ha1 g8 hr6 (hM _ _) hc11) cf_X12_addVersion lk_X12_142 ⟨rfl, rfl⟩ ⟨Nat.le_of_ble_eq_true rfl, Nat.le_of_ble_eq_true rfl⟩ e52 rfl rfl rfl (Nat.le_of_ble_eq_true rfl) ⟨Nat.zero_le _, Nat.zero_le _⟩ rfl dX12_makeAppend_31 (fun hr10 => ?_)
  refine V_istore (pc := 34) C (L' := [(0, vr Γ 52), (1, vi a1), (2, vi a2), (3, vi (M 53 ((1 : Int) : Int).toNat)), (4, vi r3), (5, vi r6), (6, vi r10)]) rfl (by decide) dX12_makeAppend_34 ?_
  refine V_aload_n (pc := 36) C 0 rfl dX12_makeAppend_36 ?_
  refine V_getR (pc := 37) C e52 rfl inX12 0 (by decide) rfl lf_X12_9 rfl dX12_makeAppend_37 ?_
  refine V_iload (pc := 40) C 6 rfl dX12_makeAppend_40 ?_
  obtain ⟨M12, r13, hc14, h⟩ := cal_of h
  refine V_callSI (pc := 42) C (c_X12_e l Γ sk hsk fu hr10 hc14) cf_X12_e lk_X12_115 ⟨rfl, rfl⟩ ⟨Nat.le_of_ble_eq_true rfl, Nat.le_of_ble_eq_true rfl⟩ rfl (Nat.le_of_ble_eq_true rfl) ⟨Nat.zero_le _, Nat.zero_le _⟩ rfl dX12_makeAppend_42 (fun hr13 => ?_)
  refine V_iload (pc := 45) C 4 rfl dX12_makeAppend_45 ?_
  refine V_iadd (pc := 47) C dX12_makeAppend_47 ?_
  refine V_iload_n (pc := 48) C 2 rfl dX12_makeAppend_48 ?_
  obtain ⟨g15, h⟩ := grd_of h
  obtain ⟨g16, h⟩ := grd_of h
  refine V_iast (pc := 49) C (by decide) e53 g16 g15 ha2 dX12_makeAppend_49 ?_
  refine V_iload (pc := 50) C 6 rfl dX12_makeAppend_50 ?_
  exact V_iret (pc := 52) C hr hlk hr10 h dX12_makeAppend_52
