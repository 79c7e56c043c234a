set_option maxRecDepth 100000 in
set_option maxHeartbeats 4000000 in
theorem c_X12_isDigit (l : Launch) (Γ : GG) (sk : List SD) (hsk : ExtM sk) (fu : Nat) {M M' : Mem} {a1 : Int} {r : Int} (ha1 : rng a1) (h : f_X12_isDigit fu M a1 = some (M', r)) : MetI l yX12_isDigit cX12_isDigit 2 .boolean ({ frames := 1, cells := 0, slots := 0, locals := 25 } : Room) Γ sk [vr Γ 52, vi a1] M M' r := by
  unfold f_X12_isDigit at h
  refine MetI_of RX12 rfl (by decide) rfl (Nat.le_of_ble_eq_true rfl) rfl ?_
  intro p e s m args below meth c C hr hlk hM
  have e52 := hsk 52 _ (by decide) rfl
  have e61 := hsk 61 _ (by decide) rfl
  refine V_iload_n (pc := 0) C 1 rfl dX12_isDigit_0 ?_
  refine V_aload_n (pc := 1) C 0 rfl dX12_isDigit_1 ?_
  refine V_getI (pc := 2) C e52 rfl inX12 13 (by decide) rfl lf_X12_180 rfl dX12_isDigit_2 ?_
  refine V_icmp_ge (pc := 5) C 31 ha1 (hM _ _) dX12_isDigit_5 (by decide) (fun c5_1 => ?_) (fun c5_1 => ?_)
  · have h := ite_t h c5_1
    refine V_iconst (pc := 31) C dX12_isDigit_31 ?_
    exact V_zret (pc := 32) C hr hlk (by decide) h dX12_isDigit_32
  · have h := ite_f h c5_1
    refine V_aload_n (pc := 8) C 0 rfl dX12_isDigit_8 ?_
    refine V_getR (pc := 9) C e52 rfl inX12 12 (by decide) rfl lf_X12_35 rfl dX12_isDigit_9 ?_
    refine V_iload_n (pc := 12) C 1 rfl dX12_isDigit_12 ?_
    obtain ⟨g2, h⟩ := grd_of h
    refine V_bald (pc := 13) C e61 g2 ha1 dX12_isDigit_13 ?_
    refine V_i2l (pc := 14) C (hM _ _) dX12_isDigit_14 ?_
    refine V_ldc2 (pc := 15) C (x := (48 : Int)) lc_X12_193 rfl dX12_isDigit_15 ?_
    refine V_ldc2 (pc := 18) C (x := (57 : Int)) lc_X12_195 rfl dX12_isDigit_18 ?_
    obtain ⟨M3, r4, hc5, h⟩ := cal_of h
    refine V_callSI (pc := 21) C (c_X12_isWithin l Γ sk hsk fu (hM _ _) (by decide) (by decide) hc5) cf_X12_isWithin lk_X12_167 ⟨rfl, rfl⟩ ⟨Nat.le_of_ble_eq_true rfl, Nat.le_of_ble_eq_true rfl⟩ rfl (Nat.le_of_ble_eq_true rfl) ⟨Nat.zero_le _, Nat.zero_le _⟩ rfl dX12_isDigit_21 (fun hr4 => ?_)
    refine V_if_eq (pc := 24) C 31 hr4 dX12_isDigit_24 (by decide) (fun c24_6 => ?_) (fun c24_6 => ?_)
    · have h := ite_t h c24_6
      refine V_iconst (pc := 31) C dX12_isDigit_31 ?_
      exact V_zret (pc := 32) C hr hlk (by decide) h dX12_isDigit_32
    · have h := ite_f h c24_6
      refine V_iconst (pc := 27) C dX12_isDigit_27 ?_
      refine V_goto (pc := 28) C 32 dX12_isDigit_28 (by decide) ?_
      exact V_zret (pc := 32) C hr hlk (by decide) h dX12_isDigit_32
set_option maxRecDepth 100000 in
set_option maxHeartbeats 4000000 in
theorem c_X12_advanceToken (l : Launch) (Γ : GG) (sk : List SD) (hsk : ExtM sk) (fu : Nat) {M M' : Mem}  {r : Int}  (h : f_X12_advanceToken fu M  = some (M', r)) : MetV l yX12_advanceToken cX12_advanceToken 1 ({ frames := 2, cells := 0, slots := 0, locals := 46 } : Room) Γ sk [vr Γ 52] M M' := by
  unfold f_X12_advanceToken at h
  refine MetV_of RX12 rfl (by decide) rfl (Nat.le_of_ble_eq_true rfl) rfl ?_
  intro p e s m args below meth c C hr hlk hM
  have e52 := hsk 52 _ (by decide) rfl
  have e61 := hsk 61 _ (by decide) rfl
  have JP285 : ∀ {y1 : Int} {M : Mem}, rng y1 → f_X12_advanceToken_J285 fu y1 M = some (M', r) → VV p l e ({ frames := 2, cells := 0, slots := 0, locals := 46 } : Room) s m args below meth c (MQ below (PostV Γ sk M' s.heap.size) args s 0 0 (Fr Γ sk s.heap.size)) 1 Γ sk M 0 0 285 [(0, vr Γ 52)] [vi y1, vr Γ 52] := by
    intro y1 M hy1 h
    unfold f_X12_advanceToken_J285 at h
    refine V_putI (pc := 285) C (by decide) e52 rfl inX12 tyX12 tyX12_ok nmX12 18 (by decide) rfl rfl lf_X12_206 rfl hy1 rfl dX12_advanceToken_285 ?_
    refine V_aload_n (pc := 288) C 0 rfl dX12_advanceToken_288 ?_
    refine V_dup (pc := 289) C rfl dX12_advanceToken_289 ?_
    refine V_rng fun hM19 => ?_
    refine V_getI (pc := 290) C e52 rfl inX12 17 (by decide) rfl lf_X12_200 rfl dX12_advanceToken_290 ?_
    refine V_iconst (pc := 293) C dX12_advanceToken_293 ?_
    refine V_iadd (pc := 294) C dX12_advanceToken_294 ?_
    obtain ⟨g20, h⟩ := grd_of h
    refine V_putI (pc := 295) C (by decide) e52 rfl inX12 tyX12 tyX12_ok nmX12 17 (by decide) rfl rfl lf_X12_200 rfl g20 rfl dX12_advanceToken_295 ?_
    exact V_vret (pc := 298) C hr hlk h dX12_advanceToken_298
  have JP224 : ∀ (k172 : Mem → Option (Mem × Int)) (_ : ∀ (M : Mem), k172 M = some (M', r) → VV p l e ({ frames := 2, cells := 0, slots := 0, locals := 46 } : Room) s m args below meth c (MQ below (PostV Γ sk M' s.heap.size) args s 0 0 (Fr Γ sk s.heap.size)) 1 Γ sk M 0 0 172 [(0, vr Γ 52)] []) {y1 : Int} {M : Mem}, rng y1 → f_X12_advanceToken_J224 fu k172 y1 M = some (M', r) → VV p l e ({ frames := 2, cells := 0, slots := 0, locals := 46 } : Room) s m args below meth c (MQ below (PostV Γ sk M' s.heap.size) args s 0 0 (Fr Γ sk s.heap.size)) 1 Γ sk M 0 0 224 [(0, vr Γ 52)] [vi y1, vr Γ 52] := by
    intro k172 hkk172 y1 M hy1 h
    unfold f_X12_advanceToken_J224 at h
    refine V_putI (pc := 224) C (by decide) e52 rfl inX12 tyX12 tyX12_ok nmX12 19 (by decide) rfl rfl lf_X12_215 rfl hy1 rfl dX12_advanceToken_224 ?_
    refine V_aload_n (pc := 227) C 0 rfl dX12_advanceToken_227 ?_
    refine V_dup (pc := 228) C rfl dX12_advanceToken_228 ?_
    refine V_rng fun hM32 => ?_
    refine V_getI (pc := 229) C e52 rfl inX12 17 (by decide) rfl lf_X12_200 rfl dX12_advanceToken_229 ?_
    refine V_iconst (pc := 232) C dX12_advanceToken_232 ?_
    refine V_iadd (pc := 233) C dX12_advanceToken_233 ?_
    obtain ⟨g33, h⟩ := grd_of h
    refine V_putI (pc := 234) C (by decide) e52 rfl inX12 tyX12 tyX12_ok nmX12 17 (by decide) rfl rfl lf_X12_200 rfl g33 rfl dX12_advanceToken_234 ?_
    refine V_goto (pc := 237) C 172 dX12_advanceToken_237 (by decide) ?_
    refine V_sub (L' := [(0, vr Γ 52)]) [0] rfl (by decide) ?_
    exact hkk172 _ h
  have LP172 : ∀ (n : Nat) {M : Mem}, f_X12_advanceToken_L172 fu n M = some (M', r) → VV p l e ({ frames := 2, cells := 0, slots := 0, locals := 46 } : Room) s m args below meth c (MQ below (PostV Γ sk M' s.heap.size) args s 0 0 (Fr Γ sk s.heap.size)) 1 Γ sk M 0 0 172 [(0, vr Γ 52)] [] := by
    intro n
    induction n with
    | zero =>
      intro M h
      cases h
    | succ n ih =>
      intro M h
      rw [f_X12_advanceToken_L172] at h
      refine V_aload_n (pc := 172) C 0 rfl dX12_advanceToken_172 ?_
      refine V_aload_n (pc := 173) C 0 rfl dX12_advanceToken_173 ?_
      refine V_rng fun hM21 => ?_
      refine V_getI (pc := 174) C e52 rfl inX12 17 (by decide) rfl lf_X12_200 rfl dX12_advanceToken_174 ?_
      obtain ⟨M22, r23, hc24, h⟩ := cal_of h
      refine V_callVI (pc := 177) C (c_X12_isDigit l Γ sk hsk fu (hM21 _ _) hc24) cf_X12_isDigit lk_X12_212 ⟨rfl, rfl⟩ ⟨Nat.le_of_ble_eq_true rfl, Nat.le_of_ble_eq_true rfl⟩ e52 rfl rfl rfl (Nat.le_of_ble_eq_true rfl) ⟨Nat.zero_le _, Nat.zero_le _⟩ rfl dX12_advanceToken_177 (fun hr23 => ?_)
      refine V_if_eq (pc := 180) C 240 hr23 dX12_advanceToken_180 (by decide) (fun c180_25 => ?_) (fun c180_25 => ?_)
      · have h := ite_t h c180_25
        refine V_aload_n (pc := 240) C 0 rfl dX12_advanceToken_240 ?_
        refine V_aload_n (pc := 241) C 0 rfl dX12_advanceToken_241 ?_
        refine V_rng fun hM26 => ?_
        refine V_getI (pc := 242) C e52 rfl inX12 17 (by decide) rfl lf_X12_200 rfl dX12_advanceToken_242 ?_
        refine V_aload_n (pc := 245) C 0 rfl dX12_advanceToken_245 ?_
        refine V_getI (pc := 246) C e52 rfl inX12 16 (by decide) rfl lf_X12_203 rfl dX12_advanceToken_246 ?_
        refine V_isub (pc := 249) C dX12_advanceToken_249 ?_
        refine V_iconst (pc := 250) C dX12_advanceToken_250 ?_
        obtain ⟨g27, h⟩ := grd_of h
        refine V_icmp_le (pc := 251) C 258 g27 (by decide) dX12_advanceToken_251 (by decide) (fun c251_28 => ?_) (fun c251_28 => ?_)
        · have h := ite_t h c251_28
          refine V_iconst (pc := 258) C dX12_advanceToken_258 ?_
          refine V_putI (pc := 259) C (by decide) e52 rfl inX12 tyX12 tyX12_ok nmX12 18 (by decide) rfl rfl lf_X12_206 rfl (by decide) rfl dX12_advanceToken_259 ?_
          refine V_goto (pc := 262) C 298 dX12_advanceToken_262 (by decide) ?_
          exact V_vret (pc := 298) C hr hlk h dX12_advanceToken_298
        · have h := ite_f h c251_28
          refine V_iconst (pc := 254) C dX12_advanceToken_254 ?_
          refine V_goto (pc := 255) C 259 dX12_advanceToken_255 (by decide) ?_
          refine V_putI (pc := 259) C (by decide) e52 rfl inX12 tyX12 tyX12_ok nmX12 18 (by decide) rfl rfl lf_X12_206 rfl (by decide) rfl dX12_advanceToken_259 ?_
          refine V_goto (pc := 262) C 298 dX12_advanceToken_262 (by decide) ?_
          exact V_vret (pc := 298) C hr hlk h dX12_advanceToken_298
      · have h := ite_f h c180_25
        refine V_aload_n (pc := 183) C 0 rfl dX12_advanceToken_183 ?_
        refine V_aload_n (pc := 184) C 0 rfl dX12_advanceToken_184 ?_
        refine V_rng fun hM29 => ?_
        refine V_getI (pc := 185) C e52 rfl inX12 17 (by decide) rfl lf_X12_200 rfl dX12_advanceToken_185 ?_
        refine V_aload_n (pc := 188) C 0 rfl dX12_advanceToken_188 ?_
        refine V_getI (pc := 189) C e52 rfl inX12 16 (by decide) rfl lf_X12_203 rfl dX12_advanceToken_189 ?_
        refine V_isub (pc := 192) C dX12_advanceToken_192 ?_
        refine V_iconst (pc := 193) C dX12_advanceToken_193 ?_
        obtain ⟨g30, h⟩ := grd_of h
        refine V_icmp_ge (pc := 194) C 220 g30 (by decide) dX12_advanceToken_194 (by decide) (fun c194_31 => ?_) (fun c194_31 => ?_)
        · have h := ite_t h c194_31
          refine V_aload_n (pc := 220) C 0 rfl dX12_advanceToken_220 ?_
          refine V_getI (pc := 221) C e52 rfl inX12 19 (by decide) rfl lf_X12_215 rfl dX12_advanceToken_221 ?_
          refine V_sub (L' := [(0, vr Γ 52)]) [0] rfl (by decide) ?_
          exact JP224 _ (fun _ hz => ih hz) (hM29 _ _) h
        · have h := ite_f h c194_31
          refine V_bipush (pc := 197) C dX12_advanceToken_197 rfl ?_
          refine V_aload_n (pc := 199) C 0 rfl dX12_advanceToken_199 ?_
          refine V_getI (pc := 200) C e52 rfl inX12 19 (by decide) rfl lf_X12_215 rfl dX12_advanceToken_200 ?_
          refine V_imul (pc := 203) C dX12_advanceToken_203 ?_
          refine V_aload_n (pc := 204) C 0 rfl dX12_advanceToken_204 ?_
          refine V_getR (pc := 205) C e52 rfl inX12 12 (by decide) rfl lf_X12_35 rfl dX12_advanceToken_205 ?_
          refine V_aload_n (pc := 208) C 0 rfl dX12_advanceToken_208 ?_
          refine V_getI (pc := 209) C e52 rfl inX12 17 (by decide) rfl lf_X12_200 rfl dX12_advanceToken_209 ?_
          obtain ⟨g34, h⟩ := grd_of h
          refine V_bald (pc := 212) C e61 g34 (hM29 _ _) dX12_advanceToken_212 ?_
          refine V_iadd (pc := 213) C dX12_advanceToken_213 ?_
          refine V_bipush (pc := 214) C dX12_advanceToken_214 rfl ?_
          refine V_isub (pc := 216) C dX12_advanceToken_216 ?_
          refine V_goto (pc := 217) C 224 dX12_advanceToken_217 (by decide) ?_
          obtain ⟨g35, h⟩ := grd_of h
          refine V_sub (L' := [(0, vr Γ 52)]) [0] rfl (by decide) ?_
          exact JP224 _ (fun _ hz => ih hz) g35 h
  have LP106 : ∀ (n : Nat) {M : Mem}, f_X12_advanceToken_L106 fu n M = some (M', r) → VV p l e ({ frames := 2, cells := 0, slots := 0, locals := 46 } : Room) s m args below meth c (MQ below (PostV Γ sk M' s.heap.size) args s 0 0 (Fr Γ sk s.heap.size)) 1 Γ sk M 0 0 106 [(0, vr Γ 52)] [] := by
    intro n
    induction n with
    | zero =>
      intro M h
      cases h
    | succ n ih =>
      intro M h
      rw [f_X12_advanceToken_L106] at h
      refine V_aload_n (pc := 106) C 0 rfl dX12_advanceToken_106 ?_
      refine V_aload_n (pc := 107) C 0 rfl dX12_advanceToken_107 ?_
      refine V_rng fun hM36 => ?_
      refine V_getI (pc := 108) C e52 rfl inX12 17 (by decide) rfl lf_X12_200 rfl dX12_advanceToken_108 ?_
      obtain ⟨M37, r38, hc39, h⟩ := cal_of h
      refine V_callVI (pc := 111) C (c_X12_isLetter l Γ sk hsk fu (hM36 _ _) hc39) cf_X12_isLetter lk_X12_209 ⟨rfl, rfl⟩ ⟨Nat.le_of_ble_eq_true rfl, Nat.le_of_ble_eq_true rfl⟩ e52 rfl rfl rfl (Nat.le_of_ble_eq_true rfl) ⟨Nat.zero_le _, Nat.zero_le _⟩ rfl dX12_advanceToken_111 (fun hr38 => ?_)
      refine V_if_eq (pc := 114) C 130 hr38 dX12_advanceToken_114 (by decide) (fun c114_40 => ?_) (fun c114_40 => ?_)
      · have h := ite_t h c114_40
        refine V_aload_n (pc := 130) C 0 rfl dX12_advanceToken_130 ?_
        refine V_aload_n (pc := 131) C 0 rfl dX12_advanceToken_131 ?_
        refine V_rng fun hM41 => ?_
        refine V_getI (pc := 132) C e52 rfl inX12 17 (by decide) rfl lf_X12_200 rfl dX12_advanceToken_132 ?_
        refine V_aload_n (pc := 135) C 0 rfl dX12_advanceToken_135 ?_
        refine V_getI (pc := 136) C e52 rfl inX12 16 (by decide) rfl lf_X12_203 rfl dX12_advanceToken_136 ?_
        refine V_isub (pc := 139) C dX12_advanceToken_139 ?_
        refine V_bipush (pc := 140) C dX12_advanceToken_140 rfl ?_
        obtain ⟨g42, h⟩ := grd_of h
        refine V_icmp_le (pc := 142) C 149 g42 (by decide) dX12_advanceToken_142 (by decide) (fun c142_43 => ?_) (fun c142_43 => ?_)
        · have h := ite_t h c142_43
          refine V_iconst (pc := 149) C dX12_advanceToken_149 ?_
          refine V_putI (pc := 150) C (by decide) e52 rfl inX12 tyX12 tyX12_ok nmX12 18 (by decide) rfl rfl lf_X12_206 rfl (by decide) rfl dX12_advanceToken_150 ?_
          refine V_goto (pc := 153) C 298 dX12_advanceToken_153 (by decide) ?_
          exact V_vret (pc := 298) C hr hlk h dX12_advanceToken_298
        · have h := ite_f h c142_43
          refine V_iconst (pc := 145) C dX12_advanceToken_145 ?_
          refine V_goto (pc := 146) C 150 dX12_advanceToken_146 (by decide) ?_
          refine V_putI (pc := 150) C (by decide) e52 rfl inX12 tyX12 tyX12_ok nmX12 18 (by decide) rfl rfl lf_X12_206 rfl (by decide) rfl dX12_advanceToken_150 ?_
          refine V_goto (pc := 153) C 298 dX12_advanceToken_153 (by decide) ?_
          exact V_vret (pc := 298) C hr hlk h dX12_advanceToken_298
      · have h := ite_f h c114_40
        refine V_aload_n (pc := 117) C 0 rfl dX12_advanceToken_117 ?_
        refine V_dup (pc := 118) C rfl dX12_advanceToken_118 ?_
        refine V_rng fun hM44 => ?_
        refine V_getI (pc := 119) C e52 rfl inX12 17 (by decide) rfl lf_X12_200 rfl dX12_advanceToken_119 ?_
        refine V_iconst (pc := 122) C dX12_advanceToken_122 ?_
        refine V_iadd (pc := 123) C dX12_advanceToken_123 ?_
        obtain ⟨g45, h⟩ := grd_of h
        refine V_putI (pc := 124) C (by decide) e52 rfl inX12 tyX12 tyX12_ok nmX12 17 (by decide) rfl rfl lf_X12_200 rfl g45 rfl dX12_advanceToken_124 ?_
        refine V_goto (pc := 127) C 106 dX12_advanceToken_127 (by decide) ?_
        refine V_sub (L' := [(0, vr Γ 52)]) [0] rfl (by decide) ?_
        exact ih h
  have JP68 : ∀ {M : Mem}, f_X12_advanceToken_J68 fu M = some (M', r) → VV p l e ({ frames := 2, cells := 0, slots := 0, locals := 46 } : Room) s m args below meth c (MQ below (PostV Γ sk M' s.heap.size) args s 0 0 (Fr Γ sk s.heap.size)) 1 Γ sk M 0 0 68 [(0, vr Γ 52)] [] := by
    intro M h
    unfold f_X12_advanceToken_J68 at h
    refine V_aload_n (pc := 68) C 0 rfl dX12_advanceToken_68 ?_
    refine V_aload_n (pc := 69) C 0 rfl dX12_advanceToken_69 ?_
    refine V_rng fun hM4 => ?_
    refine V_getI (pc := 70) C e52 rfl inX12 16 (by decide) rfl lf_X12_203 rfl dX12_advanceToken_70 ?_
    refine V_putI (pc := 73) C (by decide) e52 rfl inX12 tyX12 tyX12_ok nmX12 17 (by decide) rfl rfl lf_X12_200 rfl (hM4 _ _) rfl dX12_advanceToken_73 ?_
    refine V_aload_n (pc := 76) C 0 rfl dX12_advanceToken_76 ?_
    refine V_rng fun hM5 => ?_
    refine V_getI (pc := 77) C e52 rfl inX12 16 (by decide) rfl lf_X12_203 rfl dX12_advanceToken_77 ?_
    refine V_aload_n (pc := 80) C 0 rfl dX12_advanceToken_80 ?_
    refine V_getI (pc := 81) C e52 rfl inX12 13 (by decide) rfl lf_X12_180 rfl dX12_advanceToken_81 ?_
    refine V_icmp_ne (pc := 84) C 95 (hM5 _ _) (hM5 _ _) dX12_advanceToken_84 (by decide) (fun c84_6 => ?_) (fun c84_6 => ?_)
    · have h := ite_f h c84_6
      refine V_aload_n (pc := 95) C 0 rfl dX12_advanceToken_95 ?_
      refine V_aload_n (pc := 96) C 0 rfl dX12_advanceToken_96 ?_
      refine V_getI (pc := 97) C e52 rfl inX12 16 (by decide) rfl lf_X12_203 rfl dX12_advanceToken_97 ?_
      obtain ⟨M7, r8, hc9, h⟩ := cal_of h
      refine V_callVI (pc := 100) C (c_X12_isLetter l Γ sk hsk fu (hM5 _ _) hc9) cf_X12_isLetter lk_X12_209 ⟨rfl, rfl⟩ ⟨Nat.le_of_ble_eq_true rfl, Nat.le_of_ble_eq_true rfl⟩ e52 rfl rfl rfl (Nat.le_of_ble_eq_true rfl) ⟨Nat.zero_le _, Nat.zero_le _⟩ rfl dX12_advanceToken_100 (fun hr8 => ?_)
      refine V_if_eq (pc := 103) C 156 hr8 dX12_advanceToken_103 (by decide) (fun c103_10 => ?_) (fun c103_10 => ?_)
      · have h := ite_t h c103_10
        refine V_aload_n (pc := 156) C 0 rfl dX12_advanceToken_156 ?_
        refine V_aload_n (pc := 157) C 0 rfl dX12_advanceToken_157 ?_
        refine V_rng fun hM11 => ?_
        refine V_getI (pc := 158) C e52 rfl inX12 16 (by decide) rfl lf_X12_203 rfl dX12_advanceToken_158 ?_
        obtain ⟨M12, r13, hc14, h⟩ := cal_of h
        refine V_callVI (pc := 161) C (c_X12_isDigit l Γ sk hsk fu (hM11 _ _) hc14) cf_X12_isDigit lk_X12_212 ⟨rfl, rfl⟩ ⟨Nat.le_of_ble_eq_true rfl, Nat.le_of_ble_eq_true rfl⟩ e52 rfl rfl rfl (Nat.le_of_ble_eq_true rfl) ⟨Nat.zero_le _, Nat.zero_le _⟩ rfl dX12_advanceToken_161 (fun hr13 => ?_)
        refine V_if_eq (pc := 164) C 265 hr13 dX12_advanceToken_164 (by decide) (fun c164_15 => ?_) (fun c164_15 => ?_)
        · have h := ite_t h c164_15
          refine V_aload_n (pc := 265) C 0 rfl dX12_advanceToken_265 ?_
          refine V_aload_n (pc := 266) C 0 rfl dX12_advanceToken_266 ?_
          refine V_getR (pc := 267) C e52 rfl inX12 12 (by decide) rfl lf_X12_35 rfl dX12_advanceToken_267 ?_
          refine V_aload_n (pc := 270) C 0 rfl dX12_advanceToken_270 ?_
          refine V_rng fun hM16 => ?_
          refine V_getI (pc := 271) C e52 rfl inX12 16 (by decide) rfl lf_X12_203 rfl dX12_advanceToken_271 ?_
          obtain ⟨g17, h⟩ := grd_of h
          refine V_bald (pc := 274) C e61 g17 (hM16 _ _) dX12_advanceToken_274 ?_
          refine V_bipush (pc := 275) C dX12_advanceToken_275 rfl ?_
          refine V_icmp_ne (pc := 277) C 284 (hM16 _ _) (by decide) dX12_advanceToken_277 (by decide) (fun c277_18 => ?_) (fun c277_18 => ?_)
          · have h := ite_f h c277_18
            refine V_iconst (pc := 284) C dX12_advanceToken_284 ?_
            refine V_sub (L' := [(0, vr Γ 52)]) [0] rfl (by decide) ?_
            exact JP285 (by decide) h
          · have h := ite_t h c277_18
            refine V_iconst (pc := 280) C dX12_advanceToken_280 ?_
            refine V_goto (pc := 281) C 285 dX12_advanceToken_281 (by decide) ?_
            refine V_sub (L' := [(0, vr Γ 52)]) [0] rfl (by decide) ?_
            exact JP285 (by decide) h
        · have h := ite_f h c164_15
          refine V_aload_n (pc := 167) C 0 rfl dX12_advanceToken_167 ?_
          refine V_iconst (pc := 168) C dX12_advanceToken_168 ?_
          refine V_putI (pc := 169) C (by decide) e52 rfl inX12 tyX12 tyX12_ok nmX12 19 (by decide) rfl rfl lf_X12_215 rfl (by decide) rfl dX12_advanceToken_169 ?_
          refine V_sub (L' := [(0, vr Γ 52)]) [0] rfl (by decide) ?_
          exact LP172 fu  h
      · have h := ite_f h c103_10
        refine V_sub (L' := [(0, vr Γ 52)]) [0] rfl (by decide) ?_
        exact LP106 fu  h
    · have h := ite_t h c84_6
      refine V_aload_n (pc := 87) C 0 rfl dX12_advanceToken_87 ?_
      refine V_iconst (pc := 88) C dX12_advanceToken_88 ?_
      refine V_putI (pc := 89) C (by decide) e52 rfl inX12 tyX12 tyX12_ok nmX12 18 (by decide) rfl rfl lf_X12_206 rfl (by decide) rfl dX12_advanceToken_89 ?_
      refine V_goto (pc := 92) C 298 dX12_advanceToken_92 (by decide) ?_
      exact V_vret (pc := 298) C hr hlk h dX12_advanceToken_298
  have JP55 : ∀ (k16 : Mem → Option (Mem × Int)) (_ : ∀ (M : Mem), k16 M = some (M', r) → VV p l e ({ frames := 2, cells := 0, slots := 0, locals := 46 } : Room) s m args below meth c (MQ below (PostV Γ sk M' s.heap.size) args s 0 0 (Fr Γ sk s.heap.size)) 1 Γ sk M 0 0 16 [(0, vr Γ 52)] []) {M : Mem}, f_X12_advanceToken_J55 fu k16 M = some (M', r) → VV p l e ({ frames := 2, cells := 0, slots := 0, locals := 46 } : Room) s m args below meth c (MQ below (PostV Γ sk M' s.heap.size) args s 0 0 (Fr Γ sk s.heap.size)) 1 Γ sk M 0 0 55 [(0, vr Γ 52)] [] := by
    intro k16 hkk16 M h
    unfold f_X12_advanceToken_J55 at h
    refine V_aload_n (pc := 55) C 0 rfl dX12_advanceToken_55 ?_
    refine V_dup (pc := 56) C rfl dX12_advanceToken_56 ?_
    refine V_rng fun hM48 => ?_
    refine V_getI (pc := 57) C e52 rfl inX12 16 (by decide) rfl lf_X12_203 rfl dX12_advanceToken_57 ?_
    refine V_iconst (pc := 60) C dX12_advanceToken_60 ?_
    refine V_iadd (pc := 61) C dX12_advanceToken_61 ?_
    obtain ⟨g49, h⟩ := grd_of h
    refine V_putI (pc := 62) C (by decide) e52 rfl inX12 tyX12 tyX12_ok nmX12 16 (by decide) rfl rfl lf_X12_203 rfl g49 rfl dX12_advanceToken_62 ?_
    refine V_goto (pc := 65) C 16 dX12_advanceToken_65 (by decide) ?_
    refine V_sub (L' := [(0, vr Γ 52)]) [0] rfl (by decide) ?_
    exact hkk16 _ h
  have LP16 : ∀ (n : Nat) {M : Mem}, f_X12_advanceToken_L16 fu n M = some (M', r) → VV p l e ({ frames := 2, cells := 0, slots := 0, locals := 46 } : Room) s m args below meth c (MQ below (PostV Γ sk M' s.heap.size) args s 0 0 (Fr Γ sk s.heap.size)) 1 Γ sk M 0 0 16 [(0, vr Γ 52)] [] := by
    intro n
    induction n with
    | zero =>
      intro M h
      cases h
    | succ n ih =>
      intro M h
      rw [f_X12_advanceToken_L16] at h
      refine V_aload_n (pc := 16) C 0 rfl dX12_advanceToken_16 ?_
      refine V_rng fun hM2 => ?_
      refine V_getI (pc := 17) C e52 rfl inX12 16 (by decide) rfl lf_X12_203 rfl dX12_advanceToken_17 ?_
      refine V_aload_n (pc := 20) C 0 rfl dX12_advanceToken_20 ?_
      refine V_getI (pc := 21) C e52 rfl inX12 13 (by decide) rfl lf_X12_180 rfl dX12_advanceToken_21 ?_
      refine V_icmp_ge (pc := 24) C 68 (hM2 _ _) (hM2 _ _) dX12_advanceToken_24 (by decide) (fun c24_3 => ?_) (fun c24_3 => ?_)
      · have h := ite_t h c24_3
        refine V_sub (L' := [(0, vr Γ 52)]) [0] rfl (by decide) ?_
        exact JP68 h
      · have h := ite_f h c24_3
        refine V_aload_n (pc := 27) C 0 rfl dX12_advanceToken_27 ?_
        refine V_getR (pc := 28) C e52 rfl inX12 12 (by decide) rfl lf_X12_35 rfl dX12_advanceToken_28 ?_
        refine V_aload_n (pc := 31) C 0 rfl dX12_advanceToken_31 ?_
        refine V_getI (pc := 32) C e52 rfl inX12 16 (by decide) rfl lf_X12_203 rfl dX12_advanceToken_32 ?_
        obtain ⟨g46, h⟩ := grd_of h
        refine V_bald (pc := 35) C e61 g46 (hM2 _ _) dX12_advanceToken_35 ?_
        refine V_bipush (pc := 36) C dX12_advanceToken_36 rfl ?_
        refine V_icmp_eq (pc := 38) C 55 (hM2 _ _) (by decide) dX12_advanceToken_38 (by decide) (fun c38_47 => ?_) (fun c38_47 => ?_)
        · have h := ite_t h c38_47
          refine V_sub (L' := [(0, vr Γ 52)]) [0] rfl (by decide) ?_
          exact JP55 _ (fun _ hz => ih hz) h
        · have h := ite_f h c38_47
          refine V_aload_n (pc := 41) C 0 rfl dX12_advanceToken_41 ?_
          refine V_getR (pc := 42) C e52 rfl inX12 12 (by decide) rfl lf_X12_35 rfl dX12_advanceToken_42 ?_
          refine V_aload_n (pc := 45) C 0 rfl dX12_advanceToken_45 ?_
          refine V_getI (pc := 46) C e52 rfl inX12 16 (by decide) rfl lf_X12_203 rfl dX12_advanceToken_46 ?_
          obtain ⟨g50, h⟩ := grd_of h
          refine V_bald (pc := 49) C e61 g50 (hM2 _ _) dX12_advanceToken_49 ?_
          refine V_bipush (pc := 50) C dX12_advanceToken_50 rfl ?_
          refine V_icmp_ne (pc := 52) C 68 (hM2 _ _) (by decide) dX12_advanceToken_52 (by decide) (fun c52_51 => ?_) (fun c52_51 => ?_)
          · have h := ite_f h c52_51
            refine V_sub (L' := [(0, vr Γ 52)]) [0] rfl (by decide) ?_
            exact JP68 h
          · have h := ite_t h c52_51
            refine V_sub (L' := [(0, vr Γ 52)]) [0] rfl (by decide) ?_
            exact JP55 _ (fun _ hz => ih hz) h
  skip
  refine V_aload_n (pc := 0) C 0 rfl dX12_advanceToken_0 ?_
  refine V_getI (pc := 1) C e52 rfl inX12 20 (by decide) rfl lf_X12_197 rfl dX12_advanceToken_1 ?_
  refine V_if_le (pc := 4) C 8 (hM _ _) dX12_advanceToken_4 (by decide) (fun c4_1 => ?_) (fun c4_1 => ?_)
  · have h := ite_t h c4_1
    refine V_aload_n (pc := 8) C 0 rfl dX12_advanceToken_8 ?_
    refine V_aload_n (pc := 9) C 0 rfl dX12_advanceToken_9 ?_
    refine V_getI (pc := 10) C e52 rfl inX12 17 (by decide) rfl lf_X12_200 rfl dX12_advanceToken_10 ?_
    refine V_putI (pc := 13) C (by decide) e52 rfl inX12 tyX12 tyX12_ok nmX12 16 (by decide) rfl rfl lf_X12_203 rfl (hM _ _) rfl dX12_advanceToken_13 ?_
    refine V_sub (L' := [(0, vr Γ 52)]) [0] rfl (by decide) ?_
    exact LP16 fu  h
  · have h := ite_f h c4_1
    exact V_vret (pc := 7) C hr hlk h dX12_advanceToken_7
set_option maxRecDepth 100000 in
set_option maxHeartbeats 4000000 in
theorem c_X12_expect (l : Launch) (Γ : GG) (sk : List SD) (hsk : ExtM sk) (fu : Nat) {M M' : Mem} {a1 : Int} {a2 : Int} {r : Int} (ha1 : rng a1) (ha2 : rng a2) (h : f_X12_expect fu M a1 a2 = some (M', r)) : MetV l yX12_expect cX12_expect 3 ({ frames := 0, cells := 0, slots := 0, locals := 0 } : Room) Γ sk [vr Γ 52, vi a1, vi a2] M M' := by
  unfold f_X12_expect at h
  refine MetV_of RX12 rfl (by decide) rfl (Nat.le_of_ble_eq_true rfl) rfl ?_
  intro p e s m args below meth c C hr hlk hM
  have e52 := hsk 52 _ (by decide) rfl
  refine V_aload_n (pc := 0) C 0 rfl dX12_expect_0 ?_
  refine V_getI (pc := 1) C e52 rfl inX12 20 (by decide) rfl lf_X12_197 rfl dX12_expect_1 ?_
  refine V_if_ne (pc := 4) C 24 (hM _ _) dX12_expect_4 (by decide) (fun c4_1 => ?_) (fun c4_1 => ?_)
  · have h := ite_f h c4_1
    exact V_vret (pc := 24) C hr hlk h dX12_expect_24
  · have h := ite_t h c4_1
    refine V_iload_n (pc := 7) C 1 rfl dX12_expect_7 ?_
    refine V_if_ne (pc := 8) C 24 ha1 dX12_expect_8 (by decide) (fun c8_2 => ?_) (fun c8_2 => ?_)
    · have h := ite_f h c8_2
      exact V_vret (pc := 24) C hr hlk h dX12_expect_24
    · have h := ite_t h c8_2
      refine V_aload_n (pc := 11) C 0 rfl dX12_expect_11 ?_
      refine V_iload_n (pc := 12) C 2 rfl dX12_expect_12 ?_
      refine V_putI (pc := 13) C (by decide) e52 rfl inX12 tyX12 tyX12_ok nmX12 20 (by decide) rfl rfl lf_X12_197 rfl ha2 rfl dX12_expect_13 ?_
      refine V_aload_n (pc := 16) C 0 rfl dX12_expect_16 ?_
      refine V_aload_n (pc := 17) C 0 rfl dX12_expect_17 ?_
      refine V_rng fun hM3 => ?_
      refine V_getI (pc := 18) C e52 rfl inX12 16 (by decide) rfl lf_X12_203 rfl dX12_expect_18 ?_
      refine V_putI (pc := 21) C (by decide) e52 rfl inX12 tyX12 tyX12_ok nmX12 21 (by decide) rfl rfl lf_X12_218 rfl (hM3 _ _) rfl dX12_expect_21 ?_
      exact V_vret (pc := 24) C hr hlk h dX12_expect_24
set_option maxRecDepth 100000 in
set_option maxHeartbeats 4000000 in
theorem c_X12_beginText (l : Launch) (Γ : GG) (sk : List SD) (hsk : ExtM sk) (fu : Nat) {M M' : Mem}  {r : Int}  (h : f_X12_beginText fu M  = some (M', r)) : MetV l yX12_beginText cX12_beginText 1 ({ frames := 3, cells := 0, slots := 0, locals := 66 } : Room) Γ sk [vr Γ 52] M M' := by
  unfold f_X12_beginText at h
  refine MetV_of RX12 rfl (by decide) rfl (Nat.le_of_ble_eq_true rfl) rfl ?_
  intro p e s m args below meth c C hr hlk hM
  have e52 := hsk 52 _ (by decide) rfl
  refine V_aload_n (pc := 0) C 0 rfl dX12_beginText_0 ?_
  refine V_iconst (pc := 1) C dX12_beginText_1 ?_
  refine V_putI (pc := 2) C (by decide) e52 rfl inX12 tyX12 tyX12_ok nmX12 20 (by decide) rfl rfl lf_X12_197 rfl (by decide) rfl dX12_beginText_2 ?_
  refine V_aload_n (pc := 5) C 0 rfl dX12_beginText_5 ?_
  refine V_iconst (pc := 6) C dX12_beginText_6 ?_
  refine V_putI (pc := 7) C (by decide) e52 rfl inX12 tyX12 tyX12_ok nmX12 17 (by decide) rfl rfl lf_X12_200 rfl (by decide) rfl dX12_beginText_7 ?_
  refine V_aload_n (pc := 10) C 0 rfl dX12_beginText_10 ?_
  obtain ⟨M1, r2, hc3, h⟩ := cal_of h
  refine V_callVV (pc := 11) C (c_X12_advanceToken l Γ sk hsk fu hc3) cf_X12_advanceToken lk_X12_221 ⟨rfl, rfl⟩ ⟨Nat.le_of_ble_eq_true rfl, Nat.le_of_ble_eq_true rfl⟩ e52 rfl rfl rfl (Nat.le_of_ble_eq_true rfl) ⟨Nat.zero_le _, Nat.zero_le _⟩ rfl dX12_beginText_11 ?_
  exact V_vret (pc := 14) C hr hlk h dX12_beginText_14
set_option maxRecDepth 100000 in
set_option maxHeartbeats 4000000 in
theorem c_X12_endText (l : Launch) (Γ : GG) (sk : List SD) (hsk : ExtM sk) (fu : Nat) {M M' : Mem}  {r : Int}  (h : f_X12_endText fu M  = some (M', r)) : MetV l yX12_endText cX12_endText 1 ({ frames := 0, cells := 0, slots := 0, locals := 0 } : Room) Γ sk [vr Γ 52] M M' := by
  unfold f_X12_endText at h
  refine MetV_of RX12 rfl (by decide) rfl (Nat.le_of_ble_eq_true rfl) rfl ?_
  intro p e s m args below meth c C hr hlk hM
  have e52 := hsk 52 _ (by decide) rfl
  refine V_aload_n (pc := 0) C 0 rfl dX12_endText_0 ?_
  refine V_aload_n (pc := 1) C 0 rfl dX12_endText_1 ?_
  refine V_getI (pc := 2) C e52 rfl inX12 20 (by decide) rfl lf_X12_197 rfl dX12_endText_2 ?_
  refine V_putI (pc := 5) C (by decide) e52 rfl inX12 tyX12 tyX12_ok nmX12 14 (by decide) rfl rfl lf_X12_186 rfl (hM _ _) rfl dX12_endText_5 ?_
  refine V_aload_n (pc := 8) C 0 rfl dX12_endText_8 ?_
  refine V_aload_n (pc := 9) C 0 rfl dX12_endText_9 ?_
  refine V_rng fun hM1 => ?_
  refine V_getI (pc := 10) C e52 rfl inX12 20 (by decide) rfl lf_X12_197 rfl dX12_endText_10 ?_
  refine V_if_ne (pc := 13) C 20 (hM1 _ _) dX12_endText_13 (by decide) (fun c13_2 => ?_) (fun c13_2 => ?_)
  · have h := ite_f h c13_2
    refine V_aload_n (pc := 20) C 0 rfl dX12_endText_20 ?_
    refine V_getI (pc := 21) C e52 rfl inX12 21 (by decide) rfl lf_X12_218 rfl dX12_endText_21 ?_
    refine V_putI (pc := 24) C (by decide) e52 rfl inX12 tyX12 tyX12_ok nmX12 15 (by decide) rfl rfl lf_X12_39 rfl (hM1 _ _) rfl dX12_endText_24 ?_
    refine V_aload_n (pc := 27) C 0 rfl dX12_endText_27 ?_
    refine V_iconst (pc := 28) C dX12_endText_28 ?_
    refine V_putI (pc := 29) C (by decide) e52 rfl inX12 tyX12 tyX12_ok nmX12 13 (by decide) rfl rfl lf_X12_180 rfl (by decide) rfl dX12_endText_29 ?_
    exact V_vret (pc := 32) C hr hlk h dX12_endText_32
  · have h := ite_t h c13_2
    refine V_iconst (pc := 16) C dX12_endText_16 ?_
    refine V_goto (pc := 17) C 24 dX12_endText_17 (by decide) ?_
    refine V_putI (pc := 24) C (by decide) e52 rfl inX12 tyX12 tyX12_ok nmX12 15 (by decide) rfl rfl lf_X12_39 rfl (by decide) rfl dX12_endText_24 ?_
    refine V_aload_n (pc := 27) C 0 rfl dX12_endText_27 ?_
    refine V_iconst (pc := 28) C dX12_endText_28 ?_
    refine V_putI (pc := 29) C (by decide) e52 rfl inX12 tyX12 tyX12_ok nmX12 13 (by decide) rfl rfl lf_X12_180 rfl (by decide) rfl dX12_endText_29 ?_
    exact V_vret (pc := 32) C hr hlk h dX12_endText_32
set_option maxRecDepth 100000 in
set_option maxHeartbeats 4000000 in
theorem c_X12_isWord (l : Launch) (Γ : GG) (sk : List SD) (hsk : ExtM sk) (fu : Nat) {M M' : Mem} {q1 : Nat} {r : Int} (hq1 : q1 < lensL.length) (h : f_X12_isWord fu M q1 = some (M', r)) : MetI l yX12_isWord cX12_isWord 3 .boolean ({ frames := 12, cells := 0, slots := 0, locals := 400 } : Room) Γ sk [vr Γ 52, vs Γ q1] M M' r := by
  unfold f_X12_isWord at h
  refine MetI_of RX12 rfl (by decide) rfl (Nat.le_of_ble_eq_true rfl) rfl ?_
  intro p e s m args below meth c C hr hlk hM
  have e52 := hsk 52 _ (by decide) rfl
  have e61 := hsk 61 _ (by decide) rfl
  have LP35 : ∀ (n : Nat) {x2 : Int} {M : Mem}, rng x2 → f_X12_isWord_L35 fu q1 n x2 M = some (M', r) → VV p l e ({ frames := 12, cells := 0, slots := 0, locals := 400 } : Room) s m args below meth c (MQ below (PostI Γ sk M' r s.heap.size) args s 0 0 (Fr Γ sk s.heap.size)) 3 Γ sk M 0 0 35 [(0, vr Γ 52), (1, vs Γ q1), (2, vi x2)] [] := by
    intro n
    induction n with
    | zero =>
      intro x2 M hx2 h
      cases h
    | succ n ih =>
      intro x2 M hx2 h
      rw [f_X12_isWord_L35] at h
      refine V_iload_n (pc := 35) C 2 rfl dX12_isWord_35 ?_
      refine V_aload_n (pc := 36) C 1 rfl dX12_isWord_36 ?_
      refine V_slen (pc := 37) C hq1 lk_X12_224 ⟨Nat.le_of_ble_eq_true rfl, Nat.le_of_ble_eq_true rfl⟩ ⟨Nat.zero_le _, Nat.zero_le _⟩ (Nat.le_of_ble_eq_true rfl) dX12_isWord_37 ?_
      refine V_icmp_ge (pc := 40) C 70 hx2 (slen_rng _) dX12_isWord_40 (by decide) (fun c40_5 => ?_) (fun c40_5 => ?_)
      · have h := ite_t h c40_5
        refine V_iconst (pc := 70) C dX12_isWord_70 ?_
        exact V_zret (pc := 71) C hr hlk (by decide) h dX12_isWord_71
      · have h := ite_f h c40_5
        refine V_aload_n (pc := 43) C 0 rfl dX12_isWord_43 ?_
        refine V_getR (pc := 44) C e52 rfl inX12 12 (by decide) rfl lf_X12_35 rfl dX12_isWord_44 ?_
        refine V_aload_n (pc := 47) C 0 rfl dX12_isWord_47 ?_
        refine V_rng fun hM6 => ?_
        refine V_getI (pc := 48) C e52 rfl inX12 16 (by decide) rfl lf_X12_203 rfl dX12_isWord_48 ?_
        refine V_iload_n (pc := 51) C 2 rfl dX12_isWord_51 ?_
        refine V_iadd (pc := 52) C dX12_isWord_52 ?_
        obtain ⟨g7, h⟩ := grd_of h
        obtain ⟨g8, h⟩ := grd_of h
        refine V_bald (pc := 53) C e61 g8 g7 dX12_isWord_53 ?_
        refine V_aload_n (pc := 54) C 1 rfl dX12_isWord_54 ?_
        refine V_iload_n (pc := 55) C 2 rfl dX12_isWord_55 ?_
        obtain ⟨g9, h⟩ := grd_of h
        refine V_schar (pc := 56) C hq1 g9 hx2 lk_X12_228 ⟨Nat.le_of_ble_eq_true rfl, Nat.le_of_ble_eq_true rfl⟩ ⟨Nat.zero_le _, Nat.zero_le _⟩ (Nat.le_of_ble_eq_true rfl) dX12_isWord_56 ?_
        refine V_icmp_eq (pc := 59) C 64 (hM6 _ _) (schar_rng _ _) dX12_isWord_59 (by decide) (fun c59_10 => ?_) (fun c59_10 => ?_)
        · have h := ite_t h c59_10
          refine V_iinc (pc := 64) C (L' := [(0, vr Γ 52), (1, vs Γ q1), (2, vi (x2 + (1 : Int)))]) 2 rfl rfl (by decide) dX12_isWord_64 ?_
          refine V_goto (pc := 67) C 35 dX12_isWord_67 (by decide) ?_
          obtain ⟨g11, h⟩ := grd_of h
          refine V_sub (L' := [(0, vr Γ 52), (1, vs Γ q1), (2, vi (x2 + (1 : Int)))]) [0, 1, 2] rfl (by decide) ?_
          exact ih g11 h
        · have h := ite_f h c59_10
          refine V_iconst (pc := 62) C dX12_isWord_62 ?_
          exact V_zret (pc := 63) C hr hlk (by decide) h dX12_isWord_63
  skip
  refine V_aload_n (pc := 0) C 0 rfl dX12_isWord_0 ?_
  refine V_getI (pc := 1) C e52 rfl inX12 20 (by decide) rfl lf_X12_197 rfl dX12_isWord_1 ?_
  refine V_if_gt (pc := 4) C 31 (hM _ _) dX12_isWord_4 (by decide) (fun c4_1 => ?_) (fun c4_1 => ?_)
  · have h := ite_t h c4_1
    refine V_iconst (pc := 31) C dX12_isWord_31 ?_
    exact V_zret (pc := 32) C hr hlk (by decide) h dX12_isWord_32
  · have h := ite_f h c4_1
    refine V_aload_n (pc := 7) C 0 rfl dX12_isWord_7 ?_
    refine V_getI (pc := 8) C e52 rfl inX12 18 (by decide) rfl lf_X12_206 rfl dX12_isWord_8 ?_
    refine V_iconst (pc := 11) C dX12_isWord_11 ?_
    refine V_icmp_ne (pc := 12) C 31 (hM _ _) (by decide) dX12_isWord_12 (by decide) (fun c12_2 => ?_) (fun c12_2 => ?_)
    · have h := ite_f h c12_2
      refine V_iconst (pc := 31) C dX12_isWord_31 ?_
      exact V_zret (pc := 32) C hr hlk (by decide) h dX12_isWord_32
    · have h := ite_t h c12_2
      refine V_aload_n (pc := 15) C 0 rfl dX12_isWord_15 ?_
      refine V_getI (pc := 16) C e52 rfl inX12 17 (by decide) rfl lf_X12_200 rfl dX12_isWord_16 ?_
      refine V_aload_n (pc := 19) C 0 rfl dX12_isWord_19 ?_
      refine V_getI (pc := 20) C e52 rfl inX12 16 (by decide) rfl lf_X12_203 rfl dX12_isWord_20 ?_
      refine V_isub (pc := 23) C dX12_isWord_23 ?_
      refine V_aload_n (pc := 24) C 1 rfl dX12_isWord_24 ?_
      refine V_slen (pc := 25) C hq1 lk_X12_224 ⟨Nat.le_of_ble_eq_true rfl, Nat.le_of_ble_eq_true rfl⟩ ⟨Nat.zero_le _, Nat.zero_le _⟩ (Nat.le_of_ble_eq_true rfl) dX12_isWord_25 ?_
      obtain ⟨g3, h⟩ := grd_of h
      refine V_icmp_eq (pc := 28) C 33 g3 (slen_rng _) dX12_isWord_28 (by decide) (fun c28_4 => ?_) (fun c28_4 => ?_)
      · have h := ite_t h c28_4
        refine V_iconst (pc := 33) C dX12_isWord_33 ?_
        refine V_istore_n (pc := 34) C (L' := [(0, vr Γ 52), (1, vs Γ q1), (2, vi (0 : Int))]) rfl (by decide) dX12_isWord_34 ?_
        refine V_sub (L' := [(0, vr Γ 52), (1, vs Γ q1), (2, vi (0 : Int))]) [0, 1, 2] rfl (by decide) ?_
        exact LP35 fu  (by decide) h
      · have h := ite_f h c28_4
        refine V_iconst (pc := 31) C dX12_isWord_31 ?_
        exact V_zret (pc := 32) C hr hlk (by decide) h dX12_isWord_32
set_option maxRecDepth 100000 in
set_option maxHeartbeats 4000000 in
theorem c_X12_parseNumber (l : Launch) (Γ : GG) (sk : List SD) (hsk : ExtM sk) (fu : Nat) {M M' : Mem} {a1 : Int} {a2 : Int} {r : Int} (ha1 : rng a1) (ha2 : rng a2) (h : f_X12_parseNumber fu M a1 a2 = some (M', r)) : MetI l yX12_parseNumber cX12_parseNumber 4 .int ({ frames := 3, cells := 0, slots := 0, locals := 66 } : Room) Γ sk [vr Γ 52, vi a1, vi a2] M M' r := by
  unfold f_X12_parseNumber at h
  refine MetI_of RX12 rfl (by decide) rfl (Nat.le_of_ble_eq_true rfl) rfl ?_
  intro p e s m args below meth c C hr hlk hM
  have e52 := hsk 52 _ (by decide) rfl
  have JP14 : ∀ {x1 : Int} {x2 : Int} {y1 : Int} {M : Mem}, rng x1 → rng x2 → rng y1 → f_X12_parseNumber_J14 fu x1 x2 y1 M = some (M', r) → VV p l e ({ frames := 3, cells := 0, slots := 0, locals := 66 } : Room) s m args below meth c (MQ below (PostI Γ sk M' r s.heap.size) args s 0 0 (Fr Γ sk s.heap.size)) 4 Γ sk M 0 0 14 [(0, vr Γ 52), (1, vi x1), (2, vi x2)] [vi y1, vr Γ 52] := by
    intro x1 x2 y1 M hx1 hx2 hy1 h
    unfold f_X12_parseNumber_J14 at h
    refine V_iconst (pc := 14) C dX12_parseNumber_14 ?_
    obtain ⟨M2, r3, hc4, h⟩ := cal_of h
    refine V_callVV (pc := 15) C (c_X12_expect l Γ sk hsk fu hy1 (by decide) hc4) cf_X12_expect lk_X12_232 ⟨rfl, rfl⟩ ⟨Nat.le_of_ble_eq_true rfl, Nat.le_of_ble_eq_true rfl⟩ e52 rfl rfl rfl (Nat.le_of_ble_eq_true rfl) ⟨Nat.zero_le _, Nat.zero_le _⟩ rfl dX12_parseNumber_15 ?_
    refine V_aload_n (pc := 18) C 0 rfl dX12_parseNumber_18 ?_
    refine V_aload_n (pc := 19) C 0 rfl dX12_parseNumber_19 ?_
    refine V_rng fun hM5 => ?_
    refine V_getI (pc := 20) C e52 rfl inX12 19 (by decide) rfl lf_X12_215 rfl dX12_parseNumber_20 ?_
    refine V_i2l (pc := 23) C (hM5 _ _) dX12_parseNumber_23 ?_
    refine V_iload_n (pc := 24) C 1 rfl dX12_parseNumber_24 ?_
    refine V_i2l (pc := 25) C hx1 dX12_parseNumber_25 ?_
    refine V_iload_n (pc := 26) C 2 rfl dX12_parseNumber_26 ?_
    refine V_i2l (pc := 27) C hx2 dX12_parseNumber_27 ?_
    obtain ⟨M6, r7, hc8, h⟩ := cal_of h
    refine V_callSI (pc := 28) C (c_X12_isWithin l Γ sk hsk fu (hM5 _ _) hx1 hx2 hc8) cf_X12_isWithin lk_X12_167 ⟨rfl, rfl⟩ ⟨Nat.le_of_ble_eq_true rfl, Nat.le_of_ble_eq_true rfl⟩ rfl (Nat.le_of_ble_eq_true rfl) ⟨Nat.zero_le _, Nat.zero_le _⟩ rfl dX12_parseNumber_28 (fun hr7 => ?_)
    refine V_iconst (pc := 31) C dX12_parseNumber_31 ?_
    obtain ⟨M9, r10, hc11, h⟩ := cal_of h
    refine V_callVV (pc := 32) C (c_X12_expect l Γ sk hsk fu hr7 (by decide) hc11) cf_X12_expect lk_X12_232 ⟨rfl, rfl⟩ ⟨Nat.le_of_ble_eq_true rfl, Nat.le_of_ble_eq_true rfl⟩ e52 rfl rfl rfl (Nat.le_of_ble_eq_true rfl) ⟨Nat.zero_le _, Nat.zero_le _⟩ rfl dX12_parseNumber_32 ?_
    refine V_aload_n (pc := 35) C 0 rfl dX12_parseNumber_35 ?_
    refine V_rng fun hM12 => ?_
    refine V_getI (pc := 36) C e52 rfl inX12 20 (by decide) rfl lf_X12_197 rfl dX12_parseNumber_36 ?_
    refine V_if_ne (pc := 39) C 49 (hM12 _ _) dX12_parseNumber_39 (by decide) (fun c39_13 => ?_) (fun c39_13 => ?_)
    · have h := ite_f h c39_13
      refine V_iload_n (pc := 49) C 1 rfl dX12_parseNumber_49 ?_
      refine V_istore_n (pc := 50) C (L' := [(0, vr Γ 52), (1, vi x1), (2, vi x2), (3, vi x1)]) rfl (by decide) dX12_parseNumber_50 ?_
      refine V_aload_n (pc := 51) C 0 rfl dX12_parseNumber_51 ?_
      obtain ⟨M14, r15, hc16, h⟩ := cal_of h
      refine V_callVV (pc := 52) C (c_X12_advanceToken l Γ sk hsk fu hc16) cf_X12_advanceToken lk_X12_221 ⟨rfl, rfl⟩ ⟨Nat.le_of_ble_eq_true rfl, Nat.le_of_ble_eq_true rfl⟩ e52 rfl rfl rfl (Nat.le_of_ble_eq_true rfl) ⟨Nat.zero_le _, Nat.zero_le _⟩ rfl dX12_parseNumber_52 ?_
      refine V_iload_n (pc := 55) C 3 rfl dX12_parseNumber_55 ?_
      exact V_iret (pc := 56) C hr hlk hx1 h dX12_parseNumber_56
    · have h := ite_t h c39_13
      refine V_aload_n (pc := 42) C 0 rfl dX12_parseNumber_42 ?_
      refine V_getI (pc := 43) C e52 rfl inX12 19 (by decide) rfl lf_X12_215 rfl dX12_parseNumber_43 ?_
      refine V_goto (pc := 46) C 50 dX12_parseNumber_46 (by decide) ?_
      refine V_istore_n (pc := 50) C (L' := [(0, vr Γ 52), (1, vi x1), (2, vi x2), (3, vi (M9 52 19))]) rfl (by decide) dX12_parseNumber_50 ?_
      refine V_aload_n (pc := 51) C 0 rfl dX12_parseNumber_51 ?_
      obtain ⟨M17, r18, hc19, h⟩ := cal_of h
      refine V_callVV (pc := 52) C (c_X12_advanceToken l Γ sk hsk fu hc19) cf_X12_advanceToken lk_X12_221 ⟨rfl, rfl⟩ ⟨Nat.le_of_ble_eq_true rfl, Nat.le_of_ble_eq_true rfl⟩ e52 rfl rfl rfl (Nat.le_of_ble_eq_true rfl) ⟨Nat.zero_le _, Nat.zero_le _⟩ rfl dX12_parseNumber_52 ?_
      refine V_iload_n (pc := 55) C 3 rfl dX12_parseNumber_55 ?_
      exact V_iret (pc := 56) C hr hlk (hM12 _ _) h dX12_parseNumber_56
  skip
  refine V_aload_n (pc := 0) C 0 rfl dX12_parseNumber_0 ?_
  refine V_aload_n (pc := 1) C 0 rfl dX12_parseNumber_1 ?_
  refine V_getI (pc := 2) C e52 rfl inX12 18 (by decide) rfl lf_X12_206 rfl dX12_parseNumber_2 ?_
  refine V_iconst (pc := 5) C dX12_parseNumber_5 ?_
  refine V_icmp_ne (pc := 6) C 13 (hM _ _) (by decide) dX12_parseNumber_6 (by decide) (fun c6_1 => ?_) (fun c6_1 => ?_)
  · have h := ite_f h c6_1
    refine V_iconst (pc := 13) C dX12_parseNumber_13 ?_
    refine V_sub (L' := [(0, vr Γ 52), (1, vi a1), (2, vi a2)]) [0, 1, 2] rfl (by decide) ?_
    exact JP14 ha1 ha2 (by decide) h
  · have h := ite_t h c6_1
    refine V_iconst (pc := 9) C dX12_parseNumber_9 ?_
    refine V_goto (pc := 10) C 14 dX12_parseNumber_10 (by decide) ?_
    refine V_sub (L' := [(0, vr Γ 52), (1, vi a1), (2, vi a2)]) [0, 1, 2] rfl (by decide) ?_
    exact JP14 ha1 ha2 (by decide) h
set_option maxRecDepth 100000 in
set_option maxHeartbeats 4000000 in
theorem c_X12_parseSemicolon (l : Launch) (Γ : GG) (sk : List SD) (hsk : ExtM sk) (fu : Nat) {M M' : Mem}  {r : Int}  (h : f_X12_parseSemicolon fu M  = some (M', r)) : MetV l yX12_parseSemicolon cX12_parseSemicolon 1 ({ frames := 3, cells := 0, slots := 0, locals := 66 } : Room) Γ sk [vr Γ 52] M M' := by
  unfold f_X12_parseSemicolon at h
  refine MetV_of RX12 rfl (by decide) rfl (Nat.le_of_ble_eq_true rfl) rfl ?_
  intro p e s m args below meth c C hr hlk hM
  have e52 := hsk 52 _ (by decide) rfl
  refine V_aload_n (pc := 0) C 0 rfl dX12_parseSemicolon_0 ?_
  refine V_aload_n (pc := 1) C 0 rfl dX12_parseSemicolon_1 ?_
  refine V_getI (pc := 2) C e52 rfl inX12 18 (by decide) rfl lf_X12_206 rfl dX12_parseSemicolon_2 ?_
  refine V_iconst (pc := 5) C dX12_parseSemicolon_5 ?_
  refine V_icmp_ne (pc := 6) C 13 (hM _ _) (by decide) dX12_parseSemicolon_6 (by decide) (fun c6_1 => ?_) (fun c6_1 => ?_)
  · have h := ite_f h c6_1
    refine V_iconst (pc := 13) C dX12_parseSemicolon_13 ?_
    refine V_iconst (pc := 14) C dX12_parseSemicolon_14 ?_
    obtain ⟨M2, r3, hc4, h⟩ := cal_of h
    refine V_callVV (pc := 15) C (c_X12_expect l Γ sk hsk fu (by decide) (by decide) hc4) cf_X12_expect lk_X12_232 ⟨rfl, rfl⟩ ⟨Nat.le_of_ble_eq_true rfl, Nat.le_of_ble_eq_true rfl⟩ e52 rfl rfl rfl (Nat.le_of_ble_eq_true rfl) ⟨Nat.zero_le _, Nat.zero_le _⟩ rfl dX12_parseSemicolon_15 ?_
    refine V_aload_n (pc := 18) C 0 rfl dX12_parseSemicolon_18 ?_
    obtain ⟨M5, r6, hc7, h⟩ := cal_of h
    refine V_callVV (pc := 19) C (c_X12_advanceToken l Γ sk hsk fu hc7) cf_X12_advanceToken lk_X12_221 ⟨rfl, rfl⟩ ⟨Nat.le_of_ble_eq_true rfl, Nat.le_of_ble_eq_true rfl⟩ e52 rfl rfl rfl (Nat.le_of_ble_eq_true rfl) ⟨Nat.zero_le _, Nat.zero_le _⟩ rfl dX12_parseSemicolon_19 ?_
    exact V_vret (pc := 22) C hr hlk h dX12_parseSemicolon_22
  · have h := ite_t h c6_1
    refine V_iconst (pc := 9) C dX12_parseSemicolon_9 ?_
    refine V_goto (pc := 10) C 14 dX12_parseSemicolon_10 (by decide) ?_
    refine V_iconst (pc := 14) C dX12_parseSemicolon_14 ?_
    obtain ⟨M8, r9, hc10, h⟩ := cal_of h
    refine V_callVV (pc := 15) C (c_X12_expect l Γ sk hsk fu (by decide) (by decide) hc10) cf_X12_expect lk_X12_232 ⟨rfl, rfl⟩ ⟨Nat.le_of_ble_eq_true rfl, Nat.le_of_ble_eq_true rfl⟩ e52 rfl rfl rfl (Nat.le_of_ble_eq_true rfl) ⟨Nat.zero_le _, Nat.zero_le _⟩ rfl dX12_parseSemicolon_15 ?_
    refine V_aload_n (pc := 18) C 0 rfl dX12_parseSemicolon_18 ?_
    obtain ⟨M11, r12, hc13, h⟩ := cal_of h
    refine V_callVV (pc := 19) C (c_X12_advanceToken l Γ sk hsk fu hc13) cf_X12_advanceToken lk_X12_221 ⟨rfl, rfl⟩ ⟨Nat.le_of_ble_eq_true rfl, Nat.le_of_ble_eq_true rfl⟩ e52 rfl rfl rfl (Nat.le_of_ble_eq_true rfl) ⟨Nat.zero_le _, Nat.zero_le _⟩ rfl dX12_parseSemicolon_19 ?_
    exact V_vret (pc := 22) C hr hlk h dX12_parseSemicolon_22
set_option maxRecDepth 100000 in
set_option maxHeartbeats 4000000 in
theorem c_X12_parseValue (l : Launch) (Γ : GG) (sk : List SD) (hsk : ExtM sk) (fu : Nat) {M M' : Mem} {a1 : Int} {r : Int} (ha1 : rng a1) (h : f_X12_parseValue fu M a1 = some (M', r)) : MetI l yX12_parseValue cX12_parseValue 4 .int ({ frames := 13, cells := 0, slots := 0, locals := 422 } : Room) Γ sk [vr Γ 52, vi a1] M M' r := by
  unfold f_X12_parseValue at h
  refine MetI_of RX12 rfl (by decide) rfl (Nat.le_of_ble_eq_true rfl) rfl ?_
  intro p e s m args below meth c C hr hlk hM
  have e52 := hsk 52 _ (by decide) rfl
  have JP43 : ∀ {x2 : Int} {M : Mem}, rng x2 → f_X12_parseValue_J43 fu x2 M = some (M', r) → VV p l e ({ frames := 13, cells := 0, slots := 0, locals := 422 } : Room) s m args below meth c (MQ below (PostI Γ sk M' r s.heap.size) args s 0 0 (Fr Γ sk s.heap.size)) 4 Γ sk M 0 0 43 [(0, vr Γ 52), (2, vi x2)] [] := by
    intro x2 M hx2 h
    unfold f_X12_parseValue_J43 at h
    refine V_aload_n (pc := 43) C 0 rfl dX12_parseValue_43 ?_
    refine V_iconst (pc := 44) C dX12_parseValue_44 ?_
    refine V_sipush (pc := 45) C dX12_parseValue_45 rfl ?_
    obtain ⟨M12, r13, hc14, h⟩ := cal_of h
    refine V_callVI (pc := 48) C (c_X12_parseNumber l Γ sk hsk fu (by decide) (by decide) hc14) cf_X12_parseNumber lk_X12_242 ⟨rfl, rfl⟩ ⟨Nat.le_of_ble_eq_true rfl, Nat.le_of_ble_eq_true rfl⟩ e52 rfl rfl rfl (Nat.le_of_ble_eq_true rfl) ⟨Nat.zero_le _, Nat.zero_le _⟩ rfl dX12_parseValue_48 (fun hr13 => ?_)
    refine V_istore_n (pc := 51) C (L' := [(0, vr Γ 52), (2, vi x2), (3, vi r13)]) rfl (by decide) dX12_parseValue_51 ?_
    refine V_iload_n (pc := 52) C 1 rfl dX12_parseValue_52 ?_
    refine V_if_eq (pc := 53) C 61 hx2 dX12_parseValue_53 (by decide) (fun c53_15 => ?_) (fun c53_15 => ?_)
    · have h := ite_t h c53_15
      refine V_iload_n (pc := 61) C 2 rfl dX12_parseValue_61 ?_
      exact V_iret (pc := 62) C hr hlk hr13 h dX12_parseValue_62
    · have h := ite_f h c53_15
      refine V_iload_n (pc := 56) C 2 rfl dX12_parseValue_56 ?_
      refine V_ineg (pc := 57) C dX12_parseValue_57 ?_
      refine V_goto (pc := 58) C 62 dX12_parseValue_58 (by decide) ?_
      obtain ⟨g16, h⟩ := grd_of h
      exact V_iret (pc := 62) C hr hlk g16 h dX12_parseValue_62
  have JP25 : ∀ {x1 : Int} {x2 : Int} {y1 : Int} {M : Mem}, rng x1 → rng x2 → rng y1 → f_X12_parseValue_J25 fu x1 x2 y1 M = some (M', r) → VV p l e ({ frames := 13, cells := 0, slots := 0, locals := 422 } : Room) s m args below meth c (MQ below (PostI Γ sk M' r s.heap.size) args s 0 0 (Fr Γ sk s.heap.size)) 4 Γ sk M 0 0 25 [(0, vr Γ 52), (1, vi x1), (2, vi x2)] [vi y1, vr Γ 52] := by
    intro x1 x2 y1 M hx1 hx2 hy1 h
    unfold f_X12_parseValue_J25 at h
    refine V_iconst (pc := 25) C dX12_parseValue_25 ?_
    obtain ⟨M5, r6, hc7, h⟩ := cal_of h
    refine V_callVV (pc := 26) C (c_X12_expect l Γ sk hsk fu hy1 (by decide) hc7) cf_X12_expect lk_X12_232 ⟨rfl, rfl⟩ ⟨Nat.le_of_ble_eq_true rfl, Nat.le_of_ble_eq_true rfl⟩ e52 rfl rfl rfl (Nat.le_of_ble_eq_true rfl) ⟨Nat.zero_le _, Nat.zero_le _⟩ rfl dX12_parseValue_26 ?_
    refine V_aload_n (pc := 29) C 0 rfl dX12_parseValue_29 ?_
    refine V_iload_n (pc := 30) C 1 rfl dX12_parseValue_30 ?_
    refine V_iconst (pc := 31) C dX12_parseValue_31 ?_
    obtain ⟨M8, r9, hc10, h⟩ := cal_of h
    refine V_callVV (pc := 32) C (c_X12_expect l Γ sk hsk fu hx1 (by decide) hc10) cf_X12_expect lk_X12_232 ⟨rfl, rfl⟩ ⟨Nat.le_of_ble_eq_true rfl, Nat.le_of_ble_eq_true rfl⟩ e52 rfl rfl rfl (Nat.le_of_ble_eq_true rfl) ⟨Nat.zero_le _, Nat.zero_le _⟩ rfl dX12_parseValue_32 ?_
    refine V_iload_n (pc := 35) C 2 rfl dX12_parseValue_35 ?_
    refine V_if_eq (pc := 36) C 43 hx2 dX12_parseValue_36 (by decide) (fun c36_11 => ?_) (fun c36_11 => ?_)
    · have h := ite_t h c36_11
      refine V_sub (L' := [(0, vr Γ 52), (2, vi x2)]) [0, 2] rfl (by decide) ?_
      exact JP43 hx2 h
    · have h := ite_f h c36_11
      refine V_aload_n (pc := 39) C 0 rfl dX12_parseValue_39 ?_
      obtain ⟨M17, r18, hc19, h⟩ := cal_of h
      refine V_callVV (pc := 40) C (c_X12_advanceToken l Γ sk hsk fu hc19) cf_X12_advanceToken lk_X12_221 ⟨rfl, rfl⟩ ⟨Nat.le_of_ble_eq_true rfl, Nat.le_of_ble_eq_true rfl⟩ e52 rfl rfl rfl (Nat.le_of_ble_eq_true rfl) ⟨Nat.zero_le _, Nat.zero_le _⟩ rfl dX12_parseValue_40 ?_
      refine V_sub (L' := [(0, vr Γ 52), (2, vi x2)]) [0, 2] rfl (by decide) ?_
      exact JP43 hx2 h
  have JP20 : ∀ {x1 : Int} {x2 : Int} {M : Mem}, rng x1 → rng x2 → f_X12_parseValue_J20 fu x1 x2 M = some (M', r) → VV p l e ({ frames := 13, cells := 0, slots := 0, locals := 422 } : Room) s m args below meth c (MQ below (PostI Γ sk M' r s.heap.size) args s 0 0 (Fr Γ sk s.heap.size)) 4 Γ sk M 0 0 20 [(0, vr Γ 52), (1, vi x1), (2, vi x2)] [vr Γ 52] := by
    intro x1 x2 M hx1 hx2 h
    unfold f_X12_parseValue_J20 at h
    refine V_iconst (pc := 20) C dX12_parseValue_20 ?_
    refine V_goto (pc := 21) C 25 dX12_parseValue_21 (by decide) ?_
    refine V_sub (L' := [(0, vr Γ 52), (1, vi x1), (2, vi x2)]) [0, 1, 2] rfl (by decide) ?_
    exact JP25 hx1 hx2 (by decide) h
  skip
  refine V_aload_n (pc := 0) C 0 rfl dX12_parseValue_0 ?_
  refine V_ldcS (pc := 1) C (q := 1) (C.2.2.2.2.2.2.2.2.2.2.2.1 _ (List.mem_of_getElem? (i := 13) (by decide +kernel) : (RX12, 236, "minus", 1) ∈ strL)) dX12_parseValue_1 ?_
  obtain ⟨M1, r2, hc3, h⟩ := cal_of h
  refine V_callVI (pc := 3) C (c_X12_isWord l Γ sk hsk fu (by decide) hc3) cf_X12_isWord lk_X12_238 ⟨rfl, rfl⟩ ⟨Nat.le_of_ble_eq_true rfl, Nat.le_of_ble_eq_true rfl⟩ e52 rfl rfl rfl (Nat.le_of_ble_eq_true rfl) ⟨Nat.zero_le _, Nat.zero_le _⟩ rfl dX12_parseValue_3 (fun hr2 => ?_)
  refine V_istore_n (pc := 6) C (L' := [(0, vr Γ 52), (1, vi a1), (2, vi r2)]) rfl (by decide) dX12_parseValue_6 ?_
  refine V_aload_n (pc := 7) C 0 rfl dX12_parseValue_7 ?_
  refine V_iload_n (pc := 8) C 2 rfl dX12_parseValue_8 ?_
  refine V_if_ne (pc := 9) C 20 hr2 dX12_parseValue_9 (by decide) (fun c9_4 => ?_) (fun c9_4 => ?_)
  · have h := ite_f h c9_4
    refine V_sub (L' := [(0, vr Γ 52), (1, vi a1), (2, vi r2)]) [0, 1, 2] rfl (by decide) ?_
    exact JP20 ha1 hr2 h
  · have h := ite_t h c9_4
    refine V_aload_n (pc := 12) C 0 rfl dX12_parseValue_12 ?_
    refine V_rng fun hM20 => ?_
    refine V_getI (pc := 13) C e52 rfl inX12 18 (by decide) rfl lf_X12_206 rfl dX12_parseValue_13 ?_
    refine V_iconst (pc := 16) C dX12_parseValue_16 ?_
    refine V_icmp_ne (pc := 17) C 24 (hM20 _ _) (by decide) dX12_parseValue_17 (by decide) (fun c17_21 => ?_) (fun c17_21 => ?_)
    · have h := ite_f h c17_21
      refine V_iconst (pc := 24) C dX12_parseValue_24 ?_
      refine V_sub (L' := [(0, vr Γ 52), (1, vi a1), (2, vi r2)]) [0, 1, 2] rfl (by decide) ?_
      exact JP25 ha1 hr2 (by decide) h
    · have h := ite_t h c17_21
      refine V_sub (L' := [(0, vr Γ 52), (1, vi a1), (2, vi r2)]) [0, 1, 2] rfl (by decide) ?_
      exact JP20 ha1 hr2 h
set_option maxRecDepth 100000 in
set_option maxHeartbeats 4000000 in
theorem c_X12_parseList (l : Launch) (Γ : GG) (sk : List SD) (hsk : ExtM sk) (fu : Nat) {M M' : Mem}  {r : Int}  (h : f_X12_parseList fu M  = some (M', r)) : MetV l yX12_parseList cX12_parseList 2 ({ frames := 14, cells := 0, slots := 0, locals := 445 } : Room) Γ sk [vr Γ 52] M M' := by
  unfold f_X12_parseList at h
  refine MetV_of RX12 rfl (by decide) rfl (Nat.le_of_ble_eq_true rfl) rfl ?_
  intro p e s m args below meth c C hr hlk hM
  have e52 := hsk 52 _ (by decide) rfl
  have e58 := hsk 58 _ (by decide) rfl
  have JP45 : ∀ (k15 : Mem → Option (Mem × Int)) (_ : ∀ (M : Mem), k15 M = some (M', r) → VV p l e ({ frames := 14, cells := 0, slots := 0, locals := 445 } : Room) s m args below meth c (MQ below (PostV Γ sk M' s.heap.size) args s 0 0 (Fr Γ sk s.heap.size)) 2 Γ sk M 0 0 15 [(0, vr Γ 52)] []) {y1 : Int} {M : Mem}, rng y1 → f_X12_parseList_J45 fu k15 y1 M = some (M', r) → VV p l e ({ frames := 14, cells := 0, slots := 0, locals := 445 } : Room) s m args below meth c (MQ below (PostV Γ sk M' s.heap.size) args s 0 0 (Fr Γ sk s.heap.size)) 2 Γ sk M 0 0 45 [(0, vr Γ 52)] [vi y1, vr Γ 52] := by
    intro k15 hkk15 y1 M hy1 h
    unfold f_X12_parseList_J45 at h
    obtain ⟨M20, r21, hc22, h⟩ := cal_of h
    refine V_callVI (pc := 45) C (c_X12_parseValue l Γ sk hsk fu hy1 hc22) cf_X12_parseValue lk_X12_247 ⟨rfl, rfl⟩ ⟨Nat.le_of_ble_eq_true rfl, Nat.le_of_ble_eq_true rfl⟩ e52 rfl rfl rfl (Nat.le_of_ble_eq_true rfl) ⟨Nat.zero_le _, Nat.zero_le _⟩ rfl dX12_parseList_45 (fun hr21 => ?_)
    refine V_istore_n (pc := 48) C (L' := [(0, vr Γ 52), (1, vi r21)]) rfl (by decide) dX12_parseList_48 ?_
    refine V_aload_n (pc := 49) C 0 rfl dX12_parseList_49 ?_
    refine V_rng fun hM23 => ?_
    refine V_getI (pc := 50) C e52 rfl inX12 20 (by decide) rfl lf_X12_197 rfl dX12_parseList_50 ?_
    refine V_if_ne (pc := 53) C 76 (hM23 _ _) dX12_parseList_53 (by decide) (fun c53_24 => ?_) (fun c53_24 => ?_)
    · have h := ite_f h c53_24
      refine V_goto (pc := 76) C 15 dX12_parseList_76 (by decide) ?_
      refine V_sub (L' := [(0, vr Γ 52)]) [0] rfl (by decide) ?_
      exact hkk15 _ h
    · have h := ite_t h c53_24
      refine V_aload_n (pc := 56) C 0 rfl dX12_parseList_56 ?_
      refine V_getR (pc := 57) C e52 rfl inX12 8 (by decide) rfl lf_X12_26 rfl dX12_parseList_57 ?_
      refine V_aload_n (pc := 60) C 0 rfl dX12_parseList_60 ?_
      refine V_getI (pc := 61) C e52 rfl inX12 9 (by decide) rfl lf_X12_52 rfl dX12_parseList_61 ?_
      refine V_iload_n (pc := 64) C 1 rfl dX12_parseList_64 ?_
      obtain ⟨g25, h⟩ := grd_of h
      refine V_iast (pc := 65) C (by decide) e58 g25 (hM23 _ _) hr21 dX12_parseList_65 ?_
      refine V_aload_n (pc := 66) C 0 rfl dX12_parseList_66 ?_
      refine V_dup (pc := 67) C rfl dX12_parseList_67 ?_
      refine V_rng fun hM26 => ?_
      refine V_getI (pc := 68) C e52 rfl inX12 9 (by decide) rfl lf_X12_52 rfl dX12_parseList_68 ?_
      refine V_iconst (pc := 71) C dX12_parseList_71 ?_
      refine V_iadd (pc := 72) C dX12_parseList_72 ?_
      obtain ⟨g27, h⟩ := grd_of h
      refine V_putI (pc := 73) C (by decide) e52 rfl inX12 tyX12 tyX12_ok nmX12 9 (by decide) rfl rfl lf_X12_52 rfl g27 rfl dX12_parseList_73 ?_
      refine V_goto (pc := 76) C 15 dX12_parseList_76 (by decide) ?_
      refine V_sub (L' := [(0, vr Γ 52)]) [0] rfl (by decide) ?_
      exact hkk15 _ h
  have LP15 : ∀ (n : Nat) {M : Mem}, f_X12_parseList_L15 fu n M = some (M', r) → VV p l e ({ frames := 14, cells := 0, slots := 0, locals := 445 } : Room) s m args below meth c (MQ below (PostV Γ sk M' s.heap.size) args s 0 0 (Fr Γ sk s.heap.size)) 2 Γ sk M 0 0 15 [(0, vr Γ 52)] [] := by
    intro n
    induction n with
    | zero =>
      intro M h
      cases h
    | succ n ih =>
      intro M h
      rw [f_X12_parseList_L15] at h
      refine V_aload_n (pc := 15) C 0 rfl dX12_parseList_15 ?_
      refine V_rng fun hM10 => ?_
      refine V_getI (pc := 16) C e52 rfl inX12 20 (by decide) rfl lf_X12_197 rfl dX12_parseList_16 ?_
      refine V_if_ne (pc := 19) C 79 (hM10 _ _) dX12_parseList_19 (by decide) (fun c19_11 => ?_) (fun c19_11 => ?_)
      · have h := ite_f h c19_11
        refine V_aload_n (pc := 79) C 0 rfl dX12_parseList_79 ?_
        obtain ⟨M12, r13, hc14, h⟩ := cal_of h
        refine V_callVV (pc := 80) C (c_X12_parseSemicolon l Γ sk hsk fu hc14) cf_X12_parseSemicolon lk_X12_250 ⟨rfl, rfl⟩ ⟨Nat.le_of_ble_eq_true rfl, Nat.le_of_ble_eq_true rfl⟩ e52 rfl rfl rfl (Nat.le_of_ble_eq_true rfl) ⟨Nat.zero_le _, Nat.zero_le _⟩ rfl dX12_parseList_80 ?_
        exact V_vret (pc := 83) C hr hlk h dX12_parseList_83
      · have h := ite_t h c19_11
        refine V_aload_n (pc := 22) C 0 rfl dX12_parseList_22 ?_
        refine V_getI (pc := 23) C e52 rfl inX12 18 (by decide) rfl lf_X12_206 rfl dX12_parseList_23 ?_
        refine V_iconst (pc := 26) C dX12_parseList_26 ?_
        refine V_icmp_eq (pc := 27) C 79 (hM10 _ _) (by decide) dX12_parseList_27 (by decide) (fun c27_15 => ?_) (fun c27_15 => ?_)
        · have h := ite_t h c27_15
          refine V_aload_n (pc := 79) C 0 rfl dX12_parseList_79 ?_
          obtain ⟨M16, r17, hc18, h⟩ := cal_of h
          refine V_callVV (pc := 80) C (c_X12_parseSemicolon l Γ sk hsk fu hc18) cf_X12_parseSemicolon lk_X12_250 ⟨rfl, rfl⟩ ⟨Nat.le_of_ble_eq_true rfl, Nat.le_of_ble_eq_true rfl⟩ e52 rfl rfl rfl (Nat.le_of_ble_eq_true rfl) ⟨Nat.zero_le _, Nat.zero_le _⟩ rfl dX12_parseList_80 ?_
          exact V_vret (pc := 83) C hr hlk h dX12_parseList_83
        · have h := ite_f h c27_15
          refine V_aload_n (pc := 30) C 0 rfl dX12_parseList_30 ?_
          refine V_aload_n (pc := 31) C 0 rfl dX12_parseList_31 ?_
          refine V_getI (pc := 32) C e52 rfl inX12 9 (by decide) rfl lf_X12_52 rfl dX12_parseList_32 ?_
          refine V_bipush (pc := 35) C dX12_parseList_35 rfl ?_
          refine V_icmp_ge (pc := 37) C 44 (hM10 _ _) (by decide) dX12_parseList_37 (by decide) (fun c37_19 => ?_) (fun c37_19 => ?_)
          · have h := ite_t h c37_19
            refine V_iconst (pc := 44) C dX12_parseList_44 ?_
            refine V_sub (L' := [(0, vr Γ 52)]) [0] rfl (by decide) ?_
            exact JP45 _ (fun _ hz => ih hz) (by decide) h
          · have h := ite_f h c37_19
            refine V_iconst (pc := 40) C dX12_parseList_40 ?_
            refine V_goto (pc := 41) C 45 dX12_parseList_41 (by decide) ?_
            refine V_sub (L' := [(0, vr Γ 52)]) [0] rfl (by decide) ?_
            exact JP45 _ (fun _ hz => ih hz) (by decide) h
  skip
  refine V_aload_n (pc := 0) C 0 rfl dX12_parseList_0 ?_
  refine V_aload_n (pc := 1) C 0 rfl dX12_parseList_1 ?_
  refine V_ldcS (pc := 2) C (q := 0) (C.2.2.2.2.2.2.2.2.2.2.2.1 _ (List.mem_of_getElem? (i := 12) (by decide +kernel) : (RX12, 245, "list", 0) ∈ strL)) dX12_parseList_2 ?_
  obtain ⟨M1, r2, hc3, h⟩ := cal_of h
  refine V_callVI (pc := 4) C (c_X12_isWord l Γ sk hsk fu (by decide) hc3) cf_X12_isWord lk_X12_238 ⟨rfl, rfl⟩ ⟨Nat.le_of_ble_eq_true rfl, Nat.le_of_ble_eq_true rfl⟩ e52 rfl rfl rfl (Nat.le_of_ble_eq_true rfl) ⟨Nat.zero_le _, Nat.zero_le _⟩ rfl dX12_parseList_4 (fun hr2 => ?_)
  refine V_iconst (pc := 7) C dX12_parseList_7 ?_
  obtain ⟨M4, r5, hc6, h⟩ := cal_of h
  refine V_callVV (pc := 8) C (c_X12_expect l Γ sk hsk fu hr2 (by decide) hc6) cf_X12_expect lk_X12_232 ⟨rfl, rfl⟩ ⟨Nat.le_of_ble_eq_true rfl, Nat.le_of_ble_eq_true rfl⟩ e52 rfl rfl rfl (Nat.le_of_ble_eq_true rfl) ⟨Nat.zero_le _, Nat.zero_le _⟩ rfl dX12_parseList_8 ?_
  refine V_aload_n (pc := 11) C 0 rfl dX12_parseList_11 ?_
  obtain ⟨M7, r8, hc9, h⟩ := cal_of h
  refine V_callVV (pc := 12) C (c_X12_advanceToken l Γ sk hsk fu hc9) cf_X12_advanceToken lk_X12_221 ⟨rfl, rfl⟩ ⟨Nat.le_of_ble_eq_true rfl, Nat.le_of_ble_eq_true rfl⟩ e52 rfl rfl rfl (Nat.le_of_ble_eq_true rfl) ⟨Nat.zero_le _, Nat.zero_le _⟩ rfl dX12_parseList_12 ?_
  refine V_sub (L' := [(0, vr Γ 52)]) [0] rfl (by decide) ?_
  exact LP15 fu  h
