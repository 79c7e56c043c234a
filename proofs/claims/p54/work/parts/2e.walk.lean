set_option maxRecDepth 100000 in
set_option maxHeartbeats 4000000 in
theorem c_X0_nodePasses (l : Launch) (Γ : GG) (sk : List SD) (hsk : Ext sk) (fu : Nat) : ∀ (d : Nat) {M M' : Mem} {a1 : Int} {a2 : Int} {a3 : Int} {r : Int} (ha1 : rng a1) (ha2 : rng a2) (ha3 : rng a3) (h : f_X0_nodePasses fu d M a1 a2 a3 = some (M', r)), MetI l yX0_nodePasses cX0_nodePasses 6 .boolean ({ frames := 3 * (d + 1), cells := 0, slots := 0, locals := 103 * (d + 1) } : Room) Γ sk [vr Γ 36, vi a1, vi a2, vi a3] M M' r := by
  intro d
  induction d with
  | zero =>
    intro M M' a1 a2 a3 r ha1 ha2 ha3 h
    cases h
  | succ d hsf =>
    intro M M' a1 a2 a3 r ha1 ha2 ha3 h
    rw [f_X0_nodePasses] at h
    refine MetI_of RX0 rfl (by decide) rfl (Nat.le_of_ble_eq_true rfl) rfl ?_
    intro p e s m args below meth c C hr hlk hM
    have e4 := hsk 4 _ (by decide) rfl
    have e5 := hsk 5 _ (by decide) rfl
    have e36 := hsk 36 _ (by decide) rfl
    generalize hsfe : f_X0_nodePasses fu d = sf at h hsf
    have JP111 : ∀ (k65 : Int → Int → Int → Int → Int → Mem → Option (Mem × Int)) (_ : ∀ (x1 : Int) (x2 : Int) (x3 : Int) (x4 : Int) (x5 : Int) (M : Mem), rng x1 → rng x2 → rng x3 → rng x4 → rng x5 → k65 x1 x2 x3 x4 x5 M = some (M', r) → VV p l e ({ frames := 3 * (d + 1 + 1), cells := 0, slots := 0, locals := 103 * (d + 1 + 1) } : Room) s m args below meth c (MQ below (PostI Γ sk M' r s.heap.size) args s 0 0 (Fr Γ sk s.heap.size)) 6 Γ sk M 0 0 65 [(0, vr Γ 36), (1, vi x1), (2, vi x2), (3, vi x3), (4, vi x4), (5, vi x5)] []) {x1 : Int} {x2 : Int} {x3 : Int} {x4 : Int} {x5 : Int} {y1 : Int} {y2 : Int} {M : Mem}, rng x1 → rng x2 → rng x3 → rng x4 → rng x5 → rng y1 → rng y2 → f_X0_nodePasses_J111 fu sf k65 x1 x2 x3 x4 x5 y1 y2 M = some (M', r) → VV p l e ({ frames := 3 * (d + 1 + 1), cells := 0, slots := 0, locals := 103 * (d + 1 + 1) } : Room) s m args below meth c (MQ below (PostI Γ sk M' r s.heap.size) args s 0 0 (Fr Γ sk s.heap.size)) 6 Γ sk M 0 0 111 [(0, vr Γ 36), (1, vi x1), (2, vi x2), (3, vi x3), (4, vi x4), (5, vi x5)] [vi y2, vi y1, vr Γ 36] := by
      intro k65 hkk65 x1 x2 x3 x4 x5 y1 y2 M hx1 hx2 hx3 hx4 hx5 hy1 hy2 h
      unfold f_X0_nodePasses_J111 at h
      refine V_iconst (pc := 111) C dX0_nodePasses_111 ?_
      obtain ⟨M20, r21, hc22, h⟩ := cal_of h
      refine V_callVI (pc := 112) C (hsf hy1 hy2 (by decide) hc22) cf_X0_nodePasses lk_X0_69 ⟨rfl, rfl⟩ ⟨by dsimp only; omega, by dsimp only; omega⟩ e36 rfl rfl rfl (Nat.le_of_ble_eq_true rfl) ⟨Nat.zero_le _, Nat.zero_le _⟩ rfl dX0_nodePasses_112 (fun hr21 => ?_)
      refine V_if_ne (pc := 115) C 120 hr21 dX0_nodePasses_115 (by decide) (fun c115_23 => ?_) (fun c115_23 => ?_)
      · have h := ite_f h c115_23
        refine V_iinc (pc := 120) C (L' := [(0, vr Γ 36), (1, vi x1), (2, vi x2), (3, vi x3), (4, vi x4), (5, vi (x5 + (1 : Int)))]) 5 rfl rfl (by decide) dX0_nodePasses_120 ?_
        refine V_goto (pc := 123) C 65 dX0_nodePasses_123 (by decide) ?_
        obtain ⟨g24, h⟩ := grd_of h
        refine V_sub (L' := [(0, vr Γ 36), (1, vi x1), (2, vi x2), (3, vi x3), (4, vi x4), (5, vi (x5 + (1 : Int)))]) [0, 1, 2, 3, 4, 5] rfl (by decide) ?_
        exact hkk65 _ _ _ _ _ _ hx1 hx2 hx3 hx4 g24 h
      · have h := ite_t h c115_23
        refine V_iconst (pc := 118) C dX0_nodePasses_118 ?_
        exact V_zret (pc := 119) C hr hlk (by decide) h dX0_nodePasses_119
    have LP65 : ∀ (n : Nat) {x1 : Int} {x2 : Int} {x3 : Int} {x4 : Int} {x5 : Int} {M : Mem}, rng x1 → rng x2 → rng x3 → rng x4 → rng x5 → f_X0_nodePasses_L65 fu sf n x1 x2 x3 x4 x5 M = some (M', r) → VV p l e ({ frames := 3 * (d + 1 + 1), cells := 0, slots := 0, locals := 103 * (d + 1 + 1) } : Room) s m args below meth c (MQ below (PostI Γ sk M' r s.heap.size) args s 0 0 (Fr Γ sk s.heap.size)) 6 Γ sk M 0 0 65 [(0, vr Γ 36), (1, vi x1), (2, vi x2), (3, vi x3), (4, vi x4), (5, vi x5)] [] := by
      intro n
      induction n with
      | zero =>
        intro x1 x2 x3 x4 x5 M hx1 hx2 hx3 hx4 hx5 h
        cases h
      | succ n ih =>
        intro x1 x2 x3 x4 x5 M hx1 hx2 hx3 hx4 hx5 h
        rw [f_X0_nodePasses_L65] at h
        refine V_iload_n (pc := 65) C 2 rfl dX0_nodePasses_65 ?_
        refine V_iconst (pc := 66) C dX0_nodePasses_66 ?_
        refine V_icmp_le (pc := 67) C 126 hx2 (by decide) dX0_nodePasses_67 (by decide) (fun c67_14 => ?_) (fun c67_14 => ?_)
        · have h := ite_t h c67_14
          refine V_iconst (pc := 126) C dX0_nodePasses_126 ?_
          exact V_zret (pc := 127) C hr hlk (by decide) h dX0_nodePasses_127
        · have h := ite_f h c67_14
          refine V_iload (pc := 70) C 5 rfl dX0_nodePasses_70 ?_
          refine V_iload (pc := 72) C 4 rfl dX0_nodePasses_72 ?_
          refine V_icmp_ge (pc := 74) C 126 hx5 hx4 dX0_nodePasses_74 (by decide) (fun c74_15 => ?_) (fun c74_15 => ?_)
          · have h := ite_t h c74_15
            refine V_iconst (pc := 126) C dX0_nodePasses_126 ?_
            exact V_zret (pc := 127) C hr hlk (by decide) h dX0_nodePasses_127
          · have h := ite_f h c74_15
            refine V_aload_n (pc := 77) C 0 rfl dX0_nodePasses_77 ?_
            refine V_aload_n (pc := 78) C 0 rfl dX0_nodePasses_78 ?_
            refine V_getR (pc := 79) C e36 rfl inX0 0 (by decide) rfl lf_X0_15 rfl dX0_nodePasses_79 ?_
            refine V_getR (pc := 82) C e4 rfl inX8 0 (by decide) rfl lf_X0_53 rfl dX0_nodePasses_82 ?_
            refine V_iload_n (pc := 85) C 1 rfl dX0_nodePasses_85 ?_
            refine V_iload (pc := 86) C 5 rfl dX0_nodePasses_86 ?_
            obtain ⟨M16, r17, hc18, h⟩ := cal_of h
            refine V_callVI (pc := 88) C (c_X3_entryAt l Γ sk hsk fu hx1 hx5 hc18) cf_X3_entryAt lk_X0_89 ⟨rfl, rfl⟩ ⟨by dsimp only; omega, by dsimp only; omega⟩ e5 rfl rfl rfl (Nat.le_of_ble_eq_true rfl) ⟨Nat.zero_le _, Nat.zero_le _⟩ rfl dX0_nodePasses_88 (fun hr17 => ?_)
            refine V_iload_n (pc := 91) C 2 rfl dX0_nodePasses_91 ?_
            refine V_iconst (pc := 92) C dX0_nodePasses_92 ?_
            refine V_isub (pc := 93) C dX0_nodePasses_93 ?_
            refine V_iload_n (pc := 94) C 3 rfl dX0_nodePasses_94 ?_
            refine V_if_eq (pc := 95) C 111 hx3 dX0_nodePasses_95 (by decide) (fun c95_19 => ?_) (fun c95_19 => ?_)
            · have h := ite_t h c95_19
              obtain ⟨g25, h⟩ := grd_of h
              refine V_sub (L' := [(0, vr Γ 36), (1, vi x1), (2, vi x2), (3, vi x3), (4, vi x4), (5, vi x5)]) [0, 1, 2, 3, 4, 5] rfl (by decide) ?_
              exact JP111 _ (fun _ _ _ _ _ _ hz0 hz1 hz2 hz3 hz4 hz => ih hz0 hz1 hz2 hz3 hz4 hz) hx1 hx2 hx3 hx4 hx5 hr17 g25 h
            · have h := ite_f h c95_19
              refine V_iload (pc := 98) C 5 rfl dX0_nodePasses_98 ?_
              refine V_iload (pc := 100) C 4 rfl dX0_nodePasses_100 ?_
              refine V_iconst (pc := 102) C dX0_nodePasses_102 ?_
              refine V_isub (pc := 103) C dX0_nodePasses_103 ?_
              obtain ⟨g26, h⟩ := grd_of h
              refine V_icmp_ne (pc := 104) C 111 hx5 g26 dX0_nodePasses_104 (by decide) (fun c104_27 => ?_) (fun c104_27 => ?_)
              · have h := ite_f h c104_27
                obtain ⟨g28, h⟩ := grd_of h
                refine V_sub (L' := [(0, vr Γ 36), (1, vi x1), (2, vi x2), (3, vi x3), (4, vi x4), (5, vi x5)]) [0, 1, 2, 3, 4, 5] rfl (by decide) ?_
                exact JP111 _ (fun _ _ _ _ _ _ hz0 hz1 hz2 hz3 hz4 hz => ih hz0 hz1 hz2 hz3 hz4 hz) hx1 hx2 hx3 hx4 hx5 hr17 g28 h
              · have h := ite_t h c104_27
                refine V_iconst (pc := 107) C dX0_nodePasses_107 ?_
                refine V_goto (pc := 108) C 112 dX0_nodePasses_108 (by decide) ?_
                obtain ⟨g29, h⟩ := grd_of h
                obtain ⟨M30, r31, hc32, h⟩ := cal_of h
                refine V_callVI (pc := 112) C (hsf hr17 g29 (by decide) hc32) cf_X0_nodePasses lk_X0_69 ⟨rfl, rfl⟩ ⟨by dsimp only; omega, by dsimp only; omega⟩ e36 rfl rfl rfl (Nat.le_of_ble_eq_true rfl) ⟨Nat.zero_le _, Nat.zero_le _⟩ rfl dX0_nodePasses_112 (fun hr31 => ?_)
                refine V_if_ne (pc := 115) C 120 hr31 dX0_nodePasses_115 (by decide) (fun c115_33 => ?_) (fun c115_33 => ?_)
                · have h := ite_f h c115_33
                  refine V_iinc (pc := 120) C (L' := [(0, vr Γ 36), (1, vi x1), (2, vi x2), (3, vi x3), (4, vi x4), (5, vi (x5 + (1 : Int)))]) 5 rfl rfl (by decide) dX0_nodePasses_120 ?_
                  refine V_goto (pc := 123) C 65 dX0_nodePasses_123 (by decide) ?_
                  obtain ⟨g34, h⟩ := grd_of h
                  refine V_sub (L' := [(0, vr Γ 36), (1, vi x1), (2, vi x2), (3, vi x3), (4, vi x4), (5, vi (x5 + (1 : Int)))]) [0, 1, 2, 3, 4, 5] rfl (by decide) ?_
                  exact ih hx1 hx2 hx3 hx4 g34 h
                · have h := ite_t h c115_33
                  refine V_iconst (pc := 118) C dX0_nodePasses_118 ?_
                  exact V_zret (pc := 119) C hr hlk (by decide) h dX0_nodePasses_119
    have JP62 : ∀ {x1 : Int} {x2 : Int} {x3 : Int} {x4 : Int} {M : Mem}, rng x1 → rng x2 → rng x3 → rng x4 → f_X0_nodePasses_J62 fu sf x1 x2 x3 x4 M = some (M', r) → VV p l e ({ frames := 3 * (d + 1 + 1), cells := 0, slots := 0, locals := 103 * (d + 1 + 1) } : Room) s m args below meth c (MQ below (PostI Γ sk M' r s.heap.size) args s 0 0 (Fr Γ sk s.heap.size)) 6 Γ sk M 0 0 62 [(0, vr Γ 36), (1, vi x1), (2, vi x2), (3, vi x3), (4, vi x4)] [] := by
      intro x1 x2 x3 x4 M hx1 hx2 hx3 hx4 h
      unfold f_X0_nodePasses_J62 at h
      refine V_iconst (pc := 62) C dX0_nodePasses_62 ?_
      refine V_istore (pc := 63) C (L' := [(0, vr Γ 36), (1, vi x1), (2, vi x2), (3, vi x3), (4, vi x4), (5, vi (0 : Int))]) rfl (by decide) dX0_nodePasses_63 ?_
      refine V_sub (L' := [(0, vr Γ 36), (1, vi x1), (2, vi x2), (3, vi x3), (4, vi x4), (5, vi (0 : Int))]) [0, 1, 2, 3, 4, 5] rfl (by decide) ?_
      exact LP65 fu  hx1 hx2 hx3 hx4 (by decide) h
    skip
    refine V_aload_n (pc := 0) C 0 rfl dX0_nodePasses_0 ?_
    refine V_getR (pc := 1) C e36 rfl inX0 0 (by decide) rfl lf_X0_15 rfl dX0_nodePasses_1 ?_
    refine V_getR (pc := 4) C e4 rfl inX8 0 (by decide) rfl lf_X0_53 rfl dX0_nodePasses_4 ?_
    refine V_iload_n (pc := 7) C 1 rfl dX0_nodePasses_7 ?_
    obtain ⟨M1, r2, hc3, h⟩ := cal_of h
    refine V_callVI (pc := 8) C (c_X3_fillAt l Γ sk hsk fu ha1 hc3) cf_X3_fillAt lk_X0_80 ⟨rfl, rfl⟩ ⟨by dsimp only; omega, by dsimp only; omega⟩ e5 rfl rfl rfl (Nat.le_of_ble_eq_true rfl) ⟨Nat.zero_le _, Nat.zero_le _⟩ rfl dX0_nodePasses_8 (fun hr2 => ?_)
    refine V_istore (pc := 11) C (L' := [(0, vr Γ 36), (1, vi a1), (2, vi a2), (3, vi a3), (4, vi r2)]) rfl (by decide) dX0_nodePasses_11 ?_
    refine V_aload_n (pc := 13) C 0 rfl dX0_nodePasses_13 ?_
    refine V_getR (pc := 14) C e36 rfl inX0 0 (by decide) rfl lf_X0_15 rfl dX0_nodePasses_14 ?_
    refine V_getR (pc := 17) C e4 rfl inX8 0 (by decide) rfl lf_X0_53 rfl dX0_nodePasses_17 ?_
    refine V_iload_n (pc := 20) C 1 rfl dX0_nodePasses_20 ?_
    obtain ⟨M4, r5, hc6, h⟩ := cal_of h
    refine V_callVI (pc := 21) C (c_X3_isStored l Γ sk hsk fu ha1 hc6) cf_X3_isStored lk_X0_83 ⟨rfl, rfl⟩ ⟨by dsimp only; omega, by dsimp only; omega⟩ e5 rfl rfl rfl (Nat.le_of_ble_eq_true rfl) ⟨Nat.zero_le _, Nat.zero_le _⟩ rfl dX0_nodePasses_21 (fun hr5 => ?_)
    refine V_if_eq (pc := 24) C 42 hr5 dX0_nodePasses_24 (by decide) (fun c24_7 => ?_) (fun c24_7 => ?_)
    · have h := ite_t h c24_7
      refine V_iconst (pc := 42) C dX0_nodePasses_42 ?_
      exact V_zret (pc := 43) C hr hlk (by decide) h dX0_nodePasses_43
    · have h := ite_f h c24_7
      refine V_aload_n (pc := 27) C 0 rfl dX0_nodePasses_27 ?_
      refine V_getR (pc := 28) C e36 rfl inX0 0 (by decide) rfl lf_X0_15 rfl dX0_nodePasses_28 ?_
      refine V_getR (pc := 31) C e4 rfl inX8 0 (by decide) rfl lf_X0_53 rfl dX0_nodePasses_31 ?_
      refine V_iload_n (pc := 34) C 1 rfl dX0_nodePasses_34 ?_
      obtain ⟨M8, r9, hc10, h⟩ := cal_of h
      refine V_callVI (pc := 35) C (c_X3_levelAt l Γ sk hsk fu ha1 hc10) cf_X3_levelAt lk_X0_86 ⟨rfl, rfl⟩ ⟨by dsimp only; omega, by dsimp only; omega⟩ e5 rfl rfl rfl (Nat.le_of_ble_eq_true rfl) ⟨Nat.zero_le _, Nat.zero_le _⟩ rfl dX0_nodePasses_35 (fun hr9 => ?_)
      refine V_iload_n (pc := 38) C 2 rfl dX0_nodePasses_38 ?_
      refine V_icmp_eq (pc := 39) C 44 hr9 ha2 dX0_nodePasses_39 (by decide) (fun c39_11 => ?_) (fun c39_11 => ?_)
      · have h := ite_t h c39_11
        refine V_iload (pc := 44) C 4 rfl dX0_nodePasses_44 ?_
        refine V_iconst (pc := 46) C dX0_nodePasses_46 ?_
        refine V_icmp_lt (pc := 47) C 60 hr2 (by decide) dX0_nodePasses_47 (by decide) (fun c47_12 => ?_) (fun c47_12 => ?_)
        · have h := ite_t h c47_12
          refine V_iconst (pc := 60) C dX0_nodePasses_60 ?_
          exact V_zret (pc := 61) C hr hlk (by decide) h dX0_nodePasses_61
        · have h := ite_f h c47_12
          refine V_iload (pc := 50) C 4 rfl dX0_nodePasses_50 ?_
          refine V_iconst (pc := 52) C dX0_nodePasses_52 ?_
          refine V_icmp_ge (pc := 53) C 62 hr2 (by decide) dX0_nodePasses_53 (by decide) (fun c53_13 => ?_) (fun c53_13 => ?_)
          · have h := ite_t h c53_13
            refine V_sub (L' := [(0, vr Γ 36), (1, vi a1), (2, vi a2), (3, vi a3), (4, vi r2)]) [0, 1, 2, 3, 4] rfl (by decide) ?_
            exact JP62 ha1 ha2 ha3 hr2 h
          · have h := ite_f h c53_13
            refine V_iload_n (pc := 56) C 3 rfl dX0_nodePasses_56 ?_
            refine V_if_ne (pc := 57) C 62 ha3 dX0_nodePasses_57 (by decide) (fun c57_35 => ?_) (fun c57_35 => ?_)
            · have h := ite_f h c57_35
              refine V_sub (L' := [(0, vr Γ 36), (1, vi a1), (2, vi a2), (3, vi a3), (4, vi r2)]) [0, 1, 2, 3, 4] rfl (by decide) ?_
              exact JP62 ha1 ha2 ha3 hr2 h
            · have h := ite_t h c57_35
              refine V_iconst (pc := 60) C dX0_nodePasses_60 ?_
              exact V_zret (pc := 61) C hr hlk (by decide) h dX0_nodePasses_61
      · have h := ite_f h c39_11
        refine V_iconst (pc := 42) C dX0_nodePasses_42 ?_
        exact V_zret (pc := 43) C hr hlk (by decide) h dX0_nodePasses_43
set_option maxRecDepth 100000 in
set_option maxHeartbeats 4000000 in
theorem c_X0_countLeafElements (l : Launch) (Γ : GG) (sk : List SD) (hsk : Ext sk) (fu : Nat) : ∀ (d : Nat) {M M' : Mem} {a1 : Int} {a2 : Int} {r : Int} (ha1 : rng a1) (ha2 : rng a2) (h : f_X0_countLeafElements fu d M a1 a2 = some (M', r)), MetI l yX0_countLeafElements cX0_countLeafElements 6 .int ({ frames := 3 * (d + 1), cells := 0, slots := 0, locals := 103 * (d + 1) } : Room) Γ sk [vr Γ 36, vi a1, vi a2] M M' r := by
  intro d
  induction d with
  | zero =>
    intro M M' a1 a2 r ha1 ha2 h
    cases h
  | succ d hsf =>
    intro M M' a1 a2 r ha1 ha2 h
    rw [f_X0_countLeafElements] at h
    refine MetI_of RX0 rfl (by decide) rfl (Nat.le_of_ble_eq_true rfl) rfl ?_
    intro p e s m args below meth c C hr hlk hM
    have e4 := hsk 4 _ (by decide) rfl
    have e5 := hsk 5 _ (by decide) rfl
    have e36 := hsk 36 _ (by decide) rfl
    generalize hsfe : f_X0_countLeafElements fu d = sf at h hsf
    have LP25 : ∀ (n : Nat) {x1 : Int} {x2 : Int} {x3 : Int} {x4 : Int} {x5 : Int} {M : Mem}, rng x1 → rng x2 → rng x3 → rng x4 → rng x5 → f_X0_countLeafElements_L25 fu sf n x1 x2 x3 x4 x5 M = some (M', r) → VV p l e ({ frames := 3 * (d + 1 + 1), cells := 0, slots := 0, locals := 103 * (d + 1 + 1) } : Room) s m args below meth c (MQ below (PostI Γ sk M' r s.heap.size) args s 0 0 (Fr Γ sk s.heap.size)) 6 Γ sk M 0 0 25 [(0, vr Γ 36), (1, vi x1), (2, vi x2), (3, vi x3), (4, vi x4), (5, vi x5)] [] := by
      intro n
      induction n with
      | zero =>
        intro x1 x2 x3 x4 x5 M hx1 hx2 hx3 hx4 hx5 h
        cases h
      | succ n ih =>
        intro x1 x2 x3 x4 x5 M hx1 hx2 hx3 hx4 hx5 h
        rw [f_X0_countLeafElements_L25] at h
        refine V_iload (pc := 25) C 5 rfl dX0_countLeafElements_25 ?_
        refine V_iload_n (pc := 27) C 3 rfl dX0_countLeafElements_27 ?_
        refine V_icmp_ge (pc := 28) C 62 hx5 hx3 dX0_countLeafElements_28 (by decide) (fun c28_5 => ?_) (fun c28_5 => ?_)
        · have h := ite_t h c28_5
          refine V_iload (pc := 62) C 4 rfl dX0_countLeafElements_62 ?_
          exact V_iret (pc := 64) C hr hlk hx4 h dX0_countLeafElements_64
        · have h := ite_f h c28_5
          refine V_iload (pc := 31) C 4 rfl dX0_countLeafElements_31 ?_
          refine V_aload_n (pc := 33) C 0 rfl dX0_countLeafElements_33 ?_
          refine V_aload_n (pc := 34) C 0 rfl dX0_countLeafElements_34 ?_
          refine V_getR (pc := 35) C e36 rfl inX0 0 (by decide) rfl lf_X0_15 rfl dX0_countLeafElements_35 ?_
          refine V_getR (pc := 38) C e4 rfl inX8 0 (by decide) rfl lf_X0_53 rfl dX0_countLeafElements_38 ?_
          refine V_iload_n (pc := 41) C 1 rfl dX0_countLeafElements_41 ?_
          refine V_iload (pc := 42) C 5 rfl dX0_countLeafElements_42 ?_
          obtain ⟨M6, r7, hc8, h⟩ := cal_of h
          refine V_callVI (pc := 44) C (c_X3_entryAt l Γ sk hsk fu hx1 hx5 hc8) cf_X3_entryAt lk_X0_89 ⟨rfl, rfl⟩ ⟨by dsimp only; omega, by dsimp only; omega⟩ e5 rfl rfl rfl (Nat.le_of_ble_eq_true rfl) ⟨Nat.zero_le _, Nat.zero_le _⟩ rfl dX0_countLeafElements_44 (fun hr7 => ?_)
          refine V_iload_n (pc := 47) C 2 rfl dX0_countLeafElements_47 ?_
          refine V_iconst (pc := 48) C dX0_countLeafElements_48 ?_
          refine V_isub (pc := 49) C dX0_countLeafElements_49 ?_
          obtain ⟨g9, h⟩ := grd_of h
          obtain ⟨M10, r11, hc12, h⟩ := cal_of h
          refine V_callVI (pc := 50) C (hsf hr7 g9 hc12) cf_X0_countLeafElements lk_X0_73 ⟨rfl, rfl⟩ ⟨by dsimp only; omega, by dsimp only; omega⟩ e36 rfl rfl rfl (Nat.le_of_ble_eq_true rfl) ⟨Nat.zero_le _, Nat.zero_le _⟩ rfl dX0_countLeafElements_50 (fun hr11 => ?_)
          refine V_iadd (pc := 53) C dX0_countLeafElements_53 ?_
          refine V_istore (pc := 54) C (L' := [(0, vr Γ 36), (1, vi x1), (2, vi x2), (3, vi x3), (4, vi (x4 + r11)), (5, vi x5)]) rfl (by decide) dX0_countLeafElements_54 ?_
          refine V_iinc (pc := 56) C (L' := [(0, vr Γ 36), (1, vi x1), (2, vi x2), (3, vi x3), (4, vi (x4 + r11)), (5, vi (x5 + (1 : Int)))]) 5 rfl rfl (by decide) dX0_countLeafElements_56 ?_
          refine V_goto (pc := 59) C 25 dX0_countLeafElements_59 (by decide) ?_
          obtain ⟨g13, h⟩ := grd_of h
          obtain ⟨g14, h⟩ := grd_of h
          refine V_sub (L' := [(0, vr Γ 36), (1, vi x1), (2, vi x2), (3, vi x3), (4, vi (x4 + r11)), (5, vi (x5 + (1 : Int)))]) [0, 1, 2, 3, 4, 5] rfl (by decide) ?_
          exact ih hx1 hx2 hx3 g13 g14 h
    skip
    refine V_aload_n (pc := 0) C 0 rfl dX0_countLeafElements_0 ?_
    refine V_getR (pc := 1) C e36 rfl inX0 0 (by decide) rfl lf_X0_15 rfl dX0_countLeafElements_1 ?_
    refine V_getR (pc := 4) C e4 rfl inX8 0 (by decide) rfl lf_X0_53 rfl dX0_countLeafElements_4 ?_
    refine V_iload_n (pc := 7) C 1 rfl dX0_countLeafElements_7 ?_
    obtain ⟨M1, r2, hc3, h⟩ := cal_of h
    refine V_callVI (pc := 8) C (c_X3_fillAt l Γ sk hsk fu ha1 hc3) cf_X3_fillAt lk_X0_80 ⟨rfl, rfl⟩ ⟨by dsimp only; omega, by dsimp only; omega⟩ e5 rfl rfl rfl (Nat.le_of_ble_eq_true rfl) ⟨Nat.zero_le _, Nat.zero_le _⟩ rfl dX0_countLeafElements_8 (fun hr2 => ?_)
    refine V_istore_n (pc := 11) C (L' := [(0, vr Γ 36), (1, vi a1), (2, vi a2), (3, vi r2)]) rfl (by decide) dX0_countLeafElements_11 ?_
    refine V_iload_n (pc := 12) C 2 rfl dX0_countLeafElements_12 ?_
    refine V_iconst (pc := 13) C dX0_countLeafElements_13 ?_
    refine V_icmp_gt (pc := 14) C 19 ha2 (by decide) dX0_countLeafElements_14 (by decide) (fun c14_4 => ?_) (fun c14_4 => ?_)
    · have h := ite_t h c14_4
      refine V_iconst (pc := 19) C dX0_countLeafElements_19 ?_
      refine V_istore (pc := 20) C (L' := [(0, vr Γ 36), (1, vi a1), (2, vi a2), (3, vi r2), (4, vi (0 : Int))]) rfl (by decide) dX0_countLeafElements_20 ?_
      refine V_iconst (pc := 22) C dX0_countLeafElements_22 ?_
      refine V_istore (pc := 23) C (L' := [(0, vr Γ 36), (1, vi a1), (2, vi a2), (3, vi r2), (4, vi (0 : Int)), (5, vi (0 : Int))]) rfl (by decide) dX0_countLeafElements_23 ?_
      refine V_sub (L' := [(0, vr Γ 36), (1, vi a1), (2, vi a2), (3, vi r2), (4, vi (0 : Int)), (5, vi (0 : Int))]) [0, 1, 2, 3, 4, 5] rfl (by decide) ?_
      exact LP25 fu  ha1 ha2 hr2 (by decide) (by decide) h
    · have h := ite_f h c14_4
      refine V_iload_n (pc := 17) C 3 rfl dX0_countLeafElements_17 ?_
      exact V_iret (pc := 18) C hr hlk hr2 h dX0_countLeafElements_18
set_option maxRecDepth 100000 in
set_option maxHeartbeats 4000000 in
theorem c_X0_treePasses (l : Launch) (Γ : GG) (sk : List SD) (hsk : Ext sk) (fu : Nat) {M M' : Mem} {a1 : Int} {r : Int} (ha1 : rng a1) (h : f_X0_treePasses fu M a1 = some (M', r)) : MetI l yX0_treePasses cX0_treePasses 4 .boolean ({ frames := 28, cells := 0, slots := 0, locals := 952 } : Room) Γ sk [vr Γ 36, vi a1] M M' r := by
  unfold f_X0_treePasses at h
  refine MetI_of RX0 rfl (by decide) rfl (Nat.le_of_ble_eq_true rfl) rfl ?_
  intro p e s m args below meth c C hr hlk hM
  have e4 := hsk 4 _ (by decide) rfl
  have e10 := hsk 10 _ (by decide) rfl
  have e36 := hsk 36 _ (by decide) rfl
  refine V_aload_n (pc := 0) C 0 rfl dX0_treePasses_0 ?_
  refine V_getR (pc := 1) C e36 rfl inX0 0 (by decide) rfl lf_X0_15 rfl dX0_treePasses_1 ?_
  refine V_getR (pc := 4) C e4 rfl inX8 1 (by decide) rfl lf_X0_23 rfl dX0_treePasses_4 ?_
  refine V_iload_n (pc := 7) C 1 rfl dX0_treePasses_7 ?_
  obtain ⟨M1, r2, hc3, h⟩ := cal_of h
  refine V_callVI (pc := 8) C (c_X10_rootAt l Γ sk hsk fu ha1 hc3) cf_X10_rootAt lk_X0_62 ⟨rfl, rfl⟩ ⟨Nat.le_of_ble_eq_true rfl, Nat.le_of_ble_eq_true rfl⟩ e10 rfl rfl rfl (Nat.le_of_ble_eq_true rfl) ⟨Nat.zero_le _, Nat.zero_le _⟩ rfl dX0_treePasses_8 (fun hr2 => ?_)
  refine V_istore_n (pc := 11) C (L' := [(0, vr Γ 36), (1, vi a1), (2, vi r2)]) rfl (by decide) dX0_treePasses_11 ?_
  refine V_aload_n (pc := 12) C 0 rfl dX0_treePasses_12 ?_
  refine V_getR (pc := 13) C e36 rfl inX0 0 (by decide) rfl lf_X0_15 rfl dX0_treePasses_13 ?_
  refine V_iload_n (pc := 16) C 1 rfl dX0_treePasses_16 ?_
  obtain ⟨M4, r5, hc6, h⟩ := cal_of h
  refine V_callVI (pc := 17) C (c_X8_heightAt l Γ sk hsk fu ha1 hc6) cf_X8_heightAt lk_X0_66 ⟨rfl, rfl⟩ ⟨Nat.le_of_ble_eq_true rfl, Nat.le_of_ble_eq_true rfl⟩ e4 rfl rfl rfl (Nat.le_of_ble_eq_true rfl) ⟨Nat.zero_le _, Nat.zero_le _⟩ rfl dX0_treePasses_17 (fun hr5 => ?_)
  refine V_istore_n (pc := 20) C (L' := [(0, vr Γ 36), (1, vi a1), (2, vi r2), (3, vi r5)]) rfl (by decide) dX0_treePasses_20 ?_
  refine V_iload_n (pc := 21) C 3 rfl dX0_treePasses_21 ?_
  refine V_if_ne (pc := 22) C 36 hr5 dX0_treePasses_22 (by decide) (fun c22_7 => ?_) (fun c22_7 => ?_)
  · have h := ite_f h c22_7
    refine V_aload_n (pc := 36) C 0 rfl dX0_treePasses_36 ?_
    refine V_iload_n (pc := 37) C 2 rfl dX0_treePasses_37 ?_
    refine V_iload_n (pc := 38) C 3 rfl dX0_treePasses_38 ?_
    refine V_iconst (pc := 39) C dX0_treePasses_39 ?_
    obtain ⟨M8, r9, hc10, h⟩ := cal_of h
    refine V_callVI (pc := 40) C (c_X0_nodePasses l Γ sk hsk fu 8 hr2 hr5 (by decide) hc10) cf_X0_nodePasses lk_X0_69 ⟨rfl, rfl⟩ ⟨Nat.le_of_ble_eq_true rfl, Nat.le_of_ble_eq_true rfl⟩ e36 rfl rfl rfl (Nat.le_of_ble_eq_true rfl) ⟨Nat.zero_le _, Nat.zero_le _⟩ rfl dX0_treePasses_40 (fun hr9 => ?_)
    refine V_if_eq (pc := 43) C 70 hr9 dX0_treePasses_43 (by decide) (fun c43_11 => ?_) (fun c43_11 => ?_)
    · have h := ite_t h c43_11
      refine V_iconst (pc := 70) C dX0_treePasses_70 ?_
      exact V_zret (pc := 71) C hr hlk (by decide) h dX0_treePasses_71
    · have h := ite_f h c43_11
      refine V_aload_n (pc := 46) C 0 rfl dX0_treePasses_46 ?_
      refine V_iload_n (pc := 47) C 2 rfl dX0_treePasses_47 ?_
      refine V_iload_n (pc := 48) C 3 rfl dX0_treePasses_48 ?_
      obtain ⟨M12, r13, hc14, h⟩ := cal_of h
      refine V_callVI (pc := 49) C (c_X0_countLeafElements l Γ sk hsk fu 8 hr2 hr5 hc14) cf_X0_countLeafElements lk_X0_73 ⟨rfl, rfl⟩ ⟨Nat.le_of_ble_eq_true rfl, Nat.le_of_ble_eq_true rfl⟩ e36 rfl rfl rfl (Nat.le_of_ble_eq_true rfl) ⟨Nat.zero_le _, Nat.zero_le _⟩ rfl dX0_treePasses_49 (fun hr13 => ?_)
      refine V_aload_n (pc := 52) C 0 rfl dX0_treePasses_52 ?_
      refine V_getR (pc := 53) C e36 rfl inX0 0 (by decide) rfl lf_X0_15 rfl dX0_treePasses_53 ?_
      refine V_getR (pc := 56) C e4 rfl inX8 1 (by decide) rfl lf_X0_23 rfl dX0_treePasses_56 ?_
      refine V_iload_n (pc := 59) C 1 rfl dX0_treePasses_59 ?_
      obtain ⟨M15, r16, hc17, h⟩ := cal_of h
      refine V_callVI (pc := 60) C (c_X10_sizeAt l Γ sk hsk fu ha1 hc17) cf_X10_sizeAt lk_X0_77 ⟨rfl, rfl⟩ ⟨Nat.le_of_ble_eq_true rfl, Nat.le_of_ble_eq_true rfl⟩ e10 rfl rfl rfl (Nat.le_of_ble_eq_true rfl) ⟨Nat.zero_le _, Nat.zero_le _⟩ rfl dX0_treePasses_60 (fun hr16 => ?_)
      refine V_icmp_ne (pc := 63) C 70 hr13 hr16 dX0_treePasses_63 (by decide) (fun c63_18 => ?_) (fun c63_18 => ?_)
      · have h := ite_f h c63_18
        refine V_iconst (pc := 70) C dX0_treePasses_70 ?_
        exact V_zret (pc := 71) C hr hlk (by decide) h dX0_treePasses_71
      · have h := ite_t h c63_18
        refine V_iconst (pc := 66) C dX0_treePasses_66 ?_
        refine V_goto (pc := 67) C 71 dX0_treePasses_67 (by decide) ?_
        exact V_zret (pc := 71) C hr hlk (by decide) h dX0_treePasses_71
  · have h := ite_t h c22_7
    refine V_iload_n (pc := 25) C 2 rfl dX0_treePasses_25 ?_
    refine V_iconst (pc := 26) C dX0_treePasses_26 ?_
    refine V_icmp_ne (pc := 27) C 34 hr2 (by decide) dX0_treePasses_27 (by decide) (fun c27_19 => ?_) (fun c27_19 => ?_)
    · have h := ite_f h c27_19
      refine V_iconst (pc := 34) C dX0_treePasses_34 ?_
      exact V_zret (pc := 35) C hr hlk (by decide) h dX0_treePasses_35
    · have h := ite_t h c27_19
      refine V_iconst (pc := 30) C dX0_treePasses_30 ?_
      refine V_goto (pc := 31) C 35 dX0_treePasses_31 (by decide) ?_
      exact V_zret (pc := 35) C hr hlk (by decide) h dX0_treePasses_35
set_option maxRecDepth 100000 in
set_option maxHeartbeats 4000000 in
theorem c_X0_elementsPass (l : Launch) (Γ : GG) (sk : List SD) (hsk : Ext sk) (fu : Nat) {M M' : Mem} {a1 : Int} {r : Int} (ha1 : rng a1) (h : f_X0_elementsPass fu M a1 = some (M', r)) : MetI l yX0_elementsPass cX0_elementsPass 3 .boolean ({ frames := 5, cells := 0, slots := 0, locals := 109 } : Room) Γ sk [vr Γ 36, vi a1] M M' r := by
  unfold f_X0_elementsPass at h
  refine MetI_of RX0 rfl (by decide) rfl (Nat.le_of_ble_eq_true rfl) rfl ?_
  intro p e s m args below meth c C hr hlk hM
  have e4 := hsk 4 _ (by decide) rfl
  have e10 := hsk 10 _ (by decide) rfl
  have e36 := hsk 36 _ (by decide) rfl
  have LP2 : ∀ (n : Nat) {x1 : Int} {x2 : Int} {M : Mem}, rng x1 → rng x2 → f_X0_elementsPass_L2 fu n x1 x2 M = some (M', r) → VV p l e ({ frames := 5, cells := 0, slots := 0, locals := 109 } : Room) s m args below meth c (MQ below (PostI Γ sk M' r s.heap.size) args s 0 0 (Fr Γ sk s.heap.size)) 3 Γ sk M 0 0 2 [(0, vr Γ 36), (1, vi x1), (2, vi x2)] [] := by
    intro n
    induction n with
    | zero =>
      intro x1 x2 M hx1 hx2 h
      cases h
    | succ n ih =>
      intro x1 x2 M hx1 hx2 h
      rw [f_X0_elementsPass_L2] at h
      refine V_iload_n (pc := 2) C 2 rfl dX0_elementsPass_2 ?_
      refine V_aload_n (pc := 3) C 0 rfl dX0_elementsPass_3 ?_
      refine V_getR (pc := 4) C e36 rfl inX0 0 (by decide) rfl lf_X0_15 rfl dX0_elementsPass_4 ?_
      refine V_getR (pc := 7) C e4 rfl inX8 1 (by decide) rfl lf_X0_23 rfl dX0_elementsPass_7 ?_
      refine V_iload_n (pc := 10) C 1 rfl dX0_elementsPass_10 ?_
      obtain ⟨M1, r2, hc3, h⟩ := cal_of h
      refine V_callVI (pc := 11) C (c_X10_sizeAt l Γ sk hsk fu hx1 hc3) cf_X10_sizeAt lk_X0_77 ⟨rfl, rfl⟩ ⟨Nat.le_of_ble_eq_true rfl, Nat.le_of_ble_eq_true rfl⟩ e10 rfl rfl rfl (Nat.le_of_ble_eq_true rfl) ⟨Nat.zero_le _, Nat.zero_le _⟩ rfl dX0_elementsPass_11 (fun hr2 => ?_)
      refine V_icmp_ge (pc := 14) C 49 hx2 hr2 dX0_elementsPass_14 (by decide) (fun c14_4 => ?_) (fun c14_4 => ?_)
      · have h := ite_t h c14_4
        refine V_iconst (pc := 49) C dX0_elementsPass_49 ?_
        exact V_zret (pc := 50) C hr hlk (by decide) h dX0_elementsPass_50
      · have h := ite_f h c14_4
        refine V_aload_n (pc := 17) C 0 rfl dX0_elementsPass_17 ?_
        refine V_getR (pc := 18) C e36 rfl inX0 0 (by decide) rfl lf_X0_15 rfl dX0_elementsPass_18 ?_
        refine V_iload_n (pc := 21) C 1 rfl dX0_elementsPass_21 ?_
        refine V_iload_n (pc := 22) C 2 rfl dX0_elementsPass_22 ?_
        obtain ⟨M5, r6, hc7, h⟩ := cal_of h
        refine V_callVI (pc := 23) C (c_X8_elementAt l Γ sk hsk fu hx1 hx2 hc7) cf_X8_elementAt lk_X0_92 ⟨rfl, rfl⟩ ⟨Nat.le_of_ble_eq_true rfl, Nat.le_of_ble_eq_true rfl⟩ e4 rfl rfl rfl (Nat.le_of_ble_eq_true rfl) ⟨Nat.zero_le _, Nat.zero_le _⟩ rfl dX0_elementsPass_23 (fun hr6 => ?_)
        refine V_aload_n (pc := 26) C 0 rfl dX0_elementsPass_26 ?_
        refine V_getR (pc := 27) C e36 rfl inX0 0 (by decide) rfl lf_X0_15 rfl dX0_elementsPass_27 ?_
        refine V_getR (pc := 30) C e4 rfl inX8 1 (by decide) rfl lf_X0_23 rfl dX0_elementsPass_30 ?_
        refine V_iload_n (pc := 33) C 1 rfl dX0_elementsPass_33 ?_
        refine V_iload_n (pc := 34) C 2 rfl dX0_elementsPass_34 ?_
        obtain ⟨M8, r9, hc10, h⟩ := cal_of h
        refine V_callVI (pc := 35) C (c_X10_recordedElement l Γ sk hsk fu hx1 hx2 hc10) cf_X10_recordedElement lk_X0_95 ⟨rfl, rfl⟩ ⟨Nat.le_of_ble_eq_true rfl, Nat.le_of_ble_eq_true rfl⟩ e10 rfl rfl rfl (Nat.le_of_ble_eq_true rfl) ⟨Nat.zero_le _, Nat.zero_le _⟩ rfl dX0_elementsPass_35 (fun hr9 => ?_)
        refine V_icmp_eq (pc := 38) C 43 hr6 hr9 dX0_elementsPass_38 (by decide) (fun c38_11 => ?_) (fun c38_11 => ?_)
        · have h := ite_t h c38_11
          refine V_iinc (pc := 43) C (L' := [(0, vr Γ 36), (1, vi x1), (2, vi (x2 + (1 : Int)))]) 2 rfl rfl (by decide) dX0_elementsPass_43 ?_
          refine V_goto (pc := 46) C 2 dX0_elementsPass_46 (by decide) ?_
          obtain ⟨g12, h⟩ := grd_of h
          refine V_sub (L' := [(0, vr Γ 36), (1, vi x1), (2, vi (x2 + (1 : Int)))]) [0, 1, 2] rfl (by decide) ?_
          exact ih hx1 g12 h
        · have h := ite_f h c38_11
          refine V_iconst (pc := 41) C dX0_elementsPass_41 ?_
          exact V_zret (pc := 42) C hr hlk (by decide) h dX0_elementsPass_42
  skip
  refine V_iconst (pc := 0) C dX0_elementsPass_0 ?_
  refine V_istore_n (pc := 1) C (L' := [(0, vr Γ 36), (1, vi a1), (2, vi (0 : Int))]) rfl (by decide) dX0_elementsPass_1 ?_
  refine V_sub (L' := [(0, vr Γ 36), (1, vi a1), (2, vi (0 : Int))]) [0, 1, 2] rfl (by decide) ?_
  exact LP2 fu  ha1 (by decide) h
set_option maxRecDepth 100000 in
set_option maxHeartbeats 4000000 in
theorem c_X0_passes (l : Launch) (Γ : GG) (sk : List SD) (hsk : Ext sk) (fu : Nat) {M M' : Mem}  {r : Int}  (h : f_X0_passes fu M  = some (M', r)) : MetI l yX0_passes cX0_passes 2 .boolean ({ frames := 30, cells := 0, slots := 0, locals := 993 } : Room) Γ sk [vr Γ 36] M M' r := by
  unfold f_X0_passes at h
  refine MetI_of RX0 rfl (by decide) rfl (Nat.le_of_ble_eq_true rfl) rfl ?_
  intro p e s m args below meth c C hr hlk hM
  have e4 := hsk 4 _ (by decide) rfl
  have e5 := hsk 5 _ (by decide) rfl
  have e10 := hsk 10 _ (by decide) rfl
  have e36 := hsk 36 _ (by decide) rfl
  have LP2 : ∀ (n : Nat) {x1 : Int} {M : Mem}, rng x1 → f_X0_passes_L2 fu n x1 M = some (M', r) → VV p l e ({ frames := 30, cells := 0, slots := 0, locals := 993 } : Room) s m args below meth c (MQ below (PostI Γ sk M' r s.heap.size) args s 0 0 (Fr Γ sk s.heap.size)) 2 Γ sk M 0 0 2 [(0, vr Γ 36), (1, vi x1)] [] := by
    intro n
    induction n with
    | zero =>
      intro x1 M hx1 h
      cases h
    | succ n ih =>
      intro x1 M hx1 h
      rw [f_X0_passes_L2] at h
      refine V_iload_n (pc := 2) C 1 rfl dX0_passes_2 ?_
      refine V_aload_n (pc := 3) C 0 rfl dX0_passes_3 ?_
      refine V_getR (pc := 4) C e36 rfl inX0 0 (by decide) rfl lf_X0_15 rfl dX0_passes_4 ?_
      refine V_getR (pc := 7) C e4 rfl inX8 1 (by decide) rfl lf_X0_23 rfl dX0_passes_7 ?_
      refine V_rng fun hM1 => ?_
      refine V_getI (pc := 10) C e10 rfl inX10 0 (by decide) rfl lf_X0_29 rfl dX0_passes_10 ?_
      refine V_icmp_ge (pc := 13) C 54 hx1 (hM1 _ _) dX0_passes_13 (by decide) (fun c13_2 => ?_) (fun c13_2 => ?_)
      · have h := ite_t h c13_2
        refine V_aload_n (pc := 54) C 0 rfl dX0_passes_54 ?_
        obtain ⟨M3, r4, hc5, h⟩ := cal_of h
        refine V_callVI (pc := 55) C (c_X0_referencesPass l Γ sk hsk fu hc5) cf_X0_referencesPass lk_X0_45 ⟨rfl, rfl⟩ ⟨Nat.le_of_ble_eq_true rfl, Nat.le_of_ble_eq_true rfl⟩ e36 rfl rfl rfl (Nat.le_of_ble_eq_true rfl) ⟨Nat.zero_le _, Nat.zero_le _⟩ rfl dX0_passes_55 (fun hr4 => ?_)
        refine V_if_eq (pc := 58) C 88 hr4 dX0_passes_58 (by decide) (fun c58_6 => ?_) (fun c58_6 => ?_)
        · have h := ite_t h c58_6
          refine V_iconst (pc := 88) C dX0_passes_88 ?_
          exact V_zret (pc := 89) C hr hlk (by decide) h dX0_passes_89
        · have h := ite_f h c58_6
          refine V_aload_n (pc := 61) C 0 rfl dX0_passes_61 ?_
          refine V_getR (pc := 62) C e36 rfl inX0 0 (by decide) rfl lf_X0_15 rfl dX0_passes_62 ?_
          refine V_getR (pc := 65) C e4 rfl inX8 1 (by decide) rfl lf_X0_23 rfl dX0_passes_65 ?_
          obtain ⟨M7, r8, hc9, h⟩ := cal_of h
          refine V_callVI (pc := 68) C (c_X10_sumOfCreated l Γ sk hsk fu hc9) cf_X10_sumOfCreated lk_X0_49 ⟨rfl, rfl⟩ ⟨Nat.le_of_ble_eq_true rfl, Nat.le_of_ble_eq_true rfl⟩ e10 rfl rfl rfl (Nat.le_of_ble_eq_true rfl) ⟨Nat.zero_le _, Nat.zero_le _⟩ rfl dX0_passes_68 (fun hr8 => ?_)
          refine V_aload_n (pc := 71) C 0 rfl dX0_passes_71 ?_
          refine V_getR (pc := 72) C e36 rfl inX0 0 (by decide) rfl lf_X0_15 rfl dX0_passes_72 ?_
          refine V_getR (pc := 75) C e4 rfl inX8 0 (by decide) rfl lf_X0_53 rfl dX0_passes_75 ?_
          refine V_rng fun hM10 => ?_
          refine V_getI (pc := 78) C e5 rfl inX3 0 (by decide) rfl lf_X0_57 rfl dX0_passes_78 ?_
          refine V_icmp_ne (pc := 81) C 88 hr8 (hM10 _ _) dX0_passes_81 (by decide) (fun c81_11 => ?_) (fun c81_11 => ?_)
          · have h := ite_f h c81_11
            refine V_iconst (pc := 88) C dX0_passes_88 ?_
            exact V_zret (pc := 89) C hr hlk (by decide) h dX0_passes_89
          · have h := ite_t h c81_11
            refine V_iconst (pc := 84) C dX0_passes_84 ?_
            refine V_goto (pc := 85) C 89 dX0_passes_85 (by decide) ?_
            exact V_zret (pc := 89) C hr hlk (by decide) h dX0_passes_89
      · have h := ite_f h c13_2
        refine V_aload_n (pc := 16) C 0 rfl dX0_passes_16 ?_
        refine V_getR (pc := 17) C e36 rfl inX0 0 (by decide) rfl lf_X0_15 rfl dX0_passes_17 ?_
        refine V_getR (pc := 20) C e4 rfl inX8 1 (by decide) rfl lf_X0_23 rfl dX0_passes_20 ?_
        refine V_iload_n (pc := 23) C 1 rfl dX0_passes_23 ?_
        obtain ⟨M12, r13, hc14, h⟩ := cal_of h
        refine V_callVI (pc := 24) C (c_X10_isLive l Γ sk hsk fu hx1 hc14) cf_X10_isLive lk_X0_35 ⟨rfl, rfl⟩ ⟨Nat.le_of_ble_eq_true rfl, Nat.le_of_ble_eq_true rfl⟩ e10 rfl rfl rfl (Nat.le_of_ble_eq_true rfl) ⟨Nat.zero_le _, Nat.zero_le _⟩ rfl dX0_passes_24 (fun hr13 => ?_)
        refine V_if_eq (pc := 27) C 48 hr13 dX0_passes_27 (by decide) (fun c27_15 => ?_) (fun c27_15 => ?_)
        · have h := ite_t h c27_15
          refine V_iinc (pc := 48) C (L' := [(0, vr Γ 36), (1, vi (x1 + (1 : Int)))]) 1 rfl rfl (by decide) dX0_passes_48 ?_
          refine V_goto (pc := 51) C 2 dX0_passes_51 (by decide) ?_
          obtain ⟨g16, h⟩ := grd_of h
          refine V_sub (L' := [(0, vr Γ 36), (1, vi (x1 + (1 : Int)))]) [0, 1] rfl (by decide) ?_
          exact ih g16 h
        · have h := ite_f h c27_15
          refine V_aload_n (pc := 30) C 0 rfl dX0_passes_30 ?_
          refine V_iload_n (pc := 31) C 1 rfl dX0_passes_31 ?_
          obtain ⟨M17, r18, hc19, h⟩ := cal_of h
          refine V_callVI (pc := 32) C (c_X0_treePasses l Γ sk hsk fu hx1 hc19) cf_X0_treePasses lk_X0_39 ⟨rfl, rfl⟩ ⟨Nat.le_of_ble_eq_true rfl, Nat.le_of_ble_eq_true rfl⟩ e36 rfl rfl rfl (Nat.le_of_ble_eq_true rfl) ⟨Nat.zero_le _, Nat.zero_le _⟩ rfl dX0_passes_32 (fun hr18 => ?_)
          refine V_if_eq (pc := 35) C 46 hr18 dX0_passes_35 (by decide) (fun c35_20 => ?_) (fun c35_20 => ?_)
          · have h := ite_t h c35_20
            refine V_iconst (pc := 46) C dX0_passes_46 ?_
            exact V_zret (pc := 47) C hr hlk (by decide) h dX0_passes_47
          · have h := ite_f h c35_20
            refine V_aload_n (pc := 38) C 0 rfl dX0_passes_38 ?_
            refine V_iload_n (pc := 39) C 1 rfl dX0_passes_39 ?_
            obtain ⟨M21, r22, hc23, h⟩ := cal_of h
            refine V_callVI (pc := 40) C (c_X0_elementsPass l Γ sk hsk fu hx1 hc23) cf_X0_elementsPass lk_X0_42 ⟨rfl, rfl⟩ ⟨Nat.le_of_ble_eq_true rfl, Nat.le_of_ble_eq_true rfl⟩ e36 rfl rfl rfl (Nat.le_of_ble_eq_true rfl) ⟨Nat.zero_le _, Nat.zero_le _⟩ rfl dX0_passes_40 (fun hr22 => ?_)
            refine V_if_ne (pc := 43) C 48 hr22 dX0_passes_43 (by decide) (fun c43_24 => ?_) (fun c43_24 => ?_)
            · have h := ite_f h c43_24
              refine V_iinc (pc := 48) C (L' := [(0, vr Γ 36), (1, vi (x1 + (1 : Int)))]) 1 rfl rfl (by decide) dX0_passes_48 ?_
              refine V_goto (pc := 51) C 2 dX0_passes_51 (by decide) ?_
              obtain ⟨g25, h⟩ := grd_of h
              refine V_sub (L' := [(0, vr Γ 36), (1, vi (x1 + (1 : Int)))]) [0, 1] rfl (by decide) ?_
              exact ih g25 h
            · have h := ite_t h c43_24
              refine V_iconst (pc := 46) C dX0_passes_46 ?_
              exact V_zret (pc := 47) C hr hlk (by decide) h dX0_passes_47
  skip
  refine V_iconst (pc := 0) C dX0_passes_0 ?_
  refine V_istore_n (pc := 1) C (L' := [(0, vr Γ 36), (1, vi (0 : Int))]) rfl (by decide) dX0_passes_1 ?_
  refine V_sub (L' := [(0, vr Γ 36), (1, vi (0 : Int))]) [0, 1] rfl (by decide) ?_
  exact LP2 fu  (by decide) h
set_option maxRecDepth 100000 in
set_option maxHeartbeats 4000000 in
theorem c_X1_forget (l : Launch) (Γ : GG) (sk : List SD) (hsk : Ext sk) (fu : Nat) {M M' : Mem}  {r : Int}  (h : f_X1_forget fu M  = some (M', r)) : MetV l yX1_forget cX1_forget 1 ({ frames := 0, cells := 0, slots := 0, locals := 0 } : Room) Γ sk [vr Γ 38] M M' := by
  unfold f_X1_forget at h
  refine MetV_of RX1 rfl (by decide) rfl (Nat.le_of_ble_eq_true rfl) rfl ?_
  intro p e s m args below meth c C hr hlk hM
  have e38 := hsk 38 _ (by decide) rfl
  refine V_aload_n (pc := 0) C 0 rfl dX1_forget_0 ?_
  refine V_iconst (pc := 1) C dX1_forget_1 ?_
  refine V_putI (pc := 2) C (by decide) e38 rfl inX1 tyX1 tyX1_ok nmX1 0 (by decide) rfl rfl lf_X1_25 rfl (by decide) rfl dX1_forget_2 ?_
  exact V_vret (pc := 5) C hr hlk h dX1_forget_5
set_option maxRecDepth 100000 in
set_option maxHeartbeats 4000000 in
theorem c_X11_copyFlags (l : Launch) (Γ : GG) (sk : List SD) (hsk : Ext sk) (fu : Nat) {M M' : Mem} {k0 : Nat} {n0 : Nat} {a1 : Int} {k2 : Nat} {n2 : Nat} {a3 : Int} {a4 : Int} {r : Int} (hk0 : sk[k0]? = some (.inl (1, n0))) (hn0 : n0 ≤ 2147483647) (ha1 : rng a1) (hk2 : sk[k2]? = some (.inl (1, n2))) (hn2 : n2 ≤ 2147483647) (hm2 : 3 ≤ k2) (ha3 : rng a3) (ha4 : rng a4) (h : f_X11_copyFlags fu M k0 n0 a1 k2 n2 a3 a4 = some (M', r)) : MetV l yX11_copyFlags cX11_copyFlags 6 ({ frames := 1, cells := 0, slots := 0, locals := 22 } : Room) Γ sk [vr Γ k0, vi a1, vr Γ k2, vi a3, vi a4] M M' := by
  unfold f_X11_copyFlags at h
  refine MetV_of RX11 rfl (by decide) rfl (Nat.le_of_ble_eq_true rfl) rfl ?_
  intro p e s m args below meth c C hr hlk hM
  have LP3 : ∀ (n : Nat) {x1 : Int} {x3 : Int} {x4 : Int} {x5 : Int} {M : Mem}, rng x1 → rng x3 → rng x4 → rng x5 → f_X11_copyFlags_L3 fu k0 n0 k2 n2 n x1 x3 x4 x5 M = some (M', r) → VV p l e ({ frames := 1, cells := 0, slots := 0, locals := 22 } : Room) s m args below meth c (MQ below (PostV Γ sk M' s.heap.size) args s 0 0 (Fr Γ sk s.heap.size)) 6 Γ sk M 0 0 3 [(0, vr Γ k0), (1, vi x1), (2, vr Γ k2), (3, vi x3), (4, vi x4), (5, vi x5)] [] := by
    intro n
    induction n with
    | zero =>
      intro x1 x3 x4 x5 M hx1 hx3 hx4 hx5 h
      cases h
    | succ n ih =>
      intro x1 x3 x4 x5 M hx1 hx3 hx4 hx5 h
      rw [f_X11_copyFlags_L3] at h
      refine V_iload (pc := 3) C 5 rfl dX11_copyFlags_3 ?_
      refine V_iload (pc := 5) C 4 rfl dX11_copyFlags_5 ?_
      refine V_icmp_ge (pc := 7) C 32 hx5 hx4 dX11_copyFlags_7 (by decide) (fun c7_1 => ?_) (fun c7_1 => ?_)
      · have h := ite_t h c7_1
        exact V_vret (pc := 32) C hr hlk h dX11_copyFlags_32
      · have h := ite_f h c7_1
        refine V_aload_n (pc := 10) C 2 rfl dX11_copyFlags_10 ?_
        refine V_iload_n (pc := 11) C 3 rfl dX11_copyFlags_11 ?_
        refine V_iload (pc := 12) C 5 rfl dX11_copyFlags_12 ?_
        refine V_iadd (pc := 14) C dX11_copyFlags_14 ?_
        refine V_aload_n (pc := 15) C 0 rfl dX11_copyFlags_15 ?_
        refine V_iload_n (pc := 16) C 1 rfl dX11_copyFlags_16 ?_
        refine V_iload (pc := 17) C 5 rfl dX11_copyFlags_17 ?_
        refine V_iadd (pc := 19) C dX11_copyFlags_19 ?_
        obtain ⟨g2, h⟩ := grd_of h
        obtain ⟨M3, r4, hc5, h⟩ := cal_of h
        refine V_callSI (pc := 20) C (c_X11_flagAt l Γ sk hsk fu hk0 hn0 g2 hc5) cf_X11_flagAt lk_X11_362 ⟨rfl, rfl⟩ ⟨Nat.le_of_ble_eq_true rfl, Nat.le_of_ble_eq_true rfl⟩ rfl (Nat.le_of_ble_eq_true rfl) ⟨Nat.zero_le _, Nat.zero_le _⟩ rfl dX11_copyFlags_20 (fun hr4 => ?_)
        obtain ⟨g6, h⟩ := grd_of h
        obtain ⟨M7, r8, hc9, h⟩ := cal_of h
        refine V_callSV (pc := 23) C (c_X11_putFlag l Γ sk hsk fu hk2 hn2 hm2 g6 hr4 hc9) cf_X11_putFlag lk_X11_366 ⟨rfl, rfl⟩ ⟨Nat.le_of_ble_eq_true rfl, Nat.le_of_ble_eq_true rfl⟩ rfl (Nat.le_of_ble_eq_true rfl) ⟨Nat.zero_le _, Nat.zero_le _⟩ rfl dX11_copyFlags_23 ?_
        refine V_iinc (pc := 26) C (L' := [(0, vr Γ k0), (1, vi x1), (2, vr Γ k2), (3, vi x3), (4, vi x4), (5, vi (x5 + (1 : Int)))]) 5 rfl rfl (by decide) dX11_copyFlags_26 ?_
        refine V_goto (pc := 29) C 3 dX11_copyFlags_29 (by decide) ?_
        obtain ⟨g10, h⟩ := grd_of h
        refine V_sub (L' := [(0, vr Γ k0), (1, vi x1), (2, vr Γ k2), (3, vi x3), (4, vi x4), (5, vi (x5 + (1 : Int)))]) [0, 1, 2, 3, 4, 5] rfl (by decide) ?_
        exact ih hx1 hx3 hx4 g10 h
  skip
  refine V_iconst (pc := 0) C dX11_copyFlags_0 ?_
  refine V_istore (pc := 1) C (L' := [(0, vr Γ k0), (1, vi a1), (2, vr Γ k2), (3, vi a3), (4, vi a4), (5, vi (0 : Int))]) rfl (by decide) dX11_copyFlags_1 ?_
  refine V_sub (L' := [(0, vr Γ k0), (1, vi a1), (2, vr Γ k2), (3, vi a3), (4, vi a4), (5, vi (0 : Int))]) [0, 1, 2, 3, 4, 5] rfl (by decide) ?_
  exact LP3 fu  ha1 ha3 ha4 (by decide) h
set_option maxRecDepth 100000 in
set_option maxHeartbeats 4000000 in
theorem c_X1_keep (l : Launch) (Γ : GG) (sk : List SD) (hsk : Ext sk) (fu : Nat) {M M' : Mem}  {r : Int}  (h : f_X1_keep fu M  = some (M', r)) : MetV l yX1_keep cX1_keep 2 ({ frames := 2, cells := 0, slots := 0, locals := 47 } : Room) Γ sk [vr Γ 38, vr Γ 4] M M' := by
  unfold f_X1_keep at h
  refine MetV_of RX1 rfl (by decide) rfl (Nat.le_of_ble_eq_true rfl) rfl ?_
  intro p e s m args below meth c C hr hlk hM
  have e4 := hsk 4 _ (by decide) rfl
  have e5 := hsk 5 _ (by decide) rfl
  have e9 := hsk 9 _ (by decide) rfl
  have e10 := hsk 10 _ (by decide) rfl
  have e18 := hsk 18 _ (by decide) rfl
  have e38 := hsk 38 _ (by decide) rfl
  have e39 := hsk 39 _ (by decide) rfl
  have e40 := hsk 40 _ (by decide) rfl
  have e41 := hsk 41 _ (by decide) rfl
  have e42 := hsk 42 _ (by decide) rfl
  refine V_aload_n (pc := 0) C 0 rfl dX1_keep_0 ?_
  refine V_getR (pc := 1) C e38 rfl inX1 2 (by decide) rfl lf_X1_9 rfl dX1_keep_1 ?_
  refine V_aload_n (pc := 4) C 0 rfl dX1_keep_4 ?_
  refine V_getI (pc := 5) C e38 rfl inX1 1 (by decide) rfl lf_X1_29 rfl dX1_keep_5 ?_
  refine V_aload_n (pc := 8) C 1 rfl dX1_keep_8 ?_
  refine V_getR (pc := 9) C e4 rfl inX8 1 (by decide) rfl lf_X1_32 rfl dX1_keep_9 ?_
  refine V_getI (pc := 12) C e10 rfl inX10 0 (by decide) rfl lf_X1_38 rfl dX1_keep_12 ?_
  obtain ⟨M1, r2, hc3, h⟩ := cal_of h
  refine V_callNV (pc := 15) C (c_X11_put l Γ sk hsk fu e39 (by decide) (by decide) (hM _ _) (hM _ _) hc3) cf_X11_put ln_X1_41 ⟨rfl, rfl⟩ ⟨Nat.le_of_ble_eq_true rfl, Nat.le_of_ble_eq_true rfl⟩ rfl (Nat.le_of_ble_eq_true rfl) ⟨Nat.zero_le _, Nat.zero_le _⟩ rfl dX1_keep_15 ?_
  refine V_aload_n (pc := 18) C 0 rfl dX1_keep_18 ?_
  refine V_getR (pc := 19) C e38 rfl inX1 3 (by decide) rfl lf_X1_15 rfl dX1_keep_19 ?_
  refine V_aload_n (pc := 22) C 0 rfl dX1_keep_22 ?_
  refine V_rng fun hM4 => ?_
  refine V_getI (pc := 23) C e38 rfl inX1 1 (by decide) rfl lf_X1_29 rfl dX1_keep_23 ?_
  refine V_aload_n (pc := 26) C 1 rfl dX1_keep_26 ?_
  refine V_getR (pc := 27) C e4 rfl inX8 0 (by decide) rfl lf_X1_45 rfl dX1_keep_27 ?_
  refine V_getI (pc := 30) C e5 rfl inX3 0 (by decide) rfl lf_X1_49 rfl dX1_keep_30 ?_
  obtain ⟨M5, r6, hc7, h⟩ := cal_of h
  refine V_callNV (pc := 33) C (c_X11_put l Γ sk hsk fu e40 (by decide) (by decide) (hM4 _ _) (hM4 _ _) hc7) cf_X11_put ln_X1_41 ⟨rfl, rfl⟩ ⟨Nat.le_of_ble_eq_true rfl, Nat.le_of_ble_eq_true rfl⟩ rfl (Nat.le_of_ble_eq_true rfl) ⟨Nat.zero_le _, Nat.zero_le _⟩ rfl dX1_keep_33 ?_
  refine V_aload_n (pc := 36) C 1 rfl dX1_keep_36 ?_
  refine V_getR (pc := 37) C e4 rfl inX8 1 (by decide) rfl lf_X1_32 rfl dX1_keep_37 ?_
  refine V_getR (pc := 40) C e10 rfl inX10 8 (by decide) rfl lf_X1_54 rfl dX1_keep_40 ?_
  refine V_iconst (pc := 43) C dX1_keep_43 ?_
  refine V_aload_n (pc := 44) C 0 rfl dX1_keep_44 ?_
  refine V_getR (pc := 45) C e38 rfl inX1 4 (by decide) rfl lf_X1_18 rfl dX1_keep_45 ?_
  refine V_aload_n (pc := 48) C 0 rfl dX1_keep_48 ?_
  refine V_rng fun hM8 => ?_
  refine V_getI (pc := 49) C e38 rfl inX1 1 (by decide) rfl lf_X1_29 rfl dX1_keep_49 ?_
  refine V_bipush (pc := 52) C dX1_keep_52 rfl ?_
  refine V_imul (pc := 54) C dX1_keep_54 ?_
  refine V_bipush (pc := 55) C dX1_keep_55 rfl ?_
  obtain ⟨g9, h⟩ := grd_of h
  obtain ⟨M10, r11, hc12, h⟩ := cal_of h
  refine V_callNV (pc := 57) C (c_X11_copyFlags l Γ sk hsk fu e18 (by decide) (by decide) e41 (by decide) (by decide) g9 (by decide) hc12) cf_X11_copyFlags ln_X1_55 ⟨rfl, rfl⟩ ⟨Nat.le_of_ble_eq_true rfl, Nat.le_of_ble_eq_true rfl⟩ rfl (Nat.le_of_ble_eq_true rfl) ⟨Nat.zero_le _, Nat.zero_le _⟩ rfl dX1_keep_57 ?_
  refine V_aload_n (pc := 60) C 1 rfl dX1_keep_60 ?_
  refine V_getR (pc := 61) C e4 rfl inX8 0 (by decide) rfl lf_X1_45 rfl dX1_keep_61 ?_
  refine V_getR (pc := 64) C e5 rfl inX3 4 (by decide) rfl lf_X1_59 rfl dX1_keep_64 ?_
  refine V_iconst (pc := 67) C dX1_keep_67 ?_
  refine V_aload_n (pc := 68) C 0 rfl dX1_keep_68 ?_
  refine V_getR (pc := 69) C e38 rfl inX1 5 (by decide) rfl lf_X1_22 rfl dX1_keep_69 ?_
  refine V_aload_n (pc := 72) C 0 rfl dX1_keep_72 ?_
  refine V_rng fun hM13 => ?_
  refine V_getI (pc := 73) C e38 rfl inX1 1 (by decide) rfl lf_X1_29 rfl dX1_keep_73 ?_
  refine V_sipush (pc := 76) C dX1_keep_76 rfl ?_
  refine V_imul (pc := 79) C dX1_keep_79 ?_
  refine V_sipush (pc := 80) C dX1_keep_80 rfl ?_
  obtain ⟨g14, h⟩ := grd_of h
  obtain ⟨M15, r16, hc17, h⟩ := cal_of h
  refine V_callNV (pc := 83) C (c_X11_copyFlags l Γ sk hsk fu e9 (by decide) (by decide) e42 (by decide) (by decide) g14 (by decide) hc17) cf_X11_copyFlags ln_X1_55 ⟨rfl, rfl⟩ ⟨Nat.le_of_ble_eq_true rfl, Nat.le_of_ble_eq_true rfl⟩ rfl (Nat.le_of_ble_eq_true rfl) ⟨Nat.zero_le _, Nat.zero_le _⟩ rfl dX1_keep_83 ?_
  refine V_aload_n (pc := 86) C 0 rfl dX1_keep_86 ?_
  refine V_aload_n (pc := 87) C 0 rfl dX1_keep_87 ?_
  refine V_rng fun hM18 => ?_
  refine V_getI (pc := 88) C e38 rfl inX1 1 (by decide) rfl lf_X1_29 rfl dX1_keep_88 ?_
  refine V_iconst (pc := 91) C dX1_keep_91 ?_
  refine V_iadd (pc := 92) C dX1_keep_92 ?_
  refine V_bipush (pc := 93) C dX1_keep_93 rfl ?_
  obtain ⟨g19, h⟩ := grd_of h
  refine V_irem (pc := 95) C g19 dX1_keep_95 ?_
  obtain ⟨g20, h⟩ := grd_of h
  refine V_putI (pc := 96) C (by decide) e38 rfl inX1 tyX1 tyX1_ok nmX1 1 (by decide) rfl rfl lf_X1_29 rfl g20 rfl dX1_keep_96 ?_
  refine V_aload_n (pc := 99) C 0 rfl dX1_keep_99 ?_
  refine V_aload_n (pc := 100) C 0 rfl dX1_keep_100 ?_
  refine V_rng fun hM21 => ?_
  refine V_getI (pc := 101) C e38 rfl inX1 0 (by decide) rfl lf_X1_25 rfl dX1_keep_101 ?_
  refine V_iconst (pc := 104) C dX1_keep_104 ?_
  refine V_iadd (pc := 105) C dX1_keep_105 ?_
  refine V_bipush (pc := 106) C dX1_keep_106 rfl ?_
  obtain ⟨g22, h⟩ := grd_of h
  refine V_min (pc := 108) C lk_X1_60 math_min g22 (by decide) ⟨Nat.le_of_ble_eq_true rfl, Nat.le_of_ble_eq_true rfl⟩ ⟨Nat.zero_le _, Nat.zero_le _⟩ (Nat.le_of_ble_eq_true rfl) dX1_keep_108 ?_
  refine V_putI (pc := 111) C (by decide) e38 rfl inX1 tyX1 tyX1_ok nmX1 0 (by decide) rfl rfl lf_X1_25 rfl (imin_rng g22 (by decide)) rfl dX1_keep_111 ?_
  exact V_vret (pc := 114) C hr hlk h dX1_keep_114
set_option maxRecDepth 100000 in
set_option maxHeartbeats 4000000 in
theorem c_X2_hasRoomForBlock (l : Launch) (Γ : GG) (sk : List SD) (hsk : Ext sk) (fu : Nat) {M M' : Mem}  {r : Int}  (h : f_X2_hasRoomForBlock fu M  = some (M', r)) : MetI l yX2_hasRoomForBlock cX2_hasRoomForBlock 1 .boolean ({ frames := 0, cells := 0, slots := 0, locals := 0 } : Room) Γ sk [vr Γ 43] M M' r := by
  unfold f_X2_hasRoomForBlock at h
  refine MetI_of RX2 rfl (by decide) rfl (Nat.le_of_ble_eq_true rfl) rfl ?_
  intro p e s m args below meth c C hr hlk hM
  have e43 := hsk 43 _ (by decide) rfl
  refine V_aload_n (pc := 0) C 0 rfl dX2_hasRoomForBlock_0 ?_
  refine V_getI (pc := 1) C e43 rfl inX2 0 (by decide) rfl lf_X2_15 rfl dX2_hasRoomForBlock_1 ?_
  refine V_bipush (pc := 4) C dX2_hasRoomForBlock_4 rfl ?_
  refine V_iadd (pc := 6) C dX2_hasRoomForBlock_6 ?_
  refine V_sipush (pc := 7) C dX2_hasRoomForBlock_7 rfl ?_
  obtain ⟨g1, h⟩ := grd_of h
  refine V_icmp_gt (pc := 10) C 17 g1 (by decide) dX2_hasRoomForBlock_10 (by decide) (fun c10_2 => ?_) (fun c10_2 => ?_)
  · have h := ite_t h c10_2
    refine V_iconst (pc := 17) C dX2_hasRoomForBlock_17 ?_
    exact V_zret (pc := 18) C hr hlk (by decide) h dX2_hasRoomForBlock_18
  · have h := ite_f h c10_2
    refine V_iconst (pc := 13) C dX2_hasRoomForBlock_13 ?_
    refine V_goto (pc := 14) C 18 dX2_hasRoomForBlock_14 (by decide) ?_
    exact V_zret (pc := 18) C hr hlk (by decide) h dX2_hasRoomForBlock_18
set_option maxRecDepth 100000 in
set_option maxHeartbeats 4000000 in
theorem c_X2_addByte (l : Launch) (Γ : GG) (sk : List SD) (hsk : Ext sk) (fu : Nat) {M M' : Mem} {a1 : Int} {r : Int} (ha1 : rng a1) (h : f_X2_addByte fu M a1 = some (M', r)) : MetV l yX2_addByte cX2_addByte 2 ({ frames := 1, cells := 0, slots := 0, locals := 22 } : Room) Γ sk [vr Γ 43, vi a1] M M' := by
  unfold f_X2_addByte at h
  refine MetV_of RX2 rfl (by decide) rfl (Nat.le_of_ble_eq_true rfl) rfl ?_
  intro p e s m args below meth c C hr hlk hM
  have e43 := hsk 43 _ (by decide) rfl
  have e44 := hsk 44 _ (by decide) rfl
  refine V_aload_n (pc := 0) C 0 rfl dX2_addByte_0 ?_
  refine V_getR (pc := 1) C e43 rfl inX2 1 (by decide) rfl lf_X2_9 rfl dX2_addByte_1 ?_
  refine V_aload_n (pc := 4) C 0 rfl dX2_addByte_4 ?_
  refine V_getI (pc := 5) C e43 rfl inX2 0 (by decide) rfl lf_X2_15 rfl dX2_addByte_5 ?_
  refine V_iload_n (pc := 8) C 1 rfl dX2_addByte_8 ?_
  obtain ⟨M1, r2, hc3, h⟩ := cal_of h
  refine V_callNV (pc := 9) C (c_X11_put l Γ sk hsk fu e44 (by decide) (by decide) (hM _ _) ha1 hc3) cf_X11_put ln_X2_23 ⟨rfl, rfl⟩ ⟨Nat.le_of_ble_eq_true rfl, Nat.le_of_ble_eq_true rfl⟩ rfl (Nat.le_of_ble_eq_true rfl) ⟨Nat.zero_le _, Nat.zero_le _⟩ rfl dX2_addByte_9 ?_
  refine V_aload_n (pc := 12) C 0 rfl dX2_addByte_12 ?_
  refine V_dup (pc := 13) C rfl dX2_addByte_13 ?_
  refine V_rng fun hM4 => ?_
  refine V_getI (pc := 14) C e43 rfl inX2 0 (by decide) rfl lf_X2_15 rfl dX2_addByte_14 ?_
  refine V_iconst (pc := 17) C dX2_addByte_17 ?_
  refine V_iadd (pc := 18) C dX2_addByte_18 ?_
  obtain ⟨g5, h⟩ := grd_of h
  refine V_putI (pc := 19) C (by decide) e43 rfl inX2 tyX2 tyX2_ok nmX2 0 (by decide) rfl rfl lf_X2_15 rfl g5 rfl dX2_addByte_19 ?_
  exact V_vret (pc := 22) C hr hlk h dX2_addByte_22
set_option maxRecDepth 100000 in
set_option maxHeartbeats 4000000 in
theorem c_X2_addWord (l : Launch) (Γ : GG) (sk : List SD) (hsk : Ext sk) (fu : Nat) {M M' : Mem} {a1 : Int} {r : Int} (ha1 : rng a1) (h : f_X2_addWord fu M a1 = some (M', r)) : MetV l yX2_addWord cX2_addWord 2 ({ frames := 2, cells := 0, slots := 0, locals := 43 } : Room) Γ sk [vr Γ 43, vi a1] M M' := by
  unfold f_X2_addWord at h
  refine MetV_of RX2 rfl (by decide) rfl (Nat.le_of_ble_eq_true rfl) rfl ?_
  intro p e s m args below meth c C hr hlk hM
  have e43 := hsk 43 _ (by decide) rfl
  refine V_aload_n (pc := 0) C 0 rfl dX2_addWord_0 ?_
  refine V_iload_n (pc := 1) C 1 rfl dX2_addWord_1 ?_
  refine V_bipush (pc := 2) C dX2_addWord_2 rfl ?_
  refine V_iushr (pc := 4) C (y := (24 : Int)) ha1 (by decide) dX2_addWord_4 ?_
  obtain ⟨g1, h⟩ := grd_of h
  obtain ⟨M2, r3, hc4, h⟩ := cal_of h
  refine V_callVV (pc := 5) C (c_X2_addByte l Γ sk hsk fu g1 hc4) cf_X2_addByte lk_X2_19 ⟨rfl, rfl⟩ ⟨Nat.le_of_ble_eq_true rfl, Nat.le_of_ble_eq_true rfl⟩ e43 rfl rfl rfl (Nat.le_of_ble_eq_true rfl) ⟨Nat.zero_le _, Nat.zero_le _⟩ rfl dX2_addWord_5 ?_
  refine V_aload_n (pc := 8) C 0 rfl dX2_addWord_8 ?_
  refine V_iload_n (pc := 9) C 1 rfl dX2_addWord_9 ?_
  refine V_bipush (pc := 10) C dX2_addWord_10 rfl ?_
  refine V_iushr (pc := 12) C (y := (16 : Int)) ha1 (by decide) dX2_addWord_12 ?_
  refine V_sipush (pc := 13) C dX2_addWord_13 rfl ?_
  refine V_iand (pc := 16) C (z := (a1 % 4294967296 / (2 ^ ((16 : Int) : Int).toNat : Nat)) % 256) 8 (by decide) (by decide) rfl dX2_addWord_16 ?_
  obtain ⟨g5, h⟩ := grd_of h
  obtain ⟨M6, r7, hc8, h⟩ := cal_of h
  refine V_callVV (pc := 17) C (c_X2_addByte l Γ sk hsk fu g5 hc8) cf_X2_addByte lk_X2_19 ⟨rfl, rfl⟩ ⟨Nat.le_of_ble_eq_true rfl, Nat.le_of_ble_eq_true rfl⟩ e43 rfl rfl rfl (Nat.le_of_ble_eq_true rfl) ⟨Nat.zero_le _, Nat.zero_le _⟩ rfl dX2_addWord_17 ?_
  refine V_aload_n (pc := 20) C 0 rfl dX2_addWord_20 ?_
  refine V_iload_n (pc := 21) C 1 rfl dX2_addWord_21 ?_
  refine V_bipush (pc := 22) C dX2_addWord_22 rfl ?_
  refine V_iushr (pc := 24) C (y := (8 : Int)) ha1 (by decide) dX2_addWord_24 ?_
  refine V_sipush (pc := 25) C dX2_addWord_25 rfl ?_
  refine V_iand (pc := 28) C (z := (a1 % 4294967296 / (2 ^ ((8 : Int) : Int).toNat : Nat)) % 256) 8 (by decide) (by decide) rfl dX2_addWord_28 ?_
  obtain ⟨g9, h⟩ := grd_of h
  obtain ⟨M10, r11, hc12, h⟩ := cal_of h
  refine V_callVV (pc := 29) C (c_X2_addByte l Γ sk hsk fu g9 hc12) cf_X2_addByte lk_X2_19 ⟨rfl, rfl⟩ ⟨Nat.le_of_ble_eq_true rfl, Nat.le_of_ble_eq_true rfl⟩ e43 rfl rfl rfl (Nat.le_of_ble_eq_true rfl) ⟨Nat.zero_le _, Nat.zero_le _⟩ rfl dX2_addWord_29 ?_
  refine V_aload_n (pc := 32) C 0 rfl dX2_addWord_32 ?_
  refine V_iload_n (pc := 33) C 1 rfl dX2_addWord_33 ?_
  refine V_sipush (pc := 34) C dX2_addWord_34 rfl ?_
  refine V_iand (pc := 37) C (z := a1 % 256) 8 (by decide) (by decide) rfl dX2_addWord_37 ?_
  obtain ⟨g13, h⟩ := grd_of h
  obtain ⟨M14, r15, hc16, h⟩ := cal_of h
  refine V_callVV (pc := 38) C (c_X2_addByte l Γ sk hsk fu g13 hc16) cf_X2_addByte lk_X2_19 ⟨rfl, rfl⟩ ⟨Nat.le_of_ble_eq_true rfl, Nat.le_of_ble_eq_true rfl⟩ e43 rfl rfl rfl (Nat.le_of_ble_eq_true rfl) ⟨Nat.zero_le _, Nat.zero_le _⟩ rfl dX2_addWord_38 ?_
  exact V_vret (pc := 41) C hr hlk h dX2_addWord_41
set_option maxRecDepth 100000 in
set_option maxHeartbeats 4000000 in
theorem c_X2_byteAt (l : Launch) (Γ : GG) (sk : List SD) (hsk : Ext sk) (fu : Nat) {M M' : Mem} {a1 : Int} {r : Int} (ha1 : rng a1) (h : f_X2_byteAt fu M a1 = some (M', r)) : MetI l yX2_byteAt cX2_byteAt 2 .int ({ frames := 0, cells := 0, slots := 0, locals := 0 } : Room) Γ sk [vr Γ 43, vi a1] M M' r := by
  unfold f_X2_byteAt at h
  refine MetI_of RX2 rfl (by decide) rfl (Nat.le_of_ble_eq_true rfl) rfl ?_
  intro p e s m args below meth c C hr hlk hM
  have e43 := hsk 43 _ (by decide) rfl
  have e44 := hsk 44 _ (by decide) rfl
  refine V_iload_n (pc := 0) C 1 rfl dX2_byteAt_0 ?_
  refine V_if_lt (pc := 1) C 30 ha1 dX2_byteAt_1 (by decide) (fun c1_1 => ?_) (fun c1_1 => ?_)
  · have h := ite_t h c1_1
    refine V_iconst (pc := 30) C dX2_byteAt_30 ?_
    exact V_iret (pc := 31) C hr hlk (by decide) h dX2_byteAt_31
  · have h := ite_f h c1_1
    refine V_iload_n (pc := 4) C 1 rfl dX2_byteAt_4 ?_
    refine V_aload_n (pc := 5) C 0 rfl dX2_byteAt_5 ?_
    refine V_getI (pc := 6) C e43 rfl inX2 0 (by decide) rfl lf_X2_15 rfl dX2_byteAt_6 ?_
    refine V_icmp_ge (pc := 9) C 30 ha1 (hM _ _) dX2_byteAt_9 (by decide) (fun c9_2 => ?_) (fun c9_2 => ?_)
    · have h := ite_t h c9_2
      refine V_iconst (pc := 30) C dX2_byteAt_30 ?_
      exact V_iret (pc := 31) C hr hlk (by decide) h dX2_byteAt_31
    · have h := ite_f h c9_2
      refine V_iload_n (pc := 12) C 1 rfl dX2_byteAt_12 ?_
      refine V_aload_n (pc := 13) C 0 rfl dX2_byteAt_13 ?_
      refine V_getR (pc := 14) C e43 rfl inX2 1 (by decide) rfl lf_X2_9 rfl dX2_byteAt_14 ?_
      refine V_alen (pc := 17) C e44 dX2_byteAt_17 ?_
      refine V_icmp_ge (pc := 18) C 30 ha1 (by decide) dX2_byteAt_18 (by decide) (fun c18_3 => ?_) (fun c18_3 => ?_)
      · have h := ite_t h c18_3
        refine V_iconst (pc := 30) C dX2_byteAt_30 ?_
        exact V_iret (pc := 31) C hr hlk (by decide) h dX2_byteAt_31
      · have h := ite_f h c18_3
        refine V_aload_n (pc := 21) C 0 rfl dX2_byteAt_21 ?_
        refine V_getR (pc := 22) C e43 rfl inX2 1 (by decide) rfl lf_X2_9 rfl dX2_byteAt_22 ?_
        refine V_iload_n (pc := 25) C 1 rfl dX2_byteAt_25 ?_
        obtain ⟨g4, h⟩ := grd_of h
        refine V_iald (pc := 26) C e44 g4 ha1 dX2_byteAt_26 ?_
        refine V_goto (pc := 27) C 31 dX2_byteAt_27 (by decide) ?_
        exact V_iret (pc := 31) C hr hlk (hM _ _) h dX2_byteAt_31
