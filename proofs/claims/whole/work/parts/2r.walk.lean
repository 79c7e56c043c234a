set_option maxRecDepth 100000 in
set_option maxHeartbeats 4000000 in
theorem c_X12_isTreeWhole (l : Launch) (Γ : GG) (sk : List SD) (hsk : ExtM sk) (fu : Nat) : ∀ (d : Nat) {M M' : Mem} {a1 : Int} {a2 : Int} {a3 : Int} {r : Int} (ha1 : rng a1) (ha2 : rng a2) (ha3 : rng a3) (h : f_X12_isTreeWhole fu d M a1 a2 a3 = some (M', r)), MetI l yX12_isTreeWhole cX12_isTreeWhole 5 .boolean ({ frames := 3 * (d + 1), cells := 0, slots := 0, locals := 106 * (d + 1) } : Room) Γ sk [vr Γ 52, vi a1, vi a2, vi a3] M M' r := by
  intro d
  induction d with
  | zero =>
    intro M M' a1 a2 a3 r ha1 ha2 ha3 h
    cases h
  | succ d hsf =>
    intro M M' a1 a2 a3 r ha1 ha2 ha3 h
    rw [f_X12_isTreeWhole] at h
    refine MetI_of RX12 rfl (by decide) rfl (Nat.le_of_ble_eq_true rfl) rfl ?_
    intro p e s m args below meth c C hr hlk hM
    have e52 := hsk 52 _ (by decide) rfl
    have e63 := hsk 63 _ (by decide) rfl
    generalize hsfe : f_X12_isTreeWhole fu d = sf at h hsf
    have JP119 : ∀ (k44 : Int → Int → Int → Int → Mem → Option (Mem × Int)) (_ : ∀ (x1 : Int) (x2 : Int) (x3 : Int) (x4 : Int) (M : Mem), rng x1 → rng x2 → rng x3 → rng x4 → k44 x1 x2 x3 x4 M = some (M', r) → VV p l e ({ frames := 3 * (d + 1 + 1), cells := 0, slots := 0, locals := 106 * (d + 1 + 1) } : Room) s m args below meth c (MQ below (PostI Γ sk M' r s.heap.size) args s 0 0 (Fr Γ sk s.heap.size)) 5 Γ sk M 0 0 44 [(0, vr Γ 52), (1, vi x1), (2, vi x2), (3, vi x3), (4, vi x4)] []) {x1 : Int} {x2 : Int} {x3 : Int} {x4 : Int} {y1 : Int} {y2 : Int} {M : Mem}, rng x1 → rng x2 → rng x3 → rng x4 → rng y1 → rng y2 → f_X12_isTreeWhole_J119 fu sf k44 x1 x2 x3 x4 y1 y2 M = some (M', r) → VV p l e ({ frames := 3 * (d + 1 + 1), cells := 0, slots := 0, locals := 106 * (d + 1 + 1) } : Room) s m args below meth c (MQ below (PostI Γ sk M' r s.heap.size) args s 0 0 (Fr Γ sk s.heap.size)) 5 Γ sk M 0 0 119 [(0, vr Γ 52), (1, vi x1), (2, vi x2), (3, vi x3), (4, vi x4)] [vi y2, vi y1, vr Γ 52] := by
      intro k44 hkk44 x1 x2 x3 x4 y1 y2 M hx1 hx2 hx3 hx4 hy1 hy2 h
      unfold f_X12_isTreeWhole_J119 at h
      refine V_iconst (pc := 119) C dX12_isTreeWhole_119 ?_
      obtain ⟨M20, r21, hc22, h⟩ := cal_of h
      refine V_callVI (pc := 120) C (hsf hy1 hy2 (by decide) hc22) cf_X12_isTreeWhole lk_X12_386 ⟨rfl, rfl⟩ ⟨by dsimp only; omega, by dsimp only; omega⟩ e52 rfl rfl rfl (Nat.le_of_ble_eq_true rfl) ⟨Nat.zero_le _, Nat.zero_le _⟩ rfl dX12_isTreeWhole_120 (fun hr21 => ?_)
      refine V_if_ne (pc := 123) C 128 hr21 dX12_isTreeWhole_123 (by decide) (fun c123_23 => ?_) (fun c123_23 => ?_)
      · have h := ite_f h c123_23
        refine V_iinc (pc := 128) C (L' := [(0, vr Γ 52), (1, vi x1), (2, vi x2), (3, vi x3), (4, vi (x4 + (1 : Int)))]) 4 rfl rfl (by decide) dX12_isTreeWhole_128 ?_
        refine V_goto (pc := 131) C 44 dX12_isTreeWhole_131 (by decide) ?_
        obtain ⟨g24, h⟩ := grd_of h
        refine V_sub (L' := [(0, vr Γ 52), (1, vi x1), (2, vi x2), (3, vi x3), (4, vi (x4 + (1 : Int)))]) [0, 1, 2, 3, 4] rfl (by decide) ?_
        exact hkk44 _ _ _ _ _ hx1 hx2 hx3 g24 h
      · have h := ite_t h c123_23
        refine V_iconst (pc := 126) C dX12_isTreeWhole_126 ?_
        exact V_zret (pc := 127) C hr hlk (by decide) h dX12_isTreeWhole_127
    have LP44 : ∀ (n : Nat) {x1 : Int} {x2 : Int} {x3 : Int} {x4 : Int} {M : Mem}, rng x1 → rng x2 → rng x3 → rng x4 → f_X12_isTreeWhole_L44 fu sf n x1 x2 x3 x4 M = some (M', r) → VV p l e ({ frames := 3 * (d + 1 + 1), cells := 0, slots := 0, locals := 106 * (d + 1 + 1) } : Room) s m args below meth c (MQ below (PostI Γ sk M' r s.heap.size) args s 0 0 (Fr Γ sk s.heap.size)) 5 Γ sk M 0 0 44 [(0, vr Γ 52), (1, vi x1), (2, vi x2), (3, vi x3), (4, vi x4)] [] := by
      intro n
      induction n with
      | zero =>
        intro x1 x2 x3 x4 M hx1 hx2 hx3 hx4 h
        cases h
      | succ n ih =>
        intro x1 x2 x3 x4 M hx1 hx2 hx3 hx4 h
        rw [f_X12_isTreeWhole_L44] at h
        refine V_iload (pc := 44) C 4 rfl dX12_isTreeWhole_44 ?_
        refine V_aload_n (pc := 46) C 0 rfl dX12_isTreeWhole_46 ?_
        refine V_iload_n (pc := 47) C 1 rfl dX12_isTreeWhole_47 ?_
        obtain ⟨M11, r12, hc13, h⟩ := cal_of h
        refine V_callVI (pc := 48) C (c_X12_countOf l Γ sk hsk fu hx1 hc13) cf_X12_countOf lk_X12_79 ⟨rfl, rfl⟩ ⟨by dsimp only; omega, by dsimp only; omega⟩ e52 rfl rfl rfl (Nat.le_of_ble_eq_true rfl) ⟨Nat.zero_le _, Nat.zero_le _⟩ rfl dX12_isTreeWhole_48 (fun hr12 => ?_)
        refine V_icmp_ge (pc := 51) C 134 hx4 hr12 dX12_isTreeWhole_51 (by decide) (fun c51_14 => ?_) (fun c51_14 => ?_)
        · have h := ite_t h c51_14
          refine V_iconst (pc := 134) C dX12_isTreeWhole_134 ?_
          exact V_zret (pc := 135) C hr hlk (by decide) h dX12_isTreeWhole_135
        · have h := ite_f h c51_14
          refine V_iload_n (pc := 54) C 2 rfl dX12_isTreeWhole_54 ?_
          refine V_iconst (pc := 55) C dX12_isTreeWhole_55 ?_
          refine V_icmp_ne (pc := 56) C 88 hx2 (by decide) dX12_isTreeWhole_56 (by decide) (fun c56_15 => ?_) (fun c56_15 => ?_)
          · have h := ite_f h c56_15
            refine V_aload_n (pc := 88) C 0 rfl dX12_isTreeWhole_88 ?_
            refine V_aload_n (pc := 89) C 0 rfl dX12_isTreeWhole_89 ?_
            refine V_iload_n (pc := 90) C 1 rfl dX12_isTreeWhole_90 ?_
            refine V_iload (pc := 91) C 4 rfl dX12_isTreeWhole_91 ?_
            obtain ⟨M16, r17, hc18, h⟩ := cal_of h
            refine V_callVI (pc := 93) C (c_X12_entry l Γ sk hsk fu hx1 hx4 hc18) cf_X12_entry lk_X12_71 ⟨rfl, rfl⟩ ⟨by dsimp only; omega, by dsimp only; omega⟩ e52 rfl rfl rfl (Nat.le_of_ble_eq_true rfl) ⟨Nat.zero_le _, Nat.zero_le _⟩ rfl dX12_isTreeWhole_93 (fun hr17 => ?_)
            refine V_iload_n (pc := 96) C 2 rfl dX12_isTreeWhole_96 ?_
            refine V_iconst (pc := 97) C dX12_isTreeWhole_97 ?_
            refine V_isub (pc := 98) C dX12_isTreeWhole_98 ?_
            refine V_iload_n (pc := 99) C 3 rfl dX12_isTreeWhole_99 ?_
            refine V_if_eq (pc := 100) C 119 hx3 dX12_isTreeWhole_100 (by decide) (fun c100_19 => ?_) (fun c100_19 => ?_)
            · have h := ite_t h c100_19
              obtain ⟨g25, h⟩ := grd_of h
              refine V_sub (L' := [(0, vr Γ 52), (1, vi x1), (2, vi x2), (3, vi x3), (4, vi x4)]) [0, 1, 2, 3, 4] rfl (by decide) ?_
              exact JP119 _ (fun _ _ _ _ _ hz0 hz1 hz2 hz3 hz => ih hz0 hz1 hz2 hz3 hz) hx1 hx2 hx3 hx4 hr17 g25 h
            · have h := ite_f h c100_19
              refine V_iload (pc := 103) C 4 rfl dX12_isTreeWhole_103 ?_
              refine V_aload_n (pc := 105) C 0 rfl dX12_isTreeWhole_105 ?_
              refine V_iload_n (pc := 106) C 1 rfl dX12_isTreeWhole_106 ?_
              obtain ⟨M26, r27, hc28, h⟩ := cal_of h
              refine V_callVI (pc := 107) C (c_X12_countOf l Γ sk hsk fu hx1 hc28) cf_X12_countOf lk_X12_79 ⟨rfl, rfl⟩ ⟨by dsimp only; omega, by dsimp only; omega⟩ e52 rfl rfl rfl (Nat.le_of_ble_eq_true rfl) ⟨Nat.zero_le _, Nat.zero_le _⟩ rfl dX12_isTreeWhole_107 (fun hr27 => ?_)
              refine V_iconst (pc := 110) C dX12_isTreeWhole_110 ?_
              refine V_isub (pc := 111) C dX12_isTreeWhole_111 ?_
              obtain ⟨g29, h⟩ := grd_of h
              refine V_icmp_ne (pc := 112) C 119 hx4 g29 dX12_isTreeWhole_112 (by decide) (fun c112_30 => ?_) (fun c112_30 => ?_)
              · have h := ite_f h c112_30
                obtain ⟨g31, h⟩ := grd_of h
                refine V_sub (L' := [(0, vr Γ 52), (1, vi x1), (2, vi x2), (3, vi x3), (4, vi x4)]) [0, 1, 2, 3, 4] rfl (by decide) ?_
                exact JP119 _ (fun _ _ _ _ _ hz0 hz1 hz2 hz3 hz => ih hz0 hz1 hz2 hz3 hz) hx1 hx2 hx3 hx4 hr17 g31 h
              · have h := ite_t h c112_30
                refine V_iconst (pc := 115) C dX12_isTreeWhole_115 ?_
                refine V_goto (pc := 116) C 120 dX12_isTreeWhole_116 (by decide) ?_
                obtain ⟨g32, h⟩ := grd_of h
                obtain ⟨M33, r34, hc35, h⟩ := cal_of h
                refine V_callVI (pc := 120) C (hsf hr17 g32 (by decide) hc35) cf_X12_isTreeWhole lk_X12_386 ⟨rfl, rfl⟩ ⟨by dsimp only; omega, by dsimp only; omega⟩ e52 rfl rfl rfl (Nat.le_of_ble_eq_true rfl) ⟨Nat.zero_le _, Nat.zero_le _⟩ rfl dX12_isTreeWhole_120 (fun hr34 => ?_)
                refine V_if_ne (pc := 123) C 128 hr34 dX12_isTreeWhole_123 (by decide) (fun c123_36 => ?_) (fun c123_36 => ?_)
                · have h := ite_f h c123_36
                  refine V_iinc (pc := 128) C (L' := [(0, vr Γ 52), (1, vi x1), (2, vi x2), (3, vi x3), (4, vi (x4 + (1 : Int)))]) 4 rfl rfl (by decide) dX12_isTreeWhole_128 ?_
                  refine V_goto (pc := 131) C 44 dX12_isTreeWhole_131 (by decide) ?_
                  obtain ⟨g37, h⟩ := grd_of h
                  refine V_sub (L' := [(0, vr Γ 52), (1, vi x1), (2, vi x2), (3, vi x3), (4, vi (x4 + (1 : Int)))]) [0, 1, 2, 3, 4] rfl (by decide) ?_
                  exact ih hx1 hx2 hx3 g37 h
                · have h := ite_t h c123_36
                  refine V_iconst (pc := 126) C dX12_isTreeWhole_126 ?_
                  exact V_zret (pc := 127) C hr hlk (by decide) h dX12_isTreeWhole_127
          · have h := ite_t h c56_15
            refine V_aload_n (pc := 59) C 0 rfl dX12_isTreeWhole_59 ?_
            refine V_getR (pc := 60) C e52 rfl inX12 24 (by decide) rfl lf_X12_46 rfl dX12_isTreeWhole_60 ?_
            refine V_aload_n (pc := 63) C 0 rfl dX12_isTreeWhole_63 ?_
            refine V_rng fun hM38 => ?_
            refine V_getI (pc := 64) C e52 rfl inX12 25 (by decide) rfl lf_X12_383 rfl dX12_isTreeWhole_64 ?_
            refine V_aload_n (pc := 67) C 0 rfl dX12_isTreeWhole_67 ?_
            refine V_iload_n (pc := 68) C 1 rfl dX12_isTreeWhole_68 ?_
            refine V_iload (pc := 69) C 4 rfl dX12_isTreeWhole_69 ?_
            obtain ⟨M39, r40, hc41, h⟩ := cal_of h
            refine V_callVI (pc := 71) C (c_X12_entry l Γ sk hsk fu hx1 hx4 hc41) cf_X12_entry lk_X12_71 ⟨rfl, rfl⟩ ⟨by dsimp only; omega, by dsimp only; omega⟩ e52 rfl rfl rfl (Nat.le_of_ble_eq_true rfl) ⟨Nat.zero_le _, Nat.zero_le _⟩ rfl dX12_isTreeWhole_71 (fun hr40 => ?_)
            obtain ⟨g42, h⟩ := grd_of h
            refine V_iast (pc := 74) C (by decide) e63 g42 (hM38 _ _) hr40 dX12_isTreeWhole_74 ?_
            refine V_aload_n (pc := 75) C 0 rfl dX12_isTreeWhole_75 ?_
            refine V_dup (pc := 76) C rfl dX12_isTreeWhole_76 ?_
            refine V_rng fun hM43 => ?_
            refine V_getI (pc := 77) C e52 rfl inX12 25 (by decide) rfl lf_X12_383 rfl dX12_isTreeWhole_77 ?_
            refine V_iconst (pc := 80) C dX12_isTreeWhole_80 ?_
            refine V_iadd (pc := 81) C dX12_isTreeWhole_81 ?_
            obtain ⟨g44, h⟩ := grd_of h
            refine V_putI (pc := 82) C (by decide) e52 rfl inX12 tyX12 tyX12_ok nmX12 25 (by decide) rfl rfl lf_X12_383 rfl g44 rfl dX12_isTreeWhole_82 ?_
            refine V_goto (pc := 85) C 128 dX12_isTreeWhole_85 (by decide) ?_
            refine V_iinc (pc := 128) C (L' := [(0, vr Γ 52), (1, vi x1), (2, vi x2), (3, vi x3), (4, vi (x4 + (1 : Int)))]) 4 rfl rfl (by decide) dX12_isTreeWhole_128 ?_
            refine V_goto (pc := 131) C 44 dX12_isTreeWhole_131 (by decide) ?_
            obtain ⟨g45, h⟩ := grd_of h
            refine V_sub (L' := [(0, vr Γ 52), (1, vi x1), (2, vi x2), (3, vi x3), (4, vi (x4 + (1 : Int)))]) [0, 1, 2, 3, 4] rfl (by decide) ?_
            exact ih hx1 hx2 hx3 g45 h
    have JP41 : ∀ {x1 : Int} {x2 : Int} {x3 : Int} {M : Mem}, rng x1 → rng x2 → rng x3 → f_X12_isTreeWhole_J41 fu sf x1 x2 x3 M = some (M', r) → VV p l e ({ frames := 3 * (d + 1 + 1), cells := 0, slots := 0, locals := 106 * (d + 1 + 1) } : Room) s m args below meth c (MQ below (PostI Γ sk M' r s.heap.size) args s 0 0 (Fr Γ sk s.heap.size)) 5 Γ sk M 0 0 41 [(0, vr Γ 52), (1, vi x1), (2, vi x2), (3, vi x3)] [] := by
      intro x1 x2 x3 M hx1 hx2 hx3 h
      unfold f_X12_isTreeWhole_J41 at h
      refine V_iconst (pc := 41) C dX12_isTreeWhole_41 ?_
      refine V_istore (pc := 42) C (L' := [(0, vr Γ 52), (1, vi x1), (2, vi x2), (3, vi x3), (4, vi (0 : Int))]) rfl (by decide) dX12_isTreeWhole_42 ?_
      refine V_sub (L' := [(0, vr Γ 52), (1, vi x1), (2, vi x2), (3, vi x3), (4, vi (0 : Int))]) [0, 1, 2, 3, 4] rfl (by decide) ?_
      exact LP44 fu  hx1 hx2 hx3 (by decide) h
    have JP23 : ∀ {x1 : Int} {x2 : Int} {x3 : Int} {y0 : Int} {y1 : Int} {M : Mem}, rng x1 → rng x2 → rng x3 → rng y0 → rng y1 → f_X12_isTreeWhole_J23 fu sf x1 x2 x3 y0 y1 M = some (M', r) → VV p l e ({ frames := 3 * (d + 1 + 1), cells := 0, slots := 0, locals := 106 * (d + 1 + 1) } : Room) s m args below meth c (MQ below (PostI Γ sk M' r s.heap.size) args s 0 0 (Fr Γ sk s.heap.size)) 5 Γ sk M 0 0 23 [(0, vr Γ 52), (1, vi x1), (2, vi x2), (3, vi x3)] [vi y1, vi y0] := by
      intro x1 x2 x3 y0 y1 M hx1 hx2 hx3 hy0 hy1 h
      unfold f_X12_isTreeWhole_J23 at h
      refine V_icmp_ne (pc := 23) C 39 hy0 hy1 dX12_isTreeWhole_23 (by decide) (fun c23_9 => ?_) (fun c23_9 => ?_)
      · have h := ite_f h c23_9
        refine V_iconst (pc := 39) C dX12_isTreeWhole_39 ?_
        exact V_zret (pc := 40) C hr hlk (by decide) h dX12_isTreeWhole_40
      · have h := ite_t h c23_9
        refine V_iload_n (pc := 26) C 3 rfl dX12_isTreeWhole_26 ?_
        refine V_if_ne (pc := 27) C 41 hx3 dX12_isTreeWhole_27 (by decide) (fun c27_10 => ?_) (fun c27_10 => ?_)
        · have h := ite_f h c27_10
          refine V_sub (L' := [(0, vr Γ 52), (1, vi x1), (2, vi x2), (3, vi x3)]) [0, 1, 2, 3] rfl (by decide) ?_
          exact JP41 hx1 hx2 hx3 h
        · have h := ite_t h c27_10
          refine V_aload_n (pc := 30) C 0 rfl dX12_isTreeWhole_30 ?_
          refine V_iload_n (pc := 31) C 1 rfl dX12_isTreeWhole_31 ?_
          obtain ⟨M46, r47, hc48, h⟩ := cal_of h
          refine V_callVI (pc := 32) C (c_X12_countOf l Γ sk hsk fu hx1 hc48) cf_X12_countOf lk_X12_79 ⟨rfl, rfl⟩ ⟨by dsimp only; omega, by dsimp only; omega⟩ e52 rfl rfl rfl (Nat.le_of_ble_eq_true rfl) ⟨Nat.zero_le _, Nat.zero_le _⟩ rfl dX12_isTreeWhole_32 (fun hr47 => ?_)
          refine V_iconst (pc := 35) C dX12_isTreeWhole_35 ?_
          refine V_icmp_ge (pc := 36) C 41 hr47 (by decide) dX12_isTreeWhole_36 (by decide) (fun c36_49 => ?_) (fun c36_49 => ?_)
          · have h := ite_t h c36_49
            refine V_sub (L' := [(0, vr Γ 52), (1, vi x1), (2, vi x2), (3, vi x3)]) [0, 1, 2, 3] rfl (by decide) ?_
            exact JP41 hx1 hx2 hx3 h
          · have h := ite_f h c36_49
            refine V_iconst (pc := 39) C dX12_isTreeWhole_39 ?_
            exact V_zret (pc := 40) C hr hlk (by decide) h dX12_isTreeWhole_40
    skip
    refine V_aload_n (pc := 0) C 0 rfl dX12_isTreeWhole_0 ?_
    refine V_iload_n (pc := 1) C 1 rfl dX12_isTreeWhole_1 ?_
    obtain ⟨M1, r2, hc3, h⟩ := cal_of h
    refine V_callVI (pc := 2) C (c_X12_isStored l Γ sk hsk fu ha1 hc3) cf_X12_isStored lk_X12_171 ⟨rfl, rfl⟩ ⟨by dsimp only; omega, by dsimp only; omega⟩ e52 rfl rfl rfl (Nat.le_of_ble_eq_true rfl) ⟨Nat.zero_le _, Nat.zero_le _⟩ rfl dX12_isTreeWhole_2 (fun hr2 => ?_)
    refine V_if_eq (pc := 5) C 39 hr2 dX12_isTreeWhole_5 (by decide) (fun c5_4 => ?_) (fun c5_4 => ?_)
    · have h := ite_t h c5_4
      refine V_iconst (pc := 39) C dX12_isTreeWhole_39 ?_
      exact V_zret (pc := 40) C hr hlk (by decide) h dX12_isTreeWhole_40
    · have h := ite_f h c5_4
      refine V_aload_n (pc := 8) C 0 rfl dX12_isTreeWhole_8 ?_
      refine V_iload_n (pc := 9) C 1 rfl dX12_isTreeWhole_9 ?_
      obtain ⟨M5, r6, hc7, h⟩ := cal_of h
      refine V_callVI (pc := 10) C (c_X12_isLeafNode l Γ sk hsk fu ha1 hc7) cf_X12_isLeafNode lk_X12_90 ⟨rfl, rfl⟩ ⟨by dsimp only; omega, by dsimp only; omega⟩ e52 rfl rfl rfl (Nat.le_of_ble_eq_true rfl) ⟨Nat.zero_le _, Nat.zero_le _⟩ rfl dX12_isTreeWhole_10 (fun hr6 => ?_)
      refine V_iload_n (pc := 13) C 2 rfl dX12_isTreeWhole_13 ?_
      refine V_iconst (pc := 14) C dX12_isTreeWhole_14 ?_
      refine V_icmp_ne (pc := 15) C 22 ha2 (by decide) dX12_isTreeWhole_15 (by decide) (fun c15_8 => ?_) (fun c15_8 => ?_)
      · have h := ite_f h c15_8
        refine V_iconst (pc := 22) C dX12_isTreeWhole_22 ?_
        refine V_sub (L' := [(0, vr Γ 52), (1, vi a1), (2, vi a2), (3, vi a3)]) [0, 1, 2, 3] rfl (by decide) ?_
        exact JP23 ha1 ha2 ha3 hr6 (by decide) h
      · have h := ite_t h c15_8
        refine V_iconst (pc := 18) C dX12_isTreeWhole_18 ?_
        refine V_goto (pc := 19) C 23 dX12_isTreeWhole_19 (by decide) ?_
        refine V_sub (L' := [(0, vr Γ 52), (1, vi a1), (2, vi a2), (3, vi a3)]) [0, 1, 2, 3] rfl (by decide) ?_
        exact JP23 ha1 ha2 ha3 hr6 (by decide) h
set_option maxRecDepth 100000 in
set_option maxHeartbeats 4000000 in
theorem c_X12_isVersionConsistent (l : Launch) (Γ : GG) (sk : List SD) (hsk : ExtM sk) (fu : Nat) {M M' : Mem} {a1 : Int} {r : Int} (ha1 : rng a1) (h : f_X12_isVersionConsistent fu M a1 = some (M', r)) : MetI l yX12_isVersionConsistent cX12_isVersionConsistent 4 .boolean ({ frames := 28, cells := 0, slots := 0, locals := 978 } : Room) Γ sk [vr Γ 52, vi a1] M M' r := by
  unfold f_X12_isVersionConsistent at h
  refine MetI_of RX12 rfl (by decide) rfl (Nat.le_of_ble_eq_true rfl) rfl ?_
  intro p e s m args below meth c C hr hlk hM
  have e52 := hsk 52 _ (by decide) rfl
  have e63 := hsk 63 _ (by decide) rfl
  have LP60 : ∀ (n : Nat) {x1 : Int} {x3 : Int} {M : Mem}, rng x1 → rng x3 → f_X12_isVersionConsistent_L60 fu n x1 x3 M = some (M', r) → VV p l e ({ frames := 28, cells := 0, slots := 0, locals := 978 } : Room) s m args below meth c (MQ below (PostI Γ sk M' r s.heap.size) args s 0 0 (Fr Γ sk s.heap.size)) 4 Γ sk M 0 0 60 [(0, vr Γ 52), (1, vi x1), (3, vi x3)] [] := by
    intro n
    induction n with
    | zero =>
      intro x1 x3 M hx1 hx3 h
      cases h
    | succ n ih =>
      intro x1 x3 M hx1 hx3 h
      rw [f_X12_isVersionConsistent_L60] at h
      refine V_iload_n (pc := 60) C 2 rfl dX12_isVersionConsistent_60 ?_
      refine V_aload_n (pc := 61) C 0 rfl dX12_isVersionConsistent_61 ?_
      refine V_rng fun hM17 => ?_
      refine V_getI (pc := 62) C e52 rfl inX12 25 (by decide) rfl lf_X12_383 rfl dX12_isVersionConsistent_62 ?_
      refine V_icmp_ge (pc := 65) C 91 hx3 (hM17 _ _) dX12_isVersionConsistent_65 (by decide) (fun c65_18 => ?_) (fun c65_18 => ?_)
      · have h := ite_t h c65_18
        refine V_iconst (pc := 91) C dX12_isVersionConsistent_91 ?_
        exact V_zret (pc := 92) C hr hlk (by decide) h dX12_isVersionConsistent_92
      · have h := ite_f h c65_18
        refine V_aload_n (pc := 68) C 0 rfl dX12_isVersionConsistent_68 ?_
        refine V_getR (pc := 69) C e52 rfl inX12 24 (by decide) rfl lf_X12_46 rfl dX12_isVersionConsistent_69 ?_
        refine V_iload_n (pc := 72) C 2 rfl dX12_isVersionConsistent_72 ?_
        obtain ⟨g19, h⟩ := grd_of h
        refine V_iald (pc := 73) C e63 g19 hx3 dX12_isVersionConsistent_73 ?_
        refine V_aload_n (pc := 74) C 0 rfl dX12_isVersionConsistent_74 ?_
        refine V_iload_n (pc := 75) C 1 rfl dX12_isVersionConsistent_75 ?_
        refine V_iload_n (pc := 76) C 2 rfl dX12_isVersionConsistent_76 ?_
        obtain ⟨M20, r21, hc22, h⟩ := cal_of h
        refine V_callVI (pc := 77) C (c_X12_element l Γ sk hsk fu hx1 hx3 hc22) cf_X12_element lk_X12_129 ⟨rfl, rfl⟩ ⟨Nat.le_of_ble_eq_true rfl, Nat.le_of_ble_eq_true rfl⟩ e52 rfl rfl rfl (Nat.le_of_ble_eq_true rfl) ⟨Nat.zero_le _, Nat.zero_le _⟩ rfl dX12_isVersionConsistent_77 (fun hr21 => ?_)
        refine V_icmp_eq (pc := 80) C 85 (hM17 _ _) hr21 dX12_isVersionConsistent_80 (by decide) (fun c80_23 => ?_) (fun c80_23 => ?_)
        · have h := ite_t h c80_23
          refine V_iinc (pc := 85) C (L' := [(0, vr Γ 52), (1, vi x1), (3, vi (x3 + (1 : Int)))]) 2 rfl rfl (by decide) dX12_isVersionConsistent_85 ?_
          refine V_goto (pc := 88) C 60 dX12_isVersionConsistent_88 (by decide) ?_
          obtain ⟨g24, h⟩ := grd_of h
          refine V_sub (L' := [(0, vr Γ 52), (1, vi x1), (3, vi (x3 + (1 : Int)))]) [0, 1, 2] rfl (by decide) ?_
          exact ih hx1 g24 h
        · have h := ite_f h c80_23
          refine V_iconst (pc := 83) C dX12_isVersionConsistent_83 ?_
          exact V_zret (pc := 84) C hr hlk (by decide) h dX12_isVersionConsistent_84
  skip
  refine V_aload_n (pc := 0) C 0 rfl dX12_isVersionConsistent_0 ?_
  refine V_iconst (pc := 1) C dX12_isVersionConsistent_1 ?_
  refine V_putI (pc := 2) C (by decide) e52 rfl inX12 tyX12 tyX12_ok nmX12 25 (by decide) rfl rfl lf_X12_383 rfl (by decide) rfl dX12_isVersionConsistent_2 ?_
  refine V_aload_n (pc := 5) C 0 rfl dX12_isVersionConsistent_5 ?_
  refine V_iload_n (pc := 6) C 1 rfl dX12_isVersionConsistent_6 ?_
  obtain ⟨M1, r2, hc3, h⟩ := cal_of h
  refine V_callVI (pc := 7) C (c_X12_root l Γ sk hsk fu ha1 hc3) cf_X12_root lk_X12_145 ⟨rfl, rfl⟩ ⟨Nat.le_of_ble_eq_true rfl, Nat.le_of_ble_eq_true rfl⟩ e52 rfl rfl rfl (Nat.le_of_ble_eq_true rfl) ⟨Nat.zero_le _, Nat.zero_le _⟩ rfl dX12_isVersionConsistent_7 (fun hr2 => ?_)
  refine V_istore_n (pc := 10) C (L' := [(0, vr Γ 52), (1, vi a1), (2, vi r2)]) rfl (by decide) dX12_isVersionConsistent_10 ?_
  refine V_iload_n (pc := 11) C 2 rfl dX12_isVersionConsistent_11 ?_
  refine V_iconst (pc := 12) C dX12_isVersionConsistent_12 ?_
  refine V_icmp_ne (pc := 13) C 30 hr2 (by decide) dX12_isVersionConsistent_13 (by decide) (fun c13_4 => ?_) (fun c13_4 => ?_)
  · have h := ite_f h c13_4
    refine V_aload_n (pc := 30) C 0 rfl dX12_isVersionConsistent_30 ?_
    refine V_iload_n (pc := 31) C 2 rfl dX12_isVersionConsistent_31 ?_
    refine V_aload_n (pc := 32) C 0 rfl dX12_isVersionConsistent_32 ?_
    refine V_iload_n (pc := 33) C 1 rfl dX12_isVersionConsistent_33 ?_
    obtain ⟨M5, r6, hc7, h⟩ := cal_of h
    refine V_callVI (pc := 34) C (c_X12_heightOf l Γ sk hsk fu ha1 hc7) cf_X12_heightOf lk_X12_148 ⟨rfl, rfl⟩ ⟨Nat.le_of_ble_eq_true rfl, Nat.le_of_ble_eq_true rfl⟩ e52 rfl rfl rfl (Nat.le_of_ble_eq_true rfl) ⟨Nat.zero_le _, Nat.zero_le _⟩ rfl dX12_isVersionConsistent_34 (fun hr6 => ?_)
    refine V_iconst (pc := 37) C dX12_isVersionConsistent_37 ?_
    obtain ⟨M8, r9, hc10, h⟩ := cal_of h
    refine V_callVI (pc := 38) C (c_X12_isTreeWhole l Γ sk hsk fu 8 hr2 hr6 (by decide) hc10) cf_X12_isTreeWhole lk_X12_386 ⟨rfl, rfl⟩ ⟨Nat.le_of_ble_eq_true rfl, Nat.le_of_ble_eq_true rfl⟩ e52 rfl rfl rfl (Nat.le_of_ble_eq_true rfl) ⟨Nat.zero_le _, Nat.zero_le _⟩ rfl dX12_isVersionConsistent_38 (fun hr9 => ?_)
    refine V_if_eq (pc := 41) C 56 hr9 dX12_isVersionConsistent_41 (by decide) (fun c41_11 => ?_) (fun c41_11 => ?_)
    · have h := ite_t h c41_11
      refine V_iconst (pc := 56) C dX12_isVersionConsistent_56 ?_
      exact V_zret (pc := 57) C hr hlk (by decide) h dX12_isVersionConsistent_57
    · have h := ite_f h c41_11
      refine V_aload_n (pc := 44) C 0 rfl dX12_isVersionConsistent_44 ?_
      refine V_rng fun hM12 => ?_
      refine V_getI (pc := 45) C e52 rfl inX12 25 (by decide) rfl lf_X12_383 rfl dX12_isVersionConsistent_45 ?_
      refine V_aload_n (pc := 48) C 0 rfl dX12_isVersionConsistent_48 ?_
      refine V_iload_n (pc := 49) C 1 rfl dX12_isVersionConsistent_49 ?_
      obtain ⟨M13, r14, hc15, h⟩ := cal_of h
      refine V_callVI (pc := 50) C (c_X12_lengthOf l Γ sk hsk fu ha1 hc15) cf_X12_lengthOf lk_X12_121 ⟨rfl, rfl⟩ ⟨Nat.le_of_ble_eq_true rfl, Nat.le_of_ble_eq_true rfl⟩ e52 rfl rfl rfl (Nat.le_of_ble_eq_true rfl) ⟨Nat.zero_le _, Nat.zero_le _⟩ rfl dX12_isVersionConsistent_50 (fun hr14 => ?_)
      refine V_icmp_eq (pc := 53) C 58 (hM12 _ _) hr14 dX12_isVersionConsistent_53 (by decide) (fun c53_16 => ?_) (fun c53_16 => ?_)
      · have h := ite_t h c53_16
        refine V_iconst (pc := 58) C dX12_isVersionConsistent_58 ?_
        refine V_istore_n (pc := 59) C (L' := [(0, vr Γ 52), (1, vi a1), (2, vi r2), (3, vi (0 : Int))]) rfl (by decide) dX12_isVersionConsistent_59 ?_
        refine V_sub (L' := [(0, vr Γ 52), (1, vi a1), (3, vi (0 : Int))]) [0, 1, 3] rfl (by decide) ?_
        exact LP60 fu  ha1 (by decide) h
      · have h := ite_f h c53_16
        refine V_iconst (pc := 56) C dX12_isVersionConsistent_56 ?_
        exact V_zret (pc := 57) C hr hlk (by decide) h dX12_isVersionConsistent_57
  · have h := ite_t h c13_4
    refine V_aload_n (pc := 16) C 0 rfl dX12_isVersionConsistent_16 ?_
    refine V_iload_n (pc := 17) C 1 rfl dX12_isVersionConsistent_17 ?_
    obtain ⟨M25, r26, hc27, h⟩ := cal_of h
    refine V_callVI (pc := 18) C (c_X12_lengthOf l Γ sk hsk fu ha1 hc27) cf_X12_lengthOf lk_X12_121 ⟨rfl, rfl⟩ ⟨Nat.le_of_ble_eq_true rfl, Nat.le_of_ble_eq_true rfl⟩ e52 rfl rfl rfl (Nat.le_of_ble_eq_true rfl) ⟨Nat.zero_le _, Nat.zero_le _⟩ rfl dX12_isVersionConsistent_18 (fun hr26 => ?_)
    refine V_if_ne (pc := 21) C 28 hr26 dX12_isVersionConsistent_21 (by decide) (fun c21_28 => ?_) (fun c21_28 => ?_)
    · have h := ite_f h c21_28
      refine V_iconst (pc := 28) C dX12_isVersionConsistent_28 ?_
      exact V_zret (pc := 29) C hr hlk (by decide) h dX12_isVersionConsistent_29
    · have h := ite_t h c21_28
      refine V_iconst (pc := 24) C dX12_isVersionConsistent_24 ?_
      refine V_goto (pc := 25) C 29 dX12_isVersionConsistent_25 (by decide) ?_
      exact V_zret (pc := 29) C hr hlk (by decide) h dX12_isVersionConsistent_29
set_option maxRecDepth 100000 in
set_option maxHeartbeats 4000000 in
theorem c_X12_isRoot (l : Launch) (Γ : GG) (sk : List SD) (hsk : ExtM sk) (fu : Nat) {M M' : Mem} {a1 : Int} {r : Int} (ha1 : rng a1) (h : f_X12_isRoot fu M a1 = some (M', r)) : MetI l yX12_isRoot cX12_isRoot 3 .boolean ({ frames := 2, cells := 0, slots := 0, locals := 41 } : Room) Γ sk [vr Γ 52, vi a1] M M' r := by
  unfold f_X12_isRoot at h
  refine MetI_of RX12 rfl (by decide) rfl (Nat.le_of_ble_eq_true rfl) rfl ?_
  intro p e s m args below meth c C hr hlk hM
  have e52 := hsk 52 _ (by decide) rfl
  have e53 := hsk 53 _ (by decide) rfl
  have LP2 : ∀ (n : Nat) {x1 : Int} {x2 : Int} {M : Mem}, rng x1 → rng x2 → f_X12_isRoot_L2 fu n x1 x2 M = some (M', r) → VV p l e ({ frames := 2, cells := 0, slots := 0, locals := 41 } : Room) s m args below meth c (MQ below (PostI Γ sk M' r s.heap.size) args s 0 0 (Fr Γ sk s.heap.size)) 3 Γ sk M 0 0 2 [(0, vr Γ 52), (1, vi x1), (2, vi x2)] [] := by
    intro n
    induction n with
    | zero =>
      intro x1 x2 M hx1 hx2 h
      cases h
    | succ n ih =>
      intro x1 x2 M hx1 hx2 h
      rw [f_X12_isRoot_L2] at h
      refine V_iload_n (pc := 2) C 2 rfl dX12_isRoot_2 ?_
      refine V_aload_n (pc := 3) C 0 rfl dX12_isRoot_3 ?_
      refine V_getR (pc := 4) C e52 rfl inX12 0 (by decide) rfl lf_X12_9 rfl dX12_isRoot_4 ?_
      refine V_iconst (pc := 7) C dX12_isRoot_7 ?_
      refine V_rng fun hM1 => ?_
      obtain ⟨g2, h⟩ := grd_of h
      refine V_iald (pc := 8) C e53 g2 (by decide) dX12_isRoot_8 ?_
      refine V_icmp_ge (pc := 9) C 37 hx2 (hM1 _ _) dX12_isRoot_9 (by decide) (fun c9_3 => ?_) (fun c9_3 => ?_)
      · have h := ite_t h c9_3
        refine V_iconst (pc := 37) C dX12_isRoot_37 ?_
        exact V_zret (pc := 38) C hr hlk (by decide) h dX12_isRoot_38
      · have h := ite_f h c9_3
        refine V_aload_n (pc := 12) C 0 rfl dX12_isRoot_12 ?_
        refine V_iload_n (pc := 13) C 2 rfl dX12_isRoot_13 ?_
        obtain ⟨M4, r5, hc6, h⟩ := cal_of h
        refine V_callVI (pc := 14) C (c_X12_isGone l Γ sk hsk fu hx2 hc6) cf_X12_isGone lk_X12_164 ⟨rfl, rfl⟩ ⟨Nat.le_of_ble_eq_true rfl, Nat.le_of_ble_eq_true rfl⟩ e52 rfl rfl rfl (Nat.le_of_ble_eq_true rfl) ⟨Nat.zero_le _, Nat.zero_le _⟩ rfl dX12_isRoot_14 (fun hr5 => ?_)
        refine V_if_ne (pc := 17) C 31 hr5 dX12_isRoot_17 (by decide) (fun c17_7 => ?_) (fun c17_7 => ?_)
        · have h := ite_f h c17_7
          refine V_iinc (pc := 31) C (L' := [(0, vr Γ 52), (1, vi x1), (2, vi (x2 + (1 : Int)))]) 2 rfl rfl (by decide) dX12_isRoot_31 ?_
          refine V_goto (pc := 34) C 2 dX12_isRoot_34 (by decide) ?_
          obtain ⟨g8, h⟩ := grd_of h
          refine V_sub (L' := [(0, vr Γ 52), (1, vi x1), (2, vi (x2 + (1 : Int)))]) [0, 1, 2] rfl (by decide) ?_
          exact ih hx1 g8 h
        · have h := ite_t h c17_7
          refine V_aload_n (pc := 20) C 0 rfl dX12_isRoot_20 ?_
          refine V_iload_n (pc := 21) C 2 rfl dX12_isRoot_21 ?_
          obtain ⟨M9, r10, hc11, h⟩ := cal_of h
          refine V_callVI (pc := 22) C (c_X12_root l Γ sk hsk fu hx2 hc11) cf_X12_root lk_X12_145 ⟨rfl, rfl⟩ ⟨Nat.le_of_ble_eq_true rfl, Nat.le_of_ble_eq_true rfl⟩ e52 rfl rfl rfl (Nat.le_of_ble_eq_true rfl) ⟨Nat.zero_le _, Nat.zero_le _⟩ rfl dX12_isRoot_22 (fun hr10 => ?_)
          refine V_iload_n (pc := 25) C 1 rfl dX12_isRoot_25 ?_
          refine V_icmp_ne (pc := 26) C 31 hr10 hx1 dX12_isRoot_26 (by decide) (fun c26_12 => ?_) (fun c26_12 => ?_)
          · have h := ite_f h c26_12
            refine V_iinc (pc := 31) C (L' := [(0, vr Γ 52), (1, vi x1), (2, vi (x2 + (1 : Int)))]) 2 rfl rfl (by decide) dX12_isRoot_31 ?_
            refine V_goto (pc := 34) C 2 dX12_isRoot_34 (by decide) ?_
            obtain ⟨g13, h⟩ := grd_of h
            refine V_sub (L' := [(0, vr Γ 52), (1, vi x1), (2, vi (x2 + (1 : Int)))]) [0, 1, 2] rfl (by decide) ?_
            exact ih hx1 g13 h
          · have h := ite_t h c26_12
            refine V_iconst (pc := 29) C dX12_isRoot_29 ?_
            exact V_zret (pc := 30) C hr hlk (by decide) h dX12_isRoot_30
  skip
  refine V_iconst (pc := 0) C dX12_isRoot_0 ?_
  refine V_istore_n (pc := 1) C (L' := [(0, vr Γ 52), (1, vi a1), (2, vi (0 : Int))]) rfl (by decide) dX12_isRoot_1 ?_
  refine V_sub (L' := [(0, vr Γ 52), (1, vi a1), (2, vi (0 : Int))]) [0, 1, 2] rfl (by decide) ?_
  exact LP2 fu  ha1 (by decide) h
set_option maxRecDepth 100000 in
set_option maxHeartbeats 4000000 in
theorem c_X12_isHeld (l : Launch) (Γ : GG) (sk : List SD) (hsk : ExtM sk) (fu : Nat) : ∀ (d : Nat) {M M' : Mem} {a1 : Int} {r : Int} (ha1 : rng a1) (h : f_X12_isHeld fu d M a1 = some (M', r)), MetI l yX12_isHeld cX12_isHeld 3 .boolean ({ frames := 4 * (d + 1), cells := 0, slots := 0, locals := 129 * (d + 1) } : Room) Γ sk [vr Γ 52, vi a1] M M' r := by
  intro d
  induction d with
  | zero =>
    intro M M' a1 r ha1 h
    cases h
  | succ d hsf =>
    intro M M' a1 r ha1 h
    rw [f_X12_isHeld] at h
    refine MetI_of RX12 rfl (by decide) rfl (Nat.le_of_ble_eq_true rfl) rfl ?_
    intro p e s m args below meth c C hr hlk hM
    have e52 := hsk 52 _ (by decide) rfl
    have e53 := hsk 53 _ (by decide) rfl
    generalize hsfe : f_X12_isHeld fu d = sf at h hsf
    have LP12 : ∀ (n : Nat) {x1 : Int} {x2 : Int} {M : Mem}, rng x1 → rng x2 → f_X12_isHeld_L12 fu sf n x1 x2 M = some (M', r) → VV p l e ({ frames := 4 * (d + 1 + 1), cells := 0, slots := 0, locals := 129 * (d + 1 + 1) } : Room) s m args below meth c (MQ below (PostI Γ sk M' r s.heap.size) args s 0 0 (Fr Γ sk s.heap.size)) 3 Γ sk M 0 0 12 [(0, vr Γ 52), (1, vi x1), (2, vi x2)] [] := by
      intro n
      induction n with
      | zero =>
        intro x1 x2 M hx1 hx2 h
        cases h
      | succ n ih =>
        intro x1 x2 M hx1 hx2 h
        rw [f_X12_isHeld_L12] at h
        refine V_iload_n (pc := 12) C 2 rfl dX12_isHeld_12 ?_
        refine V_aload_n (pc := 13) C 0 rfl dX12_isHeld_13 ?_
        refine V_getR (pc := 14) C e52 rfl inX12 0 (by decide) rfl lf_X12_9 rfl dX12_isHeld_14 ?_
        refine V_iconst (pc := 17) C dX12_isHeld_17 ?_
        refine V_rng fun hM5 => ?_
        obtain ⟨g6, h⟩ := grd_of h
        refine V_iald (pc := 18) C e53 g6 (by decide) dX12_isHeld_18 ?_
        refine V_icmp_ge (pc := 19) C 47 hx2 (hM5 _ _) dX12_isHeld_19 (by decide) (fun c19_7 => ?_) (fun c19_7 => ?_)
        · have h := ite_t h c19_7
          refine V_iconst (pc := 47) C dX12_isHeld_47 ?_
          exact V_zret (pc := 48) C hr hlk (by decide) h dX12_isHeld_48
        · have h := ite_f h c19_7
          refine V_aload_n (pc := 22) C 0 rfl dX12_isHeld_22 ?_
          refine V_iload_n (pc := 23) C 2 rfl dX12_isHeld_23 ?_
          refine V_iload_n (pc := 24) C 1 rfl dX12_isHeld_24 ?_
          obtain ⟨M8, r9, hc10, h⟩ := cal_of h
          refine V_callVI (pc := 25) C (c_X12_hasChild l Γ sk hsk fu hx2 hx1 hc10) cf_X12_hasChild lk_X12_370 ⟨rfl, rfl⟩ ⟨by dsimp only; omega, by dsimp only; omega⟩ e52 rfl rfl rfl (Nat.le_of_ble_eq_true rfl) ⟨Nat.zero_le _, Nat.zero_le _⟩ rfl dX12_isHeld_25 (fun hr9 => ?_)
          refine V_if_eq (pc := 28) C 41 hr9 dX12_isHeld_28 (by decide) (fun c28_11 => ?_) (fun c28_11 => ?_)
          · have h := ite_t h c28_11
            refine V_iinc (pc := 41) C (L' := [(0, vr Γ 52), (1, vi x1), (2, vi (x2 + (1 : Int)))]) 2 rfl rfl (by decide) dX12_isHeld_41 ?_
            refine V_goto (pc := 44) C 12 dX12_isHeld_44 (by decide) ?_
            obtain ⟨g12, h⟩ := grd_of h
            refine V_sub (L' := [(0, vr Γ 52), (1, vi x1), (2, vi (x2 + (1 : Int)))]) [0, 1, 2] rfl (by decide) ?_
            exact ih hx1 g12 h
          · have h := ite_f h c28_11
            refine V_aload_n (pc := 31) C 0 rfl dX12_isHeld_31 ?_
            refine V_iload_n (pc := 32) C 2 rfl dX12_isHeld_32 ?_
            obtain ⟨M13, r14, hc15, h⟩ := cal_of h
            refine V_callVI (pc := 33) C (hsf hx2 hc15) cf_X12_isHeld lk_X12_393 ⟨rfl, rfl⟩ ⟨by dsimp only; omega, by dsimp only; omega⟩ e52 rfl rfl rfl (Nat.le_of_ble_eq_true rfl) ⟨Nat.zero_le _, Nat.zero_le _⟩ rfl dX12_isHeld_33 (fun hr14 => ?_)
            refine V_if_eq (pc := 36) C 41 hr14 dX12_isHeld_36 (by decide) (fun c36_16 => ?_) (fun c36_16 => ?_)
            · have h := ite_t h c36_16
              refine V_iinc (pc := 41) C (L' := [(0, vr Γ 52), (1, vi x1), (2, vi (x2 + (1 : Int)))]) 2 rfl rfl (by decide) dX12_isHeld_41 ?_
              refine V_goto (pc := 44) C 12 dX12_isHeld_44 (by decide) ?_
              obtain ⟨g17, h⟩ := grd_of h
              refine V_sub (L' := [(0, vr Γ 52), (1, vi x1), (2, vi (x2 + (1 : Int)))]) [0, 1, 2] rfl (by decide) ?_
              exact ih hx1 g17 h
            · have h := ite_f h c36_16
              refine V_iconst (pc := 39) C dX12_isHeld_39 ?_
              exact V_zret (pc := 40) C hr hlk (by decide) h dX12_isHeld_40
    skip
    refine V_aload_n (pc := 0) C 0 rfl dX12_isHeld_0 ?_
    refine V_iload_n (pc := 1) C 1 rfl dX12_isHeld_1 ?_
    obtain ⟨M1, r2, hc3, h⟩ := cal_of h
    refine V_callVI (pc := 2) C (c_X12_isRoot l Γ sk hsk fu ha1 hc3) cf_X12_isRoot lk_X12_390 ⟨rfl, rfl⟩ ⟨by dsimp only; omega, by dsimp only; omega⟩ e52 rfl rfl rfl (Nat.le_of_ble_eq_true rfl) ⟨Nat.zero_le _, Nat.zero_le _⟩ rfl dX12_isHeld_2 (fun hr2 => ?_)
    refine V_if_eq (pc := 5) C 10 hr2 dX12_isHeld_5 (by decide) (fun c5_4 => ?_) (fun c5_4 => ?_)
    · have h := ite_t h c5_4
      refine V_iconst (pc := 10) C dX12_isHeld_10 ?_
      refine V_istore_n (pc := 11) C (L' := [(0, vr Γ 52), (1, vi a1), (2, vi (0 : Int))]) rfl (by decide) dX12_isHeld_11 ?_
      refine V_sub (L' := [(0, vr Γ 52), (1, vi a1), (2, vi (0 : Int))]) [0, 1, 2] rfl (by decide) ?_
      exact LP12 fu  ha1 (by decide) h
    · have h := ite_f h c5_4
      refine V_iconst (pc := 8) C dX12_isHeld_8 ?_
      exact V_zret (pc := 9) C hr hlk (by decide) h dX12_isHeld_9
set_option maxRecDepth 100000 in
set_option maxHeartbeats 4000000 in
theorem c_X12_areNodesConsistent (l : Launch) (Γ : GG) (sk : List SD) (hsk : ExtM sk) (fu : Nat) {M M' : Mem}  {r : Int}  (h : f_X12_areNodesConsistent fu M  = some (M', r)) : MetI l yX12_areNodesConsistent cX12_areNodesConsistent 3 .boolean ({ frames := 37, cells := 0, slots := 0, locals := 1183 } : Room) Γ sk [vr Γ 52] M M' r := by
  unfold f_X12_areNodesConsistent at h
  refine MetI_of RX12 rfl (by decide) rfl (Nat.le_of_ble_eq_true rfl) rfl ?_
  intro p e s m args below meth c C hr hlk hM
  have e52 := hsk 52 _ (by decide) rfl
  have e53 := hsk 53 _ (by decide) rfl
  have e60 := hsk 60 _ (by decide) rfl
  have JP30 : ∀ (k6 : Int → Mem → Option (Mem × Int)) (_ : ∀ (x1 : Int) (M : Mem), rng x1 → k6 x1 M = some (M', r) → VV p l e ({ frames := 37, cells := 0, slots := 0, locals := 1183 } : Room) s m args below meth c (MQ below (PostI Γ sk M' r s.heap.size) args s 0 0 (Fr Γ sk s.heap.size)) 3 Γ sk M 0 0 6 [(0, vr Γ 52), (1, vi x1)] []) {x1 : Int} {y0 : Int} {M : Mem}, rng x1 → rng y0 → f_X12_areNodesConsistent_J30 fu k6 x1 y0 M = some (M', r) → VV p l e ({ frames := 37, cells := 0, slots := 0, locals := 1183 } : Room) s m args below meth c (MQ below (PostI Γ sk M' r s.heap.size) args s 0 0 (Fr Γ sk s.heap.size)) 3 Γ sk M 0 0 30 [(0, vr Γ 52), (1, vi x1)] [vi y0] := by
    intro k6 hkk6 x1 y0 M hx1 hy0 h
    unfold f_X12_areNodesConsistent_J30 at h
    refine V_istore_n (pc := 30) C (L' := [(0, vr Γ 52), (1, vi x1), (2, vi y0)]) rfl (by decide) dX12_areNodesConsistent_30 ?_
    refine V_iload_n (pc := 31) C 2 rfl dX12_areNodesConsistent_31 ?_
    refine V_aload_n (pc := 32) C 0 rfl dX12_areNodesConsistent_32 ?_
    refine V_iload_n (pc := 33) C 1 rfl dX12_areNodesConsistent_33 ?_
    obtain ⟨M9, r10, hc11, h⟩ := cal_of h
    refine V_callVI (pc := 34) C (c_X12_isStored l Γ sk hsk fu hx1 hc11) cf_X12_isStored lk_X12_171 ⟨rfl, rfl⟩ ⟨Nat.le_of_ble_eq_true rfl, Nat.le_of_ble_eq_true rfl⟩ e52 rfl rfl rfl (Nat.le_of_ble_eq_true rfl) ⟨Nat.zero_le _, Nat.zero_le _⟩ rfl dX12_areNodesConsistent_34 (fun hr10 => ?_)
    refine V_if_eq (pc := 37) C 52 hr10 dX12_areNodesConsistent_37 (by decide) (fun c37_12 => ?_) (fun c37_12 => ?_)
    · have h := ite_t h c37_12
      refine V_iconst (pc := 52) C dX12_areNodesConsistent_52 ?_
      refine V_icmp_eq (pc := 53) C 58 hy0 (by decide) dX12_areNodesConsistent_53 (by decide) (fun c53_13 => ?_) (fun c53_13 => ?_)
      · have h := ite_t h c53_13
        refine V_iinc (pc := 58) C (L' := [(0, vr Γ 52), (1, vi (x1 + (1 : Int))), (2, vi y0)]) 1 rfl rfl (by decide) dX12_areNodesConsistent_58 ?_
        refine V_goto (pc := 61) C 6 dX12_areNodesConsistent_61 (by decide) ?_
        obtain ⟨g14, h⟩ := grd_of h
        refine V_sub (L' := [(0, vr Γ 52), (1, vi (x1 + (1 : Int)))]) [0, 1] rfl (by decide) ?_
        exact hkk6 _ _ g14 h
      · have h := ite_f h c53_13
        refine V_iconst (pc := 56) C dX12_areNodesConsistent_56 ?_
        exact V_zret (pc := 57) C hr hlk (by decide) h dX12_areNodesConsistent_57
    · have h := ite_f h c37_12
      refine V_aload_n (pc := 40) C 0 rfl dX12_areNodesConsistent_40 ?_
      refine V_iload_n (pc := 41) C 1 rfl dX12_areNodesConsistent_41 ?_
      obtain ⟨M15, r16, hc17, h⟩ := cal_of h
      refine V_callVI (pc := 42) C (c_X12_isHeld l Γ sk hsk fu 8 hx1 hc17) cf_X12_isHeld lk_X12_393 ⟨rfl, rfl⟩ ⟨Nat.le_of_ble_eq_true rfl, Nat.le_of_ble_eq_true rfl⟩ e52 rfl rfl rfl (Nat.le_of_ble_eq_true rfl) ⟨Nat.zero_le _, Nat.zero_le _⟩ rfl dX12_areNodesConsistent_42 (fun hr16 => ?_)
      refine V_if_eq (pc := 45) C 52 hr16 dX12_areNodesConsistent_45 (by decide) (fun c45_18 => ?_) (fun c45_18 => ?_)
      · have h := ite_t h c45_18
        refine V_iconst (pc := 52) C dX12_areNodesConsistent_52 ?_
        refine V_icmp_eq (pc := 53) C 58 hy0 (by decide) dX12_areNodesConsistent_53 (by decide) (fun c53_19 => ?_) (fun c53_19 => ?_)
        · have h := ite_t h c53_19
          refine V_iinc (pc := 58) C (L' := [(0, vr Γ 52), (1, vi (x1 + (1 : Int))), (2, vi y0)]) 1 rfl rfl (by decide) dX12_areNodesConsistent_58 ?_
          refine V_goto (pc := 61) C 6 dX12_areNodesConsistent_61 (by decide) ?_
          obtain ⟨g20, h⟩ := grd_of h
          refine V_sub (L' := [(0, vr Γ 52), (1, vi (x1 + (1 : Int)))]) [0, 1] rfl (by decide) ?_
          exact hkk6 _ _ g20 h
        · have h := ite_f h c53_19
          refine V_iconst (pc := 56) C dX12_areNodesConsistent_56 ?_
          exact V_zret (pc := 57) C hr hlk (by decide) h dX12_areNodesConsistent_57
      · have h := ite_f h c45_18
        refine V_iconst (pc := 48) C dX12_areNodesConsistent_48 ?_
        refine V_goto (pc := 49) C 53 dX12_areNodesConsistent_49 (by decide) ?_
        refine V_icmp_eq (pc := 53) C 58 hy0 (by decide) dX12_areNodesConsistent_53 (by decide) (fun c53_21 => ?_) (fun c53_21 => ?_)
        · have h := ite_t h c53_21
          refine V_iinc (pc := 58) C (L' := [(0, vr Γ 52), (1, vi (x1 + (1 : Int))), (2, vi y0)]) 1 rfl rfl (by decide) dX12_areNodesConsistent_58 ?_
          refine V_goto (pc := 61) C 6 dX12_areNodesConsistent_61 (by decide) ?_
          obtain ⟨g22, h⟩ := grd_of h
          refine V_sub (L' := [(0, vr Γ 52), (1, vi (x1 + (1 : Int)))]) [0, 1] rfl (by decide) ?_
          exact hkk6 _ _ g22 h
        · have h := ite_f h c53_21
          refine V_iconst (pc := 56) C dX12_areNodesConsistent_56 ?_
          exact V_zret (pc := 57) C hr hlk (by decide) h dX12_areNodesConsistent_57
  have LP6 : ∀ (n : Nat) {x1 : Int} {M : Mem}, rng x1 → f_X12_areNodesConsistent_L6 fu n x1 M = some (M', r) → VV p l e ({ frames := 37, cells := 0, slots := 0, locals := 1183 } : Room) s m args below meth c (MQ below (PostI Γ sk M' r s.heap.size) args s 0 0 (Fr Γ sk s.heap.size)) 3 Γ sk M 0 0 6 [(0, vr Γ 52), (1, vi x1)] [] := by
    intro n
    induction n with
    | zero =>
      intro x1 M hx1 h
      cases h
    | succ n ih =>
      intro x1 M hx1 h
      rw [f_X12_areNodesConsistent_L6] at h
      refine V_iload_n (pc := 6) C 1 rfl dX12_areNodesConsistent_6 ?_
      refine V_aload_n (pc := 7) C 0 rfl dX12_areNodesConsistent_7 ?_
      refine V_getR (pc := 8) C e52 rfl inX12 0 (by decide) rfl lf_X12_9 rfl dX12_areNodesConsistent_8 ?_
      refine V_iconst (pc := 11) C dX12_areNodesConsistent_11 ?_
      refine V_rng fun hM4 => ?_
      obtain ⟨g5, h⟩ := grd_of h
      refine V_iald (pc := 12) C e53 g5 (by decide) dX12_areNodesConsistent_12 ?_
      refine V_icmp_ge (pc := 13) C 64 hx1 (hM4 _ _) dX12_areNodesConsistent_13 (by decide) (fun c13_6 => ?_) (fun c13_6 => ?_)
      · have h := ite_t h c13_6
        refine V_iconst (pc := 64) C dX12_areNodesConsistent_64 ?_
        exact V_zret (pc := 65) C hr hlk (by decide) h dX12_areNodesConsistent_65
      · have h := ite_f h c13_6
        refine V_aload_n (pc := 16) C 0 rfl dX12_areNodesConsistent_16 ?_
        refine V_getR (pc := 17) C e52 rfl inX12 11 (by decide) rfl lf_X12_32 rfl dX12_areNodesConsistent_17 ?_
        refine V_iload_n (pc := 20) C 1 rfl dX12_areNodesConsistent_20 ?_
        obtain ⟨g7, h⟩ := grd_of h
        refine V_iald (pc := 21) C e60 g7 hx1 dX12_areNodesConsistent_21 ?_
        refine V_if_le (pc := 22) C 29 (hM4 _ _) dX12_areNodesConsistent_22 (by decide) (fun c22_8 => ?_) (fun c22_8 => ?_)
        · have h := ite_t h c22_8
          refine V_iconst (pc := 29) C dX12_areNodesConsistent_29 ?_
          refine V_sub (L' := [(0, vr Γ 52), (1, vi x1)]) [0, 1] rfl (by decide) ?_
          exact JP30 _ (fun _ _ hz0 hz => ih hz0 hz) hx1 (by decide) h
        · have h := ite_f h c22_8
          refine V_iconst (pc := 25) C dX12_areNodesConsistent_25 ?_
          refine V_goto (pc := 26) C 30 dX12_areNodesConsistent_26 (by decide) ?_
          refine V_sub (L' := [(0, vr Γ 52), (1, vi x1)]) [0, 1] rfl (by decide) ?_
          exact JP30 _ (fun _ _ hz0 hz => ih hz0 hz) hx1 (by decide) h
  skip
  refine V_aload_n (pc := 0) C 0 rfl dX12_areNodesConsistent_0 ?_
  obtain ⟨M1, r2, hc3, h⟩ := cal_of h
  refine V_callVV (pc := 1) C (c_X12_reachAll l Γ sk hsk fu hc3) cf_X12_reachAll lk_X12_174 ⟨rfl, rfl⟩ ⟨Nat.le_of_ble_eq_true rfl, Nat.le_of_ble_eq_true rfl⟩ e52 rfl rfl rfl (Nat.le_of_ble_eq_true rfl) ⟨Nat.zero_le _, Nat.zero_le _⟩ rfl dX12_areNodesConsistent_1 ?_
  refine V_iconst (pc := 4) C dX12_areNodesConsistent_4 ?_
  refine V_istore_n (pc := 5) C (L' := [(0, vr Γ 52), (1, vi (0 : Int))]) rfl (by decide) dX12_areNodesConsistent_5 ?_
  refine V_sub (L' := [(0, vr Γ 52), (1, vi (0 : Int))]) [0, 1] rfl (by decide) ?_
  exact LP6 fu  (by decide) h
set_option maxRecDepth 100000 in
set_option maxHeartbeats 4000000 in
theorem c_X12_isConsistent (l : Launch) (Γ : GG) (sk : List SD) (hsk : ExtM sk) (fu : Nat) {M M' : Mem}  {r : Int}  (h : f_X12_isConsistent fu M  = some (M', r)) : MetI l yX12_isConsistent cX12_isConsistent 3 .boolean ({ frames := 38, cells := 0, slots := 0, locals := 1205 } : Room) Γ sk [vr Γ 52] M M' r := by
  unfold f_X12_isConsistent at h
  refine MetI_of RX12 rfl (by decide) rfl (Nat.le_of_ble_eq_true rfl) rfl ?_
  intro p e s m args below meth c C hr hlk hM
  have e52 := hsk 52 _ (by decide) rfl
  have e53 := hsk 53 _ (by decide) rfl
  have LP9 : ∀ (n : Nat) {x1 : Int} {x2 : Int} {M : Mem}, rng x1 → rng x2 → f_X12_isConsistent_L9 fu n x1 x2 M = some (M', r) → VV p l e ({ frames := 38, cells := 0, slots := 0, locals := 1205 } : Room) s m args below meth c (MQ below (PostI Γ sk M' r s.heap.size) args s 0 0 (Fr Γ sk s.heap.size)) 3 Γ sk M 0 0 9 [(0, vr Γ 52), (1, vi x1), (2, vi x2)] [] := by
    intro n
    induction n with
    | zero =>
      intro x1 x2 M hx1 hx2 h
      cases h
    | succ n ih =>
      intro x1 x2 M hx1 hx2 h
      rw [f_X12_isConsistent_L9] at h
      refine V_iload_n (pc := 9) C 2 rfl dX12_isConsistent_9 ?_
      refine V_aload_n (pc := 10) C 0 rfl dX12_isConsistent_10 ?_
      refine V_getR (pc := 11) C e52 rfl inX12 0 (by decide) rfl lf_X12_9 rfl dX12_isConsistent_11 ?_
      refine V_iconst (pc := 14) C dX12_isConsistent_14 ?_
      refine V_rng fun hM1 => ?_
      obtain ⟨g2, h⟩ := grd_of h
      refine V_iald (pc := 15) C e53 g2 (by decide) dX12_isConsistent_15 ?_
      refine V_icmp_ge (pc := 16) C 57 hx2 (hM1 _ _) dX12_isConsistent_16 (by decide) (fun c16_3 => ?_) (fun c16_3 => ?_)
      · have h := ite_t h c16_3
        refine V_iload_n (pc := 57) C 1 rfl dX12_isConsistent_57 ?_
        refine V_aload_n (pc := 58) C 0 rfl dX12_isConsistent_58 ?_
        refine V_getR (pc := 59) C e52 rfl inX12 0 (by decide) rfl lf_X12_9 rfl dX12_isConsistent_59 ?_
        refine V_iconst (pc := 62) C dX12_isConsistent_62 ?_
        obtain ⟨g4, h⟩ := grd_of h
        refine V_iald (pc := 63) C e53 g4 (by decide) dX12_isConsistent_63 ?_
        refine V_icmp_ne (pc := 64) C 78 hx1 (hM1 _ _) dX12_isConsistent_64 (by decide) (fun c64_5 => ?_) (fun c64_5 => ?_)
        · have h := ite_f h c64_5
          refine V_iconst (pc := 78) C dX12_isConsistent_78 ?_
          exact V_zret (pc := 79) C hr hlk (by decide) h dX12_isConsistent_79
        · have h := ite_t h c64_5
          refine V_aload_n (pc := 67) C 0 rfl dX12_isConsistent_67 ?_
          obtain ⟨M6, r7, hc8, h⟩ := cal_of h
          refine V_callVI (pc := 68) C (c_X12_areNodesConsistent l Γ sk hsk fu hc8) cf_X12_areNodesConsistent lk_X12_399 ⟨rfl, rfl⟩ ⟨Nat.le_of_ble_eq_true rfl, Nat.le_of_ble_eq_true rfl⟩ e52 rfl rfl rfl (Nat.le_of_ble_eq_true rfl) ⟨Nat.zero_le _, Nat.zero_le _⟩ rfl dX12_isConsistent_68 (fun hr7 => ?_)
          refine V_if_eq (pc := 71) C 78 hr7 dX12_isConsistent_71 (by decide) (fun c71_9 => ?_) (fun c71_9 => ?_)
          · have h := ite_t h c71_9
            refine V_iconst (pc := 78) C dX12_isConsistent_78 ?_
            exact V_zret (pc := 79) C hr hlk (by decide) h dX12_isConsistent_79
          · have h := ite_f h c71_9
            refine V_iconst (pc := 74) C dX12_isConsistent_74 ?_
            refine V_goto (pc := 75) C 79 dX12_isConsistent_75 (by decide) ?_
            exact V_zret (pc := 79) C hr hlk (by decide) h dX12_isConsistent_79
      · have h := ite_f h c16_3
        refine V_iload_n (pc := 19) C 1 rfl dX12_isConsistent_19 ?_
        refine V_aload_n (pc := 20) C 0 rfl dX12_isConsistent_20 ?_
        refine V_getR (pc := 21) C e52 rfl inX12 0 (by decide) rfl lf_X12_9 rfl dX12_isConsistent_21 ?_
        refine V_iload_n (pc := 24) C 2 rfl dX12_isConsistent_24 ?_
        obtain ⟨M10, r11, hc12, h⟩ := cal_of h
        refine V_callSI (pc := 25) C (c_X12_v l Γ sk hsk fu hx2 hc12) cf_X12_v lk_X12_112 ⟨rfl, rfl⟩ ⟨Nat.le_of_ble_eq_true rfl, Nat.le_of_ble_eq_true rfl⟩ rfl (Nat.le_of_ble_eq_true rfl) ⟨Nat.zero_le _, Nat.zero_le _⟩ rfl dX12_isConsistent_25 (fun hr11 => ?_)
        refine V_iconst (pc := 28) C dX12_isConsistent_28 ?_
        refine V_iadd (pc := 29) C dX12_isConsistent_29 ?_
        refine V_rng fun hM13 => ?_
        obtain ⟨g14, h⟩ := grd_of h
        obtain ⟨g15, h⟩ := grd_of h
        refine V_iald (pc := 30) C e53 g15 g14 dX12_isConsistent_30 ?_
        refine V_iadd (pc := 31) C dX12_isConsistent_31 ?_
        refine V_istore_n (pc := 32) C (L' := [(0, vr Γ 52), (1, vi (x1 + (M10 53 (r11 + (5 : Int) : Int).toNat))), (2, vi x2)]) rfl (by decide) dX12_isConsistent_32 ?_
        refine V_aload_n (pc := 33) C 0 rfl dX12_isConsistent_33 ?_
        refine V_iload_n (pc := 34) C 2 rfl dX12_isConsistent_34 ?_
        obtain ⟨M16, r17, hc18, h⟩ := cal_of h
        refine V_callVI (pc := 35) C (c_X12_isGone l Γ sk hsk fu hx2 hc18) cf_X12_isGone lk_X12_164 ⟨rfl, rfl⟩ ⟨Nat.le_of_ble_eq_true rfl, Nat.le_of_ble_eq_true rfl⟩ e52 rfl rfl rfl (Nat.le_of_ble_eq_true rfl) ⟨Nat.zero_le _, Nat.zero_le _⟩ rfl dX12_isConsistent_35 (fun hr17 => ?_)
        refine V_if_ne (pc := 38) C 51 hr17 dX12_isConsistent_38 (by decide) (fun c38_19 => ?_) (fun c38_19 => ?_)
        · have h := ite_f h c38_19
          refine V_iinc (pc := 51) C (L' := [(0, vr Γ 52), (1, vi (x1 + (M10 53 (r11 + (5 : Int) : Int).toNat))), (2, vi (x2 + (1 : Int)))]) 2 rfl rfl (by decide) dX12_isConsistent_51 ?_
          refine V_goto (pc := 54) C 9 dX12_isConsistent_54 (by decide) ?_
          obtain ⟨g20, h⟩ := grd_of h
          obtain ⟨g21, h⟩ := grd_of h
          refine V_sub (L' := [(0, vr Γ 52), (1, vi (x1 + (M10 53 (r11 + (5 : Int) : Int).toNat))), (2, vi (x2 + (1 : Int)))]) [0, 1, 2] rfl (by decide) ?_
          exact ih g20 g21 h
        · have h := ite_t h c38_19
          refine V_aload_n (pc := 41) C 0 rfl dX12_isConsistent_41 ?_
          refine V_iload_n (pc := 42) C 2 rfl dX12_isConsistent_42 ?_
          obtain ⟨M22, r23, hc24, h⟩ := cal_of h
          refine V_callVI (pc := 43) C (c_X12_isVersionConsistent l Γ sk hsk fu hx2 hc24) cf_X12_isVersionConsistent lk_X12_396 ⟨rfl, rfl⟩ ⟨Nat.le_of_ble_eq_true rfl, Nat.le_of_ble_eq_true rfl⟩ e52 rfl rfl rfl (Nat.le_of_ble_eq_true rfl) ⟨Nat.zero_le _, Nat.zero_le _⟩ rfl dX12_isConsistent_43 (fun hr23 => ?_)
          refine V_if_ne (pc := 46) C 51 hr23 dX12_isConsistent_46 (by decide) (fun c46_25 => ?_) (fun c46_25 => ?_)
          · have h := ite_f h c46_25
            refine V_iinc (pc := 51) C (L' := [(0, vr Γ 52), (1, vi (x1 + (M10 53 (r11 + (5 : Int) : Int).toNat))), (2, vi (x2 + (1 : Int)))]) 2 rfl rfl (by decide) dX12_isConsistent_51 ?_
            refine V_goto (pc := 54) C 9 dX12_isConsistent_54 (by decide) ?_
            obtain ⟨g26, h⟩ := grd_of h
            obtain ⟨g27, h⟩ := grd_of h
            refine V_sub (L' := [(0, vr Γ 52), (1, vi (x1 + (M10 53 (r11 + (5 : Int) : Int).toNat))), (2, vi (x2 + (1 : Int)))]) [0, 1, 2] rfl (by decide) ?_
            exact ih g26 g27 h
          · have h := ite_t h c46_25
            refine V_iconst (pc := 49) C dX12_isConsistent_49 ?_
            exact V_zret (pc := 50) C hr hlk (by decide) h dX12_isConsistent_50
  skip
  refine V_aload_n (pc := 0) C 0 rfl dX12_isConsistent_0 ?_
  refine V_iconst (pc := 1) C dX12_isConsistent_1 ?_
  refine V_putI (pc := 2) C (by decide) e52 rfl inX12 tyX12 tyX12_ok nmX12 6 (by decide) rfl rfl lf_X12_58 rfl (by decide) rfl dX12_isConsistent_2 ?_
  refine V_iconst (pc := 5) C dX12_isConsistent_5 ?_
  refine V_istore_n (pc := 6) C (L' := [(0, vr Γ 52), (1, vi (0 : Int))]) rfl (by decide) dX12_isConsistent_6 ?_
  refine V_iconst (pc := 7) C dX12_isConsistent_7 ?_
  refine V_istore_n (pc := 8) C (L' := [(0, vr Γ 52), (1, vi (0 : Int)), (2, vi (0 : Int))]) rfl (by decide) dX12_isConsistent_8 ?_
  refine V_sub (L' := [(0, vr Γ 52), (1, vi (0 : Int)), (2, vi (0 : Int))]) [0, 1, 2] rfl (by decide) ?_
  exact LP9 fu  (by decide) (by decide) h
set_option maxRecDepth 100000 in
set_option maxHeartbeats 4000000 in
theorem c_X12_set (l : Launch) (Γ : GG) (sk : List SD) (hsk : ExtM sk) (fu : Nat) {M M' : Mem} {a1 : Int} {a2 : Int} {a3 : Int} {r : Int} (ha1 : rng a1) (ha2 : rng a2) (ha3 : rng a3) (h : f_X12_set fu M a1 a2 a3 = some (M', r)) : MetI l yX12_set cX12_set 6 .int ({ frames := 47, cells := 0, slots := 0, locals := 1413 } : Room) Γ sk [vr Γ 52, vi a1, vi a2, vi a3] M M' r := by
  unfold f_X12_set at h
  refine MetI_of RX12 rfl (by decide) rfl (Nat.le_of_ble_eq_true rfl) rfl ?_
  intro p e s m args below meth c C hr hlk hM
  have e52 := hsk 52 _ (by decide) rfl
  have JP56 : ∀ {x1 : Int} {x2 : Int} {x3 : Int} {y1 : Int} {y2 : Int} {y3 : Int} {M : Mem}, rng x1 → rng x2 → rng x3 → rng y1 → rng y2 → rng y3 → f_X12_set_J56 fu x1 x2 x3 y1 y2 y3 M = some (M', r) → VV p l e ({ frames := 47, cells := 0, slots := 0, locals := 1413 } : Room) s m args below meth c (MQ below (PostI Γ sk M' r s.heap.size) args s 0 0 (Fr Γ sk s.heap.size)) 6 Γ sk M 0 0 56 [(0, vr Γ 52), (1, vi x1), (2, vi x2), (3, vi x3)] [vi y3, vi y2, vi y1, vr Γ 52] := by
    intro x1 x2 x3 y1 y2 y3 M hx1 hx2 hx3 hy1 hy2 hy3 h
    unfold f_X12_set_J56 at h
    obtain ⟨M8, r9, hc10, h⟩ := cal_of h
    refine V_callVI (pc := 56) C (c_X12_check l Γ sk hsk fu hy1 hy2 hy3 hc10) cf_X12_check lk_X12_330 ⟨rfl, rfl⟩ ⟨Nat.le_of_ble_eq_true rfl, Nat.le_of_ble_eq_true rfl⟩ e52 rfl rfl rfl (Nat.le_of_ble_eq_true rfl) ⟨Nat.zero_le _, Nat.zero_le _⟩ rfl dX12_set_56 (fun hr9 => ?_)
    refine V_if_ne (pc := 59) C 64 hr9 dX12_set_59 (by decide) (fun c59_11 => ?_) (fun c59_11 => ?_)
    · have h := ite_f h c59_11
      refine V_aload_n (pc := 64) C 0 rfl dX12_set_64 ?_
      obtain ⟨M12, r13, hc14, h⟩ := cal_of h
      refine V_callVV (pc := 65) C (c_X12_remember l Γ sk hsk fu hc14) cf_X12_remember lk_X12_324 ⟨rfl, rfl⟩ ⟨Nat.le_of_ble_eq_true rfl, Nat.le_of_ble_eq_true rfl⟩ e52 rfl rfl rfl (Nat.le_of_ble_eq_true rfl) ⟨Nat.zero_le _, Nat.zero_le _⟩ rfl dX12_set_65 ?_
      refine V_aload_n (pc := 68) C 0 rfl dX12_set_68 ?_
      refine V_iload_n (pc := 69) C 1 rfl dX12_set_69 ?_
      refine V_iload_n (pc := 70) C 2 rfl dX12_set_70 ?_
      refine V_iload_n (pc := 71) C 3 rfl dX12_set_71 ?_
      obtain ⟨M15, r16, hc17, h⟩ := cal_of h
      refine V_callVI (pc := 72) C (c_X12_makeSet l Γ sk hsk fu hx1 hx2 hx3 hc17) cf_X12_makeSet lk_X12_295 ⟨rfl, rfl⟩ ⟨Nat.le_of_ble_eq_true rfl, Nat.le_of_ble_eq_true rfl⟩ e52 rfl rfl rfl (Nat.le_of_ble_eq_true rfl) ⟨Nat.zero_le _, Nat.zero_le _⟩ rfl dX12_set_72 (fun hr16 => ?_)
      exact V_iret (pc := 75) C hr hlk hr16 h dX12_set_75
    · have h := ite_t h c59_11
      refine V_iconst (pc := 62) C dX12_set_62 ?_
      exact V_iret (pc := 63) C hr hlk (by decide) h dX12_set_63
  have JP55 : ∀ {x1 : Int} {x2 : Int} {x3 : Int} {y1 : Int} {y2 : Int} {M : Mem}, rng x1 → rng x2 → rng x3 → rng y1 → rng y2 → f_X12_set_J55 fu x1 x2 x3 y1 y2 M = some (M', r) → VV p l e ({ frames := 47, cells := 0, slots := 0, locals := 1413 } : Room) s m args below meth c (MQ below (PostI Γ sk M' r s.heap.size) args s 0 0 (Fr Γ sk s.heap.size)) 6 Γ sk M 0 0 55 [(0, vr Γ 52), (1, vi x1), (2, vi x2), (3, vi x3)] [vi y2, vi y1, vr Γ 52] := by
    intro x1 x2 x3 y1 y2 M hx1 hx2 hx3 hy1 hy2 h
    unfold f_X12_set_J55 at h
    refine V_iconst (pc := 55) C dX12_set_55 ?_
    refine V_sub (L' := [(0, vr Γ 52), (1, vi x1), (2, vi x2), (3, vi x3)]) [0, 1, 2, 3] rfl (by decide) ?_
    exact JP56 hx1 hx2 hx3 hy1 hy2 (by decide) h
  skip
  refine V_aload_n (pc := 0) C 0 rfl dX12_set_0 ?_
  refine V_iload_n (pc := 1) C 1 rfl dX12_set_1 ?_
  refine V_iload_n (pc := 2) C 2 rfl dX12_set_2 ?_
  obtain ⟨M1, r2, hc3, h⟩ := cal_of h
  refine V_callVI (pc := 3) C (c_X12_hasElement l Γ sk hsk fu ha1 ha2 hc3) cf_X12_hasElement lk_X12_340 ⟨rfl, rfl⟩ ⟨Nat.le_of_ble_eq_true rfl, Nat.le_of_ble_eq_true rfl⟩ e52 rfl rfl rfl (Nat.le_of_ble_eq_true rfl) ⟨Nat.zero_le _, Nat.zero_le _⟩ rfl dX12_set_3 (fun hr2 => ?_)
  refine V_istore (pc := 6) C (L' := [(0, vr Γ 52), (1, vi a1), (2, vi a2), (3, vi a3), (4, vi r2)]) rfl (by decide) dX12_set_6 ?_
  refine V_iload_n (pc := 8) C 3 rfl dX12_set_8 ?_
  refine V_i2l (pc := 9) C ha3 dX12_set_9 ?_
  refine V_ldc2 (pc := 10) C (x := (-999 : Int)) lc_X12_379 rfl dX12_set_10 ?_
  refine V_ldc2 (pc := 13) C (x := (999 : Int)) lc_X12_381 rfl dX12_set_13 ?_
  obtain ⟨M4, r5, hc6, h⟩ := cal_of h
  refine V_callSI (pc := 16) C (c_X12_isWithin l Γ sk hsk fu ha3 (by decide) (by decide) hc6) cf_X12_isWithin lk_X12_167 ⟨rfl, rfl⟩ ⟨Nat.le_of_ble_eq_true rfl, Nat.le_of_ble_eq_true rfl⟩ rfl (Nat.le_of_ble_eq_true rfl) ⟨Nat.zero_le _, Nat.zero_le _⟩ rfl dX12_set_16 (fun hr5 => ?_)
  refine V_istore (pc := 19) C (L' := [(0, vr Γ 52), (1, vi a1), (2, vi a2), (3, vi a3), (4, vi r2), (5, vi r5)]) rfl (by decide) dX12_set_19 ?_
  refine V_aload_n (pc := 21) C 0 rfl dX12_set_21 ?_
  refine V_iload (pc := 22) C 4 rfl dX12_set_22 ?_
  refine V_iload (pc := 24) C 5 rfl dX12_set_24 ?_
  refine V_iload (pc := 26) C 4 rfl dX12_set_26 ?_
  refine V_if_eq (pc := 28) C 55 hr2 dX12_set_28 (by decide) (fun c28_7 => ?_) (fun c28_7 => ?_)
  · have h := ite_t h c28_7
    refine V_sub (L' := [(0, vr Γ 52), (1, vi a1), (2, vi a2), (3, vi a3)]) [0, 1, 2, 3] rfl (by decide) ?_
    exact JP55 ha1 ha2 ha3 hr2 hr5 h
  · have h := ite_f h c28_7
    refine V_iload (pc := 31) C 5 rfl dX12_set_31 ?_
    refine V_if_eq (pc := 33) C 55 hr5 dX12_set_33 (by decide) (fun c33_18 => ?_) (fun c33_18 => ?_)
    · have h := ite_t h c33_18
      refine V_sub (L' := [(0, vr Γ 52), (1, vi a1), (2, vi a2), (3, vi a3)]) [0, 1, 2, 3] rfl (by decide) ?_
      exact JP55 ha1 ha2 ha3 hr2 hr5 h
    · have h := ite_f h c33_18
      refine V_aload_n (pc := 36) C 0 rfl dX12_set_36 ?_
      refine V_iload_n (pc := 37) C 1 rfl dX12_set_37 ?_
      obtain ⟨M19, r20, hc21, h⟩ := cal_of h
      refine V_callVI (pc := 38) C (c_X12_isGone l Γ sk hsk fu ha1 hc21) cf_X12_isGone lk_X12_164 ⟨rfl, rfl⟩ ⟨Nat.le_of_ble_eq_true rfl, Nat.le_of_ble_eq_true rfl⟩ e52 rfl rfl rfl (Nat.le_of_ble_eq_true rfl) ⟨Nat.zero_le _, Nat.zero_le _⟩ rfl dX12_set_38 (fun hr20 => ?_)
      refine V_if_ne (pc := 41) C 55 hr20 dX12_set_41 (by decide) (fun c41_22 => ?_) (fun c41_22 => ?_)
      · have h := ite_f h c41_22
        refine V_sub (L' := [(0, vr Γ 52), (1, vi a1), (2, vi a2), (3, vi a3)]) [0, 1, 2, 3] rfl (by decide) ?_
        exact JP55 ha1 ha2 ha3 hr2 hr5 h
      · have h := ite_t h c41_22
        refine V_aload_n (pc := 44) C 0 rfl dX12_set_44 ?_
        obtain ⟨M23, r24, hc25, h⟩ := cal_of h
        refine V_callVI (pc := 45) C (c_X12_hasRoom l Γ sk hsk fu hc25) cf_X12_hasRoom lk_X12_291 ⟨rfl, rfl⟩ ⟨Nat.le_of_ble_eq_true rfl, Nat.le_of_ble_eq_true rfl⟩ e52 rfl rfl rfl (Nat.le_of_ble_eq_true rfl) ⟨Nat.zero_le _, Nat.zero_le _⟩ rfl dX12_set_45 (fun hr24 => ?_)
        refine V_if_eq (pc := 48) C 55 hr24 dX12_set_48 (by decide) (fun c48_26 => ?_) (fun c48_26 => ?_)
        · have h := ite_t h c48_26
          refine V_sub (L' := [(0, vr Γ 52), (1, vi a1), (2, vi a2), (3, vi a3)]) [0, 1, 2, 3] rfl (by decide) ?_
          exact JP55 ha1 ha2 ha3 hr2 hr5 h
        · have h := ite_f h c48_26
          refine V_iconst (pc := 51) C dX12_set_51 ?_
          refine V_goto (pc := 52) C 56 dX12_set_52 (by decide) ?_
          refine V_sub (L' := [(0, vr Γ 52), (1, vi a1), (2, vi a2), (3, vi a3)]) [0, 1, 2, 3] rfl (by decide) ?_
          exact JP56 ha1 ha2 ha3 hr2 hr5 (by decide) h
