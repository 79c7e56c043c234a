theorem p2_le {n : Nat} (h : n ≤ 30) : (2 ^ n : Nat) ≤ 1073741824 := by
  have : 2 ^ n ≤ 2 ^ 30 := Nat.pow_le_pow_right (by decide) h
  exact this
set_option maxRecDepth 100000 in
set_option maxHeartbeats 4000000 in
theorem c_L_bits (l : Launch) (Γ : GG) (sk : List SD) (hsk : ExtL sk) (hl9 : l.stackTraces = false) (fu : Nat) {M M' : Mem} {a0 a1 a2 : Int} {r : Int} (ha0 : rng a0) (ha1 : rng a1) (ha2 : rng a2) (h : f_L_bits fu M a0 a1 a2 = some (M', r)) : MetI l yL_bits cL_bits 3 .int ({ frames := 0, cells := 0, slots := 0, locals := 0 } : Room) Γ sk [vi a0, vi a1, vi a2] M M' r := by
  unfold f_L_bits at h
  obtain ⟨g1, h⟩ := grd_of h
  obtain ⟨g2, h⟩ := grd_of h
  have hn : a2.toNat ≤ 30 := by omega
  have hp := p2_le hn
  have hp0 : 0 < 2 ^ a2.toNat := Nat.pow_pos (by decide)
  have hy : i32 (1 * ((2 ^ a2.toNat : Nat) : Int) - 1) = Int32.ofNat (2 ^ a2.toNat - 1) := by
    rw [show 1 * ((2 ^ a2.toNat : Nat) : Int) - 1 = ((2 ^ a2.toNat - 1 : Nat) : Int) by omega]
    exact Int32.ofInt_eq_ofNat
  refine MetI_of RL rfl (by decide) rfl (Nat.le_of_ble_eq_true rfl) rfl ?_
  intro p e s m args below meth c C hr hlk hM
  refine V_iload_n (pc := 0) C 0 rfl dL_bits_0 ?_
  refine V_iload_n (pc := 1) C 1 rfl dL_bits_1 ?_
  refine V_iushr (pc := 2) C ha0 g1 dL_bits_2 ?_
  refine V_iconst (pc := 3) C dL_bits_3 ?_
  refine V_iload_n (pc := 4) C 2 rfl dL_bits_4 ?_
  refine V_ishl (pc := 5) C (x := 1) ⟨by decide, ⟨g2.1, by omega⟩, by omega⟩ dL_bits_5 ?_
  refine V_iconst (pc := 6) C dL_bits_6 ?_
  refine V_isub (pc := 7) C dL_bits_7 ?_
  refine V_iand (pc := 8) C a2.toNat (by omega) hy rfl dL_bits_8 ?_
  have h0 : 0 ≤ a0 % 4294967296 / ((2 ^ a1.toNat : Nat) : Int) % ((2 ^ a2.toNat : Nat) : Int) := Int.emod_nonneg _ (by omega)
  have h1 : a0 % 4294967296 / ((2 ^ a1.toNat : Nat) : Int) % ((2 ^ a2.toNat : Nat) : Int) < ((2 ^ a2.toNat : Nat) : Int) := Int.emod_lt_of_pos _ (by omega)
  exact V_iret (pc := 9) C hr hlk ⟨by omega, by omega⟩ h dL_bits_9
set_option maxRecDepth 100000 in
set_option maxHeartbeats 4000000 in
theorem c_L_cell (l : Launch) (Γ : GG) (sk : List SD) (hsk : ExtL sk) (hl9 : l.stackTraces = false) (fu : Nat) {M M' : Mem} {k0 : Nat} {n0 : Nat} {a1 : Int} {r : Int} (hk0 : sk[k0]? = some (.inl (0, n0))) (hn0 : n0 ≤ 2147483647) (ha1 : rng a1) (h : f_L_cell fu M k0 n0 a1 = some (M', r)) : MetI l yL_cell cL_cell 2 .int ({ frames := 0, cells := 0, slots := 0, locals := 0 } : Room) Γ sk [vr Γ k0, vi a1] M M' r := by
  unfold f_L_cell at h
  refine MetI_of RL rfl (by decide) rfl (Nat.le_of_ble_eq_true rfl) rfl ?_
  intro p e s m args below meth c C hr hlk hM
  refine V_iload_n (pc := 0) C 1 rfl dL_cell_0 ?_
  refine V_aload_n (pc := 1) C 0 rfl dL_cell_1 ?_
  refine V_alen (pc := 2) C hk0 dL_cell_2 ?_
  refine V_icmp_ge (pc := 3) C 12 ha1 (nat_rng hn0) dL_cell_3 (by decide) (fun c3_1 => ?_) (fun c3_1 => ?_)
  · have h := ite_t h c3_1
    refine V_bipush (pc := 12) C dL_cell_12 rfl ?_
    refine V_iload_n (pc := 14) C 1 rfl dL_cell_14 ?_
    refine V_imul (pc := 15) C dL_cell_15 ?_
    refine V_bipush (pc := 16) C dL_cell_16 rfl ?_
    refine V_iadd (pc := 18) C dL_cell_18 ?_
    obtain ⟨g2, h⟩ := grd_of h
    exact V_iret (pc := 19) C hr hlk g2 h dL_cell_19
  · have h := ite_f h c3_1
    refine V_aload_n (pc := 6) C 0 rfl dL_cell_6 ?_
    refine V_iload_n (pc := 7) C 1 rfl dL_cell_7 ?_
    obtain ⟨g3, h⟩ := grd_of h
    refine V_iald (pc := 8) C hk0 g3 ha1 dL_cell_8 ?_
    refine V_goto (pc := 9) C 19 dL_cell_9 (by decide) ?_
    exact V_iret (pc := 19) C hr hlk (hM _ _) h dL_cell_19
set_option maxRecDepth 100000 in
set_option maxHeartbeats 4000000 in
theorem c_L_height (l : Launch) (Γ : GG) (sk : List SD) (hsk : ExtL sk) (hl9 : l.stackTraces = false) (fu : Nat) {M M' : Mem} {a1 : Int} {r : Int} (ha1 : rng a1) (h : f_L_height fu M a1 = some (M', r)) : MetI l yL_height cL_height 2 .int ({ frames := 0, cells := 0, slots := 0, locals := 0 } : Room) Γ sk [vr Γ 52, vi a1] M M' r := by
  unfold f_L_height at h
  refine MetI_of RL rfl (by decide) rfl (Nat.le_of_ble_eq_true rfl) rfl ?_
  intro p e s m args below meth c C hr hlk hM
  refine V_iload_n (pc := 0) C 1 rfl dL_height_0 ?_
  refine V_if_ne (pc := 1) C 8 ha1 dL_height_1 (by decide) (fun c1_1 => ?_) (fun c1_1 => ?_)
  · have h := ite_f h c1_1
    refine V_iload_n (pc := 8) C 1 rfl dL_height_8 ?_
    refine V_iconst (pc := 9) C dL_height_9 ?_
    refine V_icmp_gt (pc := 10) C 17 ha1 (by decide) dL_height_10 (by decide) (fun c10_2 => ?_) (fun c10_2 => ?_)
    · have h := ite_t h c10_2
      refine V_iload_n (pc := 17) C 1 rfl dL_height_17 ?_
      refine V_bipush (pc := 18) C dL_height_18 rfl ?_
      refine V_icmp_gt (pc := 20) C 27 ha1 (by decide) dL_height_20 (by decide) (fun c20_3 => ?_) (fun c20_3 => ?_)
      · have h := ite_t h c20_3
        refine V_iconst (pc := 27) C dL_height_27 ?_
        exact V_iret (pc := 28) C hr hlk (by decide) h dL_height_28
      · have h := ite_f h c20_3
        refine V_iconst (pc := 23) C dL_height_23 ?_
        refine V_goto (pc := 24) C 28 dL_height_24 (by decide) ?_
        exact V_iret (pc := 28) C hr hlk (by decide) h dL_height_28
    · have h := ite_f h c10_2
      refine V_iconst (pc := 13) C dL_height_13 ?_
      refine V_goto (pc := 14) C 28 dL_height_14 (by decide) ?_
      exact V_iret (pc := 28) C hr hlk (by decide) h dL_height_28
  · have h := ite_t h c1_1
    refine V_iconst (pc := 4) C dL_height_4 ?_
    refine V_goto (pc := 5) C 28 dL_height_5 (by decide) ?_
    exact V_iret (pc := 28) C hr hlk (by decide) h dL_height_28
set_option maxRecDepth 100000 in
set_option maxHeartbeats 4000000 in
theorem c_L_makes (l : Launch) (Γ : GG) (sk : List SD) (hsk : ExtL sk) (hl9 : l.stackTraces = false) (fu : Nat) {M M' : Mem} {a1 : Int} {a2 : Int} {r : Int} (ha1 : rng a1) (ha2 : rng a2) (h : f_L_makes fu M a1 a2 = some (M', r)) : MetI l yL_makes cL_makes 5 .int ({ frames := 0, cells := 0, slots := 0, locals := 0 } : Room) Γ sk [vr Γ 52, vi a1, vi a2] M M' r := by
  unfold f_L_makes at h
  refine MetI_of RL rfl (by decide) rfl (Nat.le_of_ble_eq_true rfl) rfl ?_
  intro p e s m args below meth c C hr hlk hM
  have e1 := hsk 1 _ (by decide) rfl
  have e52 := hsk 52 _ (by decide) rfl
  have e53 := hsk 53 _ (by decide) rfl
  have e54 := hsk 54 _ (by decide) rfl
  have JP49 : ∀ {x1 : Int} {x2 : Int} {x3 : Int} {M : Mem}, rng x1 → rng x2 → rng x3 → f_L_makes_J49 fu x1 x2 x3 M = some (M', r) → VV p l e ({ frames := 0, cells := 0, slots := 0, locals := 0 } : Room) s m args below meth c (MQ below (PostI Γ sk M' r s.heap.size) args s 0 0 (Fr Γ sk s.heap.size)) 5 Γ sk M 0 0 49 [(0, vr Γ 52), (1, vi x1), (2, vi x2), (3, vi x3)] [] := by
    intro x1 x2 x3 M hx1 hx2 hx3 h
    unfold f_L_makes_J49 at h
    refine V_aload_n (pc := 49) C 0 rfl dL_makes_49 ?_
    refine V_getR (pc := 50) C e52 rfl inL 1 (by decide) rfl lf_L_14 rfl dL_makes_50 ?_
    refine V_iload_n (pc := 53) C 3 rfl dL_makes_53 ?_
    refine V_iload_n (pc := 54) C 2 rfl dL_makes_54 ?_
    obtain ⟨g2, h⟩ := grd_of h
    refine V_iast (pc := 55) C (by decide) e53 g2 hx3 hx2 dL_makes_55 ?_
    refine V_aload_n (pc := 56) C 0 rfl dL_makes_56 ?_
    refine V_getR (pc := 57) C e52 rfl inL 2 (by decide) rfl lf_L_18 rfl dL_makes_57 ?_
    refine V_iload_n (pc := 60) C 3 rfl dL_makes_60 ?_
    refine V_iload_n (pc := 61) C 1 rfl dL_makes_61 ?_
    obtain ⟨g3, h⟩ := grd_of h
    refine V_iast (pc := 62) C (by decide) e54 g3 hx3 hx1 dL_makes_62 ?_
    refine V_aload_n (pc := 63) C 0 rfl dL_makes_63 ?_
    refine V_dup (pc := 64) C rfl dL_makes_64 ?_
    refine V_rng fun hM4 => ?_
    refine V_getI (pc := 65) C e52 rfl inL 6 (by decide) rfl lf_L_31 rfl dL_makes_65 ?_
    refine V_iconst (pc := 68) C dL_makes_68 ?_
    refine V_iadd (pc := 69) C dL_makes_69 ?_
    obtain ⟨g5, h⟩ := grd_of h
    refine V_putI (pc := 70) C (by decide) e52 rfl inL tyL tyL_ok nmL 6 (by decide) rfl rfl lf_L_31 rfl g5 rfl dL_makes_70 ?_
    refine V_iload_n (pc := 73) C 3 rfl dL_makes_73 ?_
    exact V_iret (pc := 74) C hr hlk hx3 h dL_makes_74
  have LP8 : ∀ (n : Nat) {x1 : Int} {x2 : Int} {x3 : Int} {x4 : Int} {M : Mem}, rng x1 → rng x2 → rng x3 → rng x4 → f_L_makes_L8 fu n x1 x2 x3 x4 M = some (M', r) → VV p l e ({ frames := 0, cells := 0, slots := 0, locals := 0 } : Room) s m args below meth c (MQ below (PostI Γ sk M' r s.heap.size) args s 0 0 (Fr Γ sk s.heap.size)) 5 Γ sk M 0 0 8 [(0, vr Γ 52), (1, vi x1), (2, vi x2), (3, vi x3), (4, vi x4)] [] := by
    intro n
    induction n with
    | zero =>
      intro x1 x2 x3 x4 M hx1 hx2 hx3 hx4 h
      cases h
    | succ n ih =>
      intro x1 x2 x3 x4 M hx1 hx2 hx3 hx4 h
      rw [f_L_makes_L8] at h
      refine V_iload (pc := 8) C 4 rfl dL_makes_8 ?_
      refine V_iload_n (pc := 10) C 2 rfl dL_makes_10 ?_
      refine V_icmp_ge (pc := 11) C 49 hx4 hx2 dL_makes_11 (by decide) (fun c11_1 => ?_) (fun c11_1 => ?_)
      · have h := ite_t h c11_1
        refine V_sub (L' := [(0, vr Γ 52), (1, vi x1), (2, vi x2), (3, vi x3)]) [0, 1, 2, 3] rfl (by decide) ?_
        exact JP49 hx1 hx2 hx3 h
      · have h := ite_f h c11_1
        refine V_iload (pc := 14) C 4 rfl dL_makes_14 ?_
        refine V_aload_n (pc := 16) C 0 rfl dL_makes_16 ?_
        refine V_getR (pc := 17) C e52 rfl inL 1 (by decide) rfl lf_L_14 rfl dL_makes_17 ?_
        refine V_iload_n (pc := 20) C 1 rfl dL_makes_20 ?_
        refine V_rng fun hM6 => ?_
        obtain ⟨g7, h⟩ := grd_of h
        refine V_iald (pc := 21) C e53 g7 hx1 dL_makes_21 ?_
        refine V_icmp_ge (pc := 22) C 49 hx4 (hM6 _ _) dL_makes_22 (by decide) (fun c22_8 => ?_) (fun c22_8 => ?_)
        · have h := ite_t h c22_8
          refine V_sub (L' := [(0, vr Γ 52), (1, vi x1), (2, vi x2), (3, vi x3)]) [0, 1, 2, 3] rfl (by decide) ?_
          exact JP49 hx1 hx2 hx3 h
        · have h := ite_f h c22_8
          refine V_aload_n (pc := 25) C 0 rfl dL_makes_25 ?_
          refine V_getR (pc := 26) C e52 rfl inL 0 (by decide) rfl lf_L_9 rfl dL_makes_26 ?_
          refine V_iload_n (pc := 29) C 3 rfl dL_makes_29 ?_
          obtain ⟨g9, h⟩ := grd_of h
          refine V_aald (pc := 30) C e1 g9 hx3 dL_makes_30 ?_
          refine V_iload (pc := 31) C 4 rfl dL_makes_31 ?_
          refine V_aload_n (pc := 33) C 0 rfl dL_makes_33 ?_
          refine V_getR (pc := 34) C e52 rfl inL 0 (by decide) rfl lf_L_9 rfl dL_makes_34 ?_
          refine V_iload_n (pc := 37) C 1 rfl dL_makes_37 ?_
          obtain ⟨g10, h⟩ := grd_of h
          refine V_aald (pc := 38) C e1 g10 hx1 dL_makes_38 ?_
          refine V_iload (pc := 39) C 4 rfl dL_makes_39 ?_
          obtain ⟨g11, h⟩ := grd_of h
          refine V_iald (pc := 41) C (hsk.row g10) g11 hx4 dL_makes_41 ?_
          obtain ⟨g12, h⟩ := grd_of h
          refine V_iast (pc := 42) C (Nat.le_trans (by decide) (Nat.le_add_right _ _)) (hsk.row g9) g12 hx4 (hM6 _ _) dL_makes_42 ?_
          refine V_iinc (pc := 43) C (L' := [(0, vr Γ 52), (1, vi x1), (2, vi x2), (3, vi x3), (4, vi (x4 + (1 : Int)))]) 4 rfl rfl (by decide) dL_makes_43 ?_
          refine V_goto (pc := 46) C 8 dL_makes_46 (by decide) ?_
          obtain ⟨g13, h⟩ := grd_of h
          refine V_sub (L' := [(0, vr Γ 52), (1, vi x1), (2, vi x2), (3, vi x3), (4, vi (x4 + (1 : Int)))]) [0, 1, 2, 3, 4] rfl (by decide) ?_
          exact ih hx1 hx2 hx3 g13 h
  skip
  refine V_aload_n (pc := 0) C 0 rfl dL_makes_0 ?_
  refine V_getI (pc := 1) C e52 rfl inL 6 (by decide) rfl lf_L_31 rfl dL_makes_1 ?_
  refine V_istore_n (pc := 4) C (L' := [(0, vr Γ 52), (1, vi a1), (2, vi a2), (3, vi (M 52 6))]) rfl (by decide) dL_makes_4 ?_
  refine V_iconst (pc := 5) C dL_makes_5 ?_
  refine V_istore (pc := 6) C (L' := [(0, vr Γ 52), (1, vi a1), (2, vi a2), (3, vi (M 52 6)), (4, vi (0 : Int))]) rfl (by decide) dL_makes_6 ?_
  refine V_sub (L' := [(0, vr Γ 52), (1, vi a1), (2, vi a2), (3, vi (M 52 6)), (4, vi (0 : Int))]) [0, 1, 2, 3, 4] rfl (by decide) ?_
  exact LP8 fu  ha1 ha2 (hM _ _) (by decide) h
set_option maxRecDepth 100000 in
set_option maxHeartbeats 4000000 in
theorem c_L_isRefused (l : Launch) (Γ : GG) (sk : List SD) (hsk : ExtL sk) (hl9 : l.stackTraces = false) (fu : Nat) {M M' : Mem} {a1 : Int} {a2 : Int} {a3 : Int} {a4 : Int} {r : Int} (ha1 : rng a1) (ha2 : rng a2) (ha3 : rng a3) (ha4 : rng a4) (h : f_L_isRefused fu M a1 a2 a3 a4 = some (M', r)) : MetH l yL_isRefused cL_isRefused 6 .boolean [(0, 52, 53, 70)] ({ frames := 39, cells := 1, slots := 6, locals := 1335 } : Room) Γ sk [vr Γ 3, vi a1, vi a2, vi a3, vi a4] M M' r := by
  unfold f_L_isRefused at h
  refine MetH_of RL rfl (by decide) rfl (Nat.le_of_ble_eq_true rfl) rfl ?_
  intro p e s m args below meth c C hr hlk htab hM
  have e3 := hsk 3 _ (by decide) rfl
  refine V_iload_n (pc := 0) C 1 rfl dL_isRefused_0 ?_
  refine V_if_ne (pc := 1) C 15 ha1 dL_isRefused_1 (by decide) (fun c1_1 => ?_) (fun c1_1 => ?_)
  · have h := ite_f h c1_1
    refine V_iload_n (pc := 15) C 1 rfl dL_isRefused_15 ?_
    refine V_iconst (pc := 16) C dL_isRefused_16 ?_
    refine V_icmp_ne (pc := 17) C 30 ha1 (by decide) dL_isRefused_17 (by decide) (fun c17_2 => ?_) (fun c17_2 => ?_)
    · have h := ite_f h c17_2
      refine V_iload_n (pc := 30) C 1 rfl dL_isRefused_30 ?_
      refine V_iconst (pc := 31) C dL_isRefused_31 ?_
      refine V_icmp_ne (pc := 32) C 44 ha1 (by decide) dL_isRefused_32 (by decide) (fun c32_3 => ?_) (fun c32_3 => ?_)
      · have h := ite_f h c32_3
        refine V_aload_n (pc := 44) C 0 rfl dL_isRefused_44 ?_
        refine V_iload_n (pc := 45) C 2 rfl dL_isRefused_45 ?_
        rcases cax_of h with ⟨M4, r5, hc6, h⟩ | ⟨M4, n7, z8, hc6, h⟩
        · refine V_callXI0 (pc := 46) C (c_X11_release l Γ sk hsk.c hl9 fu ha2 hc6) cf_X11_release lk_L_66 ⟨rfl, rfl⟩ ⟨Nat.le_of_ble_eq_true rfl, Nat.le_of_ble_eq_true rfl⟩ e3 rfl rfl rfl (Nat.le_of_ble_eq_true rfl) ⟨Nat.zero_le _, Nat.zero_le _⟩ rfl dL_isRefused_46 (fun hr5 => ?_)
          refine V_istore (pc := 49) C (L' := [(0, vr Γ 3), (1, vi a1), (2, vi a2), (3, vi a3), (4, vi a4), (5, vi r5)]) rfl (by decide) dL_isRefused_49 ?_
          refine V_iconst (pc := 51) C dL_isRefused_51 ?_
          refine V_room (Nat.zero_le 1) (Nat.zero_le 6) ?_
          exact V_hzret (pc := 52) C hr hlk (by decide) h dL_isRefused_52
        · by_cases g9 : n7 = 2
          · have h := ite_t h g9
            subst g9
            refine V_callXIc (j := 2) (hh := [(0, 52, 53, 70)]) (pc := 46) C (c_X11_release l Γ sk hsk.c hl9 fu ha2 hc6) htab [] ⟨0, 52, 53, 70⟩ [] rfl (fun z hz => nomatch hz) rfl (by decide) lx_L_70 (by decide) cf_X11_release lk_L_66 ⟨rfl, rfl⟩ ⟨Nat.le_of_ble_eq_true rfl, Nat.le_of_ble_eq_true rfl⟩ e3 rfl rfl rfl (Nat.le_of_ble_eq_true rfl) ⟨Nat.le_refl 1, Nat.le_refl 6⟩ rfl dL_isRefused_46 (fun q9 => ?_)
            refine V_astore (pc := 53) C (L' := [(0, vr Γ 3), (1, vi a1), (2, vi a2), (3, vi a3), (4, vi a4), (5, .ref q9)]) rfl (by decide) dL_isRefused_53 ?_
            refine V_iconst (pc := 55) C dL_isRefused_55 ?_
            exact V_hzret (pc := 56) C hr hlk (by decide) h dL_isRefused_56
          have h := ite_f h g9
          cases h
      · have h := ite_t h c32_3
        refine V_aload_n (pc := 35) C 0 rfl dL_isRefused_35 ?_
        refine V_iload_n (pc := 36) C 2 rfl dL_isRefused_36 ?_
        refine V_iload_n (pc := 37) C 3 rfl dL_isRefused_37 ?_
        rcases cax_of h with ⟨M10, r11, hc12, h⟩ | ⟨M10, n13, z14, hc12, h⟩
        · refine V_callXI0 (pc := 38) C (c_X11_truncate l Γ sk hsk.c hl9 fu ha2 ha3 hc12) cf_X11_truncate lk_L_63 ⟨rfl, rfl⟩ ⟨Nat.le_of_ble_eq_true rfl, Nat.le_of_ble_eq_true rfl⟩ e3 rfl rfl rfl (Nat.le_of_ble_eq_true rfl) ⟨Nat.zero_le _, Nat.zero_le _⟩ rfl dL_isRefused_38 (fun hr11 => ?_)
          refine V_goto (pc := 41) C 49 dL_isRefused_41 (by decide) ?_
          refine V_istore (pc := 49) C (L' := [(0, vr Γ 3), (1, vi a1), (2, vi a2), (3, vi a3), (4, vi a4), (5, vi r11)]) rfl (by decide) dL_isRefused_49 ?_
          refine V_iconst (pc := 51) C dL_isRefused_51 ?_
          refine V_room (Nat.zero_le 1) (Nat.zero_le 6) ?_
          exact V_hzret (pc := 52) C hr hlk (by decide) h dL_isRefused_52
        · by_cases g15 : n13 = 2
          · have h := ite_t h g15
            subst g15
            refine V_callXIc (j := 2) (hh := [(0, 52, 53, 70)]) (pc := 38) C (c_X11_truncate l Γ sk hsk.c hl9 fu ha2 ha3 hc12) htab [] ⟨0, 52, 53, 70⟩ [] rfl (fun z hz => nomatch hz) rfl (by decide) lx_L_70 (by decide) cf_X11_truncate lk_L_63 ⟨rfl, rfl⟩ ⟨Nat.le_of_ble_eq_true rfl, Nat.le_of_ble_eq_true rfl⟩ e3 rfl rfl rfl (Nat.le_of_ble_eq_true rfl) ⟨Nat.le_refl 1, Nat.le_refl 6⟩ rfl dL_isRefused_38 (fun q9 => ?_)
            refine V_astore (pc := 53) C (L' := [(0, vr Γ 3), (1, vi a1), (2, vi a2), (3, vi a3), (4, vi a4), (5, .ref q9)]) rfl (by decide) dL_isRefused_53 ?_
            refine V_iconst (pc := 55) C dL_isRefused_55 ?_
            exact V_hzret (pc := 56) C hr hlk (by decide) h dL_isRefused_56
          have h := ite_f h g15
          cases h
    · have h := ite_t h c17_2
      refine V_aload_n (pc := 20) C 0 rfl dL_isRefused_20 ?_
      refine V_iload_n (pc := 21) C 2 rfl dL_isRefused_21 ?_
      refine V_iload (pc := 22) C 4 rfl dL_isRefused_22 ?_
      rcases cax_of h with ⟨M16, r17, hc18, h⟩ | ⟨M16, n19, z20, hc18, h⟩
      · refine V_callXI0 (pc := 24) C (c_X11_append l Γ sk hsk.c hl9 fu ha2 ha4 hc18) cf_X11_append lk_L_59 ⟨rfl, rfl⟩ ⟨Nat.le_of_ble_eq_true rfl, Nat.le_of_ble_eq_true rfl⟩ e3 rfl rfl rfl (Nat.le_of_ble_eq_true rfl) ⟨Nat.zero_le _, Nat.zero_le _⟩ rfl dL_isRefused_24 (fun hr17 => ?_)
        refine V_goto (pc := 27) C 49 dL_isRefused_27 (by decide) ?_
        refine V_istore (pc := 49) C (L' := [(0, vr Γ 3), (1, vi a1), (2, vi a2), (3, vi a3), (4, vi a4), (5, vi r17)]) rfl (by decide) dL_isRefused_49 ?_
        refine V_iconst (pc := 51) C dL_isRefused_51 ?_
        refine V_room (Nat.zero_le 1) (Nat.zero_le 6) ?_
        exact V_hzret (pc := 52) C hr hlk (by decide) h dL_isRefused_52
      · by_cases g21 : n19 = 2
        · have h := ite_t h g21
          subst g21
          refine V_callXIc (j := 2) (hh := [(0, 52, 53, 70)]) (pc := 24) C (c_X11_append l Γ sk hsk.c hl9 fu ha2 ha4 hc18) htab [] ⟨0, 52, 53, 70⟩ [] rfl (fun z hz => nomatch hz) rfl (by decide) lx_L_70 (by decide) cf_X11_append lk_L_59 ⟨rfl, rfl⟩ ⟨Nat.le_of_ble_eq_true rfl, Nat.le_of_ble_eq_true rfl⟩ e3 rfl rfl rfl (Nat.le_of_ble_eq_true rfl) ⟨Nat.le_refl 1, Nat.le_refl 6⟩ rfl dL_isRefused_24 (fun q9 => ?_)
          refine V_astore (pc := 53) C (L' := [(0, vr Γ 3), (1, vi a1), (2, vi a2), (3, vi a3), (4, vi a4), (5, .ref q9)]) rfl (by decide) dL_isRefused_53 ?_
          refine V_iconst (pc := 55) C dL_isRefused_55 ?_
          exact V_hzret (pc := 56) C hr hlk (by decide) h dL_isRefused_56
        have h := ite_f h g21
        cases h
  · have h := ite_t h c1_1
    refine V_aload_n (pc := 4) C 0 rfl dL_isRefused_4 ?_
    refine V_iload_n (pc := 5) C 2 rfl dL_isRefused_5 ?_
    refine V_iload_n (pc := 6) C 3 rfl dL_isRefused_6 ?_
    refine V_iload (pc := 7) C 4 rfl dL_isRefused_7 ?_
    rcases cax_of h with ⟨M22, r23, hc24, h⟩ | ⟨M22, n25, z26, hc24, h⟩
    · refine V_callXI0 (pc := 9) C (c_X11_set l Γ sk hsk.c hl9 fu ha2 ha3 ha4 hc24) cf_X11_set lk_L_55 ⟨rfl, rfl⟩ ⟨Nat.le_of_ble_eq_true rfl, Nat.le_of_ble_eq_true rfl⟩ e3 rfl rfl rfl (Nat.le_of_ble_eq_true rfl) ⟨Nat.zero_le _, Nat.zero_le _⟩ rfl dL_isRefused_9 (fun hr23 => ?_)
      refine V_goto (pc := 12) C 49 dL_isRefused_12 (by decide) ?_
      refine V_istore (pc := 49) C (L' := [(0, vr Γ 3), (1, vi a1), (2, vi a2), (3, vi a3), (4, vi a4), (5, vi r23)]) rfl (by decide) dL_isRefused_49 ?_
      refine V_iconst (pc := 51) C dL_isRefused_51 ?_
      refine V_room (Nat.zero_le 1) (Nat.zero_le 6) ?_
      exact V_hzret (pc := 52) C hr hlk (by decide) h dL_isRefused_52
    · by_cases g27 : n25 = 2
      · have h := ite_t h g27
        subst g27
        refine V_callXIc (j := 2) (hh := [(0, 52, 53, 70)]) (pc := 9) C (c_X11_set l Γ sk hsk.c hl9 fu ha2 ha3 ha4 hc24) htab [] ⟨0, 52, 53, 70⟩ [] rfl (fun z hz => nomatch hz) rfl (by decide) lx_L_70 (by decide) cf_X11_set lk_L_55 ⟨rfl, rfl⟩ ⟨Nat.le_of_ble_eq_true rfl, Nat.le_of_ble_eq_true rfl⟩ e3 rfl rfl rfl (Nat.le_of_ble_eq_true rfl) ⟨Nat.le_refl 1, Nat.le_refl 6⟩ rfl dL_isRefused_9 (fun q9 => ?_)
        refine V_astore (pc := 53) C (L' := [(0, vr Γ 3), (1, vi a1), (2, vi a2), (3, vi a3), (4, vi a4), (5, .ref q9)]) rfl (by decide) dL_isRefused_53 ?_
        refine V_iconst (pc := 55) C dL_isRefused_55 ?_
        exact V_hzret (pc := 56) C hr hlk (by decide) h dL_isRefused_56
      have h := ite_f h g27
      cases h
set_option maxRecDepth 100000 in
set_option maxHeartbeats 4000000 in
theorem c_L_isTree (l : Launch) (Γ : GG) (sk : List SD) (hsk : ExtL sk) (hl9 : l.stackTraces = false) (fu : Nat) : ∀ (d : Nat) {M M' : Mem} {a2 : Int} {a3 : Int} {a4 : Int} {r : Int} (ha2 : rng a2) (ha3 : rng a3) (ha4 : rng a4) (h : f_L_isTree fu d M a2 a3 a4 = some (M', r)), MetI l yL_isTree cL_isTree 8 .boolean ({ frames := 10 * (d + 1), cells := 0, slots := 0, locals := 243 * (d + 1) } : Room) Γ sk [vr Γ 52, vr Γ 3, vi a2, vi a3, vi a4] M M' r := by
  intro d
  induction d with
  | zero =>
    intro M M' a2 a3 a4 r ha2 ha3 ha4 h
    cases h
  | succ d hsf =>
    intro M M' a2 a3 a4 r ha2 ha3 ha4 h
    rw [f_L_isTree] at h
    refine MetI_of RL rfl (by decide) rfl (Nat.le_of_ble_eq_true rfl) rfl ?_
    intro p e s m args below meth c C hr hlk hM
    have e1 := hsk 1 _ (by decide) rfl
    have e3 := hsk 3 _ (by decide) rfl
    have e52 := hsk 52 _ (by decide) rfl
    have e56 := hsk 56 _ (by decide) rfl
    have e57 := hsk 57 _ (by decide) rfl
    generalize hsfe : f_L_isTree fu d = sf at h hsf
    have LP249 : ∀ (n : Nat) {x2 : Int} {x3 : Int} {x4 : Int} {x5 : Int} {x6 : Int} {M : Mem}, rng x2 → rng x3 → rng x4 → rng x5 → rng x6 → f_L_isTree_L249 fu sf n x2 x3 x4 x5 x6 M = some (M', r) → VV p l e ({ frames := 10 * (d + 1 + 1), cells := 0, slots := 0, locals := 243 * (d + 1 + 1) } : Room) s m args below meth c (MQ below (PostI Γ sk M' r s.heap.size) args s 0 0 (Fr Γ sk s.heap.size)) 8 Γ sk M 0 0 249 [(0, vr Γ 52), (1, vr Γ 3), (2, vi x2), (3, vi x3), (4, vi x4), (5, vi x5), (6, vi x6)] [] := by
      intro n
      induction n with
      | zero =>
        intro x2 x3 x4 x5 x6 M hx2 hx3 hx4 hx5 hx6 h
        cases h
      | succ n ih =>
        intro x2 x3 x4 x5 x6 M hx2 hx3 hx4 hx5 hx6 h
        rw [f_L_isTree_L249] at h
        refine V_iload (pc := 249) C 6 rfl dL_isTree_249 ?_
        refine V_iload (pc := 251) C 5 rfl dL_isTree_251 ?_
        refine V_icmp_ge (pc := 253) C 284 hx6 hx5 dL_isTree_253 (by decide) (fun c253_25 => ?_) (fun c253_25 => ?_)
        · have h := ite_t h c253_25
          refine V_iconst (pc := 284) C dL_isTree_284 ?_
          exact V_zret (pc := 285) C hr hlk (by decide) h dL_isTree_285
        · have h := ite_f h c253_25
          refine V_aload_n (pc := 256) C 0 rfl dL_isTree_256 ?_
          refine V_aload_n (pc := 257) C 1 rfl dL_isTree_257 ?_
          refine V_iload_n (pc := 258) C 2 rfl dL_isTree_258 ?_
          refine V_aload_n (pc := 259) C 1 rfl dL_isTree_259 ?_
          refine V_iload_n (pc := 260) C 3 rfl dL_isTree_260 ?_
          refine V_iload (pc := 261) C 6 rfl dL_isTree_261 ?_
          rcases cax_of h with ⟨M26, r27, hc28, h⟩ | ⟨M26, n29, z30, hc28, h⟩
          · refine V_callXI0 (pc := 263) C (c_X11_childOf l Γ sk hsk.c hl9 fu hx3 hx6 hc28) cf_X11_childOf lk_L_126 ⟨rfl, rfl⟩ ⟨by dsimp only; omega, by dsimp only; omega⟩ e3 rfl rfl rfl (Nat.le_of_ble_eq_true rfl) ⟨Nat.zero_le _, Nat.zero_le _⟩ rfl dL_isTree_263 (fun hr27 => ?_)
            refine V_iload (pc := 266) C 4 rfl dL_isTree_266 ?_
            refine V_iconst (pc := 268) C dL_isTree_268 ?_
            refine V_isub (pc := 269) C dL_isTree_269 ?_
            obtain ⟨g31, h⟩ := grd_of h
            obtain ⟨M32, r33, hc34, h⟩ := cal_of h
            refine V_callVI (pc := 270) C (hsf hx2 hr27 g31 hc34) cf_L_isTree lk_L_132 ⟨rfl, rfl⟩ ⟨by dsimp only; omega, by dsimp only; omega⟩ e52 rfl rfl rfl (Nat.le_of_ble_eq_true rfl) ⟨Nat.zero_le _, Nat.zero_le _⟩ rfl dL_isTree_270 (fun hr33 => ?_)
            refine V_if_ne (pc := 273) C 278 hr33 dL_isTree_273 (by decide) (fun c273_35 => ?_) (fun c273_35 => ?_)
            · have h := ite_f h c273_35
              refine V_iinc (pc := 278) C (L' := [(0, vr Γ 52), (1, vr Γ 3), (2, vi x2), (3, vi x3), (4, vi x4), (5, vi x5), (6, vi (x6 + (1 : Int)))]) 6 rfl rfl (by decide) dL_isTree_278 ?_
              refine V_goto (pc := 281) C 249 dL_isTree_281 (by decide) ?_
              obtain ⟨g36, h⟩ := grd_of h
              refine V_sub (L' := [(0, vr Γ 52), (1, vr Γ 3), (2, vi x2), (3, vi x3), (4, vi x4), (5, vi x5), (6, vi (x6 + (1 : Int)))]) [0, 1, 2, 3, 4, 5, 6] rfl (by decide) ?_
              exact ih hx2 hx3 hx4 hx5 g36 h
            · have h := ite_t h c273_35
              refine V_iconst (pc := 276) C dL_isTree_276 ?_
              exact V_zret (pc := 277) C hr hlk (by decide) h dL_isTree_277
          · cases h
    have LP159 : ∀ (n : Nat) {x2 : Int} {x3 : Int} {x5 : Int} {x6 : Int} {M : Mem}, rng x2 → rng x3 → rng x5 → rng x6 → f_L_isTree_L159 fu sf n x2 x3 x5 x6 M = some (M', r) → VV p l e ({ frames := 10 * (d + 1 + 1), cells := 0, slots := 0, locals := 243 * (d + 1 + 1) } : Room) s m args below meth c (MQ below (PostI Γ sk M' r s.heap.size) args s 0 0 (Fr Γ sk s.heap.size)) 8 Γ sk M 0 0 159 [(0, vr Γ 52), (1, vr Γ 3), (2, vi x2), (3, vi x3), (5, vi x5), (6, vi x6)] [] := by
      intro n
      induction n with
      | zero =>
        intro x2 x3 x5 x6 M hx2 hx3 hx5 hx6 h
        cases h
      | succ n ih =>
        intro x2 x3 x5 x6 M hx2 hx3 hx5 hx6 h
        rw [f_L_isTree_L159] at h
        refine V_iload (pc := 159) C 5 rfl dL_isTree_159 ?_
        refine V_iload (pc := 161) C 4 rfl dL_isTree_161 ?_
        refine V_icmp_ge (pc := 163) C 219 hx6 hx5 dL_isTree_163 (by decide) (fun c163_37 => ?_) (fun c163_37 => ?_)
        · have h := ite_t h c163_37
          refine V_aload_n (pc := 219) C 0 rfl dL_isTree_219 ?_
          refine V_dup (pc := 220) C rfl dL_isTree_220 ?_
          refine V_rng fun hM38 => ?_
          refine V_getI (pc := 221) C e52 rfl inL 7 (by decide) rfl lf_L_120 rfl dL_isTree_221 ?_
          refine V_iload (pc := 224) C 4 rfl dL_isTree_224 ?_
          refine V_iadd (pc := 226) C dL_isTree_226 ?_
          obtain ⟨g39, h⟩ := grd_of h
          refine V_putI (pc := 227) C (by decide) e52 rfl inL tyL tyL_ok nmL 7 (by decide) rfl rfl lf_L_120 rfl g39 rfl dL_isTree_227 ?_
          refine V_aload_n (pc := 230) C 1 rfl dL_isTree_230 ?_
          refine V_iload_n (pc := 231) C 3 rfl dL_isTree_231 ?_
          refine V_iconst (pc := 232) C dL_isTree_232 ?_
          rcases cax_of h with ⟨M40, r41, hc42, h⟩ | ⟨M40, n43, z44, hc42, h⟩
          · refine V_callXI0 (pc := 233) C (c_X11_childOf l Γ sk hsk.c hl9 fu hx3 (by decide) hc42) cf_X11_childOf lk_L_126 ⟨rfl, rfl⟩ ⟨by dsimp only; omega, by dsimp only; omega⟩ e3 rfl rfl rfl (Nat.le_of_ble_eq_true rfl) ⟨Nat.zero_le _, Nat.zero_le _⟩ rfl dL_isTree_233 (fun hr41 => ?_)
            refine V_iconst (pc := 236) C dL_isTree_236 ?_
            refine V_icmp_ne (pc := 237) C 244 hr41 (by decide) dL_isTree_237 (by decide) (fun c237_45 => ?_) (fun c237_45 => ?_)
            · have h := ite_f h c237_45
              refine V_iconst (pc := 244) C dL_isTree_244 ?_
              exact V_zret (pc := 245) C hr hlk (by decide) h dL_isTree_245
            · have h := ite_t h c237_45
              refine V_iconst (pc := 240) C dL_isTree_240 ?_
              refine V_goto (pc := 241) C 245 dL_isTree_241 (by decide) ?_
              exact V_zret (pc := 245) C hr hlk (by decide) h dL_isTree_245
          · cases h
        · have h := ite_f h c163_37
          refine V_aload_n (pc := 166) C 1 rfl dL_isTree_166 ?_
          refine V_iload_n (pc := 167) C 2 rfl dL_isTree_167 ?_
          refine V_aload_n (pc := 168) C 0 rfl dL_isTree_168 ?_
          refine V_rng fun hM46 => ?_
          refine V_getI (pc := 169) C e52 rfl inL 7 (by decide) rfl lf_L_120 rfl dL_isTree_169 ?_
          refine V_iload (pc := 172) C 5 rfl dL_isTree_172 ?_
          refine V_iadd (pc := 174) C dL_isTree_174 ?_
          obtain ⟨g47, h⟩ := grd_of h
          rcases cax_of h with ⟨M48, r49, hc50, h⟩ | ⟨M48, n51, z52, hc50, h⟩
          · refine V_callXI0 (pc := 175) C (c_X11_leafOf l Γ sk hsk.c hl9 fu hx2 g47 hc50) cf_X11_leafOf lk_L_129 ⟨rfl, rfl⟩ ⟨by dsimp only; omega, by dsimp only; omega⟩ e3 rfl rfl rfl (Nat.le_of_ble_eq_true rfl) ⟨Nat.zero_le _, Nat.zero_le _⟩ rfl dL_isTree_175 (fun hr49 => ?_)
            refine V_iload_n (pc := 178) C 3 rfl dL_isTree_178 ?_
            refine V_icmp_ne (pc := 179) C 211 hr49 hx3 dL_isTree_179 (by decide) (fun c179_53 => ?_) (fun c179_53 => ?_)
            · have h := ite_f h c179_53
              refine V_iconst (pc := 211) C dL_isTree_211 ?_
              exact V_zret (pc := 212) C hr hlk (by decide) h dL_isTree_212
            · have h := ite_t h c179_53
              refine V_aload_n (pc := 182) C 1 rfl dL_isTree_182 ?_
              refine V_iload_n (pc := 183) C 2 rfl dL_isTree_183 ?_
              refine V_aload_n (pc := 184) C 0 rfl dL_isTree_184 ?_
              refine V_rng fun hM54 => ?_
              refine V_getI (pc := 185) C e52 rfl inL 7 (by decide) rfl lf_L_120 rfl dL_isTree_185 ?_
              refine V_iload (pc := 188) C 5 rfl dL_isTree_188 ?_
              refine V_iadd (pc := 190) C dL_isTree_190 ?_
              obtain ⟨g55, h⟩ := grd_of h
              rcases cax_of h with ⟨M56, r57, hc58, h⟩ | ⟨M56, n59, z60, hc58, h⟩
              · refine V_callXI0 (pc := 191) C (c_X11_get l Γ sk hsk.c hl9 fu hx2 g55 hc58) cf_X11_get lk_L_123 ⟨rfl, rfl⟩ ⟨by dsimp only; omega, by dsimp only; omega⟩ e3 rfl rfl rfl (Nat.le_of_ble_eq_true rfl) ⟨Nat.zero_le _, Nat.zero_le _⟩ rfl dL_isTree_191 (fun hr57 => ?_)
                refine V_aload_n (pc := 194) C 0 rfl dL_isTree_194 ?_
                refine V_getR (pc := 195) C e52 rfl inL 0 (by decide) rfl lf_L_9 rfl dL_isTree_195 ?_
                refine V_iload_n (pc := 198) C 2 rfl dL_isTree_198 ?_
                obtain ⟨g61, h⟩ := grd_of h
                refine V_aald (pc := 199) C e1 g61 hx2 dL_isTree_199 ?_
                refine V_aload_n (pc := 200) C 0 rfl dL_isTree_200 ?_
                refine V_rng fun hM62 => ?_
                refine V_getI (pc := 201) C e52 rfl inL 7 (by decide) rfl lf_L_120 rfl dL_isTree_201 ?_
                refine V_iload (pc := 204) C 5 rfl dL_isTree_204 ?_
                refine V_iadd (pc := 206) C dL_isTree_206 ?_
                obtain ⟨g63, h⟩ := grd_of h
                obtain ⟨g64, h⟩ := grd_of h
                refine V_iald (pc := 207) C (hsk.row g61) g64 g63 dL_isTree_207 ?_
                refine V_icmp_eq (pc := 208) C 213 hr57 (hM62 _ _) dL_isTree_208 (by decide) (fun c208_65 => ?_) (fun c208_65 => ?_)
                · have h := ite_t h c208_65
                  refine V_iinc (pc := 213) C (L' := [(0, vr Γ 52), (1, vr Γ 3), (2, vi x2), (3, vi x3), (5, vi x5), (6, vi (x6 + (1 : Int)))]) 5 rfl rfl (by decide) dL_isTree_213 ?_
                  refine V_goto (pc := 216) C 159 dL_isTree_216 (by decide) ?_
                  obtain ⟨g66, h⟩ := grd_of h
                  refine V_sub (L' := [(0, vr Γ 52), (1, vr Γ 3), (2, vi x2), (3, vi x3), (5, vi x5), (6, vi (x6 + (1 : Int)))]) [0, 1, 2, 3, 4, 5] rfl (by decide) ?_
                  exact ih hx2 hx3 hx5 g66 h
                · have h := ite_f h c208_65
                  refine V_iconst (pc := 211) C dL_isTree_211 ?_
                  exact V_zret (pc := 212) C hr hlk (by decide) h dL_isTree_212
              · cases h
          · cases h
    have JP126 : ∀ (k52 : Int → Int → Int → Int → Int → Mem → Option (Mem × Int)) (_ : ∀ (x2 : Int) (x3 : Int) (x4 : Int) (x5 : Int) (x6 : Int) (M : Mem), rng x2 → rng x3 → rng x4 → rng x5 → rng x6 → k52 x2 x3 x4 x5 x6 M = some (M', r) → VV p l e ({ frames := 10 * (d + 1 + 1), cells := 0, slots := 0, locals := 243 * (d + 1 + 1) } : Room) s m args below meth c (MQ below (PostI Γ sk M' r s.heap.size) args s 0 0 (Fr Γ sk s.heap.size)) 8 Γ sk M 0 0 52 [(0, vr Γ 52), (1, vr Γ 3), (2, vi x2), (3, vi x3), (4, vi x4), (5, vi x5), (6, vi x6)] []) {x2 : Int} {x3 : Int} {x4 : Int} {x5 : Int} {x6 : Int} {x7 : Int} {M : Mem}, rng x2 → rng x3 → rng x4 → rng x5 → rng x6 → rng x7 → f_L_isTree_J126 fu sf k52 x2 x3 x4 x5 x6 x7 M = some (M', r) → VV p l e ({ frames := 10 * (d + 1 + 1), cells := 0, slots := 0, locals := 243 * (d + 1 + 1) } : Room) s m args below meth c (MQ below (PostI Γ sk M' r s.heap.size) args s 0 0 (Fr Γ sk s.heap.size)) 8 Γ sk M 0 0 126 [(0, vr Γ 52), (1, vr Γ 3), (2, vi x2), (3, vi x3), (4, vi x4), (5, vi x5), (6, vi x6), (7, vi x7)] [] := by
      intro k52 hkk52 x2 x3 x4 x5 x6 x7 M hx2 hx3 hx4 hx5 hx6 hx7 h
      unfold f_L_isTree_J126 at h
      refine V_aload_n (pc := 126) C 0 rfl dL_isTree_126 ?_
      refine V_getR (pc := 127) C e52 rfl inL 4 (by decide) rfl lf_L_25 rfl dL_isTree_127 ?_
      refine V_iload_n (pc := 130) C 3 rfl dL_isTree_130 ?_
      obtain ⟨g76, h⟩ := grd_of h
      refine V_aald (pc := 131) C e56 g76 hx3 dL_isTree_131 ?_
      refine V_iload (pc := 132) C 6 rfl dL_isTree_132 ?_
      refine V_iload (pc := 134) C 7 rfl dL_isTree_134 ?_
      obtain ⟨g77, h⟩ := grd_of h
      refine V_iast (pc := 136) C (Nat.le_trans (by decide) (Nat.le_add_right _ _)) (hsk.seen g76) g77 hx6 hx7 dL_isTree_136 ?_
      refine V_iinc (pc := 137) C (L' := [(0, vr Γ 52), (1, vr Γ 3), (2, vi x2), (3, vi x3), (4, vi x4), (5, vi x5), (6, vi (x6 + (1 : Int))), (7, vi x7)]) 6 rfl rfl (by decide) dL_isTree_137 ?_
      refine V_goto (pc := 140) C 52 dL_isTree_140 (by decide) ?_
      obtain ⟨g78, h⟩ := grd_of h
      refine V_sub (L' := [(0, vr Γ 52), (1, vr Γ 3), (2, vi x2), (3, vi x3), (4, vi x4), (5, vi x5), (6, vi (x6 + (1 : Int)))]) [0, 1, 2, 3, 4, 5, 6] rfl (by decide) ?_
      exact hkk52 _ _ _ _ _ _ hx2 hx3 hx4 hx5 g78 h
    have JP99 : ∀ (k52 : Int → Int → Int → Int → Int → Mem → Option (Mem × Int)) (_ : ∀ (x2 : Int) (x3 : Int) (x4 : Int) (x5 : Int) (x6 : Int) (M : Mem), rng x2 → rng x3 → rng x4 → rng x5 → rng x6 → k52 x2 x3 x4 x5 x6 M = some (M', r) → VV p l e ({ frames := 10 * (d + 1 + 1), cells := 0, slots := 0, locals := 243 * (d + 1 + 1) } : Room) s m args below meth c (MQ below (PostI Γ sk M' r s.heap.size) args s 0 0 (Fr Γ sk s.heap.size)) 8 Γ sk M 0 0 52 [(0, vr Γ 52), (1, vr Γ 3), (2, vi x2), (3, vi x3), (4, vi x4), (5, vi x5), (6, vi x6)] []) {x2 : Int} {x3 : Int} {x4 : Int} {x5 : Int} {x6 : Int} {y0 : Int} {M : Mem}, rng x2 → rng x3 → rng x4 → rng x5 → rng x6 → rng y0 → f_L_isTree_J99 fu sf k52 x2 x3 x4 x5 x6 y0 M = some (M', r) → VV p l e ({ frames := 10 * (d + 1 + 1), cells := 0, slots := 0, locals := 243 * (d + 1 + 1) } : Room) s m args below meth c (MQ below (PostI Γ sk M' r s.heap.size) args s 0 0 (Fr Γ sk s.heap.size)) 8 Γ sk M 0 0 99 [(0, vr Γ 52), (1, vr Γ 3), (2, vi x2), (3, vi x3), (4, vi x4), (5, vi x5), (6, vi x6)] [vi y0] := by
      intro k52 hkk52 x2 x3 x4 x5 x6 y0 M hx2 hx3 hx4 hx5 hx6 hy0 h
      unfold f_L_isTree_J99 at h
      refine V_istore (pc := 99) C (L' := [(0, vr Γ 52), (1, vr Γ 3), (2, vi x2), (3, vi x3), (4, vi x4), (5, vi x5), (6, vi x6), (7, vi y0)]) rfl (by decide) dL_isTree_99 ?_
      refine V_aload_n (pc := 101) C 0 rfl dL_isTree_101 ?_
      refine V_getR (pc := 102) C e52 rfl inL 5 (by decide) rfl lf_L_28 rfl dL_isTree_102 ?_
      refine V_iload_n (pc := 105) C 3 rfl dL_isTree_105 ?_
      refine V_rng fun hM73 => ?_
      obtain ⟨g74, h⟩ := grd_of h
      refine V_zald (pc := 106) C e57 g74 hx3 dL_isTree_106 ?_
      refine V_if_eq (pc := 107) C 126 (hM73 _ _) dL_isTree_107 (by decide) (fun c107_75 => ?_) (fun c107_75 => ?_)
      · have h := ite_t h c107_75
        refine V_sub (L' := [(0, vr Γ 52), (1, vr Γ 3), (2, vi x2), (3, vi x3), (4, vi x4), (5, vi x5), (6, vi x6), (7, vi y0)]) [0, 1, 2, 3, 4, 5, 6, 7] rfl (by decide) ?_
        exact JP126 _ (fun _ _ _ _ _ _ hz0 hz1 hz2 hz3 hz4 hz => hkk52 _ _ _ _ _ _ hz0 hz1 hz2 hz3 hz4 hz) hx2 hx3 hx4 hx5 hx6 hy0 h
      · have h := ite_f h c107_75
        refine V_aload_n (pc := 110) C 0 rfl dL_isTree_110 ?_
        refine V_getR (pc := 111) C e52 rfl inL 4 (by decide) rfl lf_L_25 rfl dL_isTree_111 ?_
        refine V_iload_n (pc := 114) C 3 rfl dL_isTree_114 ?_
        obtain ⟨g79, h⟩ := grd_of h
        refine V_aald (pc := 115) C e56 g79 hx3 dL_isTree_115 ?_
        refine V_iload (pc := 116) C 6 rfl dL_isTree_116 ?_
        obtain ⟨g80, h⟩ := grd_of h
        refine V_iald (pc := 118) C (hsk.seen g79) g80 hx6 dL_isTree_118 ?_
        refine V_iload (pc := 119) C 7 rfl dL_isTree_119 ?_
        refine V_icmp_eq (pc := 121) C 126 (hM73 _ _) hy0 dL_isTree_121 (by decide) (fun c121_81 => ?_) (fun c121_81 => ?_)
        · have h := ite_t h c121_81
          refine V_sub (L' := [(0, vr Γ 52), (1, vr Γ 3), (2, vi x2), (3, vi x3), (4, vi x4), (5, vi x5), (6, vi x6), (7, vi y0)]) [0, 1, 2, 3, 4, 5, 6, 7] rfl (by decide) ?_
          exact JP126 _ (fun _ _ _ _ _ _ hz0 hz1 hz2 hz3 hz4 hz => hkk52 _ _ _ _ _ _ hz0 hz1 hz2 hz3 hz4 hz) hx2 hx3 hx4 hx5 hx6 hy0 h
        · have h := ite_f h c121_81
          refine V_iconst (pc := 124) C dL_isTree_124 ?_
          exact V_zret (pc := 125) C hr hlk (by decide) h dL_isTree_125
    have LP52 : ∀ (n : Nat) {x2 : Int} {x3 : Int} {x4 : Int} {x5 : Int} {x6 : Int} {M : Mem}, rng x2 → rng x3 → rng x4 → rng x5 → rng x6 → f_L_isTree_L52 fu sf n x2 x3 x4 x5 x6 M = some (M', r) → VV p l e ({ frames := 10 * (d + 1 + 1), cells := 0, slots := 0, locals := 243 * (d + 1 + 1) } : Room) s m args below meth c (MQ below (PostI Γ sk M' r s.heap.size) args s 0 0 (Fr Γ sk s.heap.size)) 8 Γ sk M 0 0 52 [(0, vr Γ 52), (1, vr Γ 3), (2, vi x2), (3, vi x3), (4, vi x4), (5, vi x5), (6, vi x6)] [] := by
      intro n
      induction n with
      | zero =>
        intro x2 x3 x4 x5 x6 M hx2 hx3 hx4 hx5 hx6 h
        cases h
      | succ n ih =>
        intro x2 x3 x4 x5 x6 M hx2 hx3 hx4 hx5 hx6 h
        rw [f_L_isTree_L52] at h
        refine V_iload (pc := 52) C 6 rfl dL_isTree_52 ?_
        refine V_iconst (pc := 54) C dL_isTree_54 ?_
        refine V_icmp_ge (pc := 55) C 143 hx6 (by decide) dL_isTree_55 (by decide) (fun c55_21 => ?_) (fun c55_21 => ?_)
        · have h := ite_t h c55_21
          refine V_aload_n (pc := 143) C 0 rfl dL_isTree_143 ?_
          refine V_getR (pc := 144) C e52 rfl inL 5 (by decide) rfl lf_L_28 rfl dL_isTree_144 ?_
          refine V_iload_n (pc := 147) C 3 rfl dL_isTree_147 ?_
          refine V_iconst (pc := 148) C dL_isTree_148 ?_
          obtain ⟨g22, h⟩ := grd_of h
          obtain ⟨g23, h⟩ := grd_of h
          refine V_zast (pc := 149) C (by decide) e57 g22 hx3 g23 dL_isTree_149 ?_
          refine V_iload (pc := 150) C 4 rfl dL_isTree_150 ?_
          refine V_iconst (pc := 152) C dL_isTree_152 ?_
          refine V_icmp_ne (pc := 153) C 246 hx4 (by decide) dL_isTree_153 (by decide) (fun c153_24 => ?_) (fun c153_24 => ?_)
          · have h := ite_f h c153_24
            refine V_iconst (pc := 246) C dL_isTree_246 ?_
            refine V_istore (pc := 247) C (L' := [(0, vr Γ 52), (1, vr Γ 3), (2, vi x2), (3, vi x3), (4, vi x4), (5, vi x5), (6, vi (0 : Int))]) rfl (by decide) dL_isTree_247 ?_
            refine V_sub (L' := [(0, vr Γ 52), (1, vr Γ 3), (2, vi x2), (3, vi x3), (4, vi x4), (5, vi x5), (6, vi (0 : Int))]) [0, 1, 2, 3, 4, 5, 6] rfl (by decide) ?_
            exact LP249 fu  hx2 hx3 hx4 hx5 (by decide) h
          · have h := ite_t h c153_24
            refine V_iconst (pc := 156) C dL_isTree_156 ?_
            refine V_istore (pc := 157) C (L' := [(0, vr Γ 52), (1, vr Γ 3), (2, vi x2), (3, vi x3), (4, vi x4), (5, vi x5), (6, vi (0 : Int))]) rfl (by decide) dL_isTree_157 ?_
            refine V_sub (L' := [(0, vr Γ 52), (1, vr Γ 3), (2, vi x2), (3, vi x3), (5, vi x5), (6, vi (0 : Int))]) [0, 1, 2, 3, 5, 6] rfl (by decide) ?_
            exact LP159 fu  hx2 hx3 hx5 (by decide) h
        · have h := ite_f h c55_21
          refine V_iload (pc := 58) C 4 rfl dL_isTree_58 ?_
          refine V_iconst (pc := 60) C dL_isTree_60 ?_
          refine V_icmp_ne (pc := 61) C 92 hx4 (by decide) dL_isTree_61 (by decide) (fun c61_67 => ?_) (fun c61_67 => ?_)
          · have h := ite_f h c61_67
            refine V_aload_n (pc := 92) C 1 rfl dL_isTree_92 ?_
            refine V_iload_n (pc := 93) C 3 rfl dL_isTree_93 ?_
            refine V_iload (pc := 94) C 6 rfl dL_isTree_94 ?_
            rcases cax_of h with ⟨M68, r69, hc70, h⟩ | ⟨M68, n71, z72, hc70, h⟩
            · refine V_callXI0 (pc := 96) C (c_X11_childOf l Γ sk hsk.c hl9 fu hx3 hx6 hc70) cf_X11_childOf lk_L_126 ⟨rfl, rfl⟩ ⟨by dsimp only; omega, by dsimp only; omega⟩ e3 rfl rfl rfl (Nat.le_of_ble_eq_true rfl) ⟨Nat.zero_le _, Nat.zero_le _⟩ rfl dL_isTree_96 (fun hr69 => ?_)
              refine V_sub (L' := [(0, vr Γ 52), (1, vr Γ 3), (2, vi x2), (3, vi x3), (4, vi x4), (5, vi x5), (6, vi x6)]) [0, 1, 2, 3, 4, 5, 6] rfl (by decide) ?_
              exact JP99 _ (fun _ _ _ _ _ _ hz0 hz1 hz2 hz3 hz4 hz => ih hz0 hz1 hz2 hz3 hz4 hz) hx2 hx3 hx4 hx5 hx6 hr69 h
            · cases h
          · have h := ite_t h c61_67
            refine V_iload (pc := 64) C 6 rfl dL_isTree_64 ?_
            refine V_iload (pc := 66) C 5 rfl dL_isTree_66 ?_
            refine V_icmp_ge (pc := 68) C 86 hx6 hx5 dL_isTree_68 (by decide) (fun c68_82 => ?_) (fun c68_82 => ?_)
            · have h := ite_t h c68_82
              refine V_sipush (pc := 86) C dL_isTree_86 rfl ?_
              refine V_goto (pc := 89) C 99 dL_isTree_89 (by decide) ?_
              refine V_sub (L' := [(0, vr Γ 52), (1, vr Γ 3), (2, vi x2), (3, vi x3), (4, vi x4), (5, vi x5), (6, vi x6)]) [0, 1, 2, 3, 4, 5, 6] rfl (by decide) ?_
              exact JP99 _ (fun _ _ _ _ _ _ hz0 hz1 hz2 hz3 hz4 hz => ih hz0 hz1 hz2 hz3 hz4 hz) hx2 hx3 hx4 hx5 hx6 (by decide) h
            · have h := ite_f h c68_82
              refine V_aload_n (pc := 71) C 1 rfl dL_isTree_71 ?_
              refine V_iload_n (pc := 72) C 2 rfl dL_isTree_72 ?_
              refine V_aload_n (pc := 73) C 0 rfl dL_isTree_73 ?_
              refine V_rng fun hM83 => ?_
              refine V_getI (pc := 74) C e52 rfl inL 7 (by decide) rfl lf_L_120 rfl dL_isTree_74 ?_
              refine V_iload (pc := 77) C 6 rfl dL_isTree_77 ?_
              refine V_iadd (pc := 79) C dL_isTree_79 ?_
              obtain ⟨g84, h⟩ := grd_of h
              rcases cax_of h with ⟨M85, r86, hc87, h⟩ | ⟨M85, n88, z89, hc87, h⟩
              · refine V_callXI0 (pc := 80) C (c_X11_get l Γ sk hsk.c hl9 fu hx2 g84 hc87) cf_X11_get lk_L_123 ⟨rfl, rfl⟩ ⟨by dsimp only; omega, by dsimp only; omega⟩ e3 rfl rfl rfl (Nat.le_of_ble_eq_true rfl) ⟨Nat.zero_le _, Nat.zero_le _⟩ rfl dL_isTree_80 (fun hr86 => ?_)
                refine V_goto (pc := 83) C 99 dL_isTree_83 (by decide) ?_
                refine V_sub (L' := [(0, vr Γ 52), (1, vr Γ 3), (2, vi x2), (3, vi x3), (4, vi x4), (5, vi x5), (6, vi x6)]) [0, 1, 2, 3, 4, 5, 6] rfl (by decide) ?_
                exact JP99 _ (fun _ _ _ _ _ _ hz0 hz1 hz2 hz3 hz4 hz => ih hz0 hz1 hz2 hz3 hz4 hz) hx2 hx3 hx4 hx5 hx6 hr86 h
              · cases h
    have JP23 : ∀ {x2 : Int} {x3 : Int} {x4 : Int} {x5 : Int} {y0 : Int} {y1 : Int} {M : Mem}, rng x2 → rng x3 → rng x4 → rng x5 → rng y0 → rng y1 → f_L_isTree_J23 fu sf x2 x3 x4 x5 y0 y1 M = some (M', r) → VV p l e ({ frames := 10 * (d + 1 + 1), cells := 0, slots := 0, locals := 243 * (d + 1 + 1) } : Room) s m args below meth c (MQ below (PostI Γ sk M' r s.heap.size) args s 0 0 (Fr Γ sk s.heap.size)) 8 Γ sk M 0 0 23 [(0, vr Γ 52), (1, vr Γ 3), (2, vi x2), (3, vi x3), (4, vi x4), (5, vi x5)] [vi y1, vi y0] := by
      intro x2 x3 x4 x5 y0 y1 M hx2 hx3 hx4 hx5 hy0 hy1 h
      unfold f_L_isTree_J23 at h
      refine V_icmp_ne (pc := 23) C 47 hy0 hy1 dL_isTree_23 (by decide) (fun c23_12 => ?_) (fun c23_12 => ?_)
      · have h := ite_f h c23_12
        refine V_iconst (pc := 47) C dL_isTree_47 ?_
        exact V_zret (pc := 48) C hr hlk (by decide) h dL_isTree_48
      · have h := ite_t h c23_12
        refine V_iload (pc := 26) C 5 rfl dL_isTree_26 ?_
        refine V_iconst (pc := 28) C dL_isTree_28 ?_
        refine V_icmp_lt (pc := 29) C 47 hx5 (by decide) dL_isTree_29 (by decide) (fun c29_13 => ?_) (fun c29_13 => ?_)
        · have h := ite_t h c29_13
          refine V_iconst (pc := 47) C dL_isTree_47 ?_
          exact V_zret (pc := 48) C hr hlk (by decide) h dL_isTree_48
        · have h := ite_f h c29_13
          refine V_iload (pc := 32) C 5 rfl dL_isTree_32 ?_
          refine V_iconst (pc := 34) C dL_isTree_34 ?_
          refine V_icmp_gt (pc := 35) C 47 hx5 (by decide) dL_isTree_35 (by decide) (fun c35_14 => ?_) (fun c35_14 => ?_)
          · have h := ite_t h c35_14
            refine V_iconst (pc := 47) C dL_isTree_47 ?_
            exact V_zret (pc := 48) C hr hlk (by decide) h dL_isTree_48
          · have h := ite_f h c35_14
            refine V_aload_n (pc := 38) C 1 rfl dL_isTree_38 ?_
            refine V_iload_n (pc := 39) C 3 rfl dL_isTree_39 ?_
            rcases cax_of h with ⟨M15, r16, hc17, h⟩ | ⟨M15, n18, z19, hc17, h⟩
            · refine V_callXI0 (pc := 40) C (c_X11_referencesTo l Γ sk hsk.c hl9 fu hx3 hc17) cf_X11_referencesTo lk_L_117 ⟨rfl, rfl⟩ ⟨by dsimp only; omega, by dsimp only; omega⟩ e3 rfl rfl rfl (Nat.le_of_ble_eq_true rfl) ⟨Nat.zero_le _, Nat.zero_le _⟩ rfl dL_isTree_40 (fun hr16 => ?_)
              refine V_iconst (pc := 43) C dL_isTree_43 ?_
              refine V_icmp_ge (pc := 44) C 49 hr16 (by decide) dL_isTree_44 (by decide) (fun c44_20 => ?_) (fun c44_20 => ?_)
              · have h := ite_t h c44_20
                refine V_iconst (pc := 49) C dL_isTree_49 ?_
                refine V_istore (pc := 50) C (L' := [(0, vr Γ 52), (1, vr Γ 3), (2, vi x2), (3, vi x3), (4, vi x4), (5, vi x5), (6, vi (0 : Int))]) rfl (by decide) dL_isTree_50 ?_
                refine V_sub (L' := [(0, vr Γ 52), (1, vr Γ 3), (2, vi x2), (3, vi x3), (4, vi x4), (5, vi x5), (6, vi (0 : Int))]) [0, 1, 2, 3, 4, 5, 6] rfl (by decide) ?_
                exact LP52 fu  hx2 hx3 hx4 hx5 (by decide) h
              · have h := ite_f h c44_20
                refine V_iconst (pc := 47) C dL_isTree_47 ?_
                exact V_zret (pc := 48) C hr hlk (by decide) h dL_isTree_48
            · cases h
    skip
    refine V_aload_n (pc := 0) C 1 rfl dL_isTree_0 ?_
    refine V_iload_n (pc := 1) C 3 rfl dL_isTree_1 ?_
    rcases cax_of h with ⟨M1, r2, hc3, h⟩ | ⟨M1, n4, z5, hc3, h⟩
    · refine V_callXI0 (pc := 2) C (c_X11_entryCount l Γ sk hsk.c hl9 fu ha3 hc3) cf_X11_entryCount lk_L_111 ⟨rfl, rfl⟩ ⟨by dsimp only; omega, by dsimp only; omega⟩ e3 rfl rfl rfl (Nat.le_of_ble_eq_true rfl) ⟨Nat.zero_le _, Nat.zero_le _⟩ rfl dL_isTree_2 (fun hr2 => ?_)
      refine V_istore (pc := 5) C (L' := [(0, vr Γ 52), (1, vr Γ 3), (2, vi a2), (3, vi a3), (4, vi a4), (5, vi r2)]) rfl (by decide) dL_isTree_5 ?_
      refine V_aload_n (pc := 7) C 1 rfl dL_isTree_7 ?_
      refine V_iload_n (pc := 8) C 3 rfl dL_isTree_8 ?_
      rcases cax_of h with ⟨M6, r7, hc8, h⟩ | ⟨M6, n9, z10, hc8, h⟩
      · refine V_callXI0 (pc := 9) C (c_X11_isLeaf l Γ sk hsk.c hl9 fu ha3 hc8) cf_X11_isLeaf lk_L_114 ⟨rfl, rfl⟩ ⟨by dsimp only; omega, by dsimp only; omega⟩ e3 rfl rfl rfl (Nat.le_of_ble_eq_true rfl) ⟨Nat.zero_le _, Nat.zero_le _⟩ rfl dL_isTree_9 (fun hr7 => ?_)
        refine V_iload (pc := 12) C 4 rfl dL_isTree_12 ?_
        refine V_iconst (pc := 14) C dL_isTree_14 ?_
        refine V_icmp_ne (pc := 15) C 22 ha4 (by decide) dL_isTree_15 (by decide) (fun c15_11 => ?_) (fun c15_11 => ?_)
        · have h := ite_f h c15_11
          refine V_iconst (pc := 22) C dL_isTree_22 ?_
          refine V_sub (L' := [(0, vr Γ 52), (1, vr Γ 3), (2, vi a2), (3, vi a3), (4, vi a4), (5, vi r2)]) [0, 1, 2, 3, 4, 5] rfl (by decide) ?_
          exact JP23 ha2 ha3 ha4 hr2 hr7 (by decide) h
        · have h := ite_t h c15_11
          refine V_iconst (pc := 18) C dL_isTree_18 ?_
          refine V_goto (pc := 19) C 23 dL_isTree_19 (by decide) ?_
          refine V_sub (L' := [(0, vr Γ 52), (1, vr Γ 3), (2, vi a2), (3, vi a3), (4, vi a4), (5, vi r2)]) [0, 1, 2, 3, 4, 5] rfl (by decide) ?_
          exact JP23 ha2 ha3 ha4 hr2 hr7 (by decide) h
      · cases h
    · cases h
set_option maxRecDepth 100000 in
set_option maxHeartbeats 4000000 in
theorem c_L_isLike (l : Launch) (Γ : GG) (sk : List SD) (hsk : ExtL sk) (hl9 : l.stackTraces = false) (fu : Nat) {M M' : Mem}  {r : Int}  (h : f_L_isLike fu M  = some (M', r)) : MetI l yL_isLike cL_isLike 5 .boolean ({ frames := 91, cells := 0, slots := 0, locals := 2214 } : Room) Γ sk [vr Γ 52, vr Γ 3] M M' r := by
  unfold f_L_isLike at h
  refine MetI_of RL rfl (by decide) rfl (Nat.le_of_ble_eq_true rfl) rfl ?_
  intro p e s m args below meth c C hr hlk hM
  have e1 := hsk 1 _ (by decide) rfl
  have e3 := hsk 3 _ (by decide) rfl
  have e52 := hsk 52 _ (by decide) rfl
  have e53 := hsk 53 _ (by decide) rfl
  have e54 := hsk 54 _ (by decide) rfl
  have e55 := hsk 55 _ (by decide) rfl
  have JP167 : ∀ (k15 : Int → Mem → Option (Mem × Int)) (_ : ∀ (x2 : Int) (M : Mem), rng x2 → k15 x2 M = some (M', r) → VV p l e ({ frames := 91, cells := 0, slots := 0, locals := 2214 } : Room) s m args below meth c (MQ below (PostI Γ sk M' r s.heap.size) args s 0 0 (Fr Γ sk s.heap.size)) 5 Γ sk M 0 0 15 [(0, vr Γ 52), (1, vr Γ 3), (2, vi x2)] []) (k70 : Int → Int → Int → Mem → Option (Mem × Int)) (_ : ∀ (x2 : Int) (x3 : Int) (x4 : Int) (M : Mem), rng x2 → rng x3 → rng x4 → k70 x2 x3 x4 M = some (M', r) → VV p l e ({ frames := 91, cells := 0, slots := 0, locals := 2214 } : Room) s m args below meth c (MQ below (PostI Γ sk M' r s.heap.size) args s 0 0 (Fr Γ sk s.heap.size)) 5 Γ sk M 0 0 70 [(0, vr Γ 52), (1, vr Γ 3), (2, vi x2), (3, vi x3), (4, vi x4)] []) {x2 : Int} {y0 : Int} {y1 : Int} {M : Mem}, rng x2 → rng y0 → rng y1 → f_L_isLike_J167 fu k15 k70 x2 y0 y1 M = some (M', r) → VV p l e ({ frames := 91, cells := 0, slots := 0, locals := 2214 } : Room) s m args below meth c (MQ below (PostI Γ sk M' r s.heap.size) args s 0 0 (Fr Γ sk s.heap.size)) 5 Γ sk M 0 0 167 [(0, vr Γ 52), (1, vr Γ 3), (2, vi x2)] [vi y1, vi y0] := by
    intro k15 hkk15 k70 hkk70 x2 y0 y1 M hx2 hy0 hy1 h
    unfold f_L_isLike_J167 at h
    refine V_icmp_eq (pc := 167) C 172 hy0 hy1 dL_isLike_167 (by decide) (fun c167_67 => ?_) (fun c167_67 => ?_)
    · have h := ite_t h c167_67
      refine V_aload_n (pc := 172) C 0 rfl dL_isLike_172 ?_
      refine V_iconst (pc := 173) C dL_isLike_173 ?_
      refine V_putI (pc := 174) C (by decide) e52 rfl inL tyL tyL_ok nmL 7 (by decide) rfl rfl lf_L_120 rfl (by decide) rfl dL_isLike_174 ?_
      refine V_aload_n (pc := 177) C 0 rfl dL_isLike_177 ?_
      refine V_getR (pc := 178) C e52 rfl inL 1 (by decide) rfl lf_L_14 rfl dL_isLike_178 ?_
      refine V_iload_n (pc := 181) C 2 rfl dL_isLike_181 ?_
      refine V_rng fun hM68 => ?_
      obtain ⟨g69, h⟩ := grd_of h
      refine V_iald (pc := 182) C e53 g69 hx2 dL_isLike_182 ?_
      refine V_if_le (pc := 183) C 225 (hM68 _ _) dL_isLike_183 (by decide) (fun c183_70 => ?_) (fun c183_70 => ?_)
      · have h := ite_t h c183_70
        refine V_iinc (pc := 225) C (L' := [(0, vr Γ 52), (1, vr Γ 3), (2, vi (x2 + (1 : Int)))]) 2 rfl rfl (by decide) dL_isLike_225 ?_
        refine V_goto (pc := 228) C 15 dL_isLike_228 (by decide) ?_
        obtain ⟨g71, h⟩ := grd_of h
        refine V_sub (L' := [(0, vr Γ 52), (1, vr Γ 3), (2, vi (x2 + (1 : Int)))]) [0, 1, 2] rfl (by decide) ?_
        exact hkk15 _ _ g71 h
      · have h := ite_f h c183_70
        refine V_aload_n (pc := 186) C 0 rfl dL_isLike_186 ?_
        refine V_aload_n (pc := 187) C 1 rfl dL_isLike_187 ?_
        refine V_iload_n (pc := 188) C 2 rfl dL_isLike_188 ?_
        refine V_aload_n (pc := 189) C 1 rfl dL_isLike_189 ?_
        refine V_iload_n (pc := 190) C 2 rfl dL_isLike_190 ?_
        rcases cax_of h with ⟨M72, r73, hc74, h⟩ | ⟨M72, n75, z76, hc74, h⟩
        · refine V_callXI0 (pc := 191) C (c_X11_rootOf l Γ sk hsk.c hl9 fu hx2 hc74) cf_X11_rootOf lk_L_146 ⟨rfl, rfl⟩ ⟨Nat.le_of_ble_eq_true rfl, Nat.le_of_ble_eq_true rfl⟩ e3 rfl rfl rfl (Nat.le_of_ble_eq_true rfl) ⟨Nat.zero_le _, Nat.zero_le _⟩ rfl dL_isLike_191 (fun hr73 => ?_)
          refine V_aload_n (pc := 194) C 0 rfl dL_isLike_194 ?_
          refine V_aload_n (pc := 195) C 0 rfl dL_isLike_195 ?_
          refine V_getR (pc := 196) C e52 rfl inL 1 (by decide) rfl lf_L_14 rfl dL_isLike_196 ?_
          refine V_iload_n (pc := 199) C 2 rfl dL_isLike_199 ?_
          refine V_rng fun hM77 => ?_
          obtain ⟨g78, h⟩ := grd_of h
          refine V_iald (pc := 200) C e53 g78 hx2 dL_isLike_200 ?_
          obtain ⟨M79, r80, hc81, h⟩ := cal_of h
          refine V_callVI (pc := 201) C (c_L_height l Γ sk hsk hl9 fu (hM77 _ _) hc81) cf_L_height lk_L_81 ⟨rfl, rfl⟩ ⟨Nat.le_of_ble_eq_true rfl, Nat.le_of_ble_eq_true rfl⟩ e52 rfl rfl rfl (Nat.le_of_ble_eq_true rfl) ⟨Nat.zero_le _, Nat.zero_le _⟩ rfl dL_isLike_201 (fun hr80 => ?_)
          obtain ⟨M82, r83, hc84, h⟩ := cal_of h
          refine V_callVI (pc := 204) C (c_L_isTree l Γ sk hsk hl9 fu 8 hx2 hr73 hr80 hc84) cf_L_isTree lk_L_132 ⟨rfl, rfl⟩ ⟨Nat.le_of_ble_eq_true rfl, Nat.le_of_ble_eq_true rfl⟩ e52 rfl rfl rfl (Nat.le_of_ble_eq_true rfl) ⟨Nat.zero_le _, Nat.zero_le _⟩ rfl dL_isLike_204 (fun hr83 => ?_)
          refine V_if_eq (pc := 207) C 223 hr83 dL_isLike_207 (by decide) (fun c207_85 => ?_) (fun c207_85 => ?_)
          · have h := ite_t h c207_85
            refine V_iconst (pc := 223) C dL_isLike_223 ?_
            exact V_zret (pc := 224) C hr hlk (by decide) h dL_isLike_224
          · have h := ite_f h c207_85
            refine V_aload_n (pc := 210) C 0 rfl dL_isLike_210 ?_
            refine V_rng fun hM86 => ?_
            refine V_getI (pc := 211) C e52 rfl inL 7 (by decide) rfl lf_L_120 rfl dL_isLike_211 ?_
            refine V_aload_n (pc := 214) C 0 rfl dL_isLike_214 ?_
            refine V_getR (pc := 215) C e52 rfl inL 1 (by decide) rfl lf_L_14 rfl dL_isLike_215 ?_
            refine V_iload_n (pc := 218) C 2 rfl dL_isLike_218 ?_
            obtain ⟨g87, h⟩ := grd_of h
            refine V_iald (pc := 219) C e53 g87 hx2 dL_isLike_219 ?_
            refine V_icmp_eq (pc := 220) C 225 (hM86 _ _) (hM86 _ _) dL_isLike_220 (by decide) (fun c220_88 => ?_) (fun c220_88 => ?_)
            · have h := ite_t h c220_88
              refine V_iinc (pc := 225) C (L' := [(0, vr Γ 52), (1, vr Γ 3), (2, vi (x2 + (1 : Int)))]) 2 rfl rfl (by decide) dL_isLike_225 ?_
              refine V_goto (pc := 228) C 15 dL_isLike_228 (by decide) ?_
              obtain ⟨g89, h⟩ := grd_of h
              refine V_sub (L' := [(0, vr Γ 52), (1, vr Γ 3), (2, vi (x2 + (1 : Int)))]) [0, 1, 2] rfl (by decide) ?_
              exact hkk15 _ _ g89 h
            · have h := ite_f h c220_88
              refine V_iconst (pc := 223) C dL_isLike_223 ?_
              exact V_zret (pc := 224) C hr hlk (by decide) h dL_isLike_224
        · cases h
    · have h := ite_f h c167_67
      refine V_iconst (pc := 170) C dL_isLike_170 ?_
      exact V_zret (pc := 171) C hr hlk (by decide) h dL_isLike_171
  have JP153 : ∀ (k15 : Int → Mem → Option (Mem × Int)) (_ : ∀ (x2 : Int) (M : Mem), rng x2 → k15 x2 M = some (M', r) → VV p l e ({ frames := 91, cells := 0, slots := 0, locals := 2214 } : Room) s m args below meth c (MQ below (PostI Γ sk M' r s.heap.size) args s 0 0 (Fr Γ sk s.heap.size)) 5 Γ sk M 0 0 15 [(0, vr Γ 52), (1, vr Γ 3), (2, vi x2)] []) (k70 : Int → Int → Int → Mem → Option (Mem × Int)) (_ : ∀ (x2 : Int) (x3 : Int) (x4 : Int) (M : Mem), rng x2 → rng x3 → rng x4 → k70 x2 x3 x4 M = some (M', r) → VV p l e ({ frames := 91, cells := 0, slots := 0, locals := 2214 } : Room) s m args below meth c (MQ below (PostI Γ sk M' r s.heap.size) args s 0 0 (Fr Γ sk s.heap.size)) 5 Γ sk M 0 0 70 [(0, vr Γ 52), (1, vr Γ 3), (2, vi x2), (3, vi x3), (4, vi x4)] []) {x2 : Int} {y0 : Int} {M : Mem}, rng x2 → rng y0 → f_L_isLike_J153 fu k15 k70 x2 y0 M = some (M', r) → VV p l e ({ frames := 91, cells := 0, slots := 0, locals := 2214 } : Room) s m args below meth c (MQ below (PostI Γ sk M' r s.heap.size) args s 0 0 (Fr Γ sk s.heap.size)) 5 Γ sk M 0 0 153 [(0, vr Γ 52), (1, vr Γ 3), (2, vi x2)] [vi y0] := by
    intro k15 hkk15 k70 hkk70 x2 y0 M hx2 hy0 h
    unfold f_L_isLike_J153 at h
    refine V_aload_n (pc := 153) C 0 rfl dL_isLike_153 ?_
    refine V_getR (pc := 154) C e52 rfl inL 1 (by decide) rfl lf_L_14 rfl dL_isLike_154 ?_
    refine V_iload_n (pc := 157) C 2 rfl dL_isLike_157 ?_
    refine V_rng fun hM64 => ?_
    obtain ⟨g65, h⟩ := grd_of h
    refine V_iald (pc := 158) C e53 g65 hx2 dL_isLike_158 ?_
    refine V_if_ne (pc := 159) C 166 (hM64 _ _) dL_isLike_159 (by decide) (fun c159_66 => ?_) (fun c159_66 => ?_)
    · have h := ite_f h c159_66
      refine V_iconst (pc := 166) C dL_isLike_166 ?_
      refine V_sub (L' := [(0, vr Γ 52), (1, vr Γ 3), (2, vi x2)]) [0, 1, 2] rfl (by decide) ?_
      exact JP167 _ (fun _ _ hz0 hz => hkk15 _ _ hz0 hz) _ (fun _ _ _ _ hz0 hz1 hz2 hz => hkk70 _ _ _ _ hz0 hz1 hz2 hz) hx2 hy0 (by decide) h
    · have h := ite_t h c159_66
      refine V_iconst (pc := 162) C dL_isLike_162 ?_
      refine V_goto (pc := 163) C 167 dL_isLike_163 (by decide) ?_
      refine V_sub (L' := [(0, vr Γ 52), (1, vr Γ 3), (2, vi x2)]) [0, 1, 2] rfl (by decide) ?_
      exact JP167 _ (fun _ _ hz0 hz => hkk15 _ _ hz0 hz) _ (fun _ _ _ _ hz0 hz1 hz2 hz => hkk70 _ _ _ _ hz0 hz1 hz2 hz) hx2 hy0 (by decide) h
  have LP70 : ∀ (k15 : Int → Mem → Option (Mem × Int)) (_ : ∀ (x2 : Int) (M : Mem), rng x2 → k15 x2 M = some (M', r) → VV p l e ({ frames := 91, cells := 0, slots := 0, locals := 2214 } : Room) s m args below meth c (MQ below (PostI Γ sk M' r s.heap.size) args s 0 0 (Fr Γ sk s.heap.size)) 5 Γ sk M 0 0 15 [(0, vr Γ 52), (1, vr Γ 3), (2, vi x2)] []) (n : Nat) {x2 : Int} {x3 : Int} {x4 : Int} {M : Mem}, rng x2 → rng x3 → rng x4 → f_L_isLike_L70 fu k15 n x2 x3 x4 M = some (M', r) → VV p l e ({ frames := 91, cells := 0, slots := 0, locals := 2214 } : Room) s m args below meth c (MQ below (PostI Γ sk M' r s.heap.size) args s 0 0 (Fr Γ sk s.heap.size)) 5 Γ sk M 0 0 70 [(0, vr Γ 52), (1, vr Γ 3), (2, vi x2), (3, vi x3), (4, vi x4)] [] := by
    intro k15 hkk15 n
    induction n with
    | zero =>
      intro x2 x3 x4 M hx2 hx3 hx4 h
      cases h
    | succ n ih =>
      intro x2 x3 x4 M hx2 hx3 hx4 h
      rw [f_L_isLike_L70] at h
      refine V_iload (pc := 70) C 4 rfl dL_isLike_70 ?_
      refine V_aload_n (pc := 72) C 0 rfl dL_isLike_72 ?_
      refine V_getR (pc := 73) C e52 rfl inL 1 (by decide) rfl lf_L_14 rfl dL_isLike_73 ?_
      refine V_iload_n (pc := 76) C 2 rfl dL_isLike_76 ?_
      refine V_rng fun hM30 => ?_
      obtain ⟨g31, h⟩ := grd_of h
      refine V_iald (pc := 77) C e53 g31 hx2 dL_isLike_77 ?_
      refine V_icmp_ge (pc := 78) C 99 hx4 (hM30 _ _) dL_isLike_78 (by decide) (fun c78_32 => ?_) (fun c78_32 => ?_)
      · have h := ite_t h c78_32
        refine V_aload_n (pc := 99) C 1 rfl dL_isLike_99 ?_
        refine V_iload_n (pc := 100) C 2 rfl dL_isLike_100 ?_
        rcases cax_of h with ⟨M33, r34, hc35, h⟩ | ⟨M33, n36, z37, hc35, h⟩
        · refine V_callXI0 (pc := 101) C (c_X11_size l Γ sk hsk.c hl9 fu hx2 hc35) cf_X11_size lk_L_75 ⟨rfl, rfl⟩ ⟨Nat.le_of_ble_eq_true rfl, Nat.le_of_ble_eq_true rfl⟩ e3 rfl rfl rfl (Nat.le_of_ble_eq_true rfl) ⟨Nat.zero_le _, Nat.zero_le _⟩ rfl dL_isLike_101 (fun hr34 => ?_)
          refine V_aload_n (pc := 104) C 0 rfl dL_isLike_104 ?_
          refine V_getR (pc := 105) C e52 rfl inL 1 (by decide) rfl lf_L_14 rfl dL_isLike_105 ?_
          refine V_iload_n (pc := 108) C 2 rfl dL_isLike_108 ?_
          refine V_rng fun hM38 => ?_
          obtain ⟨g39, h⟩ := grd_of h
          refine V_iald (pc := 109) C e53 g39 hx2 dL_isLike_109 ?_
          refine V_icmp_ne (pc := 110) C 170 hr34 (hM38 _ _) dL_isLike_110 (by decide) (fun c110_40 => ?_) (fun c110_40 => ?_)
          · have h := ite_f h c110_40
            refine V_iconst (pc := 170) C dL_isLike_170 ?_
            exact V_zret (pc := 171) C hr hlk (by decide) h dL_isLike_171
          · have h := ite_t h c110_40
            refine V_aload_n (pc := 113) C 1 rfl dL_isLike_113 ?_
            refine V_iload_n (pc := 114) C 2 rfl dL_isLike_114 ?_
            rcases cax_of h with ⟨M41, r42, hc43, h⟩ | ⟨M41, n44, z45, hc43, h⟩
            · refine V_callXI0 (pc := 115) C (c_X11_height l Γ sk hsk.c hl9 fu hx2 hc43) cf_X11_height lk_L_142 ⟨rfl, rfl⟩ ⟨Nat.le_of_ble_eq_true rfl, Nat.le_of_ble_eq_true rfl⟩ e3 rfl rfl rfl (Nat.le_of_ble_eq_true rfl) ⟨Nat.zero_le _, Nat.zero_le _⟩ rfl dL_isLike_115 (fun hr42 => ?_)
              refine V_aload_n (pc := 118) C 0 rfl dL_isLike_118 ?_
              refine V_aload_n (pc := 119) C 0 rfl dL_isLike_119 ?_
              refine V_getR (pc := 120) C e52 rfl inL 1 (by decide) rfl lf_L_14 rfl dL_isLike_120 ?_
              refine V_iload_n (pc := 123) C 2 rfl dL_isLike_123 ?_
              refine V_rng fun hM46 => ?_
              obtain ⟨g47, h⟩ := grd_of h
              refine V_iald (pc := 124) C e53 g47 hx2 dL_isLike_124 ?_
              obtain ⟨M48, r49, hc50, h⟩ := cal_of h
              refine V_callVI (pc := 125) C (c_L_height l Γ sk hsk hl9 fu (hM46 _ _) hc50) cf_L_height lk_L_81 ⟨rfl, rfl⟩ ⟨Nat.le_of_ble_eq_true rfl, Nat.le_of_ble_eq_true rfl⟩ e52 rfl rfl rfl (Nat.le_of_ble_eq_true rfl) ⟨Nat.zero_le _, Nat.zero_le _⟩ rfl dL_isLike_125 (fun hr49 => ?_)
              refine V_icmp_ne (pc := 128) C 170 hr42 hr49 dL_isLike_128 (by decide) (fun c128_51 => ?_) (fun c128_51 => ?_)
              · have h := ite_f h c128_51
                refine V_iconst (pc := 170) C dL_isLike_170 ?_
                exact V_zret (pc := 171) C hr hlk (by decide) h dL_isLike_171
              · have h := ite_t h c128_51
                refine V_aload_n (pc := 131) C 1 rfl dL_isLike_131 ?_
                refine V_iload_n (pc := 132) C 2 rfl dL_isLike_132 ?_
                rcases cax_of h with ⟨M52, r53, hc54, h⟩ | ⟨M52, n55, z56, hc54, h⟩
                · refine V_callXI0 (pc := 133) C (c_X11_sum l Γ sk hsk.c hl9 fu hx2 hc54) cf_X11_sum lk_L_143 ⟨rfl, rfl⟩ ⟨Nat.le_of_ble_eq_true rfl, Nat.le_of_ble_eq_true rfl⟩ e3 rfl rfl rfl (Nat.le_of_ble_eq_true rfl) ⟨Nat.zero_le _, Nat.zero_le _⟩ rfl dL_isLike_133 (fun hr53 => ?_)
                  refine V_iload_n (pc := 136) C 3 rfl dL_isLike_136 ?_
                  refine V_icmp_ne (pc := 137) C 170 hr53 hx3 dL_isLike_137 (by decide) (fun c137_57 => ?_) (fun c137_57 => ?_)
                  · have h := ite_f h c137_57
                    refine V_iconst (pc := 170) C dL_isLike_170 ?_
                    exact V_zret (pc := 171) C hr hlk (by decide) h dL_isLike_171
                  · have h := ite_t h c137_57
                    refine V_aload_n (pc := 140) C 1 rfl dL_isLike_140 ?_
                    refine V_iload_n (pc := 141) C 2 rfl dL_isLike_141 ?_
                    rcases cax_of h with ⟨M58, r59, hc60, h⟩ | ⟨M58, n61, z62, hc60, h⟩
                    · refine V_callXI0 (pc := 142) C (c_X11_rootOf l Γ sk hsk.c hl9 fu hx2 hc60) cf_X11_rootOf lk_L_146 ⟨rfl, rfl⟩ ⟨Nat.le_of_ble_eq_true rfl, Nat.le_of_ble_eq_true rfl⟩ e3 rfl rfl rfl (Nat.le_of_ble_eq_true rfl) ⟨Nat.zero_le _, Nat.zero_le _⟩ rfl dL_isLike_142 (fun hr59 => ?_)
                      refine V_if_ge (pc := 145) C 152 hr59 dL_isLike_145 (by decide) (fun c145_63 => ?_) (fun c145_63 => ?_)
                      · have h := ite_t h c145_63
                        refine V_iconst (pc := 152) C dL_isLike_152 ?_
                        refine V_sub (L' := [(0, vr Γ 52), (1, vr Γ 3), (2, vi x2)]) [0, 1, 2] rfl (by decide) ?_
                        exact JP153 _ (fun _ _ hz0 hz => hkk15 _ _ hz0 hz) _ (fun _ _ _ _ hz0 hz1 hz2 hz => ih hz0 hz1 hz2 hz) hx2 (by decide) h
                      · have h := ite_f h c145_63
                        refine V_iconst (pc := 148) C dL_isLike_148 ?_
                        refine V_goto (pc := 149) C 153 dL_isLike_149 (by decide) ?_
                        refine V_sub (L' := [(0, vr Γ 52), (1, vr Γ 3), (2, vi x2)]) [0, 1, 2] rfl (by decide) ?_
                        exact JP153 _ (fun _ _ hz0 hz => hkk15 _ _ hz0 hz) _ (fun _ _ _ _ hz0 hz1 hz2 hz => ih hz0 hz1 hz2 hz) hx2 (by decide) h
                    · cases h
                · cases h
            · cases h
        · cases h
      · have h := ite_f h c78_32
        refine V_iload_n (pc := 81) C 3 rfl dL_isLike_81 ?_
        refine V_aload_n (pc := 82) C 0 rfl dL_isLike_82 ?_
        refine V_getR (pc := 83) C e52 rfl inL 0 (by decide) rfl lf_L_9 rfl dL_isLike_83 ?_
        refine V_iload_n (pc := 86) C 2 rfl dL_isLike_86 ?_
        obtain ⟨g90, h⟩ := grd_of h
        refine V_aald (pc := 87) C e1 g90 hx2 dL_isLike_87 ?_
        refine V_iload (pc := 88) C 4 rfl dL_isLike_88 ?_
        obtain ⟨g91, h⟩ := grd_of h
        refine V_iald (pc := 90) C (hsk.row g90) g91 hx4 dL_isLike_90 ?_
        refine V_iadd (pc := 91) C dL_isLike_91 ?_
        refine V_istore_n (pc := 92) C (L' := [(0, vr Γ 52), (1, vr Γ 3), (2, vi x2), (3, vi (x3 + (M (58 + (x2 : Int).toNat) (x4 : Int).toNat))), (4, vi x4)]) rfl (by decide) dL_isLike_92 ?_
        refine V_iinc (pc := 93) C (L' := [(0, vr Γ 52), (1, vr Γ 3), (2, vi x2), (3, vi (x3 + (M (58 + (x2 : Int).toNat) (x4 : Int).toNat))), (4, vi (x4 + (1 : Int)))]) 4 rfl rfl (by decide) dL_isLike_93 ?_
        refine V_goto (pc := 96) C 70 dL_isLike_96 (by decide) ?_
        obtain ⟨g92, h⟩ := grd_of h
        obtain ⟨g93, h⟩ := grd_of h
        refine V_sub (L' := [(0, vr Γ 52), (1, vr Γ 3), (2, vi x2), (3, vi (x3 + (M (58 + (x2 : Int).toNat) (x4 : Int).toNat))), (4, vi (x4 + (1 : Int)))]) [0, 1, 2, 3, 4] rfl (by decide) ?_
        exact ih hx2 g92 g93 h
  have LP15 : ∀ (n : Nat) {x2 : Int} {M : Mem}, rng x2 → f_L_isLike_L15 fu n x2 M = some (M', r) → VV p l e ({ frames := 91, cells := 0, slots := 0, locals := 2214 } : Room) s m args below meth c (MQ below (PostI Γ sk M' r s.heap.size) args s 0 0 (Fr Γ sk s.heap.size)) 5 Γ sk M 0 0 15 [(0, vr Γ 52), (1, vr Γ 3), (2, vi x2)] [] := by
    intro n
    induction n with
    | zero =>
      intro x2 M hx2 h
      cases h
    | succ n ih =>
      intro x2 M hx2 h
      rw [f_L_isLike_L15] at h
      refine V_iload_n (pc := 15) C 2 rfl dL_isLike_15 ?_
      refine V_aload_n (pc := 16) C 0 rfl dL_isLike_16 ?_
      refine V_rng fun hM6 => ?_
      refine V_getI (pc := 17) C e52 rfl inL 6 (by decide) rfl lf_L_31 rfl dL_isLike_17 ?_
      refine V_icmp_ge (pc := 20) C 231 hx2 (hM6 _ _) dL_isLike_20 (by decide) (fun c20_7 => ?_) (fun c20_7 => ?_)
      · have h := ite_t h c20_7
        refine V_aload_n (pc := 231) C 1 rfl dL_isLike_231 ?_
        obtain ⟨M8, r9, hc10, h⟩ := cal_of h
        refine V_callVI (pc := 232) C (c_X11_isConsistent l Γ sk hsk.c fu hc10) cf_X11_isConsistent lk_L_149 ⟨rfl, rfl⟩ ⟨Nat.le_of_ble_eq_true rfl, Nat.le_of_ble_eq_true rfl⟩ e3 rfl rfl rfl (Nat.le_of_ble_eq_true rfl) ⟨Nat.zero_le _, Nat.zero_le _⟩ rfl dL_isLike_232 (fun hr9 => ?_)
        obtain ⟨g11, h⟩ := grd_of h
        exact V_zret (pc := 235) C hr hlk g11 h dL_isLike_235
      · have h := ite_f h c20_7
        refine V_aload_n (pc := 23) C 1 rfl dL_isLike_23 ?_
        refine V_iload_n (pc := 24) C 2 rfl dL_isLike_24 ?_
        rcases cax_of h with ⟨M12, r13, hc14, h⟩ | ⟨M12, n15, z16, hc14, h⟩
        · refine V_callXI0 (pc := 25) C (c_X11_isReleased l Γ sk hsk.c hl9 fu hx2 hc14) cf_X11_isReleased lk_L_96 ⟨rfl, rfl⟩ ⟨Nat.le_of_ble_eq_true rfl, Nat.le_of_ble_eq_true rfl⟩ e3 rfl rfl rfl (Nat.le_of_ble_eq_true rfl) ⟨Nat.zero_le _, Nat.zero_le _⟩ rfl dL_isLike_25 (fun hr13 => ?_)
          refine V_aload_n (pc := 28) C 0 rfl dL_isLike_28 ?_
          refine V_getR (pc := 29) C e52 rfl inL 3 (by decide) rfl lf_L_21 rfl dL_isLike_29 ?_
          refine V_iload_n (pc := 32) C 2 rfl dL_isLike_32 ?_
          refine V_rng fun hM17 => ?_
          obtain ⟨g18, h⟩ := grd_of h
          refine V_zald (pc := 33) C e55 g18 hx2 dL_isLike_33 ?_
          refine V_icmp_ne (pc := 34) C 51 hr13 (hM17 _ _) dL_isLike_34 (by decide) (fun c34_19 => ?_) (fun c34_19 => ?_)
          · have h := ite_f h c34_19
            refine V_iconst (pc := 51) C dL_isLike_51 ?_
            exact V_zret (pc := 52) C hr hlk (by decide) h dL_isLike_52
          · have h := ite_t h c34_19
            refine V_aload_n (pc := 37) C 1 rfl dL_isLike_37 ?_
            refine V_iload_n (pc := 38) C 2 rfl dL_isLike_38 ?_
            rcases cax_of h with ⟨M20, r21, hc22, h⟩ | ⟨M20, n23, z24, hc22, h⟩
            · refine V_callXI0 (pc := 39) C (c_X11_parentOf l Γ sk hsk.c hl9 fu hx2 hc22) cf_X11_parentOf lk_L_139 ⟨rfl, rfl⟩ ⟨Nat.le_of_ble_eq_true rfl, Nat.le_of_ble_eq_true rfl⟩ e3 rfl rfl rfl (Nat.le_of_ble_eq_true rfl) ⟨Nat.zero_le _, Nat.zero_le _⟩ rfl dL_isLike_39 (fun hr21 => ?_)
              refine V_aload_n (pc := 42) C 0 rfl dL_isLike_42 ?_
              refine V_getR (pc := 43) C e52 rfl inL 2 (by decide) rfl lf_L_18 rfl dL_isLike_43 ?_
              refine V_iload_n (pc := 46) C 2 rfl dL_isLike_46 ?_
              refine V_rng fun hM25 => ?_
              obtain ⟨g26, h⟩ := grd_of h
              refine V_iald (pc := 47) C e54 g26 hx2 dL_isLike_47 ?_
              refine V_icmp_eq (pc := 48) C 53 hr21 (hM25 _ _) dL_isLike_48 (by decide) (fun c48_27 => ?_) (fun c48_27 => ?_)
              · have h := ite_t h c48_27
                refine V_aload_n (pc := 53) C 0 rfl dL_isLike_53 ?_
                refine V_getR (pc := 54) C e52 rfl inL 3 (by decide) rfl lf_L_21 rfl dL_isLike_54 ?_
                refine V_iload_n (pc := 57) C 2 rfl dL_isLike_57 ?_
                obtain ⟨g28, h⟩ := grd_of h
                refine V_zald (pc := 58) C e55 g28 hx2 dL_isLike_58 ?_
                refine V_if_eq (pc := 59) C 65 (hM25 _ _) dL_isLike_59 (by decide) (fun c59_29 => ?_) (fun c59_29 => ?_)
                · have h := ite_t h c59_29
                  refine V_iconst (pc := 65) C dL_isLike_65 ?_
                  refine V_istore_n (pc := 66) C (L' := [(0, vr Γ 52), (1, vr Γ 3), (2, vi x2), (3, vi (0 : Int))]) rfl (by decide) dL_isLike_66 ?_
                  refine V_iconst (pc := 67) C dL_isLike_67 ?_
                  refine V_istore (pc := 68) C (L' := [(0, vr Γ 52), (1, vr Γ 3), (2, vi x2), (3, vi (0 : Int)), (4, vi (0 : Int))]) rfl (by decide) dL_isLike_68 ?_
                  refine V_sub (L' := [(0, vr Γ 52), (1, vr Γ 3), (2, vi x2), (3, vi (0 : Int)), (4, vi (0 : Int))]) [0, 1, 2, 3, 4] rfl (by decide) ?_
                  exact LP70 _ (fun _ _ hz0 hz => ih hz0 hz) fu  hx2 (by decide) (by decide) h
                · have h := ite_f h c59_29
                  refine V_goto (pc := 62) C 225 dL_isLike_62 (by decide) ?_
                  refine V_iinc (pc := 225) C (L' := [(0, vr Γ 52), (1, vr Γ 3), (2, vi (x2 + (1 : Int)))]) 2 rfl rfl (by decide) dL_isLike_225 ?_
                  refine V_goto (pc := 228) C 15 dL_isLike_228 (by decide) ?_
                  obtain ⟨g94, h⟩ := grd_of h
                  refine V_sub (L' := [(0, vr Γ 52), (1, vr Γ 3), (2, vi (x2 + (1 : Int)))]) [0, 1, 2] rfl (by decide) ?_
                  exact ih g94 h
              · have h := ite_f h c48_27
                refine V_iconst (pc := 51) C dL_isLike_51 ?_
                exact V_zret (pc := 52) C hr hlk (by decide) h dL_isLike_52
            · cases h
        · cases h
  skip
  refine V_aload_n (pc := 0) C 1 rfl dL_isLike_0 ?_
  obtain ⟨M1, r2, hc3, h⟩ := cal_of h
  refine V_callVI (pc := 1) C (c_X11_versionCount l Γ sk hsk.c fu hc3) cf_X11_versionCount lk_L_136 ⟨rfl, rfl⟩ ⟨Nat.le_of_ble_eq_true rfl, Nat.le_of_ble_eq_true rfl⟩ e3 rfl rfl rfl (Nat.le_of_ble_eq_true rfl) ⟨Nat.zero_le _, Nat.zero_le _⟩ rfl dL_isLike_1 (fun hr2 => ?_)
  refine V_aload_n (pc := 4) C 0 rfl dL_isLike_4 ?_
  refine V_rng fun hM4 => ?_
  refine V_getI (pc := 5) C e52 rfl inL 6 (by decide) rfl lf_L_31 rfl dL_isLike_5 ?_
  refine V_icmp_eq (pc := 8) C 13 hr2 (hM4 _ _) dL_isLike_8 (by decide) (fun c8_5 => ?_) (fun c8_5 => ?_)
  · have h := ite_t h c8_5
    refine V_iconst (pc := 13) C dL_isLike_13 ?_
    refine V_istore_n (pc := 14) C (L' := [(0, vr Γ 52), (1, vr Γ 3), (2, vi (0 : Int))]) rfl (by decide) dL_isLike_14 ?_
    refine V_sub (L' := [(0, vr Γ 52), (1, vr Γ 3), (2, vi (0 : Int))]) [0, 1, 2] rfl (by decide) ?_
    exact LP15 fu  (by decide) h
  · have h := ite_f h c8_5
    refine V_iconst (pc := 11) C dL_isLike_11 ?_
    exact V_zret (pc := 12) C hr hlk (by decide) h dL_isLike_12
set_option maxRecDepth 100000 in
set_option maxHeartbeats 4000000 in
theorem c_L_acts (l : Launch) (Γ : GG) (sk : List SD) (hsk : ExtL sk) (hl9 : l.stackTraces = false) (fu : Nat) {M M' : Mem} {a2 : Int} {r : Int} (ha2 : rng a2) (h : f_L_acts fu M a2 = some (M', r)) : MetI l yL_acts cL_acts 9 .boolean ({ frames := 40, cells := 1, slots := 6, locals := 1360 } : Room) Γ sk [vr Γ 52, vr Γ 3, vi a2] M M' r := by
  unfold f_L_acts at h
  refine MetI_of RL rfl (by decide) rfl (Nat.le_of_ble_eq_true rfl) rfl ?_
  intro p e s m args below meth c C hr hlk hM
  have e1 := hsk 1 _ (by decide) rfl
  have e3 := hsk 3 _ (by decide) rfl
  have e52 := hsk 52 _ (by decide) rfl
  have e53 := hsk 53 _ (by decide) rfl
  have e55 := hsk 55 _ (by decide) rfl
  have JP232 : ∀ {x3 : Int} {x4 : Int} {x5 : Int} {y0 : Int} {M : Mem}, rng x3 → rng x4 → rng x5 → rng y0 → f_L_acts_J232 fu x3 x4 x5 y0 M = some (M', r) → VV p l e ({ frames := 40, cells := 1, slots := 6, locals := 1360 } : Room) s m args below meth c (MQ below (PostI Γ sk M' r s.heap.size) args s 1 6 (Fr Γ sk s.heap.size)) 9 Γ sk M 0 0 232 [(0, vr Γ 52), (1, vr Γ 3), (3, vi x3), (4, vi x4), (5, vi x5)] [vi y0] := by
    intro x3 x4 x5 y0 M hx3 hx4 hx5 hy0 h
    unfold f_L_acts_J232 at h
    refine V_istore (pc := 232) C (L' := [(0, vr Γ 52), (1, vr Γ 3), (3, vi x3), (4, vi x4), (5, vi x5), (7, vi y0)]) rfl (by decide) dL_acts_232 ?_
    refine V_aload_n (pc := 234) C 1 rfl dL_acts_234 ?_
    refine V_iload_n (pc := 235) C 2 rfl dL_acts_235 ?_
    refine V_iload (pc := 236) C 4 rfl dL_acts_236 ?_
    refine V_iload (pc := 238) C 3 rfl dL_acts_238 ?_
    rcases cax_of h with ⟨M38, r39, hc40, h⟩ | ⟨M38, n41, z42, hc40, h⟩
    · refine V_callXI0 (pc := 240) C (c_X11_nodesForSet l Γ sk hsk.c hl9 fu hx3 hx5 hx4 hc40) cf_X11_nodesForSet lk_L_84 ⟨rfl, rfl⟩ ⟨Nat.le_of_ble_eq_true rfl, Nat.le_of_ble_eq_true rfl⟩ e3 rfl rfl rfl (Nat.le_of_ble_eq_true rfl) ⟨Nat.zero_le _, Nat.zero_le _⟩ rfl dL_acts_240 (fun hr39 => ?_)
      refine V_iload (pc := 243) C 5 rfl dL_acts_243 ?_
      refine V_icmp_eq (pc := 245) C 250 hr39 hy0 dL_acts_245 (by decide) (fun c245_43 => ?_) (fun c245_43 => ?_)
      · have h := ite_t h c245_43
        refine V_aload_n (pc := 250) C 0 rfl dL_acts_250 ?_
        refine V_iload_n (pc := 251) C 2 rfl dL_acts_251 ?_
        refine V_aload_n (pc := 252) C 0 rfl dL_acts_252 ?_
        refine V_getR (pc := 253) C e52 rfl inL 1 (by decide) rfl lf_L_14 rfl dL_acts_253 ?_
        refine V_iload_n (pc := 256) C 2 rfl dL_acts_256 ?_
        refine V_rng fun hM44 => ?_
        obtain ⟨g45, h⟩ := grd_of h
        refine V_iald (pc := 257) C e53 g45 hx3 dL_acts_257 ?_
        obtain ⟨M46, r47, hc48, h⟩ := cal_of h
        refine V_callVI (pc := 258) C (c_L_makes l Γ sk hsk hl9 fu hx3 (hM44 _ _) hc48) cf_L_makes lk_L_87 ⟨rfl, rfl⟩ ⟨Nat.le_of_ble_eq_true rfl, Nat.le_of_ble_eq_true rfl⟩ e52 rfl rfl rfl (Nat.le_of_ble_eq_true rfl) ⟨Nat.zero_le _, Nat.zero_le _⟩ rfl dL_acts_258 (fun hr47 => ?_)
        refine V_istore (pc := 261) C (L' := [(0, vr Γ 52), (1, vr Γ 3), (3, vi x3), (4, vi x4), (5, vi x5), (7, vi y0), (8, vi r47)]) rfl (by decide) dL_acts_261 ?_
        refine V_aload_n (pc := 263) C 0 rfl dL_acts_263 ?_
        refine V_getR (pc := 264) C e52 rfl inL 0 (by decide) rfl lf_L_9 rfl dL_acts_264 ?_
        refine V_iload (pc := 267) C 6 rfl dL_acts_267 ?_
        obtain ⟨g49, h⟩ := grd_of h
        refine V_aald (pc := 269) C e1 g49 hr47 dL_acts_269 ?_
        refine V_iload (pc := 270) C 4 rfl dL_acts_270 ?_
        refine V_iload (pc := 272) C 3 rfl dL_acts_272 ?_
        obtain ⟨g50, h⟩ := grd_of h
        refine V_iast (pc := 274) C (Nat.le_trans (by decide) (Nat.le_add_right _ _)) (hsk.row g49) g50 hx5 hx4 dL_acts_274 ?_
        refine V_aload_n (pc := 275) C 1 rfl dL_acts_275 ?_
        refine V_iload_n (pc := 276) C 2 rfl dL_acts_276 ?_
        refine V_iload (pc := 277) C 4 rfl dL_acts_277 ?_
        refine V_iload (pc := 279) C 3 rfl dL_acts_279 ?_
        rcases cax_of h with ⟨M51, r52, hc53, h⟩ | ⟨M51, n54, z55, hc53, h⟩
        · refine V_callXI0 (pc := 281) C (c_X11_set l Γ sk hsk.c hl9 fu hx3 hx5 hx4 hc53) cf_X11_set lk_L_55 ⟨rfl, rfl⟩ ⟨Nat.le_of_ble_eq_true rfl, Nat.le_of_ble_eq_true rfl⟩ e3 rfl rfl rfl (Nat.le_of_ble_eq_true rfl) ⟨Nat.zero_le _, Nat.zero_le _⟩ rfl dL_acts_281 (fun hr52 => ?_)
          refine V_iload (pc := 284) C 6 rfl dL_acts_284 ?_
          refine V_icmp_ne (pc := 286) C 304 hr52 hr47 dL_acts_286 (by decide) (fun c286_56 => ?_) (fun c286_56 => ?_)
          · have h := ite_f h c286_56
            refine V_iconst (pc := 304) C dL_acts_304 ?_
            refine V_room (Nat.zero_le 1) (Nat.zero_le 6) ?_
            exact V_zret (pc := 305) C hr hlk (by decide) h dL_acts_305
          · have h := ite_t h c286_56
            refine V_aload_n (pc := 289) C 1 rfl dL_acts_289 ?_
            refine V_iload (pc := 290) C 6 rfl dL_acts_290 ?_
            rcases cax_of h with ⟨M57, r58, hc59, h⟩ | ⟨M57, n60, z61, hc59, h⟩
            · refine V_callXI0 (pc := 292) C (c_X11_nodesCreatedFor l Γ sk hsk.c hl9 fu hr47 hc59) cf_X11_nodesCreatedFor lk_L_90 ⟨rfl, rfl⟩ ⟨Nat.le_of_ble_eq_true rfl, Nat.le_of_ble_eq_true rfl⟩ e3 rfl rfl rfl (Nat.le_of_ble_eq_true rfl) ⟨Nat.zero_le _, Nat.zero_le _⟩ rfl dL_acts_292 (fun hr58 => ?_)
              refine V_iload (pc := 295) C 5 rfl dL_acts_295 ?_
              refine V_icmp_ne (pc := 297) C 304 hr58 hy0 dL_acts_297 (by decide) (fun c297_62 => ?_) (fun c297_62 => ?_)
              · have h := ite_f h c297_62
                refine V_iconst (pc := 304) C dL_acts_304 ?_
                refine V_room (Nat.zero_le 1) (Nat.zero_le 6) ?_
                exact V_zret (pc := 305) C hr hlk (by decide) h dL_acts_305
              · have h := ite_t h c297_62
                refine V_iconst (pc := 300) C dL_acts_300 ?_
                refine V_goto (pc := 301) C 305 dL_acts_301 (by decide) ?_
                refine V_room (Nat.zero_le 1) (Nat.zero_le 6) ?_
                exact V_zret (pc := 305) C hr hlk (by decide) h dL_acts_305
            · cases h
        · cases h
      · have h := ite_f h c245_43
        refine V_iconst (pc := 248) C dL_acts_248 ?_
        refine V_room (Nat.zero_le 1) (Nat.zero_le 6) ?_
        exact V_zret (pc := 249) C hr hlk (by decide) h dL_acts_249
    · cases h
  have JP188 : ∀ {x3 : Int} {x4 : Int} {x5 : Int} {x6 : Int} {M : Mem}, rng x3 → rng x4 → rng x5 → rng x6 → f_L_acts_J188 fu x3 x4 x5 x6 M = some (M', r) → VV p l e ({ frames := 40, cells := 1, slots := 6, locals := 1360 } : Room) s m args below meth c (MQ below (PostI Γ sk M' r s.heap.size) args s 1 6 (Fr Γ sk s.heap.size)) 9 Γ sk M 0 0 188 [(0, vr Γ 52), (1, vr Γ 3), (3, vi x3), (4, vi x4), (5, vi x5), (6, vi x6)] [] := by
    intro x3 x4 x5 x6 M hx3 hx4 hx5 hx6 h
    unfold f_L_acts_J188 at h
    refine V_iload (pc := 188) C 5 rfl dL_acts_188 ?_
    refine V_if_ne (pc := 190) C 204 hx6 dL_acts_190 (by decide) (fun c190_29 => ?_) (fun c190_29 => ?_)
    · have h := ite_f h c190_29
      refine V_aload_n (pc := 204) C 0 rfl dL_acts_204 ?_
      refine V_getR (pc := 205) C e52 rfl inL 0 (by decide) rfl lf_L_9 rfl dL_acts_205 ?_
      refine V_iload_n (pc := 208) C 2 rfl dL_acts_208 ?_
      obtain ⟨g30, h⟩ := grd_of h
      refine V_aald (pc := 209) C e1 g30 hx3 dL_acts_209 ?_
      refine V_iload (pc := 210) C 4 rfl dL_acts_210 ?_
      refine V_rng fun hM31 => ?_
      obtain ⟨g32, h⟩ := grd_of h
      refine V_iald (pc := 212) C (hsk.row g30) g32 hx5 dL_acts_212 ?_
      refine V_iload (pc := 213) C 3 rfl dL_acts_213 ?_
      refine V_icmp_ne (pc := 215) C 222 (hM31 _ _) hx4 dL_acts_215 (by decide) (fun c215_33 => ?_) (fun c215_33 => ?_)
      · have h := ite_f h c215_33
        refine V_aload_n (pc := 222) C 0 rfl dL_acts_222 ?_
        refine V_aload_n (pc := 223) C 0 rfl dL_acts_223 ?_
        refine V_getR (pc := 224) C e52 rfl inL 1 (by decide) rfl lf_L_14 rfl dL_acts_224 ?_
        refine V_iload_n (pc := 227) C 2 rfl dL_acts_227 ?_
        obtain ⟨g34, h⟩ := grd_of h
        refine V_iald (pc := 228) C e53 g34 hx3 dL_acts_228 ?_
        obtain ⟨M35, r36, hc37, h⟩ := cal_of h
        refine V_callVI (pc := 229) C (c_L_height l Γ sk hsk hl9 fu (hM31 _ _) hc37) cf_L_height lk_L_81 ⟨rfl, rfl⟩ ⟨Nat.le_of_ble_eq_true rfl, Nat.le_of_ble_eq_true rfl⟩ e52 rfl rfl rfl (Nat.le_of_ble_eq_true rfl) ⟨Nat.zero_le _, Nat.zero_le _⟩ rfl dL_acts_229 (fun hr36 => ?_)
        refine V_sub (L' := [(0, vr Γ 52), (1, vr Γ 3), (3, vi x3), (4, vi x4), (5, vi x5)]) [0, 1, 2, 3, 4] rfl (by decide) ?_
        exact JP232 hx3 hx4 hx5 hr36 h
      · have h := ite_t h c215_33
        refine V_iconst (pc := 218) C dL_acts_218 ?_
        refine V_goto (pc := 219) C 232 dL_acts_219 (by decide) ?_
        refine V_sub (L' := [(0, vr Γ 52), (1, vr Γ 3), (3, vi x3), (4, vi x4), (5, vi x5)]) [0, 1, 2, 3, 4] rfl (by decide) ?_
        exact JP232 hx3 hx4 hx5 (by decide) h
    · have h := ite_t h c190_29
      refine V_aload_n (pc := 193) C 1 rfl dL_acts_193 ?_
      refine V_iconst (pc := 194) C dL_acts_194 ?_
      refine V_iload_n (pc := 195) C 2 rfl dL_acts_195 ?_
      refine V_iload (pc := 196) C 4 rfl dL_acts_196 ?_
      refine V_iload (pc := 198) C 3 rfl dL_acts_198 ?_
      obtain ⟨M63, r64, hc65, h⟩ := cal_of h
      refine V_callH (pc := 200) C (c_L_isRefused l Γ sk hsk hl9 fu (by decide) hx3 hx5 hx4 hc65) chf_L_isRefused lk_L_77 ⟨rfl, rfl⟩ ⟨Nat.le_of_ble_eq_true rfl, Nat.le_of_ble_eq_true rfl⟩ rfl (Nat.le_of_ble_eq_true rfl) ⟨Nat.le_refl 1, Nat.le_refl 6⟩ rfl dL_acts_200 (fun hr64 => ?_)
      obtain ⟨g66, h⟩ := grd_of h
      exact V_zret (pc := 203) C hr hlk g66 h dL_acts_203
  have JP156 : ∀ {x3 : Int} {x4 : Int} {x5 : Int} {x6 : Int} {M : Mem}, rng x3 → rng x4 → rng x5 → rng x6 → f_L_acts_J156 fu x3 x4 x5 x6 M = some (M', r) → VV p l e ({ frames := 40, cells := 1, slots := 6, locals := 1360 } : Room) s m args below meth c (MQ below (PostI Γ sk M' r s.heap.size) args s 1 6 (Fr Γ sk s.heap.size)) 9 Γ sk M 0 0 156 [(0, vr Γ 52), (1, vr Γ 3), (3, vi x3), (4, vi x4), (5, vi x5), (6, vi x6)] [] := by
    intro x3 x4 x5 x6 M hx3 hx4 hx5 hx6 h
    unfold f_L_acts_J156 at h
    refine V_aload_n (pc := 156) C 0 rfl dL_acts_156 ?_
    refine V_getR (pc := 157) C e52 rfl inL 3 (by decide) rfl lf_L_21 rfl dL_acts_157 ?_
    refine V_iload_n (pc := 160) C 2 rfl dL_acts_160 ?_
    refine V_rng fun hM26 => ?_
    obtain ⟨g27, h⟩ := grd_of h
    refine V_zald (pc := 161) C e55 g27 hx3 dL_acts_161 ?_
    refine V_if_ne (pc := 162) C 188 (hM26 _ _) dL_acts_162 (by decide) (fun c162_28 => ?_) (fun c162_28 => ?_)
    · have h := ite_f h c162_28
      refine V_sub (L' := [(0, vr Γ 52), (1, vr Γ 3), (3, vi x3), (4, vi x4), (5, vi x5), (6, vi x6)]) [0, 1, 2, 3, 4, 5] rfl (by decide) ?_
      exact JP188 hx3 hx4 hx5 hx6 h
    · have h := ite_t h c162_28
      refine V_aload_n (pc := 165) C 0 rfl dL_acts_165 ?_
      refine V_getR (pc := 166) C e52 rfl inL 1 (by decide) rfl lf_L_14 rfl dL_acts_166 ?_
      refine V_iload_n (pc := 169) C 2 rfl dL_acts_169 ?_
      obtain ⟨g67, h⟩ := grd_of h
      refine V_iald (pc := 170) C e53 g67 hx3 dL_acts_170 ?_
      refine V_if_ne (pc := 171) C 188 (hM26 _ _) dL_acts_171 (by decide) (fun c171_68 => ?_) (fun c171_68 => ?_)
      · have h := ite_f h c171_68
        refine V_sub (L' := [(0, vr Γ 52), (1, vr Γ 3), (3, vi x3), (4, vi x4), (5, vi x5), (6, vi x6)]) [0, 1, 2, 3, 4, 5] rfl (by decide) ?_
        exact JP188 hx3 hx4 hx5 hx6 h
      · have h := ite_t h c171_68
        refine V_aload_n (pc := 174) C 1 rfl dL_acts_174 ?_
        refine V_iload_n (pc := 175) C 2 rfl dL_acts_175 ?_
        rcases cax_of h with ⟨M69, r70, hc71, h⟩ | ⟨M69, n72, z73, hc71, h⟩
        · refine V_callXI0 (pc := 176) C (c_X11_size l Γ sk hsk.c hl9 fu hx3 hc71) cf_X11_size lk_L_75 ⟨rfl, rfl⟩ ⟨Nat.le_of_ble_eq_true rfl, Nat.le_of_ble_eq_true rfl⟩ e3 rfl rfl rfl (Nat.le_of_ble_eq_true rfl) ⟨Nat.zero_le _, Nat.zero_le _⟩ rfl dL_acts_176 (fun hr70 => ?_)
          refine V_if_ne (pc := 179) C 186 hr70 dL_acts_179 (by decide) (fun c179_74 => ?_) (fun c179_74 => ?_)
          · have h := ite_f h c179_74
            refine V_iconst (pc := 186) C dL_acts_186 ?_
            refine V_room (Nat.zero_le 1) (Nat.zero_le 6) ?_
            exact V_zret (pc := 187) C hr hlk (by decide) h dL_acts_187
          · have h := ite_t h c179_74
            refine V_iconst (pc := 182) C dL_acts_182 ?_
            refine V_goto (pc := 183) C 187 dL_acts_183 (by decide) ?_
            refine V_room (Nat.zero_le 1) (Nat.zero_le 6) ?_
            exact V_zret (pc := 187) C hr hlk (by decide) h dL_acts_187
        · cases h
  have JP322 : ∀ {x3 : Int} {x4 : Int} {M : Mem}, rng x3 → rng x4 → f_L_acts_J322 fu x3 x4 M = some (M', r) → VV p l e ({ frames := 40, cells := 1, slots := 6, locals := 1360 } : Room) s m args below meth c (MQ below (PostI Γ sk M' r s.heap.size) args s 1 6 (Fr Γ sk s.heap.size)) 9 Γ sk M 0 0 322 [(1, vr Γ 3), (3, vi x3), (4, vi x4)] [] := by
    intro x3 x4 M hx3 hx4 h
    unfold f_L_acts_J322 at h
    refine V_aload_n (pc := 322) C 0 rfl dL_acts_322 ?_
    refine V_iconst (pc := 323) C dL_acts_323 ?_
    refine V_iload_n (pc := 324) C 1 rfl dL_acts_324 ?_
    refine V_iconst (pc := 325) C dL_acts_325 ?_
    refine V_iload (pc := 326) C 2 rfl dL_acts_326 ?_
    obtain ⟨M80, r81, hc82, h⟩ := cal_of h
    refine V_callH (pc := 328) C (c_L_isRefused l Γ sk hsk hl9 fu (by decide) hx3 (by decide) hx4 hc82) chf_L_isRefused lk_L_77 ⟨rfl, rfl⟩ ⟨Nat.le_of_ble_eq_true rfl, Nat.le_of_ble_eq_true rfl⟩ rfl (Nat.le_of_ble_eq_true rfl) ⟨Nat.le_refl 1, Nat.le_refl 6⟩ rfl dL_acts_328 (fun hr81 => ?_)
    obtain ⟨g83, h⟩ := grd_of h
    exact V_zret (pc := 331) C hr hlk g83 h dL_acts_331
  have JP306 : ∀ {x3 : Int} {x4 : Int} {x6 : Int} {M : Mem}, rng x3 → rng x4 → rng x6 → f_L_acts_J306 fu x3 x4 x6 M = some (M', r) → VV p l e ({ frames := 40, cells := 1, slots := 6, locals := 1360 } : Room) s m args below meth c (MQ below (PostI Γ sk M' r s.heap.size) args s 1 6 (Fr Γ sk s.heap.size)) 9 Γ sk M 0 0 306 [(0, vr Γ 52), (1, vr Γ 3), (3, vi x3), (4, vi x4), (6, vi x6)] [] := by
    intro x3 x4 x6 M hx3 hx4 hx6 h
    unfold f_L_acts_J306 at h
    refine V_iload (pc := 306) C 4 rfl dL_acts_306 ?_
    refine V_if_eq (pc := 308) C 322 hx6 dL_acts_308 (by decide) (fun c308_79 => ?_) (fun c308_79 => ?_)
    · have h := ite_t h c308_79
      refine V_sub (L' := [(1, vr Γ 3), (3, vi x3), (4, vi x4)]) [1, 2, 3] rfl (by decide) ?_
      exact JP322 hx3 hx4 h
    · have h := ite_f h c308_79
      refine V_aload_n (pc := 311) C 0 rfl dL_acts_311 ?_
      refine V_getR (pc := 312) C e52 rfl inL 1 (by decide) rfl lf_L_14 rfl dL_acts_312 ?_
      refine V_iload_n (pc := 315) C 2 rfl dL_acts_315 ?_
      refine V_rng fun hM84 => ?_
      obtain ⟨g85, h⟩ := grd_of h
      refine V_iald (pc := 316) C e53 g85 hx3 dL_acts_316 ?_
      refine V_bipush (pc := 317) C dL_acts_317 rfl ?_
      refine V_icmp_ne (pc := 319) C 332 (hM84 _ _) (by decide) dL_acts_319 (by decide) (fun c319_86 => ?_) (fun c319_86 => ?_)
      · have h := ite_f h c319_86
        refine V_aload_n (pc := 332) C 0 rfl dL_acts_332 ?_
        refine V_iload_n (pc := 333) C 2 rfl dL_acts_333 ?_
        refine V_aload_n (pc := 334) C 0 rfl dL_acts_334 ?_
        refine V_getR (pc := 335) C e52 rfl inL 1 (by decide) rfl lf_L_14 rfl dL_acts_335 ?_
        refine V_iload_n (pc := 338) C 2 rfl dL_acts_338 ?_
        obtain ⟨g87, h⟩ := grd_of h
        refine V_iald (pc := 339) C e53 g87 hx3 dL_acts_339 ?_
        refine V_iconst (pc := 340) C dL_acts_340 ?_
        refine V_iadd (pc := 341) C dL_acts_341 ?_
        obtain ⟨g88, h⟩ := grd_of h
        obtain ⟨M89, r90, hc91, h⟩ := cal_of h
        refine V_callVI (pc := 342) C (c_L_makes l Γ sk hsk hl9 fu hx3 g88 hc91) cf_L_makes lk_L_87 ⟨rfl, rfl⟩ ⟨Nat.le_of_ble_eq_true rfl, Nat.le_of_ble_eq_true rfl⟩ e52 rfl rfl rfl (Nat.le_of_ble_eq_true rfl) ⟨Nat.zero_le _, Nat.zero_le _⟩ rfl dL_acts_342 (fun hr90 => ?_)
        refine V_istore (pc := 345) C (L' := [(0, vr Γ 52), (1, vr Γ 3), (3, vi x3), (4, vi x4), (6, vi x6), (7, vi r90)]) rfl (by decide) dL_acts_345 ?_
        refine V_aload_n (pc := 347) C 0 rfl dL_acts_347 ?_
        refine V_getR (pc := 348) C e52 rfl inL 0 (by decide) rfl lf_L_9 rfl dL_acts_348 ?_
        refine V_iload (pc := 351) C 5 rfl dL_acts_351 ?_
        obtain ⟨g92, h⟩ := grd_of h
        refine V_aald (pc := 353) C e1 g92 hr90 dL_acts_353 ?_
        refine V_aload_n (pc := 354) C 0 rfl dL_acts_354 ?_
        refine V_getR (pc := 355) C e52 rfl inL 1 (by decide) rfl lf_L_14 rfl dL_acts_355 ?_
        refine V_iload_n (pc := 358) C 2 rfl dL_acts_358 ?_
        refine V_rng fun hM93 => ?_
        obtain ⟨g94, h⟩ := grd_of h
        refine V_iald (pc := 359) C e53 g94 hx3 dL_acts_359 ?_
        refine V_iload (pc := 360) C 3 rfl dL_acts_360 ?_
        obtain ⟨g95, h⟩ := grd_of h
        refine V_iast (pc := 362) C (Nat.le_trans (by decide) (Nat.le_add_right _ _)) (hsk.row g92) g95 (hM93 _ _) hx4 dL_acts_362 ?_
        refine V_aload_n (pc := 363) C 1 rfl dL_acts_363 ?_
        refine V_iload_n (pc := 364) C 2 rfl dL_acts_364 ?_
        rcases cax_of h with ⟨M96, r97, hc98, h⟩ | ⟨M96, n99, z100, hc98, h⟩
        · refine V_callXI0 (pc := 365) C (c_X11_nodesForAppend l Γ sk hsk.c hl9 fu hx3 hc98) cf_X11_nodesForAppend lk_L_93 ⟨rfl, rfl⟩ ⟨Nat.le_of_ble_eq_true rfl, Nat.le_of_ble_eq_true rfl⟩ e3 rfl rfl rfl (Nat.le_of_ble_eq_true rfl) ⟨Nat.zero_le _, Nat.zero_le _⟩ rfl dL_acts_365 (fun hr97 => ?_)
          refine V_aload_n (pc := 368) C 0 rfl dL_acts_368 ?_
          refine V_aload_n (pc := 369) C 0 rfl dL_acts_369 ?_
          refine V_getR (pc := 370) C e52 rfl inL 1 (by decide) rfl lf_L_14 rfl dL_acts_370 ?_
          refine V_iload_n (pc := 373) C 2 rfl dL_acts_373 ?_
          refine V_rng fun hM101 => ?_
          obtain ⟨g102, h⟩ := grd_of h
          refine V_iald (pc := 374) C e53 g102 hx3 dL_acts_374 ?_
          refine V_iconst (pc := 375) C dL_acts_375 ?_
          refine V_iadd (pc := 376) C dL_acts_376 ?_
          obtain ⟨g103, h⟩ := grd_of h
          obtain ⟨M104, r105, hc106, h⟩ := cal_of h
          refine V_callVI (pc := 377) C (c_L_height l Γ sk hsk hl9 fu g103 hc106) cf_L_height lk_L_81 ⟨rfl, rfl⟩ ⟨Nat.le_of_ble_eq_true rfl, Nat.le_of_ble_eq_true rfl⟩ e52 rfl rfl rfl (Nat.le_of_ble_eq_true rfl) ⟨Nat.zero_le _, Nat.zero_le _⟩ rfl dL_acts_377 (fun hr105 => ?_)
          refine V_icmp_ne (pc := 380) C 420 hr97 hr105 dL_acts_380 (by decide) (fun c380_107 => ?_) (fun c380_107 => ?_)
          · have h := ite_f h c380_107
            refine V_iconst (pc := 420) C dL_acts_420 ?_
            refine V_room (Nat.zero_le 1) (Nat.zero_le 6) ?_
            exact V_zret (pc := 421) C hr hlk (by decide) h dL_acts_421
          · have h := ite_t h c380_107
            refine V_aload_n (pc := 383) C 1 rfl dL_acts_383 ?_
            refine V_iload_n (pc := 384) C 2 rfl dL_acts_384 ?_
            refine V_iload (pc := 385) C 3 rfl dL_acts_385 ?_
            rcases cax_of h with ⟨M108, r109, hc110, h⟩ | ⟨M108, n111, z112, hc110, h⟩
            · refine V_callXI0 (pc := 387) C (c_X11_append l Γ sk hsk.c hl9 fu hx3 hx4 hc110) cf_X11_append lk_L_59 ⟨rfl, rfl⟩ ⟨Nat.le_of_ble_eq_true rfl, Nat.le_of_ble_eq_true rfl⟩ e3 rfl rfl rfl (Nat.le_of_ble_eq_true rfl) ⟨Nat.zero_le _, Nat.zero_le _⟩ rfl dL_acts_387 (fun hr109 => ?_)
              refine V_iload (pc := 390) C 5 rfl dL_acts_390 ?_
              refine V_icmp_ne (pc := 392) C 420 hr109 hr90 dL_acts_392 (by decide) (fun c392_113 => ?_) (fun c392_113 => ?_)
              · have h := ite_f h c392_113
                refine V_iconst (pc := 420) C dL_acts_420 ?_
                refine V_room (Nat.zero_le 1) (Nat.zero_le 6) ?_
                exact V_zret (pc := 421) C hr hlk (by decide) h dL_acts_421
              · have h := ite_t h c392_113
                refine V_aload_n (pc := 395) C 1 rfl dL_acts_395 ?_
                refine V_iload (pc := 396) C 5 rfl dL_acts_396 ?_
                rcases cax_of h with ⟨M114, r115, hc116, h⟩ | ⟨M114, n117, z118, hc116, h⟩
                · refine V_callXI0 (pc := 398) C (c_X11_nodesCreatedFor l Γ sk hsk.c hl9 fu hr90 hc116) cf_X11_nodesCreatedFor lk_L_90 ⟨rfl, rfl⟩ ⟨Nat.le_of_ble_eq_true rfl, Nat.le_of_ble_eq_true rfl⟩ e3 rfl rfl rfl (Nat.le_of_ble_eq_true rfl) ⟨Nat.zero_le _, Nat.zero_le _⟩ rfl dL_acts_398 (fun hr115 => ?_)
                  refine V_aload_n (pc := 401) C 0 rfl dL_acts_401 ?_
                  refine V_aload_n (pc := 402) C 0 rfl dL_acts_402 ?_
                  refine V_getR (pc := 403) C e52 rfl inL 1 (by decide) rfl lf_L_14 rfl dL_acts_403 ?_
                  refine V_iload_n (pc := 406) C 2 rfl dL_acts_406 ?_
                  refine V_rng fun hM119 => ?_
                  obtain ⟨g120, h⟩ := grd_of h
                  refine V_iald (pc := 407) C e53 g120 hx3 dL_acts_407 ?_
                  refine V_iconst (pc := 408) C dL_acts_408 ?_
                  refine V_iadd (pc := 409) C dL_acts_409 ?_
                  obtain ⟨g121, h⟩ := grd_of h
                  obtain ⟨M122, r123, hc124, h⟩ := cal_of h
                  refine V_callVI (pc := 410) C (c_L_height l Γ sk hsk hl9 fu g121 hc124) cf_L_height lk_L_81 ⟨rfl, rfl⟩ ⟨Nat.le_of_ble_eq_true rfl, Nat.le_of_ble_eq_true rfl⟩ e52 rfl rfl rfl (Nat.le_of_ble_eq_true rfl) ⟨Nat.zero_le _, Nat.zero_le _⟩ rfl dL_acts_410 (fun hr123 => ?_)
                  refine V_icmp_ne (pc := 413) C 420 hr115 hr123 dL_acts_413 (by decide) (fun c413_125 => ?_) (fun c413_125 => ?_)
                  · have h := ite_f h c413_125
                    refine V_iconst (pc := 420) C dL_acts_420 ?_
                    refine V_room (Nat.zero_le 1) (Nat.zero_le 6) ?_
                    exact V_zret (pc := 421) C hr hlk (by decide) h dL_acts_421
                  · have h := ite_t h c413_125
                    refine V_iconst (pc := 416) C dL_acts_416 ?_
                    refine V_goto (pc := 417) C 421 dL_acts_417 (by decide) ?_
                    refine V_room (Nat.zero_le 1) (Nat.zero_le 6) ?_
                    exact V_zret (pc := 421) C hr hlk (by decide) h dL_acts_421
                · cases h
            · cases h
        · cases h
      · have h := ite_t h c319_86
        refine V_sub (L' := [(1, vr Γ 3), (3, vi x3), (4, vi x4)]) [1, 2, 3] rfl (by decide) ?_
        exact JP322 hx3 hx4 h
  have JP422 : ∀ {x2 : Int} {x3 : Int} {x6 : Int} {M : Mem}, rng x2 → rng x3 → rng x6 → f_L_acts_J422 fu x2 x3 x6 M = some (M', r) → VV p l e ({ frames := 40, cells := 1, slots := 6, locals := 1360 } : Room) s m args below meth c (MQ below (PostI Γ sk M' r s.heap.size) args s 1 6 (Fr Γ sk s.heap.size)) 9 Γ sk M 0 0 422 [(0, vr Γ 52), (1, vr Γ 3), (2, vi x2), (3, vi x3), (6, vi x6)] [] := by
    intro x2 x3 x6 M hx2 hx3 hx6 h
    unfold f_L_acts_J422 at h
    refine V_iload (pc := 422) C 4 rfl dL_acts_422 ?_
    refine V_if_ne (pc := 424) C 436 hx6 dL_acts_424 (by decide) (fun c424_132 => ?_) (fun c424_132 => ?_)
    · have h := ite_f h c424_132
      refine V_iload_n (pc := 436) C 2 rfl dL_acts_436 ?_
      refine V_bipush (pc := 437) C dL_acts_437 rfl ?_
      refine V_bipush (pc := 439) C dL_acts_439 rfl ?_
      obtain ⟨M133, r134, hc135, h⟩ := cal_of h
      refine V_callSI (pc := 441) C (c_L_bits l Γ sk hsk hl9 fu hx2 (by decide) (by decide) hc135) cf_L_bits lk_L_72 ⟨rfl, rfl⟩ ⟨Nat.le_of_ble_eq_true rfl, Nat.le_of_ble_eq_true rfl⟩ rfl (Nat.le_of_ble_eq_true rfl) ⟨Nat.zero_le _, Nat.zero_le _⟩ rfl dL_acts_441 (fun hr134 => ?_)
      refine V_aload_n (pc := 444) C 0 rfl dL_acts_444 ?_
      refine V_getR (pc := 445) C e52 rfl inL 1 (by decide) rfl lf_L_14 rfl dL_acts_445 ?_
      refine V_iload_n (pc := 448) C 3 rfl dL_acts_448 ?_
      refine V_rng fun hM136 => ?_
      obtain ⟨g137, h⟩ := grd_of h
      refine V_iald (pc := 449) C e53 g137 hx3 dL_acts_449 ?_
      refine V_iconst (pc := 450) C dL_acts_450 ?_
      refine V_iadd (pc := 451) C dL_acts_451 ?_
      obtain ⟨g138, h⟩ := grd_of h
      refine V_irem (pc := 452) C g138 dL_acts_452 ?_
      refine V_istore (pc := 453) C (L' := [(0, vr Γ 52), (1, vr Γ 3), (2, vi x2), (3, vi x3), (6, vi x6), (7, vi (r134 % ((M133 53 (x3 : Int).toNat) + (1 : Int))))]) rfl (by decide) dL_acts_453 ?_
      refine V_aload_n (pc := 455) C 0 rfl dL_acts_455 ?_
      refine V_iload_n (pc := 456) C 3 rfl dL_acts_456 ?_
      refine V_iload (pc := 457) C 5 rfl dL_acts_457 ?_
      obtain ⟨g139, h⟩ := grd_of h
      obtain ⟨M140, r141, hc142, h⟩ := cal_of h
      refine V_callVI (pc := 459) C (c_L_makes l Γ sk hsk hl9 fu hx3 g139 hc142) cf_L_makes lk_L_87 ⟨rfl, rfl⟩ ⟨Nat.le_of_ble_eq_true rfl, Nat.le_of_ble_eq_true rfl⟩ e52 rfl rfl rfl (Nat.le_of_ble_eq_true rfl) ⟨Nat.zero_le _, Nat.zero_le _⟩ rfl dL_acts_459 (fun hr141 => ?_)
      refine V_istore (pc := 462) C (L' := [(0, vr Γ 52), (1, vr Γ 3), (2, vi x2), (3, vi x3), (6, vi x6), (7, vi (r134 % ((M133 53 (x3 : Int).toNat) + (1 : Int)))), (8, vi r141)]) rfl (by decide) dL_acts_462 ?_
      refine V_aload_n (pc := 464) C 1 rfl dL_acts_464 ?_
      refine V_iload_n (pc := 465) C 3 rfl dL_acts_465 ?_
      refine V_iload (pc := 466) C 5 rfl dL_acts_466 ?_
      rcases cax_of h with ⟨M143, r144, hc145, h⟩ | ⟨M143, n146, z147, hc145, h⟩
      · refine V_callXI0 (pc := 468) C (c_X11_truncate l Γ sk hsk.c hl9 fu hx3 g139 hc145) cf_X11_truncate lk_L_63 ⟨rfl, rfl⟩ ⟨Nat.le_of_ble_eq_true rfl, Nat.le_of_ble_eq_true rfl⟩ e3 rfl rfl rfl (Nat.le_of_ble_eq_true rfl) ⟨Nat.zero_le _, Nat.zero_le _⟩ rfl dL_acts_468 (fun hr144 => ?_)
        refine V_iload (pc := 471) C 6 rfl dL_acts_471 ?_
        refine V_icmp_ne (pc := 473) C 495 hr144 hr141 dL_acts_473 (by decide) (fun c473_148 => ?_) (fun c473_148 => ?_)
        · have h := ite_f h c473_148
          refine V_iconst (pc := 495) C dL_acts_495 ?_
          refine V_room (Nat.zero_le 1) (Nat.zero_le 6) ?_
          exact V_zret (pc := 496) C hr hlk (by decide) h dL_acts_496
        · have h := ite_t h c473_148
          refine V_aload_n (pc := 476) C 1 rfl dL_acts_476 ?_
          refine V_iload (pc := 477) C 6 rfl dL_acts_477 ?_
          rcases cax_of h with ⟨M149, r150, hc151, h⟩ | ⟨M149, n152, z153, hc151, h⟩
          · refine V_callXI0 (pc := 479) C (c_X11_nodesCreatedFor l Γ sk hsk.c hl9 fu hr141 hc151) cf_X11_nodesCreatedFor lk_L_90 ⟨rfl, rfl⟩ ⟨Nat.le_of_ble_eq_true rfl, Nat.le_of_ble_eq_true rfl⟩ e3 rfl rfl rfl (Nat.le_of_ble_eq_true rfl) ⟨Nat.zero_le _, Nat.zero_le _⟩ rfl dL_acts_479 (fun hr150 => ?_)
            refine V_aload_n (pc := 482) C 0 rfl dL_acts_482 ?_
            refine V_iload (pc := 483) C 5 rfl dL_acts_483 ?_
            obtain ⟨M154, r155, hc156, h⟩ := cal_of h
            refine V_callVI (pc := 485) C (c_L_height l Γ sk hsk hl9 fu g139 hc156) cf_L_height lk_L_81 ⟨rfl, rfl⟩ ⟨Nat.le_of_ble_eq_true rfl, Nat.le_of_ble_eq_true rfl⟩ e52 rfl rfl rfl (Nat.le_of_ble_eq_true rfl) ⟨Nat.zero_le _, Nat.zero_le _⟩ rfl dL_acts_485 (fun hr155 => ?_)
            refine V_icmp_gt (pc := 488) C 495 hr150 hr155 dL_acts_488 (by decide) (fun c488_157 => ?_) (fun c488_157 => ?_)
            · have h := ite_t h c488_157
              refine V_iconst (pc := 495) C dL_acts_495 ?_
              refine V_room (Nat.zero_le 1) (Nat.zero_le 6) ?_
              exact V_zret (pc := 496) C hr hlk (by decide) h dL_acts_496
            · have h := ite_f h c488_157
              refine V_iconst (pc := 491) C dL_acts_491 ?_
              refine V_goto (pc := 492) C 496 dL_acts_492 (by decide) ?_
              refine V_room (Nat.zero_le 1) (Nat.zero_le 6) ?_
              exact V_zret (pc := 496) C hr hlk (by decide) h dL_acts_496
          · cases h
      · cases h
    · have h := ite_t h c424_132
      refine V_aload_n (pc := 427) C 1 rfl dL_acts_427 ?_
      refine V_iconst (pc := 428) C dL_acts_428 ?_
      refine V_iload_n (pc := 429) C 3 rfl dL_acts_429 ?_
      refine V_iconst (pc := 430) C dL_acts_430 ?_
      refine V_iconst (pc := 431) C dL_acts_431 ?_
      obtain ⟨M158, r159, hc160, h⟩ := cal_of h
      refine V_callH (pc := 432) C (c_L_isRefused l Γ sk hsk hl9 fu (by decide) hx3 (by decide) (by decide) hc160) chf_L_isRefused lk_L_77 ⟨rfl, rfl⟩ ⟨Nat.le_of_ble_eq_true rfl, Nat.le_of_ble_eq_true rfl⟩ rfl (Nat.le_of_ble_eq_true rfl) ⟨Nat.le_refl 1, Nat.le_refl 6⟩ rfl dL_acts_432 (fun hr159 => ?_)
      obtain ⟨g161, h⟩ := grd_of h
      exact V_zret (pc := 435) C hr hlk g161 h dL_acts_435
  have JP514 : ∀ {x3 : Int} {M : Mem}, rng x3 → f_L_acts_J514 fu x3 M = some (M', r) → VV p l e ({ frames := 40, cells := 1, slots := 6, locals := 1360 } : Room) s m args below meth c (MQ below (PostI Γ sk M' r s.heap.size) args s 1 6 (Fr Γ sk s.heap.size)) 9 Γ sk M 0 0 514 [(0, vr Γ 52), (1, vr Γ 3), (3, vi x3)] [] := by
    intro x3 M hx3 h
    unfold f_L_acts_J514 at h
    refine V_aload_n (pc := 514) C 1 rfl dL_acts_514 ?_
    refine V_iload_n (pc := 515) C 2 rfl dL_acts_515 ?_
    rcases cax_of h with ⟨M167, r168, hc169, h⟩ | ⟨M167, n170, z171, hc169, h⟩
    · refine V_callXI0 (pc := 516) C (c_X11_isReleased l Γ sk hsk.c hl9 fu hx3 hc169) cf_X11_isReleased lk_L_96 ⟨rfl, rfl⟩ ⟨Nat.le_of_ble_eq_true rfl, Nat.le_of_ble_eq_true rfl⟩ e3 rfl rfl rfl (Nat.le_of_ble_eq_true rfl) ⟨Nat.zero_le _, Nat.zero_le _⟩ rfl dL_acts_516 (fun hr168 => ?_)
      refine V_aload_n (pc := 519) C 0 rfl dL_acts_519 ?_
      refine V_getR (pc := 520) C e52 rfl inL 3 (by decide) rfl lf_L_21 rfl dL_acts_520 ?_
      refine V_iload_n (pc := 523) C 2 rfl dL_acts_523 ?_
      refine V_rng fun hM172 => ?_
      obtain ⟨g173, h⟩ := grd_of h
      refine V_zald (pc := 524) C e55 g173 hx3 dL_acts_524 ?_
      refine V_icmp_ne (pc := 525) C 532 hr168 (hM172 _ _) dL_acts_525 (by decide) (fun c525_174 => ?_) (fun c525_174 => ?_)
      · have h := ite_f h c525_174
        refine V_iconst (pc := 532) C dL_acts_532 ?_
        refine V_room (Nat.zero_le 1) (Nat.zero_le 6) ?_
        exact V_zret (pc := 533) C hr hlk (by decide) h dL_acts_533
      · have h := ite_t h c525_174
        refine V_iconst (pc := 528) C dL_acts_528 ?_
        refine V_goto (pc := 529) C 533 dL_acts_529 (by decide) ?_
        refine V_room (Nat.zero_le 1) (Nat.zero_le 6) ?_
        exact V_zret (pc := 533) C hr hlk (by decide) h dL_acts_533
    · cases h
  have JP79 : ∀ {x2 : Int} {x3 : Int} {x4 : Int} {x5 : Int} {y0 : Int} {M : Mem}, rng x2 → rng x3 → rng x4 → rng x5 → rng y0 → f_L_acts_J79 fu x2 x3 x4 x5 y0 M = some (M', r) → VV p l e ({ frames := 40, cells := 1, slots := 6, locals := 1360 } : Room) s m args below meth c (MQ below (PostI Γ sk M' r s.heap.size) args s 1 6 (Fr Γ sk s.heap.size)) 9 Γ sk M 0 0 79 [(0, vr Γ 52), (1, vr Γ 3), (2, vi x2), (3, vi x3), (4, vi x4), (5, vi x5)] [vi y0] := by
    intro x2 x3 x4 x5 y0 M hx2 hx3 hx4 hx5 hy0 h
    unfold f_L_acts_J79 at h
    refine V_istore (pc := 79) C (L' := [(0, vr Γ 52), (1, vr Γ 3), (2, vi x2), (3, vi x3), (4, vi x4), (5, vi x5), (6, vi y0)]) rfl (by decide) dL_acts_79 ?_
    refine V_iload_n (pc := 81) C 2 rfl dL_acts_81 ?_
    refine V_iconst (pc := 82) C dL_acts_82 ?_
    refine V_iconst (pc := 83) C dL_acts_83 ?_
    obtain ⟨M22, r23, hc24, h⟩ := cal_of h
    refine V_callSI (pc := 84) C (c_L_bits l Γ sk hsk hl9 fu hx2 (by decide) (by decide) hc24) cf_L_bits lk_L_72 ⟨rfl, rfl⟩ ⟨Nat.le_of_ble_eq_true rfl, Nat.le_of_ble_eq_true rfl⟩ rfl (Nat.le_of_ble_eq_true rfl) ⟨Nat.zero_le _, Nat.zero_le _⟩ rfl dL_acts_84 (fun hr23 => ?_)
    by_cases c87_0_25 : r23 = (0 : Int)
    · have h := ite_t h c87_0_25
      refine V_tabIn (pc := 87) C 156 (0 : Int) c87_0_25 hr23 dL_acts_87 (by decide) (by decide) rfl (by decide) ?_
      refine V_sub (L' := [(0, vr Γ 52), (1, vr Γ 3), (3, vi x3), (4, vi x4), (5, vi x5), (6, vi y0)]) [0, 1, 3, 4, 5, 6] rfl (by decide) ?_
      exact JP156 hx3 hx4 hx5 hy0 h
    have h := ite_f h c87_0_25
    by_cases c87_1_75 : r23 = (1 : Int)
    · have h := ite_t h c87_1_75
      refine V_tabIn (pc := 87) C 156 (1 : Int) c87_1_75 hr23 dL_acts_87 (by decide) (by decide) rfl (by decide) ?_
      refine V_sub (L' := [(0, vr Γ 52), (1, vr Γ 3), (3, vi x3), (4, vi x4), (5, vi x5), (6, vi y0)]) [0, 1, 3, 4, 5, 6] rfl (by decide) ?_
      exact JP156 hx3 hx4 hx5 hy0 h
    have h := ite_f h c87_1_75
    by_cases c87_2_76 : r23 = (2 : Int)
    · have h := ite_t h c87_2_76
      refine V_tabIn (pc := 87) C 156 (2 : Int) c87_2_76 hr23 dL_acts_87 (by decide) (by decide) rfl (by decide) ?_
      refine V_sub (L' := [(0, vr Γ 52), (1, vr Γ 3), (3, vi x3), (4, vi x4), (5, vi x5), (6, vi y0)]) [0, 1, 3, 4, 5, 6] rfl (by decide) ?_
      exact JP156 hx3 hx4 hx5 hy0 h
    have h := ite_f h c87_2_76
    by_cases c87_3_77 : r23 = (3 : Int)
    · have h := ite_t h c87_3_77
      refine V_tabIn (pc := 87) C 156 (3 : Int) c87_3_77 hr23 dL_acts_87 (by decide) (by decide) rfl (by decide) ?_
      refine V_sub (L' := [(0, vr Γ 52), (1, vr Γ 3), (3, vi x3), (4, vi x4), (5, vi x5), (6, vi y0)]) [0, 1, 3, 4, 5, 6] rfl (by decide) ?_
      exact JP156 hx3 hx4 hx5 hy0 h
    have h := ite_f h c87_3_77
    by_cases c87_4_78 : r23 = (4 : Int)
    · have h := ite_t h c87_4_78
      refine V_tabIn (pc := 87) C 306 (4 : Int) c87_4_78 hr23 dL_acts_87 (by decide) (by decide) rfl (by decide) ?_
      refine V_sub (L' := [(0, vr Γ 52), (1, vr Γ 3), (3, vi x3), (4, vi x4), (6, vi y0)]) [0, 1, 3, 4, 6] rfl (by decide) ?_
      exact JP306 hx3 hx4 hy0 h
    have h := ite_f h c87_4_78
    by_cases c87_5_126 : r23 = (5 : Int)
    · have h := ite_t h c87_5_126
      refine V_tabIn (pc := 87) C 306 (5 : Int) c87_5_126 hr23 dL_acts_87 (by decide) (by decide) rfl (by decide) ?_
      refine V_sub (L' := [(0, vr Γ 52), (1, vr Γ 3), (3, vi x3), (4, vi x4), (6, vi y0)]) [0, 1, 3, 4, 6] rfl (by decide) ?_
      exact JP306 hx3 hx4 hy0 h
    have h := ite_f h c87_5_126
    by_cases c87_6_127 : r23 = (6 : Int)
    · have h := ite_t h c87_6_127
      refine V_tabIn (pc := 87) C 306 (6 : Int) c87_6_127 hr23 dL_acts_87 (by decide) (by decide) rfl (by decide) ?_
      refine V_sub (L' := [(0, vr Γ 52), (1, vr Γ 3), (3, vi x3), (4, vi x4), (6, vi y0)]) [0, 1, 3, 4, 6] rfl (by decide) ?_
      exact JP306 hx3 hx4 hy0 h
    have h := ite_f h c87_6_127
    by_cases c87_7_128 : r23 = (7 : Int)
    · have h := ite_t h c87_7_128
      refine V_tabIn (pc := 87) C 306 (7 : Int) c87_7_128 hr23 dL_acts_87 (by decide) (by decide) rfl (by decide) ?_
      refine V_sub (L' := [(0, vr Γ 52), (1, vr Γ 3), (3, vi x3), (4, vi x4), (6, vi y0)]) [0, 1, 3, 4, 6] rfl (by decide) ?_
      exact JP306 hx3 hx4 hy0 h
    have h := ite_f h c87_7_128
    by_cases c87_8_129 : r23 = (8 : Int)
    · have h := ite_t h c87_8_129
      refine V_tabIn (pc := 87) C 306 (8 : Int) c87_8_129 hr23 dL_acts_87 (by decide) (by decide) rfl (by decide) ?_
      refine V_sub (L' := [(0, vr Γ 52), (1, vr Γ 3), (3, vi x3), (4, vi x4), (6, vi y0)]) [0, 1, 3, 4, 6] rfl (by decide) ?_
      exact JP306 hx3 hx4 hy0 h
    have h := ite_f h c87_8_129
    by_cases c87_9_130 : r23 = (9 : Int)
    · have h := ite_t h c87_9_130
      refine V_tabIn (pc := 87) C 306 (9 : Int) c87_9_130 hr23 dL_acts_87 (by decide) (by decide) rfl (by decide) ?_
      refine V_sub (L' := [(0, vr Γ 52), (1, vr Γ 3), (3, vi x3), (4, vi x4), (6, vi y0)]) [0, 1, 3, 4, 6] rfl (by decide) ?_
      exact JP306 hx3 hx4 hy0 h
    have h := ite_f h c87_9_130
    by_cases c87_10_131 : r23 = (10 : Int)
    · have h := ite_t h c87_10_131
      refine V_tabIn (pc := 87) C 422 (10 : Int) c87_10_131 hr23 dL_acts_87 (by decide) (by decide) rfl (by decide) ?_
      refine V_sub (L' := [(0, vr Γ 52), (1, vr Γ 3), (2, vi x2), (3, vi x3), (6, vi y0)]) [0, 1, 2, 3, 6] rfl (by decide) ?_
      exact JP422 hx2 hx3 hy0 h
    have h := ite_f h c87_10_131
    by_cases c87_11_162 : r23 = (11 : Int)
    · have h := ite_t h c87_11_162
      refine V_tabIn (pc := 87) C 422 (11 : Int) c87_11_162 hr23 dL_acts_87 (by decide) (by decide) rfl (by decide) ?_
      refine V_sub (L' := [(0, vr Γ 52), (1, vr Γ 3), (2, vi x2), (3, vi x3), (6, vi y0)]) [0, 1, 2, 3, 6] rfl (by decide) ?_
      exact JP422 hx2 hx3 hy0 h
    have h := ite_f h c87_11_162
    by_cases c87_12_163 : r23 = (12 : Int)
    · have h := ite_t h c87_12_163
      refine V_tabIn (pc := 87) C 497 (12 : Int) c87_12_163 hr23 dL_acts_87 (by decide) (by decide) rfl (by decide) ?_
      refine V_aload_n (pc := 497) C 0 rfl dL_acts_497 ?_
      refine V_getR (pc := 498) C e52 rfl inL 3 (by decide) rfl lf_L_21 rfl dL_acts_498 ?_
      refine V_iload_n (pc := 501) C 3 rfl dL_acts_501 ?_
      refine V_rng fun hM164 => ?_
      obtain ⟨g165, h⟩ := grd_of h
      refine V_zald (pc := 502) C e55 g165 hx3 dL_acts_502 ?_
      refine V_if_ne (pc := 503) C 514 (hM164 _ _) dL_acts_503 (by decide) (fun c503_166 => ?_) (fun c503_166 => ?_)
      · have h := ite_f h c503_166
        refine V_sub (L' := [(0, vr Γ 52), (1, vr Γ 3), (3, vi x3)]) [0, 1, 3] rfl (by decide) ?_
        exact JP514 hx3 h
      · have h := ite_t h c503_166
        refine V_aload_n (pc := 506) C 0 rfl dL_acts_506 ?_
        refine V_getI (pc := 507) C e52 rfl inL 6 (by decide) rfl lf_L_31 rfl dL_acts_507 ?_
        refine V_iconst (pc := 510) C dL_acts_510 ?_
        refine V_icmp_ge (pc := 511) C 534 (hM164 _ _) (by decide) dL_acts_511 (by decide) (fun c511_175 => ?_) (fun c511_175 => ?_)
        · have h := ite_t h c511_175
          refine V_aload_n (pc := 534) C 1 rfl dL_acts_534 ?_
          refine V_iload_n (pc := 535) C 3 rfl dL_acts_535 ?_
          rcases cax_of h with ⟨M176, r177, hc178, h⟩ | ⟨M176, n179, z180, hc178, h⟩
          · refine V_callXI0 (pc := 536) C (c_X11_garbageIfReleased l Γ sk hsk.c hl9 fu hx3 hc178) cf_X11_garbageIfReleased lk_L_99 ⟨rfl, rfl⟩ ⟨Nat.le_of_ble_eq_true rfl, Nat.le_of_ble_eq_true rfl⟩ e3 rfl rfl rfl (Nat.le_of_ble_eq_true rfl) ⟨Nat.zero_le _, Nat.zero_le _⟩ rfl dL_acts_536 (fun hr177 => ?_)
            refine V_istore (pc := 539) C (L' := [(0, vr Γ 52), (1, vr Γ 3), (2, vi x2), (3, vi x3), (4, vi x4), (5, vi x5), (6, vi y0), (7, vi r177)]) rfl (by decide) dL_acts_539 ?_
            refine V_aload_n (pc := 541) C 1 rfl dL_acts_541 ?_
            obtain ⟨M181, r182, hc183, h⟩ := cal_of h
            refine V_callVI (pc := 542) C (c_X11_garbageNodes l Γ sk hsk.c fu hc183) cf_X11_garbageNodes lk_L_102 ⟨rfl, rfl⟩ ⟨Nat.le_of_ble_eq_true rfl, Nat.le_of_ble_eq_true rfl⟩ e3 rfl rfl rfl (Nat.le_of_ble_eq_true rfl) ⟨Nat.zero_le _, Nat.zero_le _⟩ rfl dL_acts_542 (fun hr182 => ?_)
            refine V_istore (pc := 545) C (L' := [(0, vr Γ 52), (1, vr Γ 3), (2, vi x2), (3, vi x3), (4, vi x4), (5, vi x5), (6, vi y0), (7, vi r177), (8, vi r182)]) rfl (by decide) dL_acts_545 ?_
            refine V_aload_n (pc := 547) C 0 rfl dL_acts_547 ?_
            refine V_getR (pc := 548) C e52 rfl inL 3 (by decide) rfl lf_L_21 rfl dL_acts_548 ?_
            refine V_iload_n (pc := 551) C 3 rfl dL_acts_551 ?_
            refine V_iconst (pc := 552) C dL_acts_552 ?_
            obtain ⟨g184, h⟩ := grd_of h
            obtain ⟨g185, h⟩ := grd_of h
            refine V_zast (pc := 553) C (by decide) e55 g184 hx3 g185 dL_acts_553 ?_
            refine V_aload_n (pc := 554) C 1 rfl dL_acts_554 ?_
            refine V_iload_n (pc := 555) C 3 rfl dL_acts_555 ?_
            rcases cax_of h with ⟨M186, r187, hc188, h⟩ | ⟨M186, n189, z190, hc188, h⟩
            · refine V_callXI0 (pc := 556) C (c_X11_release l Γ sk hsk.c hl9 fu hx3 hc188) cf_X11_release lk_L_66 ⟨rfl, rfl⟩ ⟨Nat.le_of_ble_eq_true rfl, Nat.le_of_ble_eq_true rfl⟩ e3 rfl rfl rfl (Nat.le_of_ble_eq_true rfl) ⟨Nat.zero_le _, Nat.zero_le _⟩ rfl dL_acts_556 (fun hr187 => ?_)
              refine V_iload (pc := 559) C 8 rfl dL_acts_559 ?_
              refine V_iload (pc := 561) C 7 rfl dL_acts_561 ?_
              refine V_iadd (pc := 563) C dL_acts_563 ?_
              obtain ⟨g191, h⟩ := grd_of h
              refine V_icmp_ne (pc := 564) C 571 hr187 g191 dL_acts_564 (by decide) (fun c564_192 => ?_) (fun c564_192 => ?_)
              · have h := ite_f h c564_192
                refine V_iconst (pc := 571) C dL_acts_571 ?_
                refine V_room (Nat.zero_le 1) (Nat.zero_le 6) ?_
                exact V_zret (pc := 572) C hr hlk (by decide) h dL_acts_572
              · have h := ite_t h c564_192
                refine V_iconst (pc := 567) C dL_acts_567 ?_
                refine V_goto (pc := 568) C 572 dL_acts_568 (by decide) ?_
                refine V_room (Nat.zero_le 1) (Nat.zero_le 6) ?_
                exact V_zret (pc := 572) C hr hlk (by decide) h dL_acts_572
            · cases h
          · cases h
        · have h := ite_f h c511_175
          refine V_sub (L' := [(0, vr Γ 52), (1, vr Γ 3), (3, vi x3)]) [0, 1, 3] rfl (by decide) ?_
          exact JP514 hx3 h
    have h := ite_f h c87_12_163
    by_cases c87_13_193 : r23 = (13 : Int)
    · have h := ite_t h c87_13_193
      refine V_tabIn (pc := 87) C 573 (13 : Int) c87_13_193 hr23 dL_acts_87 (by decide) (by decide) rfl (by decide) ?_
      refine V_aload_n (pc := 573) C 1 rfl dL_acts_573 ?_
      obtain ⟨M194, r195, hc196, h⟩ := cal_of h
      refine V_callVI (pc := 574) C (c_X11_garbageNodes l Γ sk hsk.c fu hc196) cf_X11_garbageNodes lk_L_102 ⟨rfl, rfl⟩ ⟨Nat.le_of_ble_eq_true rfl, Nat.le_of_ble_eq_true rfl⟩ e3 rfl rfl rfl (Nat.le_of_ble_eq_true rfl) ⟨Nat.zero_le _, Nat.zero_le _⟩ rfl dL_acts_574 (fun hr195 => ?_)
      refine V_istore (pc := 577) C (L' := [(0, vr Γ 52), (1, vr Γ 3), (2, vi x2), (3, vi x3), (4, vi x4), (5, vi x5), (6, vi y0), (7, vi r195)]) rfl (by decide) dL_acts_577 ?_
      refine V_aload_n (pc := 579) C 1 rfl dL_acts_579 ?_
      obtain ⟨M197, r198, hc199, h⟩ := cal_of h
      refine V_callVI (pc := 580) C (c_X11_storedNodes l Γ sk hsk.c fu hc199) cf_X11_storedNodes lk_L_105 ⟨rfl, rfl⟩ ⟨Nat.le_of_ble_eq_true rfl, Nat.le_of_ble_eq_true rfl⟩ e3 rfl rfl rfl (Nat.le_of_ble_eq_true rfl) ⟨Nat.zero_le _, Nat.zero_le _⟩ rfl dL_acts_580 (fun hr198 => ?_)
      refine V_istore (pc := 583) C (L' := [(0, vr Γ 52), (1, vr Γ 3), (2, vi x2), (3, vi x3), (4, vi x4), (5, vi x5), (6, vi y0), (7, vi r195), (8, vi r198)]) rfl (by decide) dL_acts_583 ?_
      refine V_aload_n (pc := 585) C 1 rfl dL_acts_585 ?_
      rcases cax_of h with ⟨M200, r201, hc202, h⟩ | ⟨M200, n203, z204, hc202, h⟩
      · refine V_callXI0 (pc := 586) C (c_X11_collect l Γ sk hsk.c hl9 fu hc202) cf_X11_collect lk_L_108 ⟨rfl, rfl⟩ ⟨Nat.le_of_ble_eq_true rfl, Nat.le_of_ble_eq_true rfl⟩ e3 rfl rfl rfl (Nat.le_of_ble_eq_true rfl) ⟨Nat.zero_le _, Nat.zero_le _⟩ rfl dL_acts_586 (fun hr201 => ?_)
        refine V_iload (pc := 589) C 7 rfl dL_acts_589 ?_
        refine V_icmp_ne (pc := 591) C 617 hr201 hr195 dL_acts_591 (by decide) (fun c591_205 => ?_) (fun c591_205 => ?_)
        · have h := ite_f h c591_205
          refine V_iconst (pc := 617) C dL_acts_617 ?_
          refine V_room (Nat.zero_le 1) (Nat.zero_le 6) ?_
          exact V_zret (pc := 618) C hr hlk (by decide) h dL_acts_618
        · have h := ite_t h c591_205
          refine V_aload_n (pc := 594) C 1 rfl dL_acts_594 ?_
          obtain ⟨M206, r207, hc208, h⟩ := cal_of h
          refine V_callVI (pc := 595) C (c_X11_storedNodes l Γ sk hsk.c fu hc208) cf_X11_storedNodes lk_L_105 ⟨rfl, rfl⟩ ⟨Nat.le_of_ble_eq_true rfl, Nat.le_of_ble_eq_true rfl⟩ e3 rfl rfl rfl (Nat.le_of_ble_eq_true rfl) ⟨Nat.zero_le _, Nat.zero_le _⟩ rfl dL_acts_595 (fun hr207 => ?_)
          refine V_iload (pc := 598) C 8 rfl dL_acts_598 ?_
          refine V_iload (pc := 600) C 7 rfl dL_acts_600 ?_
          refine V_isub (pc := 602) C dL_acts_602 ?_
          obtain ⟨g209, h⟩ := grd_of h
          refine V_icmp_ne (pc := 603) C 617 hr207 g209 dL_acts_603 (by decide) (fun c603_210 => ?_) (fun c603_210 => ?_)
          · have h := ite_f h c603_210
            refine V_iconst (pc := 617) C dL_acts_617 ?_
            refine V_room (Nat.zero_le 1) (Nat.zero_le 6) ?_
            exact V_zret (pc := 618) C hr hlk (by decide) h dL_acts_618
          · have h := ite_t h c603_210
            refine V_aload_n (pc := 606) C 1 rfl dL_acts_606 ?_
            obtain ⟨M211, r212, hc213, h⟩ := cal_of h
            refine V_callVI (pc := 607) C (c_X11_garbageNodes l Γ sk hsk.c fu hc213) cf_X11_garbageNodes lk_L_102 ⟨rfl, rfl⟩ ⟨Nat.le_of_ble_eq_true rfl, Nat.le_of_ble_eq_true rfl⟩ e3 rfl rfl rfl (Nat.le_of_ble_eq_true rfl) ⟨Nat.zero_le _, Nat.zero_le _⟩ rfl dL_acts_607 (fun hr212 => ?_)
            refine V_if_ne (pc := 610) C 617 hr212 dL_acts_610 (by decide) (fun c610_214 => ?_) (fun c610_214 => ?_)
            · have h := ite_f h c610_214
              refine V_iconst (pc := 617) C dL_acts_617 ?_
              refine V_room (Nat.zero_le 1) (Nat.zero_le 6) ?_
              exact V_zret (pc := 618) C hr hlk (by decide) h dL_acts_618
            · have h := ite_t h c610_214
              refine V_iconst (pc := 613) C dL_acts_613 ?_
              refine V_goto (pc := 614) C 618 dL_acts_614 (by decide) ?_
              refine V_room (Nat.zero_le 1) (Nat.zero_le 6) ?_
              exact V_zret (pc := 618) C hr hlk (by decide) h dL_acts_618
      · cases h
    have h := ite_f h c87_13_193
    refine V_tabOut (pc := 87) C 619 hr23 dL_acts_87 (tabout_0_13 c87_0_25 c87_1_75 c87_2_76 c87_3_77 c87_4_78 c87_5_126 c87_6_127 c87_7_128 c87_8_129 c87_9_130 c87_10_131 c87_11_162 c87_12_163 c87_13_193) (by decide) ?_
    refine V_aload_n (pc := 619) C 1 rfl dL_acts_619 ?_
    refine V_iload_n (pc := 620) C 3 rfl dL_acts_620 ?_
    rcases cax_of h with ⟨M215, r216, hc217, h⟩ | ⟨M215, n218, z219, hc217, h⟩
    · refine V_callXI0 (pc := 621) C (c_X11_isReleased l Γ sk hsk.c hl9 fu hx3 hc217) cf_X11_isReleased lk_L_96 ⟨rfl, rfl⟩ ⟨Nat.le_of_ble_eq_true rfl, Nat.le_of_ble_eq_true rfl⟩ e3 rfl rfl rfl (Nat.le_of_ble_eq_true rfl) ⟨Nat.zero_le _, Nat.zero_le _⟩ rfl dL_acts_621 (fun hr216 => ?_)
      refine V_aload_n (pc := 624) C 0 rfl dL_acts_624 ?_
      refine V_getR (pc := 625) C e52 rfl inL 3 (by decide) rfl lf_L_21 rfl dL_acts_625 ?_
      refine V_iload_n (pc := 628) C 3 rfl dL_acts_628 ?_
      refine V_rng fun hM220 => ?_
      obtain ⟨g221, h⟩ := grd_of h
      refine V_zald (pc := 629) C e55 g221 hx3 dL_acts_629 ?_
      refine V_icmp_ne (pc := 630) C 637 hr216 (hM220 _ _) dL_acts_630 (by decide) (fun c630_222 => ?_) (fun c630_222 => ?_)
      · have h := ite_f h c630_222
        refine V_iconst (pc := 637) C dL_acts_637 ?_
        refine V_room (Nat.zero_le 1) (Nat.zero_le 6) ?_
        exact V_zret (pc := 638) C hr hlk (by decide) h dL_acts_638
      · have h := ite_t h c630_222
        refine V_iconst (pc := 633) C dL_acts_633 ?_
        refine V_goto (pc := 634) C 638 dL_acts_634 (by decide) ?_
        refine V_room (Nat.zero_le 1) (Nat.zero_le 6) ?_
        exact V_zret (pc := 638) C hr hlk (by decide) h dL_acts_638
    · cases h
  have JP78 : ∀ {x2 : Int} {x3 : Int} {x4 : Int} {x5 : Int} {M : Mem}, rng x2 → rng x3 → rng x4 → rng x5 → f_L_acts_J78 fu x2 x3 x4 x5 M = some (M', r) → VV p l e ({ frames := 40, cells := 1, slots := 6, locals := 1360 } : Room) s m args below meth c (MQ below (PostI Γ sk M' r s.heap.size) args s 1 6 (Fr Γ sk s.heap.size)) 9 Γ sk M 0 0 78 [(0, vr Γ 52), (1, vr Γ 3), (2, vi x2), (3, vi x3), (4, vi x4), (5, vi x5)] [] := by
    intro x2 x3 x4 x5 M hx2 hx3 hx4 hx5 h
    unfold f_L_acts_J78 at h
    refine V_iconst (pc := 78) C dL_acts_78 ?_
    refine V_sub (L' := [(0, vr Γ 52), (1, vr Γ 3), (2, vi x2), (3, vi x3), (4, vi x4), (5, vi x5)]) [0, 1, 2, 3, 4, 5] rfl (by decide) ?_
    exact JP79 hx2 hx3 hx4 hx5 (by decide) h
  have JP54 : ∀ {x2 : Int} {x3 : Int} {x4 : Int} {y0 : Int} {M : Mem}, rng x2 → rng x3 → rng x4 → rng y0 → f_L_acts_J54 fu x2 x3 x4 y0 M = some (M', r) → VV p l e ({ frames := 40, cells := 1, slots := 6, locals := 1360 } : Room) s m args below meth c (MQ below (PostI Γ sk M' r s.heap.size) args s 1 6 (Fr Γ sk s.heap.size)) 9 Γ sk M 0 0 54 [(0, vr Γ 52), (1, vr Γ 3), (2, vi x2), (3, vi x3), (4, vi x4)] [vi y0] := by
    intro x2 x3 x4 y0 M hx2 hx3 hx4 hy0 h
    unfold f_L_acts_J54 at h
    refine V_istore (pc := 54) C (L' := [(0, vr Γ 52), (1, vr Γ 3), (2, vi x2), (3, vi x3), (4, vi x4), (5, vi y0)]) rfl (by decide) dL_acts_54 ?_
    refine V_aload_n (pc := 56) C 0 rfl dL_acts_56 ?_
    refine V_getR (pc := 57) C e52 rfl inL 3 (by decide) rfl lf_L_21 rfl dL_acts_57 ?_
    refine V_iload_n (pc := 60) C 3 rfl dL_acts_60 ?_
    refine V_rng fun hM19 => ?_
    obtain ⟨g20, h⟩ := grd_of h
    refine V_zald (pc := 61) C e55 g20 hx3 dL_acts_61 ?_
    refine V_if_ne (pc := 62) C 78 (hM19 _ _) dL_acts_62 (by decide) (fun c62_21 => ?_) (fun c62_21 => ?_)
    · have h := ite_f h c62_21
      refine V_sub (L' := [(0, vr Γ 52), (1, vr Γ 3), (2, vi x2), (3, vi x3), (4, vi x4), (5, vi y0)]) [0, 1, 2, 3, 4, 5] rfl (by decide) ?_
      exact JP78 hx2 hx3 hx4 hy0 h
    · have h := ite_t h c62_21
      refine V_aload_n (pc := 65) C 0 rfl dL_acts_65 ?_
      refine V_getI (pc := 66) C e52 rfl inL 6 (by decide) rfl lf_L_31 rfl dL_acts_66 ?_
      refine V_bipush (pc := 69) C dL_acts_69 rfl ?_
      refine V_icmp_ge (pc := 71) C 78 (hM19 _ _) (by decide) dL_acts_71 (by decide) (fun c71_223 => ?_) (fun c71_223 => ?_)
      · have h := ite_t h c71_223
        refine V_sub (L' := [(0, vr Γ 52), (1, vr Γ 3), (2, vi x2), (3, vi x3), (4, vi x4), (5, vi y0)]) [0, 1, 2, 3, 4, 5] rfl (by decide) ?_
        exact JP78 hx2 hx3 hx4 hy0 h
      · have h := ite_f h c71_223
        refine V_iconst (pc := 74) C dL_acts_74 ?_
        refine V_goto (pc := 75) C 79 dL_acts_75 (by decide) ?_
        refine V_sub (L' := [(0, vr Γ 52), (1, vr Γ 3), (2, vi x2), (3, vi x3), (4, vi x4), (5, vi y0)]) [0, 1, 2, 3, 4, 5] rfl (by decide) ?_
        exact JP79 hx2 hx3 hx4 hy0 (by decide) h
  skip
  refine V_iload_n (pc := 0) C 2 rfl dL_acts_0 ?_
  refine V_iconst (pc := 1) C dL_acts_1 ?_
  refine V_bipush (pc := 2) C dL_acts_2 rfl ?_
  obtain ⟨M1, r2, hc3, h⟩ := cal_of h
  refine V_callSI (pc := 4) C (c_L_bits l Γ sk hsk hl9 fu ha2 (by decide) (by decide) hc3) cf_L_bits lk_L_72 ⟨rfl, rfl⟩ ⟨Nat.le_of_ble_eq_true rfl, Nat.le_of_ble_eq_true rfl⟩ rfl (Nat.le_of_ble_eq_true rfl) ⟨Nat.zero_le _, Nat.zero_le _⟩ rfl dL_acts_4 (fun hr2 => ?_)
  refine V_aload_n (pc := 7) C 0 rfl dL_acts_7 ?_
  refine V_rng fun hM4 => ?_
  refine V_getI (pc := 8) C e52 rfl inL 6 (by decide) rfl lf_L_31 rfl dL_acts_8 ?_
  obtain ⟨g5, h⟩ := grd_of h
  refine V_irem (pc := 11) C g5 dL_acts_11 ?_
  refine V_istore_n (pc := 12) C (L' := [(0, vr Γ 52), (1, vr Γ 3), (2, vi a2), (3, vi (r2 % (M1 52 6)))]) rfl (by decide) dL_acts_12 ?_
  refine V_iload_n (pc := 13) C 2 rfl dL_acts_13 ?_
  refine V_bipush (pc := 14) C dL_acts_14 rfl ?_
  refine V_bipush (pc := 16) C dL_acts_16 rfl ?_
  obtain ⟨M6, r7, hc8, h⟩ := cal_of h
  refine V_callSI (pc := 18) C (c_L_bits l Γ sk hsk hl9 fu ha2 (by decide) (by decide) hc8) cf_L_bits lk_L_72 ⟨rfl, rfl⟩ ⟨Nat.le_of_ble_eq_true rfl, Nat.le_of_ble_eq_true rfl⟩ rfl (Nat.le_of_ble_eq_true rfl) ⟨Nat.zero_le _, Nat.zero_le _⟩ rfl dL_acts_18 (fun hr7 => ?_)
  refine V_bipush (pc := 21) C dL_acts_21 rfl ?_
  refine V_isub (pc := 23) C dL_acts_23 ?_
  refine V_istore (pc := 24) C (L' := [(0, vr Γ 52), (1, vr Γ 3), (2, vi a2), (3, vi (r2 % (M1 52 6))), (4, vi (r7 - (64 : Int)))]) rfl (by decide) dL_acts_24 ?_
  refine V_aload_n (pc := 26) C 0 rfl dL_acts_26 ?_
  refine V_getR (pc := 27) C e52 rfl inL 1 (by decide) rfl lf_L_14 rfl dL_acts_27 ?_
  refine V_iload_n (pc := 30) C 3 rfl dL_acts_30 ?_
  refine V_rng fun hM9 => ?_
  obtain ⟨g10, h⟩ := grd_of h
  obtain ⟨g11, h⟩ := grd_of h
  refine V_iald (pc := 31) C e53 g11 g10 dL_acts_31 ?_
  refine V_if_ne (pc := 32) C 39 (hM9 _ _) dL_acts_32 (by decide) (fun c32_12 => ?_) (fun c32_12 => ?_)
  · have h := ite_f h c32_12
    refine V_iload_n (pc := 39) C 2 rfl dL_acts_39 ?_
    refine V_bipush (pc := 40) C dL_acts_40 rfl ?_
    refine V_bipush (pc := 42) C dL_acts_42 rfl ?_
    obtain ⟨M13, r14, hc15, h⟩ := cal_of h
    refine V_callSI (pc := 44) C (c_L_bits l Γ sk hsk hl9 fu ha2 (by decide) (by decide) hc15) cf_L_bits lk_L_72 ⟨rfl, rfl⟩ ⟨Nat.le_of_ble_eq_true rfl, Nat.le_of_ble_eq_true rfl⟩ rfl (Nat.le_of_ble_eq_true rfl) ⟨Nat.zero_le _, Nat.zero_le _⟩ rfl dL_acts_44 (fun hr14 => ?_)
    refine V_aload_n (pc := 47) C 0 rfl dL_acts_47 ?_
    refine V_getR (pc := 48) C e52 rfl inL 1 (by decide) rfl lf_L_14 rfl dL_acts_48 ?_
    refine V_iload_n (pc := 51) C 3 rfl dL_acts_51 ?_
    refine V_rng fun hM16 => ?_
    obtain ⟨g17, h⟩ := grd_of h
    refine V_iald (pc := 52) C e53 g17 g10 dL_acts_52 ?_
    obtain ⟨g18, h⟩ := grd_of h
    refine V_irem (pc := 53) C g18 dL_acts_53 ?_
    obtain ⟨g224, h⟩ := grd_of h
    obtain ⟨g225, h⟩ := grd_of h
    refine V_sub (L' := [(0, vr Γ 52), (1, vr Γ 3), (2, vi a2), (3, vi (r2 % (M1 52 6))), (4, vi (r7 - (64 : Int)))]) [0, 1, 2, 3, 4] rfl (by decide) ?_
    exact JP54 ha2 g10 g224 g225 h
  · have h := ite_t h c32_12
    refine V_iconst (pc := 35) C dL_acts_35 ?_
    refine V_goto (pc := 36) C 54 dL_acts_36 (by decide) ?_
    obtain ⟨g226, h⟩ := grd_of h
    refine V_sub (L' := [(0, vr Γ 52), (1, vr Γ 3), (2, vi a2), (3, vi (r2 % (M1 52 6))), (4, vi (r7 - (64 : Int)))]) [0, 1, 2, 3, 4] rfl (by decide) ?_
    exact JP54 ha2 g10 g226 (by decide) h
