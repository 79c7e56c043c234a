/-! the quotients: what the four methods do, and their walks -/

def f_X11_sharing (fu : Nat) (M : Mem) : Option (Mem × (Int × Int)) := cal (f_X5_countReachedWithout fu M (-1 : Int)) fun M1 r2 => if r2 = (0 : Int) then (some (M1, ((0 : Int), (0 : Int)))) else (cal (f_X8_countAllTrees fu M1) fun M5 r6 => grd ((0 ≤ r6 ∧ r6 < 8192) ∧ 0 < r2 ∧ r2 < 8192) (some (M5, (r6, r2))))
def f_X11_garbagePart (fu : Nat) (M : Mem) : Option (Mem × (Int × Int)) := cal (f_X3_countStored fu M) fun M1 r2 => if r2 = (0 : Int) then (some (M1, ((0 : Int), (0 : Int)))) else (cal (f_X5_countGarbage fu M1) fun M5 r6 => grd ((0 ≤ r6 ∧ r6 < 8192) ∧ 0 < r2 ∧ r2 < 8192) (some (M5, (r6, r2))))
def f_X12_sharing_L15 (fu : Nat) : Nat → Int → Int → Int → Mem → Option (Mem × (Int × Int))
  | 0, _, _, _, _ => none
  | n + 1, x1, x2, x3, M => grd (0 ≤ (1 : Int) ∧ (1 : Int) < 4210) (if M 53 ((1 : Int) : Int).toNat ≤ x3 then (if x2 = (0 : Int) then (some (M, ((0 : Int), (0 : Int)))) else (grd ((0 ≤ x1 ∧ x1 < 8192) ∧ 0 < x2 ∧ x2 < 8192) (some (M, (x1, x2))))) else (grd (0 ≤ x3 ∧ x3 < 200) (grd (0 ≤ x3 ∧ x3 < 200) (if M 60 (x3 : Int).toNat ≤ (0 : Int) then (cal (f_X12_one fu M (0 : Int)) fun M12 r13 => grd (rng (x1 + (M 60 (x3 : Int).toNat))) (grd (rng (x2 + r13)) (grd (rng (x3 + (1 : Int))) (f_X12_sharing_L15 fu n (x1 + (M 60 (x3 : Int).toNat)) (x2 + r13) (x3 + (1 : Int)) M12)))) else (cal (f_X12_one fu M (1 : Int)) fun M18 r19 => grd (rng (x1 + (M 60 (x3 : Int).toNat))) (grd (rng (x2 + r19)) (grd (rng (x3 + (1 : Int))) (f_X12_sharing_L15 fu n (x1 + (M 60 (x3 : Int).toNat)) (x2 + r19) (x3 + (1 : Int)) M18))))))))
def f_X12_sharing (fu : Nat) (M : Mem) : Option (Mem × (Int × Int)) := cal (f_X12_reachAll fu (up M 52 6 (0 : Int))) fun M1 r2 => f_X12_sharing_L15 fu fu (0 : Int) (0 : Int) (0 : Int) M1
def f_X12_garbagePart (fu : Nat) (M : Mem) : Option (Mem × (Int × Int)) := cal (f_X12_countGarbage fu (up M 52 6 (0 : Int))) fun M1 r2 => cal (f_X12_countStored fu M1) fun M4 r5 => if r5 = (0 : Int) then (some (M4, ((0 : Int), (0 : Int)))) else (grd ((0 ≤ r2 ∧ r2 < 8192) ∧ 0 < r5 ∧ r5 < 8192) (some (M4, (r2, r5))))
set_option maxRecDepth 100000 in
set_option maxHeartbeats 4000000 in
theorem c_X11_sharing (l : Launch) (Γ : GG) (sk : List SD) (hsk : Ext sk) (fu : Nat) {M M' : Mem} {r : Int × Int} (h : f_X11_sharing fu M = some (M', r)) : MetDq l yX11_sharing cX11_sharing 2 ({ frames := 30, cells := 0, slots := 0, locals := 994 } : Room) Γ sk [vr Γ 3] M M' r := by
  unfold f_X11_sharing at h
  refine MetDq_of RX11 rfl (by decide) rfl (Nat.le_of_ble_eq_true rfl) rfl ?_
  intro p e s m args below meth c C hr hlk hM
  have e3 := hsk 3 _ (by decide) rfl
  have e4 := hsk 4 _ (by decide) rfl
  have e34 := hsk 34 _ (by decide) rfl
  refine V_aload_n (pc := 0) C 0 rfl dX11_sharing_0 ?_
  refine V_getR (pc := 1) C e3 rfl inX11 3 (by decide) rfl lf_X11_24 rfl dX11_sharing_1 ?_
  refine V_iconst (pc := 4) C dX11_sharing_4 ?_
  obtain ⟨M1, r2, hc3, h⟩ := cal_of h
  refine V_callVI (pc := 5) C (c_X5_countReachedWithout l Γ sk hsk fu (by decide) hc3) cf_X5_countReachedWithout lk_X11_266 ⟨rfl, rfl⟩ ⟨Nat.le_of_ble_eq_true rfl, Nat.le_of_ble_eq_true rfl⟩ e34 rfl rfl rfl (Nat.le_of_ble_eq_true rfl) ⟨Nat.zero_le _, Nat.zero_le _⟩ rfl dX11_sharing_5 (fun hr2 => ?_)
  refine V_istore_n (pc := 8) C (L' := [(0, vr Γ 3), (1, vi r2)]) rfl (by decide) dX11_sharing_8 ?_
  refine V_iload_n (pc := 9) C 1 rfl dX11_sharing_9 ?_
  refine V_if_ne (pc := 10) C 17 hr2 dX11_sharing_10 (by decide) (fun c10_4 => ?_) (fun c10_4 => ?_)
  · have h := ite_f h c10_4
    refine V_aload_n (pc := 17) C 0 rfl dX11_sharing_17 ?_
    refine V_getR (pc := 18) C e3 rfl inX11 0 (by decide) rfl lf_X11_10 rfl dX11_sharing_18 ?_
    obtain ⟨M5, r6, hc7, h⟩ := cal_of h
    refine V_callVI (pc := 21) C (c_X8_countAllTrees l Γ sk hsk fu hc7) cf_X8_countAllTrees lk_X11_269 ⟨rfl, rfl⟩ ⟨Nat.le_of_ble_eq_true rfl, Nat.le_of_ble_eq_true rfl⟩ e4 rfl rfl rfl (Nat.le_of_ble_eq_true rfl) ⟨Nat.zero_le _, Nat.zero_le _⟩ rfl dX11_sharing_21 (fun hr6 => ?_)
    refine V_i2d (pc := 24) C dX11_sharing_24 ?_
    refine V_iload_n (pc := 25) C 1 rfl dX11_sharing_25 ?_
    refine V_i2d (pc := 26) C dX11_sharing_26 ?_
    obtain ⟨g8, h⟩ := grd_of h
    refine V_ddiv (pc := 27) C g8 dX11_sharing_27 ?_
    exact V_dret (pc := 28) C hr hlk h dX11_sharing_28
  · have h := ite_t h c10_4
    refine V_dconst0 (pc := 13) C dX11_sharing_13 ?_
    refine V_goto (pc := 14) C 28 dX11_sharing_14 (by decide) ?_
    exact V_dret (pc := 28) C hr hlk h dX11_sharing_28
set_option maxRecDepth 100000 in
set_option maxHeartbeats 4000000 in
theorem c_X11_garbagePart (l : Launch) (Γ : GG) (sk : List SD) (hsk : Ext sk) (fu : Nat) {M M' : Mem} {r : Int × Int} (h : f_X11_garbagePart fu M = some (M', r)) : MetFq l yX11_garbagePart cX11_garbagePart 2 ({ frames := 30, cells := 0, slots := 0, locals := 992 } : Room) Γ sk [vr Γ 3] M M' r := by
  unfold f_X11_garbagePart at h
  refine MetFq_of RX11 rfl (by decide) rfl (Nat.le_of_ble_eq_true rfl) rfl ?_
  intro p e s m args below meth c C hr hlk hM
  have e3 := hsk 3 _ (by decide) rfl
  have e4 := hsk 4 _ (by decide) rfl
  have e5 := hsk 5 _ (by decide) rfl
  have e34 := hsk 34 _ (by decide) rfl
  refine V_aload_n (pc := 0) C 0 rfl dX11_garbagePart_0 ?_
  refine V_getR (pc := 1) C e3 rfl inX11 0 (by decide) rfl lf_X11_10 rfl dX11_garbagePart_1 ?_
  refine V_getR (pc := 4) C e4 rfl inX8 0 (by decide) rfl lf_X11_198 rfl dX11_garbagePart_4 ?_
  obtain ⟨M1, r2, hc3, h⟩ := cal_of h
  refine V_callVI (pc := 7) C (c_X3_countStored l Γ sk hsk fu hc3) cf_X3_countStored lk_X11_207 ⟨rfl, rfl⟩ ⟨Nat.le_of_ble_eq_true rfl, Nat.le_of_ble_eq_true rfl⟩ e5 rfl rfl rfl (Nat.le_of_ble_eq_true rfl) ⟨Nat.zero_le _, Nat.zero_le _⟩ rfl dX11_garbagePart_7 (fun hr2 => ?_)
  refine V_istore_n (pc := 10) C (L' := [(0, vr Γ 3), (1, vi r2)]) rfl (by decide) dX11_garbagePart_10 ?_
  refine V_iload_n (pc := 11) C 1 rfl dX11_garbagePart_11 ?_
  refine V_if_ne (pc := 12) C 19 hr2 dX11_garbagePart_12 (by decide) (fun c12_4 => ?_) (fun c12_4 => ?_)
  · have h := ite_f h c12_4
    refine V_aload_n (pc := 19) C 0 rfl dX11_garbagePart_19 ?_
    refine V_getR (pc := 20) C e3 rfl inX11 3 (by decide) rfl lf_X11_24 rfl dX11_garbagePart_20 ?_
    obtain ⟨M5, r6, hc7, h⟩ := cal_of h
    refine V_callVI (pc := 23) C (c_X5_countGarbage l Γ sk hsk fu hc7) cf_X5_countGarbage lk_X11_210 ⟨rfl, rfl⟩ ⟨Nat.le_of_ble_eq_true rfl, Nat.le_of_ble_eq_true rfl⟩ e34 rfl rfl rfl (Nat.le_of_ble_eq_true rfl) ⟨Nat.zero_le _, Nat.zero_le _⟩ rfl dX11_garbagePart_23 (fun hr6 => ?_)
    refine V_i2f (pc := 26) C dX11_garbagePart_26 ?_
    refine V_iload_n (pc := 27) C 1 rfl dX11_garbagePart_27 ?_
    refine V_i2f (pc := 28) C dX11_garbagePart_28 ?_
    obtain ⟨g8, h⟩ := grd_of h
    refine V_fdiv (pc := 29) C g8 dX11_garbagePart_29 ?_
    exact V_fret (pc := 30) C hr hlk h dX11_garbagePart_30
  · have h := ite_t h c12_4
    refine V_fconst0 (pc := 15) C dX11_garbagePart_15 ?_
    refine V_goto (pc := 16) C 30 dX11_garbagePart_16 (by decide) ?_
    exact V_fret (pc := 30) C hr hlk h dX11_garbagePart_30
set_option maxRecDepth 100000 in
set_option maxHeartbeats 4000000 in
theorem c_X12_sharing (l : Launch) (Γ : GG) (sk : List SD) (hsk : ExtM sk) (fu : Nat) {M M' : Mem} {r : Int × Int} (h : f_X12_sharing fu M = some (M', r)) : MetDq l yX12_sharing cX12_sharing 4 ({ frames := 29, cells := 0, slots := 0, locals := 961 } : Room) Γ sk [vr Γ 52] M M' r := by
  unfold f_X12_sharing at h
  refine MetDq_of RX12 rfl (by decide) rfl (Nat.le_of_ble_eq_true rfl) rfl ?_
  intro p e s m args below meth c C hr hlk hM
  have e52 := hsk 52 _ (by decide) rfl
  have e53 := hsk 53 _ (by decide) rfl
  have e60 := hsk 60 _ (by decide) rfl
  have LP15 : ∀ (n : Nat) {x1 : Int} {x2 : Int} {x3 : Int} {M : Mem}, rng x1 → rng x2 → rng x3 → f_X12_sharing_L15 fu n x1 x2 x3 M = some (M', r) → VV p l e ({ frames := 29, cells := 0, slots := 0, locals := 961 } : Room) s m args below meth c (MQ below (PostD Γ sk M' r s.heap.size) args s 0 0 (Fr Γ sk s.heap.size)) 4 Γ sk M 0 0 15 [(0, vr Γ 52), (1, vi x1), (2, vi x2), (3, vi x3)] [] := by
    intro n
    induction n with
    | zero =>
      intro x1 x2 x3 M hx1 hx2 hx3 h
      cases h
    | succ n ih =>
      intro x1 x2 x3 M hx1 hx2 hx3 h
      rw [f_X12_sharing_L15] at h
      refine V_iload_n (pc := 15) C 3 rfl dX12_sharing_15 ?_
      refine V_aload_n (pc := 16) C 0 rfl dX12_sharing_16 ?_
      refine V_getR (pc := 17) C e52 rfl inX12 0 (by decide) rfl lf_X12_9 rfl dX12_sharing_17 ?_
      refine V_iconst (pc := 20) C dX12_sharing_20 ?_
      refine V_rng fun hM4 => ?_
      obtain ⟨g5, h⟩ := grd_of h
      refine V_iald (pc := 21) C e53 g5 (by decide) dX12_sharing_21 ?_
      refine V_icmp_ge (pc := 22) C 60 hx3 (hM4 _ _) dX12_sharing_22 (by decide) (fun c22_6 => ?_) (fun c22_6 => ?_)
      · have h := ite_t h c22_6
        refine V_iload_n (pc := 60) C 2 rfl dX12_sharing_60 ?_
        refine V_if_ne (pc := 61) C 68 hx2 dX12_sharing_61 (by decide) (fun c61_7 => ?_) (fun c61_7 => ?_)
        · have h := ite_f h c61_7
          refine V_iload_n (pc := 68) C 1 rfl dX12_sharing_68 ?_
          refine V_i2d (pc := 69) C dX12_sharing_69 ?_
          refine V_iload_n (pc := 70) C 2 rfl dX12_sharing_70 ?_
          refine V_i2d (pc := 71) C dX12_sharing_71 ?_
          obtain ⟨g8, h⟩ := grd_of h
          refine V_ddiv (pc := 72) C g8 dX12_sharing_72 ?_
          exact V_dret (pc := 73) C hr hlk h dX12_sharing_73
        · have h := ite_t h c61_7
          refine V_dconst0 (pc := 64) C dX12_sharing_64 ?_
          refine V_goto (pc := 65) C 73 dX12_sharing_65 (by decide) ?_
          exact V_dret (pc := 73) C hr hlk h dX12_sharing_73
      · have h := ite_f h c22_6
        refine V_iload_n (pc := 25) C 1 rfl dX12_sharing_25 ?_
        refine V_aload_n (pc := 26) C 0 rfl dX12_sharing_26 ?_
        refine V_getR (pc := 27) C e52 rfl inX12 11 (by decide) rfl lf_X12_32 rfl dX12_sharing_27 ?_
        refine V_iload_n (pc := 30) C 3 rfl dX12_sharing_30 ?_
        obtain ⟨g9, h⟩ := grd_of h
        refine V_iald (pc := 31) C e60 g9 hx3 dX12_sharing_31 ?_
        refine V_iadd (pc := 32) C dX12_sharing_32 ?_
        refine V_istore_n (pc := 33) C (L' := [(0, vr Γ 52), (1, vi (x1 + (M 60 (x3 : Int).toNat))), (2, vi x2), (3, vi x3)]) rfl (by decide) dX12_sharing_33 ?_
        refine V_iload_n (pc := 34) C 2 rfl dX12_sharing_34 ?_
        refine V_aload_n (pc := 35) C 0 rfl dX12_sharing_35 ?_
        refine V_getR (pc := 36) C e52 rfl inX12 11 (by decide) rfl lf_X12_32 rfl dX12_sharing_36 ?_
        refine V_iload_n (pc := 39) C 3 rfl dX12_sharing_39 ?_
        obtain ⟨g10, h⟩ := grd_of h
        refine V_iald (pc := 40) C e60 g10 hx3 dX12_sharing_40 ?_
        refine V_if_le (pc := 41) C 48 (hM4 _ _) dX12_sharing_41 (by decide) (fun c41_11 => ?_) (fun c41_11 => ?_)
        · have h := ite_t h c41_11
          refine V_iconst (pc := 48) C dX12_sharing_48 ?_
          obtain ⟨M12, r13, hc14, h⟩ := cal_of h
          refine V_callSI (pc := 49) C (c_X12_one l Γ sk hsk fu (by decide) hc14) cf_X12_one lk_X12_75 ⟨rfl, rfl⟩ ⟨Nat.le_of_ble_eq_true rfl, Nat.le_of_ble_eq_true rfl⟩ rfl (Nat.le_of_ble_eq_true rfl) ⟨Nat.zero_le _, Nat.zero_le _⟩ rfl dX12_sharing_49 (fun hr13 => ?_)
          refine V_iadd (pc := 52) C dX12_sharing_52 ?_
          refine V_istore_n (pc := 53) C (L' := [(0, vr Γ 52), (1, vi (x1 + (M 60 (x3 : Int).toNat))), (2, vi (x2 + r13)), (3, vi x3)]) rfl (by decide) dX12_sharing_53 ?_
          refine V_iinc (pc := 54) C (L' := [(0, vr Γ 52), (1, vi (x1 + (M 60 (x3 : Int).toNat))), (2, vi (x2 + r13)), (3, vi (x3 + (1 : Int)))]) 3 rfl rfl (by decide) dX12_sharing_54 ?_
          refine V_goto (pc := 57) C 15 dX12_sharing_57 (by decide) ?_
          obtain ⟨g15, h⟩ := grd_of h
          obtain ⟨g16, h⟩ := grd_of h
          obtain ⟨g17, h⟩ := grd_of h
          refine V_sub (L' := [(0, vr Γ 52), (1, vi (x1 + (M 60 (x3 : Int).toNat))), (2, vi (x2 + r13)), (3, vi (x3 + (1 : Int)))]) [0, 1, 2, 3] rfl (by decide) ?_
          exact ih g15 g16 g17 h
        · have h := ite_f h c41_11
          refine V_iconst (pc := 44) C dX12_sharing_44 ?_
          refine V_goto (pc := 45) C 49 dX12_sharing_45 (by decide) ?_
          obtain ⟨M18, r19, hc20, h⟩ := cal_of h
          refine V_callSI (pc := 49) C (c_X12_one l Γ sk hsk fu (by decide) hc20) cf_X12_one lk_X12_75 ⟨rfl, rfl⟩ ⟨Nat.le_of_ble_eq_true rfl, Nat.le_of_ble_eq_true rfl⟩ rfl (Nat.le_of_ble_eq_true rfl) ⟨Nat.zero_le _, Nat.zero_le _⟩ rfl dX12_sharing_49 (fun hr19 => ?_)
          refine V_iadd (pc := 52) C dX12_sharing_52 ?_
          refine V_istore_n (pc := 53) C (L' := [(0, vr Γ 52), (1, vi (x1 + (M 60 (x3 : Int).toNat))), (2, vi (x2 + r19)), (3, vi x3)]) rfl (by decide) dX12_sharing_53 ?_
          refine V_iinc (pc := 54) C (L' := [(0, vr Γ 52), (1, vi (x1 + (M 60 (x3 : Int).toNat))), (2, vi (x2 + r19)), (3, vi (x3 + (1 : Int)))]) 3 rfl rfl (by decide) dX12_sharing_54 ?_
          refine V_goto (pc := 57) C 15 dX12_sharing_57 (by decide) ?_
          obtain ⟨g21, h⟩ := grd_of h
          obtain ⟨g22, h⟩ := grd_of h
          obtain ⟨g23, h⟩ := grd_of h
          refine V_sub (L' := [(0, vr Γ 52), (1, vi (x1 + (M 60 (x3 : Int).toNat))), (2, vi (x2 + r19)), (3, vi (x3 + (1 : Int)))]) [0, 1, 2, 3] rfl (by decide) ?_
          exact ih g21 g22 g23 h
  refine V_aload_n (pc := 0) C 0 rfl dX12_sharing_0 ?_
  refine V_iconst (pc := 1) C dX12_sharing_1 ?_
  refine V_putI (pc := 2) C (by decide) e52 rfl inX12 tyX12 tyX12_ok nmX12 6 (by decide) rfl rfl lf_X12_58 rfl (by decide) rfl dX12_sharing_2 ?_
  refine V_aload_n (pc := 5) C 0 rfl dX12_sharing_5 ?_
  obtain ⟨M1, r2, hc3, h⟩ := cal_of h
  refine V_callVV (pc := 6) C (c_X12_reachAll l Γ sk hsk fu hc3) cf_X12_reachAll lk_X12_174 ⟨rfl, rfl⟩ ⟨Nat.le_of_ble_eq_true rfl, Nat.le_of_ble_eq_true rfl⟩ e52 rfl rfl rfl (Nat.le_of_ble_eq_true rfl) ⟨Nat.zero_le _, Nat.zero_le _⟩ rfl dX12_sharing_6 ?_
  refine V_iconst (pc := 9) C dX12_sharing_9 ?_
  refine V_istore_n (pc := 10) C (L' := [(0, vr Γ 52), (1, vi (0 : Int))]) rfl (by decide) dX12_sharing_10 ?_
  refine V_iconst (pc := 11) C dX12_sharing_11 ?_
  refine V_istore_n (pc := 12) C (L' := [(0, vr Γ 52), (1, vi (0 : Int)), (2, vi (0 : Int))]) rfl (by decide) dX12_sharing_12 ?_
  refine V_iconst (pc := 13) C dX12_sharing_13 ?_
  refine V_istore_n (pc := 14) C (L' := [(0, vr Γ 52), (1, vi (0 : Int)), (2, vi (0 : Int)), (3, vi (0 : Int))]) rfl (by decide) dX12_sharing_14 ?_
  refine V_sub (L' := [(0, vr Γ 52), (1, vi (0 : Int)), (2, vi (0 : Int)), (3, vi (0 : Int))]) [0, 1, 2, 3] rfl (by decide) ?_
  exact LP15 fu  (by decide) (by decide) (by decide) h
set_option maxRecDepth 100000 in
set_option maxHeartbeats 4000000 in
theorem c_X12_garbagePart (l : Launch) (Γ : GG) (sk : List SD) (hsk : ExtM sk) (fu : Nat) {M M' : Mem} {r : Int × Int} (h : f_X12_garbagePart fu M = some (M', r)) : MetFq l yX12_garbagePart cX12_garbagePart 3 ({ frames := 30, cells := 0, slots := 0, locals := 983 } : Room) Γ sk [vr Γ 52] M M' r := by
  unfold f_X12_garbagePart at h
  refine MetFq_of RX12 rfl (by decide) rfl (Nat.le_of_ble_eq_true rfl) rfl ?_
  intro p e s m args below meth c C hr hlk hM
  have e52 := hsk 52 _ (by decide) rfl
  refine V_aload_n (pc := 0) C 0 rfl dX12_garbagePart_0 ?_
  refine V_iconst (pc := 1) C dX12_garbagePart_1 ?_
  refine V_putI (pc := 2) C (by decide) e52 rfl inX12 tyX12 tyX12_ok nmX12 6 (by decide) rfl rfl lf_X12_58 rfl (by decide) rfl dX12_garbagePart_2 ?_
  refine V_aload_n (pc := 5) C 0 rfl dX12_garbagePart_5 ?_
  obtain ⟨M1, r2, hc3, h⟩ := cal_of h
  refine V_callVI (pc := 6) C (c_X12_countGarbage l Γ sk hsk fu hc3) cf_X12_countGarbage lk_X12_177 ⟨rfl, rfl⟩ ⟨Nat.le_of_ble_eq_true rfl, Nat.le_of_ble_eq_true rfl⟩ e52 rfl rfl rfl (Nat.le_of_ble_eq_true rfl) ⟨Nat.zero_le _, Nat.zero_le _⟩ rfl dX12_garbagePart_6 (fun hr2 => ?_)
  refine V_istore_n (pc := 9) C (L' := [(0, vr Γ 52), (1, vi r2)]) rfl (by decide) dX12_garbagePart_9 ?_
  refine V_aload_n (pc := 10) C 0 rfl dX12_garbagePart_10 ?_
  obtain ⟨M4, r5, hc6, h⟩ := cal_of h
  refine V_callVI (pc := 11) C (c_X12_countStored l Γ sk hsk fu hc6) cf_X12_countStored lk_X12_349 ⟨rfl, rfl⟩ ⟨Nat.le_of_ble_eq_true rfl, Nat.le_of_ble_eq_true rfl⟩ e52 rfl rfl rfl (Nat.le_of_ble_eq_true rfl) ⟨Nat.zero_le _, Nat.zero_le _⟩ rfl dX12_garbagePart_11 (fun hr5 => ?_)
  refine V_istore_n (pc := 14) C (L' := [(0, vr Γ 52), (1, vi r2), (2, vi r5)]) rfl (by decide) dX12_garbagePart_14 ?_
  refine V_iload_n (pc := 15) C 2 rfl dX12_garbagePart_15 ?_
  refine V_if_ne (pc := 16) C 23 hr5 dX12_garbagePart_16 (by decide) (fun c16_7 => ?_) (fun c16_7 => ?_)
  · have h := ite_f h c16_7
    refine V_iload_n (pc := 23) C 1 rfl dX12_garbagePart_23 ?_
    refine V_i2f (pc := 24) C dX12_garbagePart_24 ?_
    refine V_iload_n (pc := 25) C 2 rfl dX12_garbagePart_25 ?_
    refine V_i2f (pc := 26) C dX12_garbagePart_26 ?_
    obtain ⟨g8, h⟩ := grd_of h
    refine V_fdiv (pc := 27) C g8 dX12_garbagePart_27 ?_
    exact V_fret (pc := 28) C hr hlk h dX12_garbagePart_28
  · have h := ite_t h c16_7
    refine V_fconst0 (pc := 19) C dX12_garbagePart_19 ?_
    refine V_goto (pc := 20) C 28 dX12_garbagePart_20 (by decide) ?_
    exact V_fret (pc := 28) C hr hlk h dX12_garbagePart_28
