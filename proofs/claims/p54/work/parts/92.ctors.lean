/-! the constructors that call no other method -/
theorem N_eq {p : Program} {l : Launch} {e : Env} {R : Room} {s : State} {m : MethodId} {args : Array Value} {below : List Frame} {meth : Method} {c : Code} {Q : State → Prop} {nL lo : Nat} {D : va_G} {ps ps2 : List PD} {cells slots pc : Nat} {L : List (Nat × Value)} {st : List Value} (h : ps = ps2) (k : NN p l e R s m args below meth c Q nL D lo ps2 cells slots pc L st) : NN p l e R s m args below meth c Q nL D lo ps cells slots pc L st := by rw [h]; exact k
theorem oi_inst : Cond.instanceMethod Lib.objectInit ∈ wsA := tb_1 (List.mem_of_getElem? (i := 37) (by decide +kernel)) (by decide +kernel)
theorem oi_code : Cond.code Lib.objectInit ⟨#[0xb1]⟩ 1 none ∈ wsA := tb_1 (List.mem_of_getElem? (i := 38) (by decide +kernel)) (by decide +kernel)
theorem oi_X3_3 : Cond.methodLink RX3 3 Lib.objectInit ∈ wsA := tb_1 (List.mem_of_getElem? (i := 50) (by decide +kernel)) (by decide +kernel)
theorem acn_int : Cond.arrayClass FieldType.int ∈ wsA := tb_1 (List.mem_of_getElem? (i := 73) (by decide +kernel)) (by decide +kernel)
theorem acn_boolean : Cond.arrayClass FieldType.boolean ∈ wsA := tb_1 (List.mem_of_getElem? (i := 74) (by decide +kernel)) (by decide +kernel)
theorem oi_X10_3 : Cond.methodLink RX10 3 Lib.objectInit ∈ wsA := tb_1 (List.mem_of_getElem? (i := 80) (by decide +kernel)) (by decide +kernel)
theorem oi_X8_3 : Cond.methodLink RX8 3 Lib.objectInit ∈ wsA := tb_1 (List.mem_of_getElem? (i := 44) (by decide +kernel)) (by decide +kernel)
theorem cn_X8_9 : Cond.classLink RX8 9 RX3 ∈ wsA := tb_1 (List.mem_of_getElem? (i := 45) (by decide +kernel)) (by decide +kernel)
theorem ci_X3 : Cond.instantiable RX3 5 ∈ wsA := tb_1 (List.mem_of_getElem? (i := 46) (by decide +kernel)) (by decide +kernel)
theorem cz_X3 : Cond.initialized RX3 ∈ wsA := tb_1 (List.mem_of_getElem? (i := 3) (by decide +kernel)) (by decide +kernel)
theorem ln_X8_11 : (RX8, 11, yX3_init, "VectorVersions") ∈ nestL := List.mem_of_getElem? (i := 1) (by decide +kernel)
theorem cfi_X3_init : CalI yX3_init cX3_init 1 0 := ⟨tb_1 (List.mem_of_getElem? (i := 48) (by decide +kernel)) (by decide +kernel), tb_1 (List.mem_of_getElem? (i := 3) (by decide +kernel)) (by decide +kernel), tb_1 (List.mem_of_getElem? (i := 49) (by decide +kernel)) (by decide +kernel), rfl, by decide +kernel, by decide +kernel, by decide +kernel⟩
theorem cn_X8_18 : Cond.classLink RX8 18 RX10 ∈ wsA := tb_1 (List.mem_of_getElem? (i := 75) (by decide +kernel)) (by decide +kernel)
theorem ci_X10 : Cond.instantiable RX10 9 ∈ wsA := tb_1 (List.mem_of_getElem? (i := 76) (by decide +kernel)) (by decide +kernel)
theorem cz_X10 : Cond.initialized RX10 ∈ wsA := tb_1 (List.mem_of_getElem? (i := 4) (by decide +kernel)) (by decide +kernel)
theorem ln_X8_20 : (RX8, 20, yX10_init, "VectorVersions") ∈ nestL := List.mem_of_getElem? (i := 2) (by decide +kernel)
theorem cfi_X10_init : CalI yX10_init cX10_init 1 0 := ⟨tb_1 (List.mem_of_getElem? (i := 78) (by decide +kernel)) (by decide +kernel), tb_1 (List.mem_of_getElem? (i := 4) (by decide +kernel)) (by decide +kernel), tb_1 (List.mem_of_getElem? (i := 79) (by decide +kernel)) (by decide +kernel), rfl, by decide +kernel, by decide +kernel, by decide +kernel⟩
theorem oi_X5_3 : Cond.methodLink RX5 3 Lib.objectInit ∈ wsA := tb_1 (List.mem_of_getElem? (i := 134) (by decide +kernel)) (by decide +kernel)
theorem oi_X0_3 : Cond.methodLink RX0 3 Lib.objectInit ∈ wsA := tb_1 (List.mem_of_getElem? (i := 147) (by decide +kernel)) (by decide +kernel)
theorem oi_X1_3 : Cond.methodLink RX1 3 Lib.objectInit ∈ wsA := tb_1 (List.mem_of_getElem? (i := 163) (by decide +kernel)) (by decide +kernel)
theorem oi_X2_3 : Cond.methodLink RX2 3 Lib.objectInit ∈ wsA := tb_1 (List.mem_of_getElem? (i := 188) (by decide +kernel)) (by decide +kernel)
theorem oi_X9_3 : Cond.methodLink RX9 3 Lib.objectInit ∈ wsA := tb_1 (List.mem_of_getElem? (i := 203) (by decide +kernel)) (by decide +kernel)
theorem oi_X7_3 : Cond.methodLink RX7 3 Lib.objectInit ∈ wsA := tb_1 (List.mem_of_getElem? (i := 237) (by decide +kernel)) (by decide +kernel)
theorem oi_X6_3 : Cond.methodLink RX6 3 Lib.objectInit ∈ wsA := tb_2 (List.mem_of_getElem? (i := 21) (by decide +kernel)) (by decide +kernel)
theorem lf_X6_11 : Cond.fieldLink RX6 11 "VectorVersions$Script" "cells" "[I" ∈ wsA := tb_2 (List.mem_of_getElem? (i := 23) (by decide +kernel)) (by decide +kernel)
theorem lf_X6_15 : Cond.fieldLink RX6 15 "VectorVersions$Script" "tokens" "LVectorVersions$Tokens;" ∈ wsA := tb_2 (List.mem_of_getElem? (i := 22) (by decide +kernel)) (by decide +kernel)
theorem oi_X4_3 : Cond.methodLink RX4 3 Lib.objectInit ∈ wsA := tb_2 (List.mem_of_getElem? (i := 42) (by decide +kernel)) (by decide +kernel)
theorem lf_X4_9 : Cond.fieldLink RX4 9 "VectorVersions$Output" "bytes" "[I" ∈ wsA := tb_2 (List.mem_of_getElem? (i := 43) (by decide +kernel)) (by decide +kernel)
theorem oi_X11_1 : Cond.methodLink RX11 1 Lib.objectInit ∈ wsA := tb_1 (List.mem_of_getElem? (i := 36) (by decide +kernel)) (by decide +kernel)
theorem cn_X11_7 : Cond.classLink RX11 7 RX8 ∈ wsA := tb_1 (List.mem_of_getElem? (i := 39) (by decide +kernel)) (by decide +kernel)
theorem ci_X8 : Cond.instantiable RX8 2 ∈ wsA := tb_1 (List.mem_of_getElem? (i := 40) (by decide +kernel)) (by decide +kernel)
theorem cz_X8 : Cond.initialized RX8 ∈ wsA := tb_1 (List.mem_of_getElem? (i := 2) (by decide +kernel)) (by decide +kernel)
theorem ln_X11_9 : (RX11, 9, yX8_init, "VectorVersions") ∈ nestL := List.mem_of_getElem? (i := 0) (by decide +kernel)
theorem cfi_X8_init : CalI yX8_init cX8_init 1 0 := ⟨tb_1 (List.mem_of_getElem? (i := 42) (by decide +kernel)) (by decide +kernel), tb_1 (List.mem_of_getElem? (i := 2) (by decide +kernel)) (by decide +kernel), tb_1 (List.mem_of_getElem? (i := 43) (by decide +kernel)) (by decide +kernel), rfl, by decide +kernel, by decide +kernel, by decide +kernel⟩
theorem lf_X11_16 : Cond.fieldLink RX11 16 "VectorVersions" "savedStore" "LVectorVersions$Store;" ∈ wsA := tb_2 (List.mem_of_getElem? (i := 110) (by decide +kernel)) (by decide +kernel)
theorem cn_X11_19 : Cond.classLink RX11 19 RX5 ∈ wsA := tb_1 (List.mem_of_getElem? (i := 129) (by decide +kernel)) (by decide +kernel)
theorem ci_X5 : Cond.instantiable RX5 2 ∈ wsA := tb_1 (List.mem_of_getElem? (i := 130) (by decide +kernel)) (by decide +kernel)
theorem cz_X5 : Cond.initialized RX5 ∈ wsA := tb_1 (List.mem_of_getElem? (i := 5) (by decide +kernel)) (by decide +kernel)
theorem lk_X11_21 : Cond.methodLink RX11 21 yX5_init ∈ wsA := tb_1 (List.mem_of_getElem? (i := 131) (by decide +kernel)) (by decide +kernel)
theorem cfi_X5_init : CalI yX5_init cX5_init 2 1 := ⟨tb_1 (List.mem_of_getElem? (i := 132) (by decide +kernel)) (by decide +kernel), tb_1 (List.mem_of_getElem? (i := 5) (by decide +kernel)) (by decide +kernel), tb_1 (List.mem_of_getElem? (i := 133) (by decide +kernel)) (by decide +kernel), rfl, by decide +kernel, by decide +kernel, by decide +kernel⟩
theorem cn_X11_28 : Cond.classLink RX11 28 RX0 ∈ wsA := tb_1 (List.mem_of_getElem? (i := 142) (by decide +kernel)) (by decide +kernel)
theorem ci_X0 : Cond.instantiable RX0 3 ∈ wsA := tb_1 (List.mem_of_getElem? (i := 143) (by decide +kernel)) (by decide +kernel)
theorem cz_X0 : Cond.initialized RX0 ∈ wsA := tb_1 (List.mem_of_getElem? (i := 6) (by decide +kernel)) (by decide +kernel)
theorem lk_X11_30 : Cond.methodLink RX11 30 yX0_init ∈ wsA := tb_1 (List.mem_of_getElem? (i := 144) (by decide +kernel)) (by decide +kernel)
theorem cfi_X0_init : CalI yX0_init cX0_init 3 2 := ⟨tb_1 (List.mem_of_getElem? (i := 145) (by decide +kernel)) (by decide +kernel), tb_1 (List.mem_of_getElem? (i := 6) (by decide +kernel)) (by decide +kernel), tb_1 (List.mem_of_getElem? (i := 146) (by decide +kernel)) (by decide +kernel), rfl, by decide +kernel, by decide +kernel, by decide +kernel⟩
theorem cn_X11_37 : Cond.classLink RX11 37 RX1 ∈ wsA := tb_1 (List.mem_of_getElem? (i := 158) (by decide +kernel)) (by decide +kernel)
theorem ci_X1 : Cond.instantiable RX1 6 ∈ wsA := tb_1 (List.mem_of_getElem? (i := 159) (by decide +kernel)) (by decide +kernel)
theorem cz_X1 : Cond.initialized RX1 ∈ wsA := tb_1 (List.mem_of_getElem? (i := 7) (by decide +kernel)) (by decide +kernel)
theorem ln_X11_39 : (RX11, 39, yX1_init, "VectorVersions") ∈ nestL := List.mem_of_getElem? (i := 3) (by decide +kernel)
theorem cfi_X1_init : CalI yX1_init cX1_init 1 0 := ⟨tb_1 (List.mem_of_getElem? (i := 161) (by decide +kernel)) (by decide +kernel), tb_1 (List.mem_of_getElem? (i := 7) (by decide +kernel)) (by decide +kernel), tb_1 (List.mem_of_getElem? (i := 162) (by decide +kernel)) (by decide +kernel), rfl, by decide +kernel, by decide +kernel, by decide +kernel⟩
theorem cn_X11_44 : Cond.classLink RX11 44 RX2 ∈ wsA := tb_1 (List.mem_of_getElem? (i := 183) (by decide +kernel)) (by decide +kernel)
theorem ci_X2 : Cond.instantiable RX2 2 ∈ wsA := tb_1 (List.mem_of_getElem? (i := 184) (by decide +kernel)) (by decide +kernel)
theorem cz_X2 : Cond.initialized RX2 ∈ wsA := tb_1 (List.mem_of_getElem? (i := 8) (by decide +kernel)) (by decide +kernel)
theorem ln_X11_46 : (RX11, 46, yX2_init, "VectorVersions") ∈ nestL := List.mem_of_getElem? (i := 4) (by decide +kernel)
theorem cfi_X2_init : CalI yX2_init cX2_init 1 0 := ⟨tb_1 (List.mem_of_getElem? (i := 186) (by decide +kernel)) (by decide +kernel), tb_1 (List.mem_of_getElem? (i := 8) (by decide +kernel)) (by decide +kernel), tb_1 (List.mem_of_getElem? (i := 187) (by decide +kernel)) (by decide +kernel), rfl, by decide +kernel, by decide +kernel, by decide +kernel⟩
theorem cn_X11_51 : Cond.classLink RX11 51 RX9 ∈ wsA := tb_1 (List.mem_of_getElem? (i := 198) (by decide +kernel)) (by decide +kernel)
theorem ci_X9 : Cond.instantiable RX9 8 ∈ wsA := tb_1 (List.mem_of_getElem? (i := 199) (by decide +kernel)) (by decide +kernel)
theorem cz_X9 : Cond.initialized RX9 ∈ wsA := tb_1 (List.mem_of_getElem? (i := 9) (by decide +kernel)) (by decide +kernel)
theorem lk_X11_53 : Cond.methodLink RX11 53 yX9_init ∈ wsA := tb_1 (List.mem_of_getElem? (i := 200) (by decide +kernel)) (by decide +kernel)
theorem cfi_X9_init : CalI yX9_init cX9_init 2 1 := ⟨tb_1 (List.mem_of_getElem? (i := 201) (by decide +kernel)) (by decide +kernel), tb_1 (List.mem_of_getElem? (i := 9) (by decide +kernel)) (by decide +kernel), tb_1 (List.mem_of_getElem? (i := 202) (by decide +kernel)) (by decide +kernel), rfl, by decide +kernel, by decide +kernel, by decide +kernel⟩
theorem lf_X11_56 : Cond.fieldLink RX11 56 "VectorVersions" "tokens" "LVectorVersions$Tokens;" ∈ wsA := tb_2 (List.mem_of_getElem? (i := 116) (by decide +kernel)) (by decide +kernel)
theorem cn_X11_60 : Cond.classLink RX11 60 RX7 ∈ wsA := tb_1 (List.mem_of_getElem? (i := 232) (by decide +kernel)) (by decide +kernel)
theorem ci_X7 : Cond.instantiable RX7 5 ∈ wsA := tb_1 (List.mem_of_getElem? (i := 233) (by decide +kernel)) (by decide +kernel)
theorem cz_X7 : Cond.initialized RX7 ∈ wsA := tb_1 (List.mem_of_getElem? (i := 10) (by decide +kernel)) (by decide +kernel)
theorem lk_X11_62 : Cond.methodLink RX11 62 yX7_init ∈ wsA := tb_1 (List.mem_of_getElem? (i := 234) (by decide +kernel)) (by decide +kernel)
theorem cfi_X7_init : CalI yX7_init cX7_init 2 1 := ⟨tb_1 (List.mem_of_getElem? (i := 235) (by decide +kernel)) (by decide +kernel), tb_1 (List.mem_of_getElem? (i := 10) (by decide +kernel)) (by decide +kernel), tb_1 (List.mem_of_getElem? (i := 236) (by decide +kernel)) (by decide +kernel), rfl, by decide +kernel, by decide +kernel, by decide +kernel⟩
theorem cn_X11_69 : Cond.classLink RX11 69 RX6 ∈ wsA := tb_2 (List.mem_of_getElem? (i := 16) (by decide +kernel)) (by decide +kernel)
theorem ci_X6 : Cond.instantiable RX6 6 ∈ wsA := tb_2 (List.mem_of_getElem? (i := 17) (by decide +kernel)) (by decide +kernel)
theorem cz_X6 : Cond.initialized RX6 ∈ wsA := tb_1 (List.mem_of_getElem? (i := 11) (by decide +kernel)) (by decide +kernel)
theorem lk_X11_71 : Cond.methodLink RX11 71 yX6_init ∈ wsA := tb_2 (List.mem_of_getElem? (i := 18) (by decide +kernel)) (by decide +kernel)
theorem cfi_X6_init : CalI yX6_init cX6_init 2 1 := ⟨tb_2 (List.mem_of_getElem? (i := 19) (by decide +kernel)) (by decide +kernel), tb_1 (List.mem_of_getElem? (i := 11) (by decide +kernel)) (by decide +kernel), tb_2 (List.mem_of_getElem? (i := 20) (by decide +kernel)) (by decide +kernel), rfl, by decide +kernel, by decide +kernel, by decide +kernel⟩
theorem lf_X11_72 : Cond.fieldLink RX11 72 "VectorVersions" "script" "LVectorVersions$Script;" ∈ wsA := tb_2 (List.mem_of_getElem? (i := 118) (by decide +kernel)) (by decide +kernel)
theorem cn_X11_76 : Cond.classLink RX11 76 RX4 ∈ wsA := tb_2 (List.mem_of_getElem? (i := 37) (by decide +kernel)) (by decide +kernel)
theorem ci_X4 : Cond.instantiable RX4 2 ∈ wsA := tb_2 (List.mem_of_getElem? (i := 38) (by decide +kernel)) (by decide +kernel)
theorem cz_X4 : Cond.initialized RX4 ∈ wsA := tb_1 (List.mem_of_getElem? (i := 12) (by decide +kernel)) (by decide +kernel)
theorem ln_X11_78 : (RX11, 78, yX4_init, "VectorVersions") ∈ nestL := List.mem_of_getElem? (i := 5) (by decide +kernel)
theorem cfi_X4_init : CalI yX4_init cX4_init 1 0 := ⟨tb_2 (List.mem_of_getElem? (i := 40) (by decide +kernel)) (by decide +kernel), tb_1 (List.mem_of_getElem? (i := 12) (by decide +kernel)) (by decide +kernel), tb_2 (List.mem_of_getElem? (i := 41) (by decide +kernel)) (by decide +kernel), rfl, by decide +kernel, by decide +kernel, by decide +kernel⟩
theorem lf_X11_79 : Cond.fieldLink RX11 79 "VectorVersions" "output" "LVectorVersions$Output;" ∈ wsA := tb_2 (List.mem_of_getElem? (i := 119) (by decide +kernel)) (by decide +kernel)
set_option maxRecDepth 100000 in
set_option maxHeartbeats 4000000 in
theorem c_N_X3 (l : Launch) (D : va_G) (lo : Nat) : MetN l yX3_init cX3_init 1 ({ frames := 1, cells := 4, slots := 966, locals := 60 } : Room) D [.ref lo] lo (.inr (5, [.int 0, .null, .null, .null, .null])) [.inr (5, [.int 0, .ref (lo + 1), .ref (lo + 2), .ref (lo + 3), .ref (lo + 4)]), .inl (0, 138), .inl (0, 138), .inl (0, 552), .inl (1, 138)] := by
  refine MetN_of RX3 rfl rfl (by decide) rfl (Nat.le_of_ble_eq_true rfl) rfl ?_
  intro p e s m args below meth c C hr hlk hin
  refine N_aload_n (pc := 0) C 0 rfl dX3_init_0 ?_
  refine N_obj (pc := 1) C oi_X3_3 oi_inst oi_code dX3_init_1 ⟨Nat.le_of_ble_eq_true rfl, Nat.le_of_ble_eq_true rfl⟩ ?_
  refine N_aload_n (pc := 4) C 0 rfl dX3_init_4 ?_
  refine N_sipush (pc := 5) C dX3_init_5 rfl ?_
  refine N_newa (atype := .int) (pc := 8) C 0 138 rfl (fun _ => rfl) acn_int (by decide) (q := 1) rfl ⟨Nat.le_of_ble_eq_true rfl, Nat.le_of_ble_eq_true rfl⟩ dX3_init_8 ?_
  refine N_eq (ps2 := [.inr (5, [.int 0, .null, .null, .null, .null]), .inl (0, 138)]) rfl ?_
  refine N_put (pc := 10) C hin (q := 0) rfl rfl inX3 tyX3 tyX3_ok nmX3 1 (by decide) rfl lf_X3_9 rfl (tyX3_ok 1 (by decide)) rfl rfl (Nat.le_of_ble_eq_true rfl) (ps' := [.inr (5, [.int 0, .ref (lo + 1), .null, .null, .null]), .inl (0, 138)]) rfl dX3_init_10 ?_
  refine N_aload_n (pc := 13) C 0 rfl dX3_init_13 ?_
  refine N_sipush (pc := 14) C dX3_init_14 rfl ?_
  refine N_newa (atype := .int) (pc := 17) C 0 138 rfl (fun _ => rfl) acn_int (by decide) (q := 2) rfl ⟨Nat.le_of_ble_eq_true rfl, Nat.le_of_ble_eq_true rfl⟩ dX3_init_17 ?_
  refine N_eq (ps2 := [.inr (5, [.int 0, .ref (lo + 1), .null, .null, .null]), .inl (0, 138), .inl (0, 138)]) rfl ?_
  refine N_put (pc := 19) C hin (q := 0) rfl rfl inX3 tyX3 tyX3_ok nmX3 2 (by decide) rfl lf_X3_15 rfl (tyX3_ok 2 (by decide)) rfl rfl (Nat.le_of_ble_eq_true rfl) (ps' := [.inr (5, [.int 0, .ref (lo + 1), .ref (lo + 2), .null, .null]), .inl (0, 138), .inl (0, 138)]) rfl dX3_init_19 ?_
  refine N_aload_n (pc := 22) C 0 rfl dX3_init_22 ?_
  refine N_sipush (pc := 23) C dX3_init_23 rfl ?_
  refine N_newa (atype := .int) (pc := 26) C 0 552 rfl (fun _ => rfl) acn_int (by decide) (q := 3) rfl ⟨Nat.le_of_ble_eq_true rfl, Nat.le_of_ble_eq_true rfl⟩ dX3_init_26 ?_
  refine N_eq (ps2 := [.inr (5, [.int 0, .ref (lo + 1), .ref (lo + 2), .null, .null]), .inl (0, 138), .inl (0, 138), .inl (0, 552)]) rfl ?_
  refine N_put (pc := 28) C hin (q := 0) rfl rfl inX3 tyX3 tyX3_ok nmX3 3 (by decide) rfl lf_X3_18 rfl (tyX3_ok 3 (by decide)) rfl rfl (Nat.le_of_ble_eq_true rfl) (ps' := [.inr (5, [.int 0, .ref (lo + 1), .ref (lo + 2), .ref (lo + 3), .null]), .inl (0, 138), .inl (0, 138), .inl (0, 552)]) rfl dX3_init_28 ?_
  refine N_aload_n (pc := 31) C 0 rfl dX3_init_31 ?_
  refine N_sipush (pc := 32) C dX3_init_32 rfl ?_
  refine N_newa (atype := .boolean) (pc := 35) C 1 138 rfl (fun _ => rfl) acn_boolean (by decide) (q := 4) rfl ⟨Nat.le_of_ble_eq_true rfl, Nat.le_of_ble_eq_true rfl⟩ dX3_init_35 ?_
  refine N_eq (ps2 := [.inr (5, [.int 0, .ref (lo + 1), .ref (lo + 2), .ref (lo + 3), .null]), .inl (0, 138), .inl (0, 138), .inl (0, 552), .inl (1, 138)]) rfl ?_
  refine N_put (pc := 37) C hin (q := 0) rfl rfl inX3 tyX3 tyX3_ok nmX3 4 (by decide) rfl lf_X3_21 rfl (tyX3_ok 4 (by decide)) rfl rfl (Nat.le_of_ble_eq_true rfl) (ps' := [.inr (5, [.int 0, .ref (lo + 1), .ref (lo + 2), .ref (lo + 3), .ref (lo + 4)]), .inl (0, 138), .inl (0, 138), .inl (0, 552), .inl (1, 138)]) rfl dX3_init_37 ?_
  exact N_ret (pc := 40) C hr hlk rfl dX3_init_40
set_option maxRecDepth 100000 in
set_option maxHeartbeats 4000000 in
theorem c_N_X10 (l : Launch) (D : va_G) (lo : Nat) : MetN l yX10_init cX10_init 1 ({ frames := 1, cells := 8, slots := 344, locals := 60 } : Room) D [.ref lo] lo (.inr (12, [.int 0, .null, .null, .null, .null, .null, .null, .null, .null])) [.inr (12, [.int 0, .ref (lo + 1), .ref (lo + 2), .ref (lo + 3), .ref (lo + 4), .ref (lo + 5), .ref (lo + 6), .ref (lo + 7), .ref (lo + 8)]), .inl (0, 40), .inl (0, 40), .inl (0, 40), .inl (0, 40), .inl (0, 40), .inl (0, 40), .inl (0, 64), .inl (1, 40)] := by
  refine MetN_of RX10 rfl rfl (by decide) rfl (Nat.le_of_ble_eq_true rfl) rfl ?_
  intro p e s m args below meth c C hr hlk hin
  refine N_aload_n (pc := 0) C 0 rfl dX10_init_0 ?_
  refine N_obj (pc := 1) C oi_X10_3 oi_inst oi_code dX10_init_1 ⟨Nat.le_of_ble_eq_true rfl, Nat.le_of_ble_eq_true rfl⟩ ?_
  refine N_aload_n (pc := 4) C 0 rfl dX10_init_4 ?_
  refine N_bipush (pc := 5) C dX10_init_5 rfl ?_
  refine N_newa (atype := .int) (pc := 7) C 0 40 rfl (fun _ => rfl) acn_int (by decide) (q := 1) rfl ⟨Nat.le_of_ble_eq_true rfl, Nat.le_of_ble_eq_true rfl⟩ dX10_init_7 ?_
  refine N_eq (ps2 := [.inr (12, [.int 0, .null, .null, .null, .null, .null, .null, .null, .null]), .inl (0, 40)]) rfl ?_
  refine N_put (pc := 9) C hin (q := 0) rfl rfl inX10 tyX10 tyX10_ok nmX10 1 (by decide) rfl lf_X10_9 rfl (tyX10_ok 1 (by decide)) rfl rfl (Nat.le_of_ble_eq_true rfl) (ps' := [.inr (12, [.int 0, .ref (lo + 1), .null, .null, .null, .null, .null, .null, .null]), .inl (0, 40)]) rfl dX10_init_9 ?_
  refine N_aload_n (pc := 12) C 0 rfl dX10_init_12 ?_
  refine N_bipush (pc := 13) C dX10_init_13 rfl ?_
  refine N_newa (atype := .int) (pc := 15) C 0 40 rfl (fun _ => rfl) acn_int (by decide) (q := 2) rfl ⟨Nat.le_of_ble_eq_true rfl, Nat.le_of_ble_eq_true rfl⟩ dX10_init_15 ?_
  refine N_eq (ps2 := [.inr (12, [.int 0, .ref (lo + 1), .null, .null, .null, .null, .null, .null, .null]), .inl (0, 40), .inl (0, 40)]) rfl ?_
  refine N_put (pc := 17) C hin (q := 0) rfl rfl inX10 tyX10 tyX10_ok nmX10 2 (by decide) rfl lf_X10_15 rfl (tyX10_ok 2 (by decide)) rfl rfl (Nat.le_of_ble_eq_true rfl) (ps' := [.inr (12, [.int 0, .ref (lo + 1), .ref (lo + 2), .null, .null, .null, .null, .null, .null]), .inl (0, 40), .inl (0, 40)]) rfl dX10_init_17 ?_
  refine N_aload_n (pc := 20) C 0 rfl dX10_init_20 ?_
  refine N_bipush (pc := 21) C dX10_init_21 rfl ?_
  refine N_newa (atype := .int) (pc := 23) C 0 40 rfl (fun _ => rfl) acn_int (by decide) (q := 3) rfl ⟨Nat.le_of_ble_eq_true rfl, Nat.le_of_ble_eq_true rfl⟩ dX10_init_23 ?_
  refine N_eq (ps2 := [.inr (12, [.int 0, .ref (lo + 1), .ref (lo + 2), .null, .null, .null, .null, .null, .null]), .inl (0, 40), .inl (0, 40), .inl (0, 40)]) rfl ?_
  refine N_put (pc := 25) C hin (q := 0) rfl rfl inX10 tyX10 tyX10_ok nmX10 3 (by decide) rfl lf_X10_18 rfl (tyX10_ok 3 (by decide)) rfl rfl (Nat.le_of_ble_eq_true rfl) (ps' := [.inr (12, [.int 0, .ref (lo + 1), .ref (lo + 2), .ref (lo + 3), .null, .null, .null, .null, .null]), .inl (0, 40), .inl (0, 40), .inl (0, 40)]) rfl dX10_init_25 ?_
  refine N_aload_n (pc := 28) C 0 rfl dX10_init_28 ?_
  refine N_bipush (pc := 29) C dX10_init_29 rfl ?_
  refine N_newa (atype := .int) (pc := 31) C 0 40 rfl (fun _ => rfl) acn_int (by decide) (q := 4) rfl ⟨Nat.le_of_ble_eq_true rfl, Nat.le_of_ble_eq_true rfl⟩ dX10_init_31 ?_
  refine N_eq (ps2 := [.inr (12, [.int 0, .ref (lo + 1), .ref (lo + 2), .ref (lo + 3), .null, .null, .null, .null, .null]), .inl (0, 40), .inl (0, 40), .inl (0, 40), .inl (0, 40)]) rfl ?_
  refine N_put (pc := 33) C hin (q := 0) rfl rfl inX10 tyX10 tyX10_ok nmX10 4 (by decide) rfl lf_X10_21 rfl (tyX10_ok 4 (by decide)) rfl rfl (Nat.le_of_ble_eq_true rfl) (ps' := [.inr (12, [.int 0, .ref (lo + 1), .ref (lo + 2), .ref (lo + 3), .ref (lo + 4), .null, .null, .null, .null]), .inl (0, 40), .inl (0, 40), .inl (0, 40), .inl (0, 40)]) rfl dX10_init_33 ?_
  refine N_aload_n (pc := 36) C 0 rfl dX10_init_36 ?_
  refine N_bipush (pc := 37) C dX10_init_37 rfl ?_
  refine N_newa (atype := .int) (pc := 39) C 0 40 rfl (fun _ => rfl) acn_int (by decide) (q := 5) rfl ⟨Nat.le_of_ble_eq_true rfl, Nat.le_of_ble_eq_true rfl⟩ dX10_init_39 ?_
  refine N_eq (ps2 := [.inr (12, [.int 0, .ref (lo + 1), .ref (lo + 2), .ref (lo + 3), .ref (lo + 4), .null, .null, .null, .null]), .inl (0, 40), .inl (0, 40), .inl (0, 40), .inl (0, 40), .inl (0, 40)]) rfl ?_
  refine N_put (pc := 41) C hin (q := 0) rfl rfl inX10 tyX10 tyX10_ok nmX10 5 (by decide) rfl lf_X10_24 rfl (tyX10_ok 5 (by decide)) rfl rfl (Nat.le_of_ble_eq_true rfl) (ps' := [.inr (12, [.int 0, .ref (lo + 1), .ref (lo + 2), .ref (lo + 3), .ref (lo + 4), .ref (lo + 5), .null, .null, .null]), .inl (0, 40), .inl (0, 40), .inl (0, 40), .inl (0, 40), .inl (0, 40)]) rfl dX10_init_41 ?_
  refine N_aload_n (pc := 44) C 0 rfl dX10_init_44 ?_
  refine N_bipush (pc := 45) C dX10_init_45 rfl ?_
  refine N_newa (atype := .int) (pc := 47) C 0 40 rfl (fun _ => rfl) acn_int (by decide) (q := 6) rfl ⟨Nat.le_of_ble_eq_true rfl, Nat.le_of_ble_eq_true rfl⟩ dX10_init_47 ?_
  refine N_eq (ps2 := [.inr (12, [.int 0, .ref (lo + 1), .ref (lo + 2), .ref (lo + 3), .ref (lo + 4), .ref (lo + 5), .null, .null, .null]), .inl (0, 40), .inl (0, 40), .inl (0, 40), .inl (0, 40), .inl (0, 40), .inl (0, 40)]) rfl ?_
  refine N_put (pc := 49) C hin (q := 0) rfl rfl inX10 tyX10 tyX10_ok nmX10 6 (by decide) rfl lf_X10_27 rfl (tyX10_ok 6 (by decide)) rfl rfl (Nat.le_of_ble_eq_true rfl) (ps' := [.inr (12, [.int 0, .ref (lo + 1), .ref (lo + 2), .ref (lo + 3), .ref (lo + 4), .ref (lo + 5), .ref (lo + 6), .null, .null]), .inl (0, 40), .inl (0, 40), .inl (0, 40), .inl (0, 40), .inl (0, 40), .inl (0, 40)]) rfl dX10_init_49 ?_
  refine N_aload_n (pc := 52) C 0 rfl dX10_init_52 ?_
  refine N_bipush (pc := 53) C dX10_init_53 rfl ?_
  refine N_newa (atype := .int) (pc := 55) C 0 64 rfl (fun _ => rfl) acn_int (by decide) (q := 7) rfl ⟨Nat.le_of_ble_eq_true rfl, Nat.le_of_ble_eq_true rfl⟩ dX10_init_55 ?_
  refine N_eq (ps2 := [.inr (12, [.int 0, .ref (lo + 1), .ref (lo + 2), .ref (lo + 3), .ref (lo + 4), .ref (lo + 5), .ref (lo + 6), .null, .null]), .inl (0, 40), .inl (0, 40), .inl (0, 40), .inl (0, 40), .inl (0, 40), .inl (0, 40), .inl (0, 64)]) rfl ?_
  refine N_put (pc := 57) C hin (q := 0) rfl rfl inX10 tyX10 tyX10_ok nmX10 7 (by decide) rfl lf_X10_30 rfl (tyX10_ok 7 (by decide)) rfl rfl (Nat.le_of_ble_eq_true rfl) (ps' := [.inr (12, [.int 0, .ref (lo + 1), .ref (lo + 2), .ref (lo + 3), .ref (lo + 4), .ref (lo + 5), .ref (lo + 6), .ref (lo + 7), .null]), .inl (0, 40), .inl (0, 40), .inl (0, 40), .inl (0, 40), .inl (0, 40), .inl (0, 40), .inl (0, 64)]) rfl dX10_init_57 ?_
  refine N_aload_n (pc := 60) C 0 rfl dX10_init_60 ?_
  refine N_bipush (pc := 61) C dX10_init_61 rfl ?_
  refine N_newa (atype := .boolean) (pc := 63) C 1 40 rfl (fun _ => rfl) acn_boolean (by decide) (q := 8) rfl ⟨Nat.le_of_ble_eq_true rfl, Nat.le_of_ble_eq_true rfl⟩ dX10_init_63 ?_
  refine N_eq (ps2 := [.inr (12, [.int 0, .ref (lo + 1), .ref (lo + 2), .ref (lo + 3), .ref (lo + 4), .ref (lo + 5), .ref (lo + 6), .ref (lo + 7), .null]), .inl (0, 40), .inl (0, 40), .inl (0, 40), .inl (0, 40), .inl (0, 40), .inl (0, 40), .inl (0, 64), .inl (1, 40)]) rfl ?_
  refine N_put (pc := 65) C hin (q := 0) rfl rfl inX10 tyX10 tyX10_ok nmX10 8 (by decide) rfl lf_X10_33 rfl (tyX10_ok 8 (by decide)) rfl rfl (Nat.le_of_ble_eq_true rfl) (ps' := [.inr (12, [.int 0, .ref (lo + 1), .ref (lo + 2), .ref (lo + 3), .ref (lo + 4), .ref (lo + 5), .ref (lo + 6), .ref (lo + 7), .ref (lo + 8)]), .inl (0, 40), .inl (0, 40), .inl (0, 40), .inl (0, 40), .inl (0, 40), .inl (0, 40), .inl (0, 64), .inl (1, 40)]) rfl dX10_init_65 ?_
  exact N_ret (pc := 68) C hr hlk rfl dX10_init_68
set_option maxRecDepth 100000 in
set_option maxHeartbeats 4000000 in
theorem c_N_X8 (l : Launch) (D : va_G) (lo : Nat) : MetN l yX8_init cX8_init 1 ({ frames := 2, cells := 14, slots := 1324, locals := 80 } : Room) D [.ref lo] lo (.inr (10, [.null, .null])) [.inr (10, [.ref (lo + 1), .ref (lo + 6)]), .inr (5, [.int 0, .ref (lo + 2), .ref (lo + 3), .ref (lo + 4), .ref (lo + 5)]), .inl (0, 138), .inl (0, 138), .inl (0, 552), .inl (1, 138), .inr (12, [.int 0, .ref (lo + 7), .ref (lo + 8), .ref (lo + 9), .ref (lo + 10), .ref (lo + 11), .ref (lo + 12), .ref (lo + 13), .ref (lo + 14)]), .inl (0, 40), .inl (0, 40), .inl (0, 40), .inl (0, 40), .inl (0, 40), .inl (0, 40), .inl (0, 64), .inl (1, 40)] := by
  refine MetN_of RX8 rfl rfl (by decide) rfl (Nat.le_of_ble_eq_true rfl) rfl ?_
  intro p e s m args below meth c C hr hlk hin
  refine N_aload_n (pc := 0) C 0 rfl dX8_init_0 ?_
  refine N_obj (pc := 1) C oi_X8_3 oi_inst oi_code dX8_init_1 ⟨Nat.le_of_ble_eq_true rfl, Nat.le_of_ble_eq_true rfl⟩ ?_
  refine N_aload_n (pc := 4) C 0 rfl dX8_init_4 ?_
  refine N_new (ci := 5) (pc := 5) C (K := RX3) rfl inX3 tyX3 tyX3_ok cn_X8_9 ci_X3 cz_X3 (fs := [.int 0, .null, .null, .null, .null]) (by decide +kernel) (q := 1) rfl ⟨Nat.le_of_ble_eq_true rfl, Nat.le_of_ble_eq_true rfl⟩ dX8_init_5 ?_
  refine N_eq (ps2 := [.inr (10, [.null, .null]), .inr (5, [.int 0, .null, .null, .null, .null])]) rfl ?_
  refine N_dup (pc := 8) C rfl dX8_init_8 ?_
  refine N_callN (pc := 9) C (As := []) (ps0 := [.inr (10, [.null, .null])]) (q := 1) (ps' := [.inr (10, [.null, .null]), .inr (5, [.int 0, .ref (lo + 2), .ref (lo + 3), .ref (lo + 4), .ref (lo + 5)]), .inl (0, 138), .inl (0, 138), .inl (0, 552), .inl (1, 138)]) (c_N_X3 l D (lo + 1)) rfl rfl rfl (Nat.le_of_ble_eq_true rfl) cfi_X3_init ln_X8_11 ⟨Nat.le_of_ble_eq_true rfl, Nat.le_of_ble_eq_true rfl⟩ rfl (Nat.le_of_ble_eq_true rfl) ⟨Nat.le_of_ble_eq_true rfl, Nat.le_of_ble_eq_true rfl⟩ rfl dX8_init_9 ?_
  refine N_put (pc := 12) C hin (q := 0) rfl rfl inX8 tyX8 tyX8_ok nmX8 0 (by decide) rfl lf_X8_12 rfl (tyX8_ok 0 (by decide)) rfl rfl (Nat.le_of_ble_eq_true rfl) (ps' := [.inr (10, [.ref (lo + 1), .null]), .inr (5, [.int 0, .ref (lo + 2), .ref (lo + 3), .ref (lo + 4), .ref (lo + 5)]), .inl (0, 138), .inl (0, 138), .inl (0, 552), .inl (1, 138)]) rfl dX8_init_12 ?_
  refine N_aload_n (pc := 15) C 0 rfl dX8_init_15 ?_
  refine N_new (ci := 12) (pc := 16) C (K := RX10) rfl inX10 tyX10 tyX10_ok cn_X8_18 ci_X10 cz_X10 (fs := [.int 0, .null, .null, .null, .null, .null, .null, .null, .null]) (by decide +kernel) (q := 6) rfl ⟨Nat.le_of_ble_eq_true rfl, Nat.le_of_ble_eq_true rfl⟩ dX8_init_16 ?_
  refine N_eq (ps2 := [.inr (10, [.ref (lo + 1), .null]), .inr (5, [.int 0, .ref (lo + 2), .ref (lo + 3), .ref (lo + 4), .ref (lo + 5)]), .inl (0, 138), .inl (0, 138), .inl (0, 552), .inl (1, 138), .inr (12, [.int 0, .null, .null, .null, .null, .null, .null, .null, .null])]) rfl ?_
  refine N_dup (pc := 19) C rfl dX8_init_19 ?_
  refine N_callN (pc := 20) C (As := []) (ps0 := [.inr (10, [.ref (lo + 1), .null]), .inr (5, [.int 0, .ref (lo + 2), .ref (lo + 3), .ref (lo + 4), .ref (lo + 5)]), .inl (0, 138), .inl (0, 138), .inl (0, 552), .inl (1, 138)]) (q := 6) (ps' := [.inr (10, [.ref (lo + 1), .null]), .inr (5, [.int 0, .ref (lo + 2), .ref (lo + 3), .ref (lo + 4), .ref (lo + 5)]), .inl (0, 138), .inl (0, 138), .inl (0, 552), .inl (1, 138), .inr (12, [.int 0, .ref (lo + 7), .ref (lo + 8), .ref (lo + 9), .ref (lo + 10), .ref (lo + 11), .ref (lo + 12), .ref (lo + 13), .ref (lo + 14)]), .inl (0, 40), .inl (0, 40), .inl (0, 40), .inl (0, 40), .inl (0, 40), .inl (0, 40), .inl (0, 64), .inl (1, 40)]) (c_N_X10 l D (lo + 6)) rfl rfl rfl (Nat.le_of_ble_eq_true rfl) cfi_X10_init ln_X8_20 ⟨Nat.le_of_ble_eq_true rfl, Nat.le_of_ble_eq_true rfl⟩ rfl (Nat.le_of_ble_eq_true rfl) ⟨Nat.le_of_ble_eq_true rfl, Nat.le_of_ble_eq_true rfl⟩ rfl dX8_init_20 ?_
  refine N_put (pc := 23) C hin (q := 0) rfl rfl inX8 tyX8 tyX8_ok nmX8 1 (by decide) rfl lf_X8_21 rfl (tyX8_ok 1 (by decide)) rfl rfl (Nat.le_of_ble_eq_true rfl) (ps' := [.inr (10, [.ref (lo + 1), .ref (lo + 6)]), .inr (5, [.int 0, .ref (lo + 2), .ref (lo + 3), .ref (lo + 4), .ref (lo + 5)]), .inl (0, 138), .inl (0, 138), .inl (0, 552), .inl (1, 138), .inr (12, [.int 0, .ref (lo + 7), .ref (lo + 8), .ref (lo + 9), .ref (lo + 10), .ref (lo + 11), .ref (lo + 12), .ref (lo + 13), .ref (lo + 14)]), .inl (0, 40), .inl (0, 40), .inl (0, 40), .inl (0, 40), .inl (0, 40), .inl (0, 40), .inl (0, 64), .inl (1, 40)]) rfl dX8_init_23 ?_
  exact N_ret (pc := 26) C hr hlk rfl dX8_init_26
set_option maxRecDepth 100000 in
set_option maxHeartbeats 4000000 in
theorem c_N_X5 (l : Launch) (D : va_G) (lo : Nat) (a1 : Nat) : MetN l yX5_init cX5_init 2 ({ frames := 1, cells := 1, slots := 138, locals := 60 } : Room) D [.ref lo, .ref a1] lo (.inr (7, [.null, .null])) [.inr (7, [.ref a1, .ref (lo + 1)]), .inl (1, 138)] := by
  refine MetN_of RX5 rfl rfl (by decide) rfl (Nat.le_of_ble_eq_true rfl) rfl ?_
  intro p e s m args below meth c C hr hlk hin
  refine N_aload_n (pc := 0) C 0 rfl dX5_init_0 ?_
  refine N_obj (pc := 1) C oi_X5_3 oi_inst oi_code dX5_init_1 ⟨Nat.le_of_ble_eq_true rfl, Nat.le_of_ble_eq_true rfl⟩ ?_
  refine N_aload_n (pc := 4) C 0 rfl dX5_init_4 ?_
  refine N_sipush (pc := 5) C dX5_init_5 rfl ?_
  refine N_newa (atype := .boolean) (pc := 8) C 1 138 rfl (fun _ => rfl) acn_boolean (by decide) (q := 1) rfl ⟨Nat.le_of_ble_eq_true rfl, Nat.le_of_ble_eq_true rfl⟩ dX5_init_8 ?_
  refine N_eq (ps2 := [.inr (7, [.null, .null]), .inl (1, 138)]) rfl ?_
  refine N_put (pc := 10) C hin (q := 0) rfl rfl inX5 tyX5 tyX5_ok nmX5 1 (by decide) rfl lf_X5_9 rfl (tyX5_ok 1 (by decide)) rfl rfl (Nat.le_of_ble_eq_true rfl) (ps' := [.inr (7, [.null, .ref (lo + 1)]), .inl (1, 138)]) rfl dX5_init_10 ?_
  refine N_aload_n (pc := 13) C 0 rfl dX5_init_13 ?_
  refine N_aload_n (pc := 14) C 1 rfl dX5_init_14 ?_
  refine N_put (pc := 15) C hin (q := 0) rfl rfl inX5 tyX5 tyX5_ok nmX5 0 (by decide) rfl lf_X5_15 rfl (tyX5_ok 0 (by decide)) rfl rfl (Nat.le_of_ble_eq_true rfl) (ps' := [.inr (7, [.ref a1, .ref (lo + 1)]), .inl (1, 138)]) rfl dX5_init_15 ?_
  exact N_ret (pc := 18) C hr hlk rfl dX5_init_18
set_option maxRecDepth 100000 in
set_option maxHeartbeats 4000000 in
theorem c_N_X0 (l : Launch) (D : va_G) (lo : Nat) (a1 : Nat) (a2 : Nat) : MetN l yX0_init cX0_init 3 ({ frames := 1, cells := 1, slots := 138, locals := 60 } : Room) D [.ref lo, .ref a1, .ref a2] lo (.inr (2, [.null, .null, .null])) [.inr (2, [.ref a1, .ref a2, .ref (lo + 1)]), .inl (1, 138)] := by
  refine MetN_of RX0 rfl rfl (by decide) rfl (Nat.le_of_ble_eq_true rfl) rfl ?_
  intro p e s m args below meth c C hr hlk hin
  refine N_aload_n (pc := 0) C 0 rfl dX0_init_0 ?_
  refine N_obj (pc := 1) C oi_X0_3 oi_inst oi_code dX0_init_1 ⟨Nat.le_of_ble_eq_true rfl, Nat.le_of_ble_eq_true rfl⟩ ?_
  refine N_aload_n (pc := 4) C 0 rfl dX0_init_4 ?_
  refine N_sipush (pc := 5) C dX0_init_5 rfl ?_
  refine N_newa (atype := .boolean) (pc := 8) C 1 138 rfl (fun _ => rfl) acn_boolean (by decide) (q := 1) rfl ⟨Nat.le_of_ble_eq_true rfl, Nat.le_of_ble_eq_true rfl⟩ dX0_init_8 ?_
  refine N_eq (ps2 := [.inr (2, [.null, .null, .null]), .inl (1, 138)]) rfl ?_
  refine N_put (pc := 10) C hin (q := 0) rfl rfl inX0 tyX0 tyX0_ok nmX0 2 (by decide) rfl lf_X0_9 rfl (tyX0_ok 2 (by decide)) rfl rfl (Nat.le_of_ble_eq_true rfl) (ps' := [.inr (2, [.null, .null, .ref (lo + 1)]), .inl (1, 138)]) rfl dX0_init_10 ?_
  refine N_aload_n (pc := 13) C 0 rfl dX0_init_13 ?_
  refine N_aload_n (pc := 14) C 1 rfl dX0_init_14 ?_
  refine N_put (pc := 15) C hin (q := 0) rfl rfl inX0 tyX0 tyX0_ok nmX0 0 (by decide) rfl lf_X0_15 rfl (tyX0_ok 0 (by decide)) rfl rfl (Nat.le_of_ble_eq_true rfl) (ps' := [.inr (2, [.ref a1, .null, .ref (lo + 1)]), .inl (1, 138)]) rfl dX0_init_15 ?_
  refine N_aload_n (pc := 18) C 0 rfl dX0_init_18 ?_
  refine N_aload_n (pc := 19) C 2 rfl dX0_init_19 ?_
  refine N_put (pc := 20) C hin (q := 0) rfl rfl inX0 tyX0 tyX0_ok nmX0 1 (by decide) rfl lf_X0_19 rfl (tyX0_ok 1 (by decide)) rfl rfl (Nat.le_of_ble_eq_true rfl) (ps' := [.inr (2, [.ref a1, .ref a2, .ref (lo + 1)]), .inl (1, 138)]) rfl dX0_init_20 ?_
  exact N_ret (pc := 23) C hr hlk rfl dX0_init_23
set_option maxRecDepth 100000 in
set_option maxHeartbeats 4000000 in
theorem c_N_X1 (l : Launch) (D : va_G) (lo : Nat) : MetN l yX1_init cX1_init 1 ({ frames := 1, cells := 4, slots := 1440, locals := 60 } : Room) D [.ref lo] lo (.inr (3, [.int 0, .int 0, .null, .null, .null, .null])) [.inr (3, [.int 0, .int 0, .ref (lo + 1), .ref (lo + 2), .ref (lo + 3), .ref (lo + 4)]), .inl (0, 8), .inl (0, 8), .inl (1, 320), .inl (1, 1104)] := by
  refine MetN_of RX1 rfl rfl (by decide) rfl (Nat.le_of_ble_eq_true rfl) rfl ?_
  intro p e s m args below meth c C hr hlk hin
  refine N_aload_n (pc := 0) C 0 rfl dX1_init_0 ?_
  refine N_obj (pc := 1) C oi_X1_3 oi_inst oi_code dX1_init_1 ⟨Nat.le_of_ble_eq_true rfl, Nat.le_of_ble_eq_true rfl⟩ ?_
  refine N_aload_n (pc := 4) C 0 rfl dX1_init_4 ?_
  refine N_bipush (pc := 5) C dX1_init_5 rfl ?_
  refine N_newa (atype := .int) (pc := 7) C 0 8 rfl (fun _ => rfl) acn_int (by decide) (q := 1) rfl ⟨Nat.le_of_ble_eq_true rfl, Nat.le_of_ble_eq_true rfl⟩ dX1_init_7 ?_
  refine N_eq (ps2 := [.inr (3, [.int 0, .int 0, .null, .null, .null, .null]), .inl (0, 8)]) rfl ?_
  refine N_put (pc := 9) C hin (q := 0) rfl rfl inX1 tyX1 tyX1_ok nmX1 2 (by decide) rfl lf_X1_9 rfl (tyX1_ok 2 (by decide)) rfl rfl (Nat.le_of_ble_eq_true rfl) (ps' := [.inr (3, [.int 0, .int 0, .ref (lo + 1), .null, .null, .null]), .inl (0, 8)]) rfl dX1_init_9 ?_
  refine N_aload_n (pc := 12) C 0 rfl dX1_init_12 ?_
  refine N_bipush (pc := 13) C dX1_init_13 rfl ?_
  refine N_newa (atype := .int) (pc := 15) C 0 8 rfl (fun _ => rfl) acn_int (by decide) (q := 2) rfl ⟨Nat.le_of_ble_eq_true rfl, Nat.le_of_ble_eq_true rfl⟩ dX1_init_15 ?_
  refine N_eq (ps2 := [.inr (3, [.int 0, .int 0, .ref (lo + 1), .null, .null, .null]), .inl (0, 8), .inl (0, 8)]) rfl ?_
  refine N_put (pc := 17) C hin (q := 0) rfl rfl inX1 tyX1 tyX1_ok nmX1 3 (by decide) rfl lf_X1_15 rfl (tyX1_ok 3 (by decide)) rfl rfl (Nat.le_of_ble_eq_true rfl) (ps' := [.inr (3, [.int 0, .int 0, .ref (lo + 1), .ref (lo + 2), .null, .null]), .inl (0, 8), .inl (0, 8)]) rfl dX1_init_17 ?_
  refine N_aload_n (pc := 20) C 0 rfl dX1_init_20 ?_
  refine N_sipush (pc := 21) C dX1_init_21 rfl ?_
  refine N_newa (atype := .boolean) (pc := 24) C 1 320 rfl (fun _ => rfl) acn_boolean (by decide) (q := 3) rfl ⟨Nat.le_of_ble_eq_true rfl, Nat.le_of_ble_eq_true rfl⟩ dX1_init_24 ?_
  refine N_eq (ps2 := [.inr (3, [.int 0, .int 0, .ref (lo + 1), .ref (lo + 2), .null, .null]), .inl (0, 8), .inl (0, 8), .inl (1, 320)]) rfl ?_
  refine N_put (pc := 26) C hin (q := 0) rfl rfl inX1 tyX1 tyX1_ok nmX1 4 (by decide) rfl lf_X1_18 rfl (tyX1_ok 4 (by decide)) rfl rfl (Nat.le_of_ble_eq_true rfl) (ps' := [.inr (3, [.int 0, .int 0, .ref (lo + 1), .ref (lo + 2), .ref (lo + 3), .null]), .inl (0, 8), .inl (0, 8), .inl (1, 320)]) rfl dX1_init_26 ?_
  refine N_aload_n (pc := 29) C 0 rfl dX1_init_29 ?_
  refine N_sipush (pc := 30) C dX1_init_30 rfl ?_
  refine N_newa (atype := .boolean) (pc := 33) C 1 1104 rfl (fun _ => rfl) acn_boolean (by decide) (q := 4) rfl ⟨Nat.le_of_ble_eq_true rfl, Nat.le_of_ble_eq_true rfl⟩ dX1_init_33 ?_
  refine N_eq (ps2 := [.inr (3, [.int 0, .int 0, .ref (lo + 1), .ref (lo + 2), .ref (lo + 3), .null]), .inl (0, 8), .inl (0, 8), .inl (1, 320), .inl (1, 1104)]) rfl ?_
  refine N_put (pc := 35) C hin (q := 0) rfl rfl inX1 tyX1 tyX1_ok nmX1 5 (by decide) rfl lf_X1_22 rfl (tyX1_ok 5 (by decide)) rfl rfl (Nat.le_of_ble_eq_true rfl) (ps' := [.inr (3, [.int 0, .int 0, .ref (lo + 1), .ref (lo + 2), .ref (lo + 3), .ref (lo + 4)]), .inl (0, 8), .inl (0, 8), .inl (1, 320), .inl (1, 1104)]) rfl dX1_init_35 ?_
  exact N_ret (pc := 38) C hr hlk rfl dX1_init_38
set_option maxRecDepth 100000 in
set_option maxHeartbeats 4000000 in
theorem c_N_X2 (l : Launch) (D : va_G) (lo : Nat) : MetN l yX2_init cX2_init 1 ({ frames := 1, cells := 1, slots := 600, locals := 60 } : Room) D [.ref lo] lo (.inr (4, [.int 0, .null])) [.inr (4, [.int 0, .ref (lo + 1)]), .inl (0, 600)] := by
  refine MetN_of RX2 rfl rfl (by decide) rfl (Nat.le_of_ble_eq_true rfl) rfl ?_
  intro p e s m args below meth c C hr hlk hin
  refine N_aload_n (pc := 0) C 0 rfl dX2_init_0 ?_
  refine N_obj (pc := 1) C oi_X2_3 oi_inst oi_code dX2_init_1 ⟨Nat.le_of_ble_eq_true rfl, Nat.le_of_ble_eq_true rfl⟩ ?_
  refine N_aload_n (pc := 4) C 0 rfl dX2_init_4 ?_
  refine N_sipush (pc := 5) C dX2_init_5 rfl ?_
  refine N_newa (atype := .int) (pc := 8) C 0 600 rfl (fun _ => rfl) acn_int (by decide) (q := 1) rfl ⟨Nat.le_of_ble_eq_true rfl, Nat.le_of_ble_eq_true rfl⟩ dX2_init_8 ?_
  refine N_eq (ps2 := [.inr (4, [.int 0, .null]), .inl (0, 600)]) rfl ?_
  refine N_put (pc := 10) C hin (q := 0) rfl rfl inX2 tyX2 tyX2_ok nmX2 1 (by decide) rfl lf_X2_9 rfl (tyX2_ok 1 (by decide)) rfl rfl (Nat.le_of_ble_eq_true rfl) (ps' := [.inr (4, [.int 0, .ref (lo + 1)]), .inl (0, 600)]) rfl dX2_init_10 ?_
  exact N_ret (pc := 13) C hr hlk rfl dX2_init_13
set_option maxRecDepth 100000 in
set_option maxHeartbeats 4000000 in
theorem c_N_X9 (l : Launch) (D : va_G) (lo : Nat) (a1 : Nat) : MetN l yX9_init cX9_init 2 ({ frames := 1, cells := 0, slots := 0, locals := 60 } : Room) D [.ref lo, .ref a1] lo (.inr (11, [.null, .int 0, .int 0, .int 0, .int 0, .int 0, .int 0, .int 0])) [.inr (11, [.ref a1, .int 0, .int 0, .int 0, .int 0, .int 0, vi (0), vi (-1)])] := by
  refine MetN_of RX9 rfl rfl (by decide) rfl (Nat.le_of_ble_eq_true rfl) rfl ?_
  intro p e s m args below meth c C hr hlk hin
  refine N_aload_n (pc := 0) C 0 rfl dX9_init_0 ?_
  refine N_obj (pc := 1) C oi_X9_3 oi_inst oi_code dX9_init_1 ⟨Nat.le_of_ble_eq_true rfl, Nat.le_of_ble_eq_true rfl⟩ ?_
  refine N_aload_n (pc := 4) C 0 rfl dX9_init_4 ?_
  refine N_iconst (pc := 5) C dX9_init_5 ?_
  refine N_put (pc := 6) C hin (q := 0) rfl rfl inX9 tyX9 tyX9_ok nmX9 6 (by decide) rfl lf_X9_9 rfl (tyX9_ok 6 (by decide)) rfl rfl (Nat.le_of_ble_eq_true rfl) (ps' := [.inr (11, [.null, .int 0, .int 0, .int 0, .int 0, .int 0, vi (0), .int 0])]) rfl dX9_init_6 ?_
  refine N_aload_n (pc := 9) C 0 rfl dX9_init_9 ?_
  refine N_iconst (pc := 10) C dX9_init_10 ?_
  refine N_put (pc := 11) C hin (q := 0) rfl rfl inX9 tyX9 tyX9_ok nmX9 7 (by decide) rfl lf_X9_15 rfl (tyX9_ok 7 (by decide)) rfl rfl (Nat.le_of_ble_eq_true rfl) (ps' := [.inr (11, [.null, .int 0, .int 0, .int 0, .int 0, .int 0, vi (0), vi (-1)])]) rfl dX9_init_11 ?_
  refine N_aload_n (pc := 14) C 0 rfl dX9_init_14 ?_
  refine N_aload_n (pc := 15) C 1 rfl dX9_init_15 ?_
  refine N_put (pc := 16) C hin (q := 0) rfl rfl inX9 tyX9 tyX9_ok nmX9 0 (by decide) rfl lf_X9_18 rfl (tyX9_ok 0 (by decide)) rfl rfl (Nat.le_of_ble_eq_true rfl) (ps' := [.inr (11, [.ref a1, .int 0, .int 0, .int 0, .int 0, .int 0, vi (0), vi (-1)])]) rfl dX9_init_16 ?_
  exact N_ret (pc := 19) C hr hlk rfl dX9_init_19
set_option maxRecDepth 100000 in
set_option maxHeartbeats 4000000 in
theorem c_N_X7 (l : Launch) (D : va_G) (lo : Nat) (a1 : Nat) : MetN l yX7_init cX7_init 2 ({ frames := 1, cells := 1, slots := 64, locals := 60 } : Room) D [.ref lo, .ref a1] lo (.inr (9, [.null, .int 0, .int 0, .null, .int 0])) [.inr (9, [.ref a1, .int 0, .int 0, .ref (lo + 1), .int 0]), .inl (0, 64)] := by
  refine MetN_of RX7 rfl rfl (by decide) rfl (Nat.le_of_ble_eq_true rfl) rfl ?_
  intro p e s m args below meth c C hr hlk hin
  refine N_aload_n (pc := 0) C 0 rfl dX7_init_0 ?_
  refine N_obj (pc := 1) C oi_X7_3 oi_inst oi_code dX7_init_1 ⟨Nat.le_of_ble_eq_true rfl, Nat.le_of_ble_eq_true rfl⟩ ?_
  refine N_aload_n (pc := 4) C 0 rfl dX7_init_4 ?_
  refine N_bipush (pc := 5) C dX7_init_5 rfl ?_
  refine N_newa (atype := .int) (pc := 7) C 0 64 rfl (fun _ => rfl) acn_int (by decide) (q := 1) rfl ⟨Nat.le_of_ble_eq_true rfl, Nat.le_of_ble_eq_true rfl⟩ dX7_init_7 ?_
  refine N_eq (ps2 := [.inr (9, [.null, .int 0, .int 0, .null, .int 0]), .inl (0, 64)]) rfl ?_
  refine N_put (pc := 9) C hin (q := 0) rfl rfl inX7 tyX7 tyX7_ok nmX7 3 (by decide) rfl lf_X7_9 rfl (tyX7_ok 3 (by decide)) rfl rfl (Nat.le_of_ble_eq_true rfl) (ps' := [.inr (9, [.null, .int 0, .int 0, .ref (lo + 1), .int 0]), .inl (0, 64)]) rfl dX7_init_9 ?_
  refine N_aload_n (pc := 12) C 0 rfl dX7_init_12 ?_
  refine N_aload_n (pc := 13) C 1 rfl dX7_init_13 ?_
  refine N_put (pc := 14) C hin (q := 0) rfl rfl inX7 tyX7 tyX7_ok nmX7 0 (by decide) rfl lf_X7_15 rfl (tyX7_ok 0 (by decide)) rfl rfl (Nat.le_of_ble_eq_true rfl) (ps' := [.inr (9, [.ref a1, .int 0, .int 0, .ref (lo + 1), .int 0]), .inl (0, 64)]) rfl dX7_init_14 ?_
  exact N_ret (pc := 17) C hr hlk rfl dX7_init_17
set_option maxRecDepth 100000 in
set_option maxHeartbeats 4000000 in
theorem c_N_X6 (l : Launch) (D : va_G) (lo : Nat) (a1 : Nat) : MetN l yX6_init cX6_init 2 ({ frames := 1, cells := 1, slots := 120, locals := 60 } : Room) D [.ref lo, .ref a1] lo (.inr (8, [.null, .null, .int 0, .int 0, .int 0, .int 0])) [.inr (8, [.ref a1, .ref (lo + 1), .int 0, .int 0, .int 0, .int 0]), .inl (0, 120)] := by
  refine MetN_of RX6 rfl rfl (by decide) rfl (Nat.le_of_ble_eq_true rfl) rfl ?_
  intro p e s m args below meth c C hr hlk hin
  refine N_aload_n (pc := 0) C 0 rfl dX6_init_0 ?_
  refine N_obj (pc := 1) C oi_X6_3 oi_inst oi_code dX6_init_1 ⟨Nat.le_of_ble_eq_true rfl, Nat.le_of_ble_eq_true rfl⟩ ?_
  refine N_aload_n (pc := 4) C 0 rfl dX6_init_4 ?_
  refine N_bipush (pc := 5) C dX6_init_5 rfl ?_
  refine N_newa (atype := .int) (pc := 7) C 0 120 rfl (fun _ => rfl) acn_int (by decide) (q := 1) rfl ⟨Nat.le_of_ble_eq_true rfl, Nat.le_of_ble_eq_true rfl⟩ dX6_init_7 ?_
  refine N_eq (ps2 := [.inr (8, [.null, .null, .int 0, .int 0, .int 0, .int 0]), .inl (0, 120)]) rfl ?_
  refine N_put (pc := 9) C hin (q := 0) rfl rfl inX6 tyX6 tyX6_ok nmX6 1 (by decide) rfl lf_X6_11 rfl (tyX6_ok 1 (by decide)) rfl rfl (Nat.le_of_ble_eq_true rfl) (ps' := [.inr (8, [.null, .ref (lo + 1), .int 0, .int 0, .int 0, .int 0]), .inl (0, 120)]) rfl dX6_init_9 ?_
  refine N_aload_n (pc := 12) C 0 rfl dX6_init_12 ?_
  refine N_aload_n (pc := 13) C 1 rfl dX6_init_13 ?_
  refine N_put (pc := 14) C hin (q := 0) rfl rfl inX6 tyX6 tyX6_ok nmX6 0 (by decide) rfl lf_X6_15 rfl (tyX6_ok 0 (by decide)) rfl rfl (Nat.le_of_ble_eq_true rfl) (ps' := [.inr (8, [.ref a1, .ref (lo + 1), .int 0, .int 0, .int 0, .int 0]), .inl (0, 120)]) rfl dX6_init_14 ?_
  exact N_ret (pc := 17) C hr hlk rfl dX6_init_17
set_option maxRecDepth 100000 in
set_option maxHeartbeats 4000000 in
theorem c_N_X4 (l : Launch) (D : va_G) (lo : Nat) : MetN l yX4_init cX4_init 1 ({ frames := 1, cells := 1, slots := 321, locals := 60 } : Room) D [.ref lo] lo (.inr (6, [.int 0, .null])) [.inr (6, [.int 0, .ref (lo + 1)]), .inl (0, 321)] := by
  refine MetN_of RX4 rfl rfl (by decide) rfl (Nat.le_of_ble_eq_true rfl) rfl ?_
  intro p e s m args below meth c C hr hlk hin
  refine N_aload_n (pc := 0) C 0 rfl dX4_init_0 ?_
  refine N_obj (pc := 1) C oi_X4_3 oi_inst oi_code dX4_init_1 ⟨Nat.le_of_ble_eq_true rfl, Nat.le_of_ble_eq_true rfl⟩ ?_
  refine N_aload_n (pc := 4) C 0 rfl dX4_init_4 ?_
  refine N_sipush (pc := 5) C dX4_init_5 rfl ?_
  refine N_newa (atype := .int) (pc := 8) C 0 321 rfl (fun _ => rfl) acn_int (by decide) (q := 1) rfl ⟨Nat.le_of_ble_eq_true rfl, Nat.le_of_ble_eq_true rfl⟩ dX4_init_8 ?_
  refine N_eq (ps2 := [.inr (6, [.int 0, .null]), .inl (0, 321)]) rfl ?_
  refine N_put (pc := 10) C hin (q := 0) rfl rfl inX4 tyX4 tyX4_ok nmX4 1 (by decide) rfl lf_X4_9 rfl (tyX4_ok 1 (by decide)) rfl rfl (Nat.le_of_ble_eq_true rfl) (ps' := [.inr (6, [.int 0, .ref (lo + 1)]), .inl (0, 321)]) rfl dX4_init_10 ?_
  exact N_ret (pc := 13) C hr hlk rfl dX4_init_13
