/-! what the law's start gives: the world as the walk has it -/
theorem tc_1 {w : Cond} (h : w ∈ tables_1_1) : w ∈ lw_tbl := List.mem_append_right _ (by
  unfold tables_1
  simp only [List.mem_append]
  simp [h])
theorem tc_2 {w : Cond} (h : w ∈ tables_1_2) : w ∈ lw_tbl := List.mem_append_right _ (by
  unfold tables_1
  simp only [List.mem_append]
  simp [h])
theorem tc_3 {w : Cond} (h : w ∈ tables_1_3) : w ∈ lw_tbl := List.mem_append_right _ (by
  unfold tables_1
  simp only [List.mem_append]
  simp [h])
theorem tc_4 {w : Cond} (h : w ∈ tables_1_4) : w ∈ lw_tbl := List.mem_append_right _ (by
  unfold tables_1
  simp only [List.mem_append]
  simp [h])
theorem tc_5 {w : Cond} (h : w ∈ tables_1_5) : w ∈ lw_tbl := List.mem_append_right _ (by
  unfold tables_1
  simp only [List.mem_append]
  simp [h])
theorem tc_6 {w : Cond} (h : w ∈ tables_1_6) : w ∈ lw_tbl := List.mem_append_right _ (by
  unfold tables_1
  simp only [List.mem_append]
  simp [h])
theorem nw_at {args : Array Value} {s : State} (h : (Jvm.Cond.and given_1 narrow_1).before args s = true) (i : Nat) {w : Cond} (hw : (flatC (Jvm.Cond.and given_1 narrow_1))[i]? = some w) : w.before args s = true := flat_of_before _ h w (List.mem_of_getElem? hw)
theorem nest_in : ∀ q ∈ nestL, nOK q ∈ lw_tbl := by
  unfold nestL
  exact List.forall_mem_cons.mpr ⟨tc_1 (List.mem_of_getElem? (i := 41) (by decide +kernel)), List.forall_mem_cons.mpr ⟨tc_1 (List.mem_of_getElem? (i := 47) (by decide +kernel)), List.forall_mem_cons.mpr ⟨tc_1 (List.mem_of_getElem? (i := 77) (by decide +kernel)), List.forall_mem_cons.mpr ⟨tc_1 (List.mem_of_getElem? (i := 160) (by decide +kernel)), List.forall_mem_cons.mpr ⟨tc_1 (List.mem_of_getElem? (i := 185) (by decide +kernel)), List.forall_mem_cons.mpr ⟨tc_2 (List.mem_of_getElem? (i := 39) (by decide +kernel)), List.forall_mem_cons.mpr ⟨tc_2 (List.mem_of_getElem? (i := 59) (by decide +kernel)), List.forall_mem_cons.mpr ⟨tc_2 (List.mem_of_getElem? (i := 66) (by decide +kernel)), List.forall_mem_cons.mpr ⟨tc_2 (List.mem_of_getElem? (i := 69) (by decide +kernel)), List.forall_mem_cons.mpr ⟨tc_2 (List.mem_of_getElem? (i := 72) (by decide +kernel)), List.forall_mem_cons.mpr ⟨tc_2 (List.mem_of_getElem? (i := 86) (by decide +kernel)), List.forall_mem_cons.mpr ⟨tc_2 (List.mem_of_getElem? (i := 100) (by decide +kernel)), List.forall_mem_cons.mpr ⟨tc_2 (List.mem_of_getElem? (i := 107) (by decide +kernel)), List.forall_mem_cons.mpr ⟨tc_2 (List.mem_of_getElem? (i := 108) (by decide +kernel)), List.forall_mem_cons.mpr ⟨tc_3 (List.mem_of_getElem? (i := 11) (by decide +kernel)), List.forall_mem_cons.mpr ⟨tc_3 (List.mem_of_getElem? (i := 85) (by decide +kernel)), List.forall_mem_cons.mpr ⟨tc_3 (List.mem_of_getElem? (i := 114) (by decide +kernel)), List.forall_mem_cons.mpr ⟨tc_3 (List.mem_of_getElem? (i := 223) (by decide +kernel)), List.forall_mem_cons.mpr ⟨tc_4 (List.mem_of_getElem? (i := 6) (by decide +kernel)), List.forall_mem_cons.mpr ⟨tc_4 (List.mem_of_getElem? (i := 21) (by decide +kernel)), List.forall_mem_cons.mpr ⟨tc_4 (List.mem_of_getElem? (i := 22) (by decide +kernel)), List.forall_mem_cons.mpr ⟨tc_4 (List.mem_of_getElem? (i := 55) (by decide +kernel)), List.forall_mem_cons.mpr ⟨tc_4 (List.mem_of_getElem? (i := 117) (by decide +kernel)), List.forall_mem_cons.mpr ⟨tc_4 (List.mem_of_getElem? (i := 145) (by decide +kernel)), List.forall_mem_cons.mpr ⟨tc_4 (List.mem_of_getElem? (i := 146) (by decide +kernel)), List.forall_mem_cons.mpr ⟨tc_4 (List.mem_of_getElem? (i := 157) (by decide +kernel)), List.forall_mem_cons.mpr ⟨tc_5 (List.mem_of_getElem? (i := 127) (by decide +kernel)), List.forall_mem_cons.mpr ⟨tc_5 (List.mem_of_getElem? (i := 128) (by decide +kernel)), fun _ h => absurd h List.not_mem_nil⟩⟩⟩⟩⟩⟩⟩⟩⟩⟩⟩⟩⟩⟩⟩⟩⟩⟩⟩⟩⟩⟩⟩⟩⟩⟩⟩⟩
theorem str_in : ∀ q ∈ strL, Cond.stringRef q.1 q.2.1 q.2.2.1 ∈ lw_tbl := by
  unfold strL
  exact List.forall_mem_cons.mpr ⟨tc_2 (List.mem_of_getElem? (i := 177) (by decide +kernel)), List.forall_mem_cons.mpr ⟨tc_2 (List.mem_of_getElem? (i := 230) (by decide +kernel)), List.forall_mem_cons.mpr ⟨tc_2 (List.mem_of_getElem? (i := 231) (by decide +kernel)), List.forall_mem_cons.mpr ⟨tc_2 (List.mem_of_getElem? (i := 232) (by decide +kernel)), List.forall_mem_cons.mpr ⟨tc_2 (List.mem_of_getElem? (i := 233) (by decide +kernel)), List.forall_mem_cons.mpr ⟨tc_2 (List.mem_of_getElem? (i := 234) (by decide +kernel)), List.forall_mem_cons.mpr ⟨tc_2 (List.mem_of_getElem? (i := 235) (by decide +kernel)), List.forall_mem_cons.mpr ⟨tc_3 (List.mem_of_getElem? (i := 161) (by decide +kernel)), List.forall_mem_cons.mpr ⟨tc_3 (List.mem_of_getElem? (i := 196) (by decide +kernel)), List.forall_mem_cons.mpr ⟨tc_3 (List.mem_of_getElem? (i := 212) (by decide +kernel)), List.forall_mem_cons.mpr ⟨tc_6 (List.mem_of_getElem? (i := 129) (by decide +kernel)), List.forall_mem_cons.mpr ⟨tc_6 (List.mem_of_getElem? (i := 130) (by decide +kernel)), List.forall_mem_cons.mpr ⟨tc_6 (List.mem_of_getElem? (i := 131) (by decide +kernel)), fun _ h => absurd h List.not_mem_nil⟩⟩⟩⟩⟩⟩⟩⟩⟩⟩⟩⟩⟩
theorem cast_in : ∀ q ∈ castL, Cond.castable q q ∈ lw_tbl := by
  unfold castL
  exact List.forall_mem_cons.mpr ⟨tc_3 (List.mem_of_getElem? (i := 122) (by decide +kernel)), List.forall_mem_cons.mpr ⟨tc_3 (List.mem_of_getElem? (i := 189) (by decide +kernel)), List.forall_mem_cons.mpr ⟨tc_3 (List.mem_of_getElem? (i := 205) (by decide +kernel)), fun _ h => absurd h List.not_mem_nil⟩⟩⟩
theorem nc_in : ∀ q ∈ ncL, Cond.not (.castable q.1 q.2) ∈ flatC (Jvm.Cond.and given_1 narrow_1) := by
  unfold ncL
  exact List.forall_mem_cons.mpr ⟨List.mem_of_getElem? (i := 245) (by decide +kernel), List.forall_mem_cons.mpr ⟨List.mem_of_getElem? (i := 246) (by decide +kernel), fun _ h => absurd h List.not_mem_nil⟩⟩
theorem ls_first : Cond.laysStatic "VectorVersions" "FIRST_ELEMENTS" "[I" ∈ lw_tbl := tc_2 (List.mem_of_getElem? (i := 50) (by decide +kernel))
theorem iz_first : Cond.initialized "VectorVersions" ∈ lw_tbl := tc_1 (List.mem_of_getElem? (i := 1) (by decide +kernel))
theorem ls_ones : Cond.laysStatic "java/lang/Integer" "DigitOnes" "[B" ∈ lw_tbl := tc_6 (List.mem_of_getElem? (i := 61) (by decide +kernel))
theorem iz_ones : Cond.initialized "java/lang/Integer" ∈ lw_tbl := tc_1 (List.mem_of_getElem? (i := 24) (by decide +kernel))
theorem ls_tens : Cond.laysStatic "java/lang/Integer" "DigitTens" "[B" ∈ lw_tbl := tc_6 (List.mem_of_getElem? (i := 63) (by decide +kernel))
theorem iz_tens : Cond.initialized "java/lang/Integer" ∈ lw_tbl := tc_1 (List.mem_of_getElem? (i := 24) (by decide +kernel))
theorem ls_comp : Cond.laysStatic "java/lang/String" "COMPACT_STRINGS" "Z" ∈ lw_tbl := tc_2 (List.mem_of_getElem? (i := 191) (by decide +kernel))
theorem iz_comp : Cond.initialized "java/lang/String" ∈ lw_tbl := tc_1 (List.mem_of_getElem? (i := 16) (by decide +kernel))
theorem ls_sio : Cond.laysStatic "jdk/internal/util/Preconditions" "SIOOBE_FORMATTER" "Ljava/util/function/BiFunction;" ∈ lw_tbl := tc_2 (List.mem_of_getElem? (i := 207) (by decide +kernel))
theorem iz_sio : Cond.initialized "jdk/internal/util/Preconditions" ∈ lw_tbl := tc_1 (List.mem_of_getElem? (i := 21) (by decide +kernel))
theorem ls_ste : Cond.laysStatic "java/lang/Throwable" "UNASSIGNED_STACK" "[Ljava/lang/StackTraceElement;" ∈ lw_tbl := tc_3 (List.mem_of_getElem? (i := 147) (by decide +kernel))
theorem iz_ste : Cond.initialized "java/lang/Throwable" ∈ lw_tbl := tc_1 (List.mem_of_getElem? (i := 25) (by decide +kernel))
theorem ls_sup : Cond.laysStatic "java/lang/Throwable" "SUPPRESSED_SENTINEL" "Ljava/util/List;" ∈ lw_tbl := tc_3 (List.mem_of_getElem? (i := 149) (by decide +kernel))
theorem iz_sup : Cond.initialized "java/lang/Throwable" ∈ lw_tbl := tc_1 (List.mem_of_getElem? (i := 25) (by decide +kernel))
def tmL : List (String × Nat) := [("VectorVersions$Tokens", 66), ("VectorVersions$Tokens", 72), ("VectorVersions$Tokens", 74), ("VectorVersions$Tokens", 76), ("VectorVersions$Tokens", 78), ("VectorVersions$Tokens", 80), ("VectorVersions$Tokens", 82), ("VectorVersions", 337), ("VectorVersions", 342), ("VectorVersions", 347), ("VectorVersionsLaw", 166), ("VectorVersionsLaw", 168)]
def tmS (i : Nat) : Term := .string (tmL.getD i ("", 0)).1 (tmL.getD i ("", 0)).2
def offL : List Nat := [247, 255, 265, 274, 287, 303, 319, 336, 388, 438, 525, 547]
set_option maxRecDepth 100000 in
theorem str_ex : ∀ i : Nat, i < 12 → (flatC (Jvm.Cond.and given_1 narrow_1))[offL.getD i 0]? = some (Cond.exactly (tmS i) "java/lang/String") := by decide +kernel
set_option maxRecDepth 100000 in
theorem str_co : ∀ i : Nat, i < 12 → (flatC (Jvm.Cond.and given_1 narrow_1))[offL.getD i 0 + 1]? = some (Cond.eq (.field (tmS i) "java/lang/String" "coder" "B") (.int 0)) := by decide +kernel
set_option maxRecDepth 100000 in
theorem str_ar : ∀ i : Nat, i < 12 → (flatC (Jvm.Cond.and given_1 narrow_1))[offL.getD i 0 + 2]? = some (Cond.arrayOf (.field (tmS i) "java/lang/String" "value" "[B") .byte) := by decide +kernel
set_option maxRecDepth 100000 in
theorem str_le : ∀ i : Nat, i < 12 → (flatC (Jvm.Cond.and given_1 narrow_1))[offL.getD i 0 + 3]? = some (Cond.eq (.length (.field (tmS i) "java/lang/String" "value" "[B")) (.int (Int32.ofNat (lensL.getD i 0)))) := by decide +kernel
set_option maxRecDepth 100000 in
theorem str_el : ∀ i : Nat, i < 12 → ∀ j : Nat, j < lensL.getD i 0 → (flatC (Jvm.Cond.and given_1 narrow_1))[offL.getD i 0 + (4 + j)]? = some (Cond.eq (.elem (.field (tmS i) "java/lang/String" "value" "[B") (.int (Int32.ofNat j))) (.int ((bytL.getD i []).getD j 0))) := by decide +kernel
def neL : List (List Nat) := [[0, 264, 272, 284, 299, 314, 330, 381, 430, 498, 536, 552], [264, 0, 273, 285, 300, 315, 331, 382, 431, 499, 537, 553], [272, 273, 0, 286, 301, 316, 332, 383, 432, 500, 538, 554], [284, 285, 286, 0, 302, 317, 333, 384, 433, 501, 539, 555], [299, 300, 301, 302, 0, 318, 334, 385, 434, 502, 540, 556], [314, 315, 316, 317, 318, 0, 335, 386, 435, 503, 541, 557], [330, 331, 332, 333, 334, 335, 0, 387, 436, 504, 542, 558], [381, 382, 383, 384, 385, 386, 387, 0, 437, 505, 543, 559], [430, 431, 432, 433, 434, 435, 436, 437, 0, 506, 544, 560], [498, 499, 500, 501, 502, 503, 504, 505, 506, 0, 545, 561], [536, 537, 538, 539, 540, 541, 542, 543, 544, 545, 0, 563], [552, 553, 554, 555, 556, 557, 558, 559, 560, 561, 563, 0]]
set_option maxRecDepth 100000 in
theorem str_ne : ∀ i : Nat, i < 12 → ∀ j : Nat, j < 12 → i ≠ j → ((flatC (Jvm.Cond.and given_1 narrow_1))[(neL.getD i []).getD j 0]? = some (Cond.not (Cond.eq (tmS i) (tmS j))) ∨ (flatC (Jvm.Cond.and given_1 narrow_1))[(neL.getD i []).getD j 0]? = some (Cond.not (Cond.eq (tmS j) (tmS i)))) := by decide +kernel
theorem str_eq_10 : (flatC (Jvm.Cond.and given_1 narrow_1))[515]? = some (Cond.eq (tmS 0) (.string "VectorVersionsLaw" 161)) := by decide +kernel
theorem str_at {args : Array Value} {s : State} (hg : (Jvm.Cond.and given_1 narrow_1).before args s = true) {adK : Nat → Nat} (h : ∀ i : Nat, i < 12 → (tmS i).eval args s none [] s = some (.ref (adK i))) : ∀ q ∈ strL, (Term.string q.1 q.2.1).eval args s none [] s = some (.ref (adK q.2.2.2)) := by
  unfold strL
  exact List.forall_mem_cons.mpr ⟨h 0 (by decide), List.forall_mem_cons.mpr ⟨h 1 (by decide), List.forall_mem_cons.mpr ⟨h 2 (by decide), List.forall_mem_cons.mpr ⟨h 3 (by decide), List.forall_mem_cons.mpr ⟨h 4 (by decide), List.forall_mem_cons.mpr ⟨h 5 (by decide), List.forall_mem_cons.mpr ⟨h 6 (by decide), List.forall_mem_cons.mpr ⟨h 7 (by decide), List.forall_mem_cons.mpr ⟨h 8 (by decide), List.forall_mem_cons.mpr ⟨h 9 (by decide), List.forall_mem_cons.mpr ⟨va_eqR (nw_at hg 515 str_eq_10) (h 0 (by decide)), List.forall_mem_cons.mpr ⟨h 10 (by decide), List.forall_mem_cons.mpr ⟨h 11 (by decide), fun _ h => absurd h List.not_mem_nil⟩⟩⟩⟩⟩⟩⟩⟩⟩⟩⟩⟩⟩
theorem ar_first : (flatC (Jvm.Cond.and given_1 narrow_1))[5]? = some (Cond.arrayOf (.static "VectorVersions" "FIRST_ELEMENTS" "[I") .int) := by decide +kernel
theorem le_first : (flatC (Jvm.Cond.and given_1 narrow_1))[6]? = some (Cond.eq (.length (.static "VectorVersions" "FIRST_ELEMENTS" "[I")) (.int (Int32.ofNat 10))) := by decide +kernel
theorem el_first : ∀ j : Nat, j < 10 → (flatC (Jvm.Cond.and given_1 narrow_1))[([7, 8, 9, 10, 11, 12, 13, 14, 15, 16] : List Nat).getD j 0]? = some (Cond.eq (.elem (.static "VectorVersions" "FIRST_ELEMENTS" "[I") (.int (Int32.ofNat j))) (.int (i32 (v10L.getD j 0)))) := by decide +kernel
theorem ar_ones : (flatC (Jvm.Cond.and given_1 narrow_1))[25]? = some (Cond.arrayOf (.static "java/lang/Integer" "DigitOnes" "[B") .byte) := by decide +kernel
theorem le_ones : (flatC (Jvm.Cond.and given_1 narrow_1))[26]? = some (Cond.eq (.length (.static "java/lang/Integer" "DigitOnes" "[B")) (.int (Int32.ofNat 100))) := by decide +kernel
set_option maxRecDepth 100000 in
theorem el_ones : ∀ j : Nat, j < 100 → (flatC (Jvm.Cond.and given_1 narrow_1))[27 + j]? = some (Cond.eq (.elem (.static "java/lang/Integer" "DigitOnes" "[B") (.int (Int32.ofNat j))) (.int (i32 (dgO j)))) := by decide +kernel
theorem ex_ones : (flatC (Jvm.Cond.and given_1 narrow_1))[565]? = some (Cond.exactly (.static "java/lang/Integer" "DigitOnes" "[B") "[B") := by decide +kernel
theorem ar_tens : (flatC (Jvm.Cond.and given_1 narrow_1))[128]? = some (Cond.arrayOf (.static "java/lang/Integer" "DigitTens" "[B") .byte) := by decide +kernel
theorem le_tens : (flatC (Jvm.Cond.and given_1 narrow_1))[129]? = some (Cond.eq (.length (.static "java/lang/Integer" "DigitTens" "[B")) (.int (Int32.ofNat 100))) := by decide +kernel
set_option maxRecDepth 100000 in
theorem el_tens : ∀ j : Nat, j < 100 → (flatC (Jvm.Cond.and given_1 narrow_1))[130 + j]? = some (Cond.eq (.elem (.static "java/lang/Integer" "DigitTens" "[B") (.int (Int32.ofNat j))) (.int (i32 (dgT j)))) := by decide +kernel
theorem ex_tens : (flatC (Jvm.Cond.and given_1 narrow_1))[566]? = some (Cond.exactly (.static "java/lang/Integer" "DigitTens" "[B") "[B") := by decide +kernel
theorem nb_first : (flatC (Jvm.Cond.and given_1 narrow_1))[564]? = some (Cond.not (Cond.eq (.arg 0) (.static "VectorVersions" "FIRST_ELEMENTS" "[I"))) := by decide +kernel
theorem cs_one : (flatC (Jvm.Cond.and given_1 narrow_1))[17]? = some (Cond.eq (.static "java/lang/String" "COMPACT_STRINGS" "Z") (.int 1)) := by decide +kernel
theorem rf_sio : (flatC (Jvm.Cond.and given_1 narrow_1))[18]? = some (Cond.isRef (.static "jdk/internal/util/Preconditions" "SIOOBE_FORMATTER" "Ljava/util/function/BiFunction;")) := by decide +kernel
theorem rf_ste : (flatC (Jvm.Cond.and given_1 narrow_1))[22]? = some (Cond.isRef (.static "java/lang/Throwable" "UNASSIGNED_STACK" "[Ljava/lang/StackTraceElement;")) := by decide +kernel
theorem rf_sup : (flatC (Jvm.Cond.and given_1 narrow_1))[23]? = some (Cond.isRef (.static "java/lang/Throwable" "SUPPRESSED_SENTINEL" "Ljava/util/List;")) := by decide +kernel
theorem tc_clone : Cond.castable "[B" "java/lang/Cloneable" ∈ lw_tbl := tc_5 (List.mem_of_getElem? (i := 201) (by decide +kernel))
theorem tc_over : Cond.arrayOver (.array .int) ∈ lw_tbl := tc_3 (List.mem_of_getElem? (i := 32) (by decide +kernel))
theorem tc_lat : Cond.selects RJ4 yJ5_isLatin1_aae02 yJ5_isLatin1_aae02 ∈ lw_tbl := tc_5 (List.mem_of_getElem? (i := 210) (by decide +kernel))
theorem tp_ens : Cond.privateMethod yJ5_ensureCapacityInternal_d00df ∈ lw_tbl ∧ Cond.instanceMethod yJ5_ensureCapacityInternal_d00df ∈ lw_tbl := ⟨tc_5 (List.mem_of_getElem? (i := 178) (by decide +kernel)), tc_5 (List.mem_of_getElem? (i := 179) (by decide +kernel))⟩
theorem tp_newCap : Cond.privateMethod yJ5_newCapacity_0f7a4 ∈ lw_tbl ∧ Cond.instanceMethod yJ5_newCapacity_0f7a4 ∈ lw_tbl := ⟨tc_5 (List.mem_of_getElem? (i := 182) (by decide +kernel)), tc_5 (List.mem_of_getElem? (i := 183) (by decide +kernel))⟩
theorem tp_putS : Cond.privateMethod yJ5_putStringAt_47b60 ∈ lw_tbl ∧ Cond.instanceMethod yJ5_putStringAt_47b60 ∈ lw_tbl := ⟨tc_5 (List.mem_of_getElem? (i := 229) (by decide +kernel)), tc_5 (List.mem_of_getElem? (i := 230) (by decide +kernel))⟩
theorem tp_infl : Cond.privateMethod yJ5_inflateIfNeededFor_a7421 ∈ lw_tbl ∧ Cond.instanceMethod yJ5_inflateIfNeededFor_a7421 ∈ lw_tbl := ⟨tc_5 (List.mem_of_getElem? (i := 233) (by decide +kernel)), tc_5 (List.mem_of_getElem? (i := 234) (by decide +kernel))⟩
