/-! what the law's start gives: the world as the walk has it -/
theorem tc_1 {w : Cond} (h : w ∈ tables_1_1) : w ∈ lw_tbl := List.mem_append_right _ (by
  unfold tables_1
  simp only [List.mem_append]
  simp [h])
theorem tc_2 {w : Cond} (h : w ∈ tables_1_2) : w ∈ lw_tbl := List.mem_append_right _ (by
  unfold tables_1
  simp only [List.mem_append]
  simp [h])
theorem tc_3 {w : Cond} (h : w ∈ tables_1_3) : w ∈ lw_tbl := List.mem_append_right _ (by
  unfold tables_1
  simp only [List.mem_append]
  simp [h])
theorem tc_4 {w : Cond} (h : w ∈ tables_1_4) : w ∈ lw_tbl := List.mem_append_right _ (by
  unfold tables_1
  simp only [List.mem_append]
  simp [h])
theorem tc_5 {w : Cond} (h : w ∈ tables_1_5) : w ∈ lw_tbl := List.mem_append_right _ (by
  unfold tables_1
  simp only [List.mem_append]
  simp [h])
theorem tc_6 {w : Cond} (h : w ∈ tables_1_6) : w ∈ lw_tbl := List.mem_append_right _ (by
  unfold tables_1
  simp only [List.mem_append]
  simp [h])
theorem tc_7 {w : Cond} (h : w ∈ tables_1_7) : w ∈ lw_tbl := List.mem_append_right _ (by
  unfold tables_1
  simp only [List.mem_append]
  simp [h])
theorem tc_8 {w : Cond} (h : w ∈ tables_1_8) : w ∈ lw_tbl := List.mem_append_right _ (by
  unfold tables_1
  simp only [List.mem_append]
  simp [h])
theorem tc_9 {w : Cond} (h : w ∈ tables_1_9) : w ∈ lw_tbl := List.mem_append_right _ (by
  unfold tables_1
  simp only [List.mem_append]
  simp [h])
theorem nw_at {args : Array Value} {s : State} (h : (Jvm.Cond.and given_1 narrow_1).before args s = true) (i : Nat) {w : Cond} (hw : (flatC (Jvm.Cond.and given_1 narrow_1))[i]? = some w) : w.before args s = true := flat_of_before _ h w (List.mem_of_getElem? hw)
theorem nest_in : ∀ q ∈ nestL, nOK q ∈ lw_tbl := by
  unfold nestL
  exact List.forall_mem_cons.mpr ⟨tc_1 (List.mem_of_getElem? (i := 36) (by decide +kernel)), List.forall_mem_cons.mpr ⟨tc_1 (List.mem_of_getElem? (i := 42) (by decide +kernel)), List.forall_mem_cons.mpr ⟨tc_1 (List.mem_of_getElem? (i := 73) (by decide +kernel)), List.forall_mem_cons.mpr ⟨tc_1 (List.mem_of_getElem? (i := 158) (by decide +kernel)), List.forall_mem_cons.mpr ⟨tc_1 (List.mem_of_getElem? (i := 184) (by decide +kernel)), List.forall_mem_cons.mpr ⟨tc_2 (List.mem_of_getElem? (i := 48) (by decide +kernel)), List.forall_mem_cons.mpr ⟨tc_2 (List.mem_of_getElem? (i := 70) (by decide +kernel)), List.forall_mem_cons.mpr ⟨tc_2 (List.mem_of_getElem? (i := 77) (by decide +kernel)), List.forall_mem_cons.mpr ⟨tc_2 (List.mem_of_getElem? (i := 80) (by decide +kernel)), List.forall_mem_cons.mpr ⟨tc_2 (List.mem_of_getElem? (i := 83) (by decide +kernel)), List.forall_mem_cons.mpr ⟨tc_2 (List.mem_of_getElem? (i := 97) (by decide +kernel)), List.forall_mem_cons.mpr ⟨tc_2 (List.mem_of_getElem? (i := 111) (by decide +kernel)), List.forall_mem_cons.mpr ⟨tc_2 (List.mem_of_getElem? (i := 118) (by decide +kernel)), List.forall_mem_cons.mpr ⟨tc_2 (List.mem_of_getElem? (i := 119) (by decide +kernel)), List.forall_mem_cons.mpr ⟨tc_2 (List.mem_of_getElem? (i := 170) (by decide +kernel)), List.forall_mem_cons.mpr ⟨tc_3 (List.mem_of_getElem? (i := 43) (by decide +kernel)), List.forall_mem_cons.mpr ⟨tc_3 (List.mem_of_getElem? (i := 81) (by decide +kernel)), List.forall_mem_cons.mpr ⟨tc_3 (List.mem_of_getElem? (i := 90) (by decide +kernel)), List.forall_mem_cons.mpr ⟨tc_3 (List.mem_of_getElem? (i := 100) (by decide +kernel)), List.forall_mem_cons.mpr ⟨tc_3 (List.mem_of_getElem? (i := 101) (by decide +kernel)), List.forall_mem_cons.mpr ⟨tc_3 (List.mem_of_getElem? (i := 144) (by decide +kernel)), List.forall_mem_cons.mpr ⟨tc_3 (List.mem_of_getElem? (i := 149) (by decide +kernel)), List.forall_mem_cons.mpr ⟨tc_3 (List.mem_of_getElem? (i := 150) (by decide +kernel)), List.forall_mem_cons.mpr ⟨tc_3 (List.mem_of_getElem? (i := 195) (by decide +kernel)), List.forall_mem_cons.mpr ⟨tc_4 (List.mem_of_getElem? (i := 1) (by decide +kernel)), List.forall_mem_cons.mpr ⟨tc_4 (List.mem_of_getElem? (i := 25) (by decide +kernel)), List.forall_mem_cons.mpr ⟨tc_4 (List.mem_of_getElem? (i := 26) (by decide +kernel)), List.forall_mem_cons.mpr ⟨tc_4 (List.mem_of_getElem? (i := 33) (by decide +kernel)), List.forall_mem_cons.mpr ⟨tc_4 (List.mem_of_getElem? (i := 172) (by decide +kernel)), List.forall_mem_cons.mpr ⟨tc_4 (List.mem_of_getElem? (i := 173) (by decide +kernel)), List.forall_mem_cons.mpr ⟨tc_5 (List.mem_of_getElem? (i := 67) (by decide +kernel)), List.forall_mem_cons.mpr ⟨tc_5 (List.mem_of_getElem? (i := 80) (by decide +kernel)), List.forall_mem_cons.mpr ⟨tc_5 (List.mem_of_getElem? (i := 81) (by decide +kernel)), List.forall_mem_cons.mpr ⟨tc_5 (List.mem_of_getElem? (i := 86) (by decide +kernel)), List.forall_mem_cons.mpr ⟨tc_6 (List.mem_of_getElem? (i := 186) (by decide +kernel)), List.forall_mem_cons.mpr ⟨tc_6 (List.mem_of_getElem? (i := 202) (by decide +kernel)), List.forall_mem_cons.mpr ⟨tc_6 (List.mem_of_getElem? (i := 204) (by decide +kernel)), fun _ h => absurd h List.not_mem_nil⟩⟩⟩⟩⟩⟩⟩⟩⟩⟩⟩⟩⟩⟩⟩⟩⟩⟩⟩⟩⟩⟩⟩⟩⟩⟩⟩⟩⟩⟩⟩⟩⟩⟩⟩⟩⟩
theorem str_in : ∀ q ∈ strL, Cond.stringRef q.1 q.2.1 q.2.2.1 ∈ lw_tbl := by
  unfold strL
  exact List.forall_mem_cons.mpr ⟨tc_2 (List.mem_of_getElem? (i := 209) (by decide +kernel)), List.forall_mem_cons.mpr ⟨tc_3 (List.mem_of_getElem? (i := 22) (by decide +kernel)), List.forall_mem_cons.mpr ⟨tc_3 (List.mem_of_getElem? (i := 23) (by decide +kernel)), List.forall_mem_cons.mpr ⟨tc_3 (List.mem_of_getElem? (i := 24) (by decide +kernel)), List.forall_mem_cons.mpr ⟨tc_3 (List.mem_of_getElem? (i := 25) (by decide +kernel)), List.forall_mem_cons.mpr ⟨tc_3 (List.mem_of_getElem? (i := 26) (by decide +kernel)), List.forall_mem_cons.mpr ⟨tc_3 (List.mem_of_getElem? (i := 27) (by decide +kernel)), List.forall_mem_cons.mpr ⟨tc_5 (List.mem_of_getElem? (i := 1) (by decide +kernel)), List.forall_mem_cons.mpr ⟨tc_5 (List.mem_of_getElem? (i := 36) (by decide +kernel)), List.forall_mem_cons.mpr ⟨tc_5 (List.mem_of_getElem? (i := 52) (by decide +kernel)), List.forall_mem_cons.mpr ⟨tc_6 (List.mem_of_getElem? (i := 174) (by decide +kernel)), List.forall_mem_cons.mpr ⟨tc_6 (List.mem_of_getElem? (i := 218) (by decide +kernel)), List.forall_mem_cons.mpr ⟨tc_7 (List.mem_of_getElem? (i := 177) (by decide +kernel)), List.forall_mem_cons.mpr ⟨tc_7 (List.mem_of_getElem? (i := 192) (by decide +kernel)), List.forall_mem_cons.mpr ⟨tc_7 (List.mem_of_getElem? (i := 217) (by decide +kernel)), List.forall_mem_cons.mpr ⟨tc_7 (List.mem_of_getElem? (i := 218) (by decide +kernel)), List.forall_mem_cons.mpr ⟨tc_7 (List.mem_of_getElem? (i := 219) (by decide +kernel)), List.forall_mem_cons.mpr ⟨tc_7 (List.mem_of_getElem? (i := 220) (by decide +kernel)), List.forall_mem_cons.mpr ⟨tc_7 (List.mem_of_getElem? (i := 221) (by decide +kernel)), fun _ h => absurd h List.not_mem_nil⟩⟩⟩⟩⟩⟩⟩⟩⟩⟩⟩⟩⟩⟩⟩⟩⟩⟩⟩
theorem cast_in : ∀ q ∈ castL, Cond.castable q q ∈ lw_tbl := by
  unfold castL
  exact List.forall_mem_cons.mpr ⟨tc_4 (List.mem_of_getElem? (i := 201) (by decide +kernel)), List.forall_mem_cons.mpr ⟨tc_5 (List.mem_of_getElem? (i := 29) (by decide +kernel)), List.forall_mem_cons.mpr ⟨tc_5 (List.mem_of_getElem? (i := 45) (by decide +kernel)), List.forall_mem_cons.mpr ⟨tc_6 (List.mem_of_getElem? (i := 167) (by decide +kernel)), fun _ h => absurd h List.not_mem_nil⟩⟩⟩⟩
theorem nc_in : ∀ q ∈ ncL, Cond.not (.castable q.1 q.2) ∈ flatC (Jvm.Cond.and given_1 narrow_1) := by
  unfold ncL
  exact List.forall_mem_cons.mpr ⟨List.mem_of_getElem? (i := 87) (by decide +kernel), List.forall_mem_cons.mpr ⟨List.mem_of_getElem? (i := 71) (by decide +kernel), List.forall_mem_cons.mpr ⟨List.mem_of_getElem? (i := 103) (by decide +kernel), List.forall_mem_cons.mpr ⟨List.mem_of_getElem? (i := 55) (by decide +kernel), List.forall_mem_cons.mpr ⟨List.mem_of_getElem? (i := 72) (by decide +kernel), List.forall_mem_cons.mpr ⟨List.mem_of_getElem? (i := 104) (by decide +kernel), List.forall_mem_cons.mpr ⟨List.mem_of_getElem? (i := 56) (by decide +kernel), List.forall_mem_cons.mpr ⟨List.mem_of_getElem? (i := 88) (by decide +kernel), List.forall_mem_cons.mpr ⟨List.mem_of_getElem? (i := 105) (by decide +kernel), List.forall_mem_cons.mpr ⟨List.mem_of_getElem? (i := 57) (by decide +kernel), List.forall_mem_cons.mpr ⟨List.mem_of_getElem? (i := 89) (by decide +kernel), List.forall_mem_cons.mpr ⟨List.mem_of_getElem? (i := 73) (by decide +kernel), fun _ h => absurd h List.not_mem_nil⟩⟩⟩⟩⟩⟩⟩⟩⟩⟩⟩⟩
theorem ls_first : Cond.laysStatic "VectorVersions" "FIRST_ELEMENTS" "[I" ∈ lw_tbl := tc_2 (List.mem_of_getElem? (i := 61) (by decide +kernel))
theorem iz_first : Cond.initialized "VectorVersions" ∈ lw_tbl := tc_1 (List.mem_of_getElem? (i := 1) (by decide +kernel))
theorem ls_great : Cond.laysStatic "VectorVersions$Script" "GREATEST" "[I" ∈ lw_tbl := tc_3 (List.mem_of_getElem? (i := 76) (by decide +kernel))
theorem iz_great : Cond.initialized "VectorVersions$Script" ∈ lw_tbl := tc_1 (List.mem_of_getElem? (i := 11) (by decide +kernel))
theorem ls_comp : Cond.laysStatic "java/lang/String" "COMPACT_STRINGS" "Z" ∈ lw_tbl := tc_2 (List.mem_of_getElem? (i := 223) (by decide +kernel))
theorem iz_comp : Cond.initialized "java/lang/String" ∈ lw_tbl := tc_1 (List.mem_of_getElem? (i := 15) (by decide +kernel))
theorem ls_sio : Cond.laysStatic "jdk/internal/util/Preconditions" "SIOOBE_FORMATTER" "Ljava/util/function/BiFunction;" ∈ lw_tbl := tc_2 (List.mem_of_getElem? (i := 239) (by decide +kernel))
theorem iz_sio : Cond.initialized "jdk/internal/util/Preconditions" ∈ lw_tbl := tc_1 (List.mem_of_getElem? (i := 17) (by decide +kernel))
theorem ls_ste : Cond.laysStatic "java/lang/Throwable" "UNASSIGNED_STACK" "[Ljava/lang/StackTraceElement;" ∈ lw_tbl := tc_4 (List.mem_of_getElem? (i := 226) (by decide +kernel))
theorem iz_ste : Cond.initialized "java/lang/Throwable" ∈ lw_tbl := tc_1 (List.mem_of_getElem? (i := 19) (by decide +kernel))
theorem ls_sup : Cond.laysStatic "java/lang/Throwable" "SUPPRESSED_SENTINEL" "Ljava/util/List;" ∈ lw_tbl := tc_4 (List.mem_of_getElem? (i := 228) (by decide +kernel))
theorem iz_sup : Cond.initialized "java/lang/Throwable" ∈ lw_tbl := tc_1 (List.mem_of_getElem? (i := 19) (by decide +kernel))
def tmL : List (String × Nat) := [("VectorVersions$Tokens", 66), ("VectorVersions$Tokens", 72), ("VectorVersions$Tokens", 74), ("VectorVersions$Tokens", 76), ("VectorVersions$Tokens", 78), ("VectorVersions$Tokens", 80), ("VectorVersions$Tokens", 82), ("VectorVersions", 337), ("VectorVersions", 342), ("VectorVersions", 347), ("VectorVersions", 308), ("VectorVersions", 327)]
def tmS (i : Nat) : Term := .string (tmL.getD i ("", 0)).1 (tmL.getD i ("", 0)).2
def offL : List Nat := [106, 114, 124, 133, 146, 162, 178, 195, 247, 297, 366, 406]
set_option maxRecDepth 100000 in
theorem str_ex : ∀ i : Nat, i < 12 → (flatC (Jvm.Cond.and given_1 narrow_1))[offL.getD i 0]? = some (Cond.exactly (tmS i) "java/lang/String") := by decide +kernel
set_option maxRecDepth 100000 in
theorem str_co : ∀ i : Nat, i < 12 → (flatC (Jvm.Cond.and given_1 narrow_1))[offL.getD i 0 + 1]? = some (Cond.eq (.field (tmS i) "java/lang/String" "coder" "B") (.int 0)) := by decide +kernel
set_option maxRecDepth 100000 in
theorem str_ar : ∀ i : Nat, i < 12 → (flatC (Jvm.Cond.and given_1 narrow_1))[offL.getD i 0 + 2]? = some (Cond.arrayOf (.field (tmS i) "java/lang/String" "value" "[B") .byte) := by decide +kernel
set_option maxRecDepth 100000 in
theorem str_le : ∀ i : Nat, i < 12 → (flatC (Jvm.Cond.and given_1 narrow_1))[offL.getD i 0 + 3]? = some (Cond.eq (.length (.field (tmS i) "java/lang/String" "value" "[B")) (.int (Int32.ofNat (lensL.getD i 0)))) := by decide +kernel
set_option maxRecDepth 100000 in
theorem str_el : ∀ i : Nat, i < 12 → ∀ j : Nat, j < lensL.getD i 0 → (flatC (Jvm.Cond.and given_1 narrow_1))[offL.getD i 0 + (4 + j)]? = some (Cond.eq (.elem (.field (tmS i) "java/lang/String" "value" "[B") (.int (Int32.ofNat j))) (.int ((bytL.getD i []).getD j 0))) := by decide +kernel
def neL : List (List Nat) := [[0, 123, 131, 143, 158, 173, 189, 240, 289, 357, 396, 427], [123, 0, 132, 144, 159, 174, 190, 241, 290, 358, 397, 428], [131, 132, 0, 145, 160, 175, 191, 242, 291, 359, 398, 429], [143, 144, 145, 0, 161, 176, 192, 243, 292, 360, 399, 430], [158, 159, 160, 161, 0, 177, 193, 244, 293, 361, 400, 431], [173, 174, 175, 176, 177, 0, 194, 245, 294, 362, 401, 432], [189, 190, 191, 192, 193, 194, 0, 246, 295, 363, 402, 433], [240, 241, 242, 243, 244, 245, 246, 0, 296, 364, 403, 434], [289, 290, 291, 292, 293, 294, 295, 296, 0, 365, 404, 435], [357, 358, 359, 360, 361, 362, 363, 364, 365, 0, 405, 436], [396, 397, 398, 399, 400, 401, 402, 403, 404, 405, 0, 437], [427, 428, 429, 430, 431, 432, 433, 434, 435, 436, 437, 0]]
set_option maxRecDepth 100000 in
theorem str_ne : ∀ i : Nat, i < 12 → ∀ j : Nat, j < 12 → i ≠ j → ((flatC (Jvm.Cond.and given_1 narrow_1))[(neL.getD i []).getD j 0]? = some (Cond.not (Cond.eq (tmS i) (tmS j))) ∨ (flatC (Jvm.Cond.and given_1 narrow_1))[(neL.getD i []).getD j 0]? = some (Cond.not (Cond.eq (tmS j) (tmS i)))) := by decide +kernel
theorem str_eq_12 : (flatC (Jvm.Cond.and given_1 narrow_1))[446]? = some (Cond.eq (tmS 0) (.string "VectorVersionsModel" 245)) := by decide +kernel
theorem str_eq_13 : (flatC (Jvm.Cond.and given_1 narrow_1))[468]? = some (Cond.eq (tmS 1) (.string "VectorVersionsModel" 236)) := by decide +kernel
theorem str_eq_14 : (flatC (Jvm.Cond.and given_1 narrow_1))[489]? = some (Cond.eq (tmS 2) (.string "VectorVersionsModel" 266)) := by decide +kernel
theorem str_eq_15 : (flatC (Jvm.Cond.and given_1 narrow_1))[514]? = some (Cond.eq (tmS 3) (.string "VectorVersionsModel" 268)) := by decide +kernel
theorem str_eq_16 : (flatC (Jvm.Cond.and given_1 narrow_1))[542]? = some (Cond.eq (tmS 4) (.string "VectorVersionsModel" 270)) := by decide +kernel
theorem str_eq_17 : (flatC (Jvm.Cond.and given_1 narrow_1))[570]? = some (Cond.eq (tmS 5) (.string "VectorVersionsModel" 272)) := by decide +kernel
theorem str_eq_18 : (flatC (Jvm.Cond.and given_1 narrow_1))[599]? = some (Cond.eq (tmS 6) (.string "VectorVersionsModel" 274)) := by decide +kernel
theorem str_at {args : Array Value} {s : State} (hg : (Jvm.Cond.and given_1 narrow_1).before args s = true) {adK : Nat → Nat} (h : ∀ i : Nat, i < 12 → (tmS i).eval args s none [] s = some (.ref (adK i))) : ∀ q ∈ strL, (Term.string q.1 q.2.1).eval args s none [] s = some (.ref (adK q.2.2.2)) := by
  unfold strL
  exact List.forall_mem_cons.mpr ⟨h 0 (by decide), List.forall_mem_cons.mpr ⟨h 1 (by decide), List.forall_mem_cons.mpr ⟨h 2 (by decide), List.forall_mem_cons.mpr ⟨h 3 (by decide), List.forall_mem_cons.mpr ⟨h 4 (by decide), List.forall_mem_cons.mpr ⟨h 5 (by decide), List.forall_mem_cons.mpr ⟨h 6 (by decide), List.forall_mem_cons.mpr ⟨h 7 (by decide), List.forall_mem_cons.mpr ⟨h 8 (by decide), List.forall_mem_cons.mpr ⟨h 9 (by decide), List.forall_mem_cons.mpr ⟨h 10 (by decide), List.forall_mem_cons.mpr ⟨h 11 (by decide), List.forall_mem_cons.mpr ⟨va_eqR (nw_at hg 446 str_eq_12) (h 0 (by decide)), List.forall_mem_cons.mpr ⟨va_eqR (nw_at hg 468 str_eq_13) (h 1 (by decide)), List.forall_mem_cons.mpr ⟨va_eqR (nw_at hg 489 str_eq_14) (h 2 (by decide)), List.forall_mem_cons.mpr ⟨va_eqR (nw_at hg 514 str_eq_15) (h 3 (by decide)), List.forall_mem_cons.mpr ⟨va_eqR (nw_at hg 542 str_eq_16) (h 4 (by decide)), List.forall_mem_cons.mpr ⟨va_eqR (nw_at hg 570 str_eq_17) (h 5 (by decide)), List.forall_mem_cons.mpr ⟨va_eqR (nw_at hg 599 str_eq_18) (h 6 (by decide)), fun _ h => absurd h List.not_mem_nil⟩⟩⟩⟩⟩⟩⟩⟩⟩⟩⟩⟩⟩⟩⟩⟩⟩⟩⟩
theorem ar_first : (flatC (Jvm.Cond.and given_1 narrow_1))[5]? = some (Cond.arrayOf (.static "VectorVersions" "FIRST_ELEMENTS" "[I") .int) := by decide +kernel
theorem le_first : (flatC (Jvm.Cond.and given_1 narrow_1))[6]? = some (Cond.eq (.length (.static "VectorVersions" "FIRST_ELEMENTS" "[I")) (.int (Int32.ofNat 10))) := by decide +kernel
theorem el_first : ∀ j : Nat, j < 10 → (flatC (Jvm.Cond.and given_1 narrow_1))[([7, 8, 9, 10, 11, 12, 13, 14, 15, 16] : List Nat).getD j 0]? = some (Cond.eq (.elem (.static "VectorVersions" "FIRST_ELEMENTS" "[I") (.int (Int32.ofNat j))) (.int (i32 (v10L.getD j 0)))) := by decide +kernel
theorem ar_great : (flatC (Jvm.Cond.and given_1 narrow_1))[23]? = some (Cond.arrayOf (.static "VectorVersions$Script" "GREATEST" "[I") .int) := by decide +kernel
theorem le_great : (flatC (Jvm.Cond.and given_1 narrow_1))[24]? = some (Cond.eq (.length (.static "VectorVersions$Script" "GREATEST" "[I")) (.int (Int32.ofNat 15))) := by decide +kernel
theorem el_great : ∀ j : Nat, j < 15 → (flatC (Jvm.Cond.and given_1 narrow_1))[([25, 26, 27, 28, 29, 30, 31, 32, 33, 34, 35, 36, 37, 38, 39] : List Nat).getD j 0]? = some (Cond.eq (.elem (.static "VectorVersions$Script" "GREATEST" "[I") (.int (Int32.ofNat j))) (.int (i32 (gtL.getD j 0)))) := by decide +kernel
theorem nb_first : (flatC (Jvm.Cond.and given_1 narrow_1))[611]? = some (Cond.not (Cond.eq (.arg 0) (.static "VectorVersions" "FIRST_ELEMENTS" "[I"))) := by decide +kernel
theorem nb_great : (flatC (Jvm.Cond.and given_1 narrow_1))[612]? = some (Cond.not (Cond.eq (.arg 0) (.static "VectorVersions$Script" "GREATEST" "[I"))) := by decide +kernel
theorem cs_one : (flatC (Jvm.Cond.and given_1 narrow_1))[17]? = some (Cond.eq (.static "java/lang/String" "COMPACT_STRINGS" "Z") (.int 1)) := by decide +kernel
theorem rf_sio : (flatC (Jvm.Cond.and given_1 narrow_1))[18]? = some (Cond.isRef (.static "jdk/internal/util/Preconditions" "SIOOBE_FORMATTER" "Ljava/util/function/BiFunction;")) := by decide +kernel
theorem rf_ste : (flatC (Jvm.Cond.and given_1 narrow_1))[40]? = some (Cond.isRef (.static "java/lang/Throwable" "UNASSIGNED_STACK" "[Ljava/lang/StackTraceElement;")) := by decide +kernel
theorem rf_sup : (flatC (Jvm.Cond.and given_1 narrow_1))[41]? = some (Cond.isRef (.static "java/lang/Throwable" "SUPPRESSED_SENTINEL" "Ljava/util/List;")) := by decide +kernel
