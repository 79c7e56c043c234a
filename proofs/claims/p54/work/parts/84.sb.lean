/-! the JDK's texts: what a builder is, and its methods that make nothing -/
theorem nat_copy : Cond.native arraycopyName ∈ wsA ∧ Cond.static arraycopyName ∈ wsA ∧ Cond.initialized "java/lang/System" ∈ wsA := ⟨tb_5 (List.mem_of_getElem? (i := 206) (by decide +kernel)) (by decide +kernel), tb_5 (List.mem_of_getElem? (i := 205) (by decide +kernel)) (by decide +kernel), tb_1 (List.mem_of_getElem? (i := 20) (by decide +kernel)) (by decide +kernel)⟩
theorem lm_J7_150 : Cond.methodLink RJ7 150 arraycopyName ∈ wsA := tb_5 (List.mem_of_getElem? (i := 204) (by decide +kernel)) (by decide +kernel)
theorem lm_J0_212 : Cond.methodLink RJ0 212 arraycopyName ∈ wsA := tb_6 (List.mem_of_getElem? (i := 19) (by decide +kernel)) (by decide +kernel)
theorem lf_J5_15 : Cond.fieldLink RJ5 15 "java/lang/AbstractStringBuilder" "value" "[B" ∈ wsA := tb_6 (List.mem_of_getElem? (i := 21) (by decide +kernel)) (by decide +kernel)
theorem lf_J5_22 : Cond.fieldLink RJ5 22 "java/lang/AbstractStringBuilder" "coder" "B" ∈ wsA := tb_6 (List.mem_of_getElem? (i := 22) (by decide +kernel)) (by decide +kernel)
theorem lf_J5_79 : Cond.fieldLink RJ5 79 "java/lang/AbstractStringBuilder" "count" "I" ∈ wsA := tb_6 (List.mem_of_getElem? (i := 24) (by decide +kernel)) (by decide +kernel)
theorem lf_J5_18 : Cond.fieldLink RJ5 18 "java/lang/String" "COMPACT_STRINGS" "Z" ∈ wsA := tb_5 (List.mem_of_getElem? (i := 212) (by decide +kernel)) (by decide +kernel)
theorem lf_J6_83 : Cond.fieldLink RJ6 83 "java/lang/Integer" "DigitOnes" "[B" ∈ wsA := tb_6 (List.mem_of_getElem? (i := 60) (by decide +kernel)) (by decide +kernel)
theorem lf_J6_87 : Cond.fieldLink RJ6 87 "java/lang/Integer" "DigitTens" "[B" ∈ wsA := tb_6 (List.mem_of_getElem? (i := 62) (by decide +kernel)) (by decide +kernel)
theorem cs_newLen : CalS yJ8_newLength_cabcc cJ8_newLength_cabcc 4 (some .int) 3 := ⟨tb_5 (List.mem_of_getElem? (i := 186) (by decide +kernel)) (by decide +kernel), tb_1 (List.mem_of_getElem? (i := 18) (by decide +kernel)) (by decide +kernel), tb_5 (List.mem_of_getElem? (i := 187) (by decide +kernel)) (by decide +kernel), by decide +kernel, by decide +kernel, by decide +kernel⟩
theorem cs_ss : CalS yJ6_stringSize_0f7a4 cJ6_stringSize_0f7a4 4 (some .int) 1 := ⟨tb_6 (List.mem_of_getElem? (i := 55) (by decide +kernel)) (by decide +kernel), tb_1 (List.mem_of_getElem? (i := 24) (by decide +kernel)) (by decide +kernel), tb_6 (List.mem_of_getElem? (i := 56) (by decide +kernel)) (by decide +kernel), by decide +kernel, by decide +kernel, by decide +kernel⟩
theorem cs_gc : CalS yJ6_getChars_ba4f3 cJ6_getChars_ba4f3 7 (some .int) 3 := ⟨tb_6 (List.mem_of_getElem? (i := 58) (by decide +kernel)) (by decide +kernel), tb_1 (List.mem_of_getElem? (i := 24) (by decide +kernel)) (by decide +kernel), tb_6 (List.mem_of_getElem? (i := 59) (by decide +kernel)) (by decide +kernel), by decide +kernel, by decide +kernel, by decide +kernel⟩
theorem cs_can : CalS yJ1_canEncode_fc78d cJ1_canEncode_fc78d 1 (some .boolean) 1 := ⟨tb_6 (List.mem_of_getElem? (i := 42) (by decide +kernel)) (by decide +kernel), tb_1 (List.mem_of_getElem? (i := 22) (by decide +kernel)) (by decide +kernel), tb_6 (List.mem_of_getElem? (i := 43) (by decide +kernel)) (by decide +kernel), by decide +kernel, by decide +kernel, by decide +kernel⟩
theorem cu_lat : CalU yJ5_isLatin1_aae02 yJ5_isLatin1_aae02 cJ5_isLatin1_aae02 1 (some .boolean) 0 := ⟨tb_5 (List.mem_of_getElem? (i := 209) (by decide +kernel)) (by decide +kernel), ⟨tb_5 (List.mem_of_getElem? (i := 208) (by decide +kernel)) (by decide +kernel), cJ5_isLatin1_aae02, 1, (some .boolean), tb_5 (List.mem_of_getElem? (i := 211) (by decide +kernel)) (by decide +kernel)⟩, tb_5 (List.mem_of_getElem? (i := 208) (by decide +kernel)) (by decide +kernel), tb_1 (List.mem_of_getElem? (i := 14) (by decide +kernel)) (by decide +kernel), tb_5 (List.mem_of_getElem? (i := 211) (by decide +kernel)) (by decide +kernel), ⟨by decide +kernel, by decide +kernel⟩, by decide +kernel⟩
theorem cu_newCap : CalU yJ5_newCapacity_0f7a4 yJ5_newCapacity_0f7a4 cJ5_newCapacity_0f7a4 6 (some .int) 1 := ⟨tb_6 (List.mem_of_getElem? (i := 135) (by decide +kernel)) (by decide +kernel), ⟨tb_5 (List.mem_of_getElem? (i := 183) (by decide +kernel)) (by decide +kernel), cJ5_newCapacity_0f7a4, 6, (some .int), tb_5 (List.mem_of_getElem? (i := 184) (by decide +kernel)) (by decide +kernel)⟩, tb_5 (List.mem_of_getElem? (i := 183) (by decide +kernel)) (by decide +kernel), tb_1 (List.mem_of_getElem? (i := 14) (by decide +kernel)) (by decide +kernel), tb_5 (List.mem_of_getElem? (i := 184) (by decide +kernel)) (by decide +kernel), ⟨by decide +kernel, by decide +kernel⟩, by decide +kernel⟩
theorem cu_infl : CalU yJ5_inflateIfNeededFor_a7421 yJ5_inflateIfNeededFor_a7421 cJ5_inflateIfNeededFor_a7421 2 none 1 := ⟨tb_6 (List.mem_of_getElem? (i := 137) (by decide +kernel)) (by decide +kernel), ⟨tb_5 (List.mem_of_getElem? (i := 234) (by decide +kernel)) (by decide +kernel), cJ5_inflateIfNeededFor_a7421, 2, none, tb_5 (List.mem_of_getElem? (i := 235) (by decide +kernel)) (by decide +kernel)⟩, tb_5 (List.mem_of_getElem? (i := 234) (by decide +kernel)) (by decide +kernel), tb_1 (List.mem_of_getElem? (i := 14) (by decide +kernel)) (by decide +kernel), tb_5 (List.mem_of_getElem? (i := 235) (by decide +kernel)) (by decide +kernel), ⟨by decide +kernel, by decide +kernel⟩, by decide +kernel⟩
theorem cu_putS : CalU yJ5_putStringAt_47b60 yJ5_putStringAt_47b60 cJ5_putStringAt_47b60 3 none 2 := ⟨tb_6 (List.mem_of_getElem? (i := 136) (by decide +kernel)) (by decide +kernel), ⟨tb_5 (List.mem_of_getElem? (i := 230) (by decide +kernel)) (by decide +kernel), cJ5_putStringAt_47b60, 3, none, tb_5 (List.mem_of_getElem? (i := 231) (by decide +kernel)) (by decide +kernel)⟩, tb_5 (List.mem_of_getElem? (i := 230) (by decide +kernel)) (by decide +kernel), tb_1 (List.mem_of_getElem? (i := 14) (by decide +kernel)) (by decide +kernel), tb_5 (List.mem_of_getElem? (i := 231) (by decide +kernel)) (by decide +kernel), ⟨by decide +kernel, by decide +kernel⟩, by decide +kernel⟩
theorem cv_getB : CalV yJ0_getBytes_840e7 cJ0_getBytes_840e7 4 none 3 := ⟨tb_6 (List.mem_of_getElem? (i := 16) (by decide +kernel)) (by decide +kernel), tb_6 (List.mem_of_getElem? (i := 17) (by decide +kernel)) (by decide +kernel), tb_1 (List.mem_of_getElem? (i := 16) (by decide +kernel)) (by decide +kernel), tb_6 (List.mem_of_getElem? (i := 18) (by decide +kernel)) (by decide +kernel), by decide +kernel, by decide +kernel, by decide +kernel⟩
theorem sl_lat : Cond.selects RJ4 yJ5_isLatin1_aae02 yJ5_isLatin1_aae02 ∈ wsA := tb_5 (List.mem_of_getElem? (i := 210) (by decide +kernel)) (by decide +kernel)
theorem pv_newCap : Cond.selects RJ4 yJ5_newCapacity_0f7a4 yJ5_newCapacity_0f7a4 ∈ wsA := wsA_x (by decide +kernel) (by decide +kernel)
theorem pv_infl : Cond.selects RJ4 yJ5_inflateIfNeededFor_a7421 yJ5_inflateIfNeededFor_a7421 ∈ wsA := wsA_x (by decide +kernel) (by decide +kernel)
theorem pv_putS : Cond.selects RJ4 yJ5_putStringAt_47b60 yJ5_putStringAt_47b60 ∈ wsA := wsA_x (by decide +kernel) (by decide +kernel)
theorem lm_J5_114 : Cond.methodLink RJ5 114 yJ8_newLength_cabcc ∈ wsA := tb_5 (List.mem_of_getElem? (i := 185) (by decide +kernel)) (by decide +kernel)
theorem lm_J5_397 : Cond.methodLink RJ5 397 yJ5_inflateIfNeededFor_a7421 ∈ wsA := tb_5 (List.mem_of_getElem? (i := 232) (by decide +kernel)) (by decide +kernel)
theorem lm_J5_399 : Cond.methodLink RJ5 399 yJ0_getBytes_840e7 ∈ wsA := tb_6 (List.mem_of_getElem? (i := 15) (by decide +kernel)) (by decide +kernel)
theorem lm_J5_40 : Cond.methodLink RJ5 40 yJ0_coder_7d493 ∈ wsA := tb_5 (List.mem_of_getElem? (i := 152) (by decide +kernel)) (by decide +kernel)
theorem lm_J5_32 : Cond.methodLink RJ5 32 yJ0_length_8abf5 ∈ wsA := tb_5 (List.mem_of_getElem? (i := 149) (by decide +kernel)) (by decide +kernel)
theorem lm_J5_83 : Cond.methodLink RJ5 83 yJ5_isLatin1_aae02 ∈ wsA := tb_5 (List.mem_of_getElem? (i := 207) (by decide +kernel)) (by decide +kernel)
theorem lm_J8_194 : Cond.methodLink RJ8 194 Lib.Math.max.name ∈ wsA := tb_5 (List.mem_of_getElem? (i := 188) (by decide +kernel)) (by decide +kernel)
theorem lc_J8_200 : Cond.constant RJ8 200 (2147483639 : Int32) ∈ wsA := tb_5 (List.mem_of_getElem? (i := 189) (by decide +kernel)) (by decide +kernel)
theorem lc_J5_39 : Cond.constant RJ5 39 (2147483647 : Int32) ∈ wsA := tb_5 (List.mem_of_getElem? (i := 151) (by decide +kernel)) (by decide +kernel)
theorem lc_J5_38 : Cond.constant RJ5 38 (2147483631 : Int32) ∈ wsA := tb_5 (List.mem_of_getElem? (i := 150) (by decide +kernel)) (by decide +kernel)
/-- a builder at k: its row j of m bytes, n of them in use -/
def BW (sk : List SD) (M : Mem) (k j m n : Nat) : Prop := (298 ≤ k ∧ 298 ≤ j ∧ k ≠ j) ∧ sk[k]? = some (.inr (1, [some j, none, none, none])) ∧ sk[j]? = some (.inl (2, m)) ∧ (n ≤ m ∧ m ≤ 4000) ∧ (M k 1 = 0 ∧ M k 3 = n) ∧ ∀ i : Nat, i < m → -128 ≤ M j i ∧ M j i ≤ 127
abbrev rmz (f w : Nat) : Room := { frames := f, cells := 0, slots := 0, locals := w }
abbrev COMP {p : Program} {s : State} {m : MethodId} {args : Array Value} {c : Code} {cc : ByteArray} {nL : Nat} {own : String} {Γ : GG} {sk : List SD} (C : CX p s m args c cc nL own Γ sk) : va_Z "java/lang/String" "COMPACT_STRINGS" "Z" (vi 1) (Fr Γ sk s.heap.size) s s.heap := C.2.2.2.2.2.2.2.2.2.2.2.2.1
section Call9
variable {p : Program} {l : Launch} {e : Env} {R : Room} {s : State} {m : MethodId} {args : Array Value} {below : List Frame} {meth : Method} {c : Code} {Q : State → Prop}
variable {nL : Nat} {Γ : GG} {sk : List SD} {M : Mem} {cells slots pc : Nat} {L : List (Nat × Value)} {st : List Value} {cc : ByteArray} {own : String}
theorem slW {x : MethodName} {K : String} (C : CX p s m args c cc nL own Γ sk) (h : Cond.selects K x x ∈ wsA) : (Cond.selects K x x).before args s = true := C.2.2.2.2.1 _ h
/-- an inherited or private method of the builder that answers a number; one that answers nothing -/
theorem V_callUI (C : CX p s m args c cc nL own Γ sk) {x y : MethodName} {bytes : ByteArray} {maxL n index k ci : Nat} {ret : FieldType} {rm : Room} {As st0 : List Value} {fs : List (Option Nat)} {q : vw_C} {M1 : Mem} {r : Int}
    (hM : MetI l y bytes maxL ret rm Γ sk (vr Γ k :: As) M M1 r) (hF : CalU x y bytes maxL (some ret) n) (hlink : Cond.methodLink own index x ∈ wsA) (hsel : (Cond.selects q.1 x y).before args s = true) (hR : RmF R cells slots maxL rm) (hk : sk[k]? = some (.inr (ci, fs))) (hc : vwCl[ci]? = some q) (hn : As.length = n) (hst : (st.map fun v => v.category).sum ≤ 8) (hs0 : As.reverse ++ vr Γ k :: st = st0) (hd : decode cc pc = .ok (.invokevirtual index, 3))
    (kk : rng r → VV p l e R s m args below meth c Q nL Γ sk M1 (cells + rm.cells) (slots + rm.slots) (pc + 3) L (vi r :: st)) : VV p l e R s m args below meth c Q nL Γ sk M cells slots pc L st0 := by
  subst hs0
  intro H locs ls hP hS hl hMr
  exact V_backI C (V_goU C (hM H.size) hF hlink hsel hR hk hc hn hst hd hP hS hl hMr) hS hl kk
theorem V_callUV (C : CX p s m args c cc nL own Γ sk) {x y : MethodName} {bytes : ByteArray} {maxL n index k ci : Nat} {rm : Room} {As st0 : List Value} {fs : List (Option Nat)} {q : vw_C} {M1 : Mem}
    (hM : MetV l y bytes maxL rm Γ sk (vr Γ k :: As) M M1) (hF : CalU x y bytes maxL none n) (hlink : Cond.methodLink own index x ∈ wsA) (hsel : (Cond.selects q.1 x y).before args s = true) (hR : RmF R cells slots maxL rm) (hk : sk[k]? = some (.inr (ci, fs))) (hc : vwCl[ci]? = some q) (hn : As.length = n) (hst : (st.map fun v => v.category).sum ≤ 8) (hs0 : As.reverse ++ vr Γ k :: st = st0) (hd : decode cc pc = .ok (.invokevirtual index, 3))
    (kk : VV p l e R s m args below meth c Q nL Γ sk M1 (cells + rm.cells) (slots + rm.slots) (pc + 3) L st) : VV p l e R s m args below meth c Q nL Γ sk M cells slots pc L st0 := by
  subst hs0
  intro H locs ls hP hS hl hMr
  exact V_backV C (V_goU C (hM H.size) hF hlink hsel hR hk hc hn hst hd hP hS hl hMr) hS hl kk
theorem V_codS (C : CX p s m args c cc nL own Γ sk) {index q : Nat} (hq : q < lensL.length) (hlink : Cond.methodLink own index yJ0_coder_7d493 ∈ wsA) (hR : 12 ≤ R.frames ∧ 400 ≤ R.locals) (hcs : cells ≤ R.cells ∧ slots ≤ R.slots) (hst : (st.map fun v => v.category).sum ≤ 8) (hd : decode cc pc = .ok (.invokevirtual index, 3)) (k : VV p l e R s m args below meth c Q nL Γ sk M cells slots (pc + 3) L (vi 0 :: st)) : VV p l e R s m args below meth c Q nL Γ sk M cells slots pc L (vs Γ q :: st) :=
  V_callVIs C (c_Jcod l Γ sk hq) cf_Jcod hlink ⟨rfl, rfl⟩ ⟨by dsimp only; omega, by dsimp only; omega⟩ hq rfl rfl hst hcs rfl hd (fun _ => k)
theorem V_goVs (C : CX p s m args c cc nL own Γ sk) {y : MethodName} {bytes : ByteArray} {maxL n index q : Nat} {ret : Option FieldType} {rm : Room} {As : List Value} {Qc : Array Value → State → Outcome → State → Prop} {H : Heap} {locs : List Loc} {ls : Array Slot}
    (hM : Met l y (Cond.code y bytes maxL ret :: wsA) rm (PreW Γ sk (vs Γ q :: As) M H.size) Qc rm.cells rm.slots (Fr Γ sk H.size)) (hF : CalV y bytes maxL ret n) (hlink : Cond.methodLink own index y ∈ wsA) (hR : RmF R cells slots maxL rm) (hq : q < lensL.length) (hcq : y.cls = "java/lang/String") (hn : As.length = n) (hst : (st.map fun v => v.category).sum ≤ 8) (hd : decode cc pc = .ok (.invokevirtual index, 3))
    (hP : wP Γ sk s H M) (hS : va_S (Fr Γ sk s.heap.size) s.heap H locs) (hl : lvs ls nL L) (hMr : mR M) :
    va_Run p l e R s m args below meth c H locs cells slots rm.cells rm.slots (F0 m pc ls (As.reverse ++ vs Γ q :: st)) st (Qc (vs Γ q :: As).toArray) (Fr Γ sk H.size) := by
  obtain ⟨f1, f2, f3, f4, f5⟩ := hF
  refine va_runV ⟨C.1, C.2.1, C.2.2.1, C.2.2.2.1, C.2.2.2.2.1⟩ hM (cwV (C := y.cls) n C.2.2.2.2.1 (goodIn_app (a := [.methodLink own index y, .instanceMethod y, .selects y.cls y y, .initialized y.cls]) ?_ (goodA f4)) rfl rfl rfl ⟨rfl, f5⟩ hR.1) ⟨PreW_blind, ?_, V_pre C hP hS hMr⟩ rfl hn hl.1.1 rfl (lv_room hst) hd hR.2
  · intro w hw
    have h2 : w ∈ wsA := by
      simp only [List.mem_cons, List.not_mem_nil, or_false] at hw
      rcases hw with rfl | rfl | rfl | rfl
      · exact hlink
      · exact f1
      · exact f2
      · exact f3
    exact ⟨h2, good_of_word (List.mem_filter.mp h2).2⟩
  · rw [hcq]
    exact vk_recv (V_S C) hq hS
theorem V_dupx1 (C : CX p s m args c cc nL own Γ sk) {v w : Value} (hv : v.category = 1) (hw : w.category = 1) (hd : decode cc pc = .ok (.dup_x1, 1)) (k : VV p l e R s m args below meth c Q nL Γ sk M cells slots (pc + 1) L (v :: w :: v :: st)) : VV p l e R s m args below meth c Q nL Γ sk M cells slots pc L (v :: w :: st) :=
  fun H locs ls hP hS hl hM => lv_dup_x1 C.1 C.2.1 hd hv hw (k H locs ls hP hS hl hM)
end Call9
set_option maxRecDepth 100000 in
set_option maxHeartbeats 4000000 in
theorem c_lat (l : Launch) (Γ : GG) (sk : List SD) {M : Mem} {k j w n : Nat} (h : BW sk M k j w n) : MetI l yJ5_isLatin1_aae02 cJ5_isLatin1_aae02 1 .boolean (rmz 0 0) Γ sk [vr Γ k] M M 1 := by
  refine MetI_of RJ5 rfl (by decide) rfl (Nat.le_of_ble_eq_true rfl) rfl ?_
  intro p e s m args below meth c C hr hlk hM
  refine V_getsV (pc := 0) C (COMP C) lf_J5_18 dJ5_isLatin1_aae02_0 ?_
  refine V_if_eq (pc := 3) C 17 (by decide) dJ5_isLatin1_aae02_3 (by decide) (fun z => absurd z (by decide)) (fun _ => ?_)
  refine V_aload_n (pc := 6) C 0 rfl dJ5_isLatin1_aae02_6 ?_
  refine V_getI (pc := 7) C h.2.1 rfl inJ4 1 (by decide) rfl lf_J5_22 rfl dJ5_isLatin1_aae02_7 ?_
  rw [h.2.2.2.2.1.1]
  refine V_if_ne (pc := 10) C 17 (by decide) dJ5_isLatin1_aae02_10 (by decide) (fun z => absurd rfl z) (fun _ => ?_)
  refine V_iconst (pc := 13) C dJ5_isLatin1_aae02_13 ?_
  refine V_goto (pc := 14) C 18 dJ5_isLatin1_aae02_14 (by decide) ?_
  exact V_ret (pc := 18) C hr hlk rfl (by decide) dJ5_isLatin1_aae02_18
set_option maxRecDepth 100000 in
set_option maxHeartbeats 4000000 in
theorem c_newLen (l : Launch) (Γ : GG) (sk : List SD) {M : Mem} {a b d : Int} (ha : 0 ≤ a ∧ a ≤ 4000) (hb : 0 < b ∧ b ≤ 4000) (hd9 : 0 ≤ d ∧ d ≤ 5000) : MetI l yJ8_newLength_cabcc cJ8_newLength_cabcc 4 .int (rmz 1 30) Γ sk [vi a, vi b, vi d] M M (a + imax b d) := by
  refine MetI_of RJ8 rfl (by decide) rfl (Nat.le_of_ble_eq_true rfl) rfl ?_
  intro p e s m args below meth c C hr hlk hM
  have hbr : rng b := ⟨by omega, by omega⟩
  have hdr : rng d := ⟨by omega, by omega⟩
  have hm : 0 < imax b d ∧ imax b d ≤ 5000 := by
    unfold imax
    split <;> omega
  refine V_iload_n (pc := 0) C 0 rfl dJ8_newLength_cabcc_0 ?_
  refine V_iload_n (pc := 1) C 1 rfl dJ8_newLength_cabcc_1 ?_
  refine V_iload_n (pc := 2) C 2 rfl dJ8_newLength_cabcc_2 ?_
  refine V_max (pc := 3) C lm_J8_194 math_max hbr hdr ⟨Nat.le_of_ble_eq_true rfl, Nat.le_of_ble_eq_true rfl⟩ ⟨Nat.zero_le _, Nat.zero_le _⟩ (Nat.le_of_ble_eq_true rfl) dJ8_newLength_cabcc_3 ?_
  refine V_iadd (pc := 6) C dJ8_newLength_cabcc_6 ?_
  refine V_istore_n (pc := 7) C rfl (by decide) dJ8_newLength_cabcc_7 ?_
  refine V_iconst (pc := 8) C dJ8_newLength_cabcc_8 ?_
  refine V_iload_n (pc := 9) C 3 rfl dJ8_newLength_cabcc_9 ?_
  refine V_icmp_ge (pc := 10) C 21 (by decide) ⟨by omega, by omega⟩ dJ8_newLength_cabcc_10 (by decide) (fun z => absurd z (by omega)) (fun _ => ?_)
  refine V_iload_n (pc := 13) C 3 rfl dJ8_newLength_cabcc_13 ?_
  refine V_ldc (pc := 14) C (n := 2147483639) lc_J8_200 rfl dJ8_newLength_cabcc_14 ?_
  refine V_icmp_gt (pc := 16) C 21 ⟨by omega, by omega⟩ (by decide) dJ8_newLength_cabcc_16 (by decide) (fun z => absurd z (by omega)) (fun _ => ?_)
  refine V_iload_n (pc := 19) C 3 rfl dJ8_newLength_cabcc_19 ?_
  exact V_iret (pc := 20) C hr hlk ⟨by omega, by omega⟩ rfl dJ8_newLength_cabcc_20
set_option maxRecDepth 100000 in
set_option maxHeartbeats 4000000 in
theorem c_newCap (l : Launch) (Γ : GG) (sk : List SD) {M : Mem} {k j w n : Nat} (h : BW sk M k j w n) {x : Int} (hx : (w : Int) < x ∧ x ≤ 2000) : MetI l yJ5_newCapacity_0f7a4 cJ5_newCapacity_0f7a4 6 .int (rmz 2 60) Γ sk [vr Γ k, vi x] M M ((w : Int) + imax (x - w) (w + 2)) := by
  refine MetI_of RJ5 rfl (by decide) rfl (Nat.le_of_ble_eq_true rfl) rfl ?_
  intro p e s m args below meth c C hr hlk hM
  have hm : w ≤ 4000 := h.2.2.2.1.2
  have hc0 := h.2.2.2.2.1.1
  have hi : 0 < imax (x - w) ((w : Int) + 2) ∧ imax (x - w) ((w : Int) + 2) ≤ 5000 := by
    unfold imax
    split <;> omega
  have e0 : ∀ z : Int, z * ((2 ^ (0 : Int).toNat : Nat) : Int) = z := fun z => Int.mul_one z
  have e1 : ∀ z : Int, z / ((2 ^ (0 : Int).toNat : Nat) : Int) = z := fun z => Int.ediv_one z
  refine V_aload_n (pc := 0) C 0 rfl dJ5_newCapacity_0f7a4_0 ?_
  refine V_getR (pc := 1) C h.2.1 rfl inJ4 0 (by decide) rfl lf_J5_15 rfl dJ5_newCapacity_0f7a4_1 ?_
  refine V_alen (pc := 4) C h.2.2.1 dJ5_newCapacity_0f7a4_4 ?_
  refine V_istore_n (pc := 5) C rfl (by decide) dJ5_newCapacity_0f7a4_5 ?_
  refine V_iload_n (pc := 6) C 1 rfl dJ5_newCapacity_0f7a4_6 ?_
  refine V_aload_n (pc := 7) C 0 rfl dJ5_newCapacity_0f7a4_7 ?_
  refine V_getI (pc := 8) C h.2.1 rfl inJ4 1 (by decide) rfl lf_J5_22 rfl dJ5_newCapacity_0f7a4_8 ?_
  rw [hc0]
  refine V_ishl (pc := 11) C ⟨by omega, by decide, by rw [e0]; omega⟩ dJ5_newCapacity_0f7a4_11 ?_
  rw [e0]
  refine V_istore_n (pc := 12) C rfl (by decide) dJ5_newCapacity_0f7a4_12 ?_
  refine V_iload_n (pc := 13) C 3 rfl dJ5_newCapacity_0f7a4_13 ?_
  refine V_iload_n (pc := 14) C 2 rfl dJ5_newCapacity_0f7a4_14 ?_
  refine V_isub (pc := 15) C dJ5_newCapacity_0f7a4_15 ?_
  refine V_istore (pc := 16) C rfl (by decide) dJ5_newCapacity_0f7a4_16 ?_
  refine V_iload_n (pc := 18) C 2 rfl dJ5_newCapacity_0f7a4_18 ?_
  refine V_iload (pc := 19) C 4 rfl dJ5_newCapacity_0f7a4_19 ?_
  refine V_iload_n (pc := 21) C 2 rfl dJ5_newCapacity_0f7a4_21 ?_
  refine V_iconst (pc := 22) C dJ5_newCapacity_0f7a4_22 ?_
  refine V_aload_n (pc := 23) C 0 rfl dJ5_newCapacity_0f7a4_23 ?_
  refine V_getI (pc := 24) C h.2.1 rfl inJ4 1 (by decide) rfl lf_J5_22 rfl dJ5_newCapacity_0f7a4_24 ?_
  rw [hc0]
  refine V_ishl (pc := 27) C ⟨by omega, by decide, by rw [e0]; omega⟩ dJ5_newCapacity_0f7a4_27 ?_
  rw [e0]
  refine V_iadd (pc := 28) C dJ5_newCapacity_0f7a4_28 ?_
  refine V_callSI (pc := 29) C (As := [vi (w : Int), vi (x - w), vi ((w : Int) + 2)]) (c_newLen l Γ sk ⟨by omega, by omega⟩ ⟨by omega, by omega⟩ ⟨by omega, by omega⟩) cs_newLen lm_J5_114 ⟨rfl, rfl⟩ ⟨Nat.le_of_ble_eq_true rfl, Nat.le_of_ble_eq_true rfl⟩ rfl (Nat.le_of_ble_eq_true rfl) ⟨Nat.zero_le _, Nat.zero_le _⟩ rfl dJ5_newCapacity_0f7a4_29 (fun hrr => ?_)
  refine V_istore (pc := 32) C rfl (by decide) dJ5_newCapacity_0f7a4_32 ?_
  refine V_iload (pc := 34) C 5 rfl dJ5_newCapacity_0f7a4_34 ?_
  refine V_ldc (pc := 36) C (n := 2147483647) lc_J5_39 rfl dJ5_newCapacity_0f7a4_36 ?_
  refine V_icmp_ne (pc := 38) C 51 hrr (by decide) dJ5_newCapacity_0f7a4_38 (by decide) (fun _ => ?_) (fun z => absurd z (by omega))
  refine V_iload (pc := 51) C 5 rfl dJ5_newCapacity_0f7a4_51 ?_
  refine V_aload_n (pc := 53) C 0 rfl dJ5_newCapacity_0f7a4_53 ?_
  refine V_getI (pc := 54) C h.2.1 rfl inJ4 1 (by decide) rfl lf_J5_22 rfl dJ5_newCapacity_0f7a4_54 ?_
  rw [hc0]
  refine V_ishr (pc := 57) C hrr (by decide) dJ5_newCapacity_0f7a4_57 ?_
  rw [e1]
  exact V_iret (pc := 58) C hr hlk hrr rfl dJ5_newCapacity_0f7a4_58
set_option maxRecDepth 100000 in
set_option maxHeartbeats 4000000 in
theorem c_infl (l : Launch) (Γ : GG) (sk : List SD) {M : Mem} {k j w n q : Nat} (h : BW sk M k j w n) (hq : q < lensL.length) : MetV l yJ5_inflateIfNeededFor_a7421 cJ5_inflateIfNeededFor_a7421 2 (rmz 13 440) Γ sk [vr Γ k, vs Γ q] M M := by
  refine MetV_of RJ5 rfl (by decide) rfl (Nat.le_of_ble_eq_true rfl) rfl ?_
  intro p e s m args below meth c C hr hlk hM
  refine V_getsV (pc := 0) C (COMP C) lf_J5_18 dJ5_inflateIfNeededFor_a7421_0 ?_
  refine V_if_eq (pc := 3) C 21 (by decide) dJ5_inflateIfNeededFor_a7421_3 (by decide) (fun z => absurd z (by decide)) (fun _ => ?_)
  refine V_aload_n (pc := 6) C 0 rfl dJ5_inflateIfNeededFor_a7421_6 ?_
  refine V_getI (pc := 7) C h.2.1 rfl inJ4 1 (by decide) rfl lf_J5_22 rfl dJ5_inflateIfNeededFor_a7421_7 ?_
  rw [h.2.2.2.2.1.1]
  refine V_aload_n (pc := 10) C 1 rfl dJ5_inflateIfNeededFor_a7421_10 ?_
  refine V_codS (pc := 11) C hq lm_J5_40 ⟨Nat.le_of_ble_eq_true rfl, Nat.le_of_ble_eq_true rfl⟩ ⟨Nat.zero_le _, Nat.zero_le _⟩ (Nat.le_of_ble_eq_true rfl) dJ5_inflateIfNeededFor_a7421_11 ?_
  refine V_icmp_eq (pc := 14) C 21 (by decide) (by decide) dJ5_inflateIfNeededFor_a7421_14 (by decide) (fun _ => ?_) (fun z => absurd rfl z)
  exact V_vret (r := 0) (pc := 21) C hr hlk rfl dJ5_inflateIfNeededFor_a7421_21
set_option maxRecDepth 100000 in
set_option maxHeartbeats 4000000 in
theorem c_getB (l : Launch) (Γ : GG) (sk : List SD) {M : Mem} {j w q : Nat} {x : Int} (hj : sk[j]? = some (.inl (2, w))) (h3 : 3 ≤ j) (hq : q < lensL.length) (hx : 0 ≤ x ∧ x + slen q ≤ w) (hm : w ≤ 4000) : MetV l yJ0_getBytes_840e7 cJ0_getBytes_840e7 4 (rmz 13 440) Γ sk [vs Γ q, vr Γ j, vi x, vi 0] M (cpM M j (schar q) 0 x.toNat (slen q).toNat) := by
  refine MetV_of RJ0 rfl (by decide) rfl (Nat.le_of_ble_eq_true rfl) rfl ?_
  intro p e s m args below meth c C hr hlk hM
  have hs := slen_rng q
  have hs0 : 0 ≤ slen q := Int.natCast_nonneg _
  have hxr : rng x := ⟨by omega, by omega⟩
  have e0 : ∀ z : Int, z * ((2 ^ (0 : Int).toNat : Nat) : Int) = z := fun z => Int.mul_one z
  refine V_aload_n (pc := 0) C 0 rfl dJ0_getBytes_840e7_0 ?_
  refine V_codS (pc := 1) C hq lm_J_335 ⟨Nat.le_of_ble_eq_true rfl, Nat.le_of_ble_eq_true rfl⟩ ⟨Nat.zero_le _, Nat.zero_le _⟩ (Nat.le_of_ble_eq_true rfl) dJ0_getBytes_840e7_1 ?_
  refine V_iload_n (pc := 4) C 3 rfl dJ0_getBytes_840e7_4 ?_
  refine V_icmp_ne (pc := 5) C 28 (by decide) (by decide) dJ0_getBytes_840e7_5 (by decide) (fun z => absurd rfl z) (fun _ => ?_)
  refine V_aload_n (pc := 8) C 0 rfl dJ0_getBytes_840e7_8 ?_
  refine V_sval (pc := 9) C hq lf_J_9 dJ0_getBytes_840e7_9 ?_
  refine V_iconst (pc := 12) C dJ0_getBytes_840e7_12 ?_
  refine V_aload_n (pc := 13) C 1 rfl dJ0_getBytes_840e7_13 ?_
  refine V_iload_n (pc := 14) C 2 rfl dJ0_getBytes_840e7_14 ?_
  refine V_iload_n (pc := 15) C 3 rfl dJ0_getBytes_840e7_15 ?_
  refine V_ishl (pc := 16) C ⟨hx.1, by decide, by rw [e0]; omega⟩ dJ0_getBytes_840e7_16 ?_
  rw [e0]
  refine V_aload_n (pc := 17) C 0 rfl dJ0_getBytes_840e7_17 ?_
  refine V_sval (pc := 18) C hq lf_J_9 dJ0_getBytes_840e7_18 ?_
  refine V_sblen (pc := 21) C hq dJ0_getBytes_840e7_21 ?_
  refine V_copyS (pc := 22) C hq hj h3 lm_J0_212 nat_copy ⟨Nat.le_of_ble_eq_true rfl, Nat.le_of_ble_eq_true rfl⟩ (Nat.le_of_ble_eq_true rfl) ⟨by decide, hx.1, hs0⟩ (by omega) hx.2 ⟨by decide, hxr, hs⟩ dJ0_getBytes_840e7_22 ?_
  refine V_goto (pc := 25) C 43 dJ0_getBytes_840e7_25 (by decide) ?_
  exact V_vret (r := 0) (pc := 43) C hr hlk rfl dJ0_getBytes_840e7_43
set_option maxRecDepth 100000 in
set_option maxHeartbeats 4000000 in
theorem c_putS (l : Launch) (Γ : GG) (sk : List SD) {M : Mem} {k j w n q : Nat} {x : Int} (h : BW sk M k j w n) (hq : q < lensL.length) (hx : 0 ≤ x ∧ x + slen q ≤ w) : MetV l yJ5_putStringAt_47b60 cJ5_putStringAt_47b60 3 (rmz 15 520) Γ sk [vr Γ k, vi x, vs Γ q] M (cpM M j (schar q) 0 x.toNat (slen q).toNat) := by
  refine MetV_of RJ5 rfl (by decide) rfl (Nat.le_of_ble_eq_true rfl) rfl ?_
  intro p e s m args below meth c C hr hlk hM
  refine V_aload_n (pc := 0) C 0 rfl dJ5_putStringAt_47b60_0 ?_
  refine V_aload_n (pc := 1) C 2 rfl dJ5_putStringAt_47b60_1 ?_
  refine V_callUV (pc := 2) C (As := [vs Γ q]) (c_infl l Γ sk h hq) cu_infl lm_J5_397 (slW C pv_infl) ⟨⟨Nat.le_of_ble_eq_true rfl, Nat.le_of_ble_eq_true rfl⟩, Nat.le_of_ble_eq_true rfl, Nat.le_of_ble_eq_true rfl⟩ h.2.1 rfl rfl (Nat.le_of_ble_eq_true rfl) rfl dJ5_putStringAt_47b60_2 ?_
  refine V_aload_n (pc := 5) C 2 rfl dJ5_putStringAt_47b60_5 ?_
  refine V_aload_n (pc := 6) C 0 rfl dJ5_putStringAt_47b60_6 ?_
  refine V_getR (pc := 7) C h.2.1 rfl inJ4 0 (by decide) rfl lf_J5_15 rfl dJ5_putStringAt_47b60_7 ?_
  refine V_iload_n (pc := 10) C 1 rfl dJ5_putStringAt_47b60_10 ?_
  refine V_aload_n (pc := 11) C 0 rfl dJ5_putStringAt_47b60_11 ?_
  refine V_getI (pc := 12) C h.2.1 rfl inJ4 1 (by decide) rfl lf_J5_22 rfl dJ5_putStringAt_47b60_12 ?_
  rw [h.2.2.2.2.1.1]
  intro H locs ls hP hS hl hMr
  refine V_backV C (V_goVs C (As := [vr Γ j, vi x, vi 0]) (q := q) (c_getB l Γ sk h.2.2.1 (by have := h.1.2.1; omega) hq hx h.2.2.2.1.2 H.size) cv_getB lm_J5_399 ⟨⟨Nat.le_of_ble_eq_true rfl, Nat.le_of_ble_eq_true rfl⟩, Nat.le_of_ble_eq_true rfl, Nat.le_of_ble_eq_true rfl⟩ hq rfl rfl (Nat.le_of_ble_eq_true rfl) dJ5_putStringAt_47b60_15 hP hS hl hMr) hS hl ?_
  exact V_vret (r := 0) (pc := 18) C hr hlk rfl dJ5_putStringAt_47b60_18
