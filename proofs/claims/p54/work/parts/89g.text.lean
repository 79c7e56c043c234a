/-! a builder's text made a String; a String's letters -/
theorem cl_w : Cond.methodLink RJ7 310 ⟨"[B", "clone", "()Ljava/lang/Object;"⟩ ∈ wsA ∧ Cond.sameMethod "[B" "java/lang/Object" "clone" "()Ljava/lang/Object;" ∈ wsA ∧ Cond.native ⟨"java/lang/Object", "clone", "()Ljava/lang/Object;"⟩ ∈ wsA ∧ Cond.instanceMethod ⟨"java/lang/Object", "clone", "()Ljava/lang/Object;"⟩ ∈ wsA ∧ Cond.selects "[B" ⟨"[B", "clone", "()Ljava/lang/Object;"⟩ ⟨"java/lang/Object", "clone", "()Ljava/lang/Object;"⟩ ∈ wsA := ⟨tb_5 (List.mem_of_getElem? (i := 196) (by decide +kernel)) (by decide +kernel), tb_5 (List.mem_of_getElem? (i := 197) (by decide +kernel)) (by decide +kernel), tb_5 (List.mem_of_getElem? (i := 198) (by decide +kernel)) (by decide +kernel), tb_5 (List.mem_of_getElem? (i := 199) (by decide +kernel)) (by decide +kernel), tb_5 (List.mem_of_getElem? (i := 200) (by decide +kernel)) (by decide +kernel)⟩
theorem kl_J7_311 : Cond.classLink RJ7 311 "[B" ∈ wsA := tb_5 (List.mem_of_getElem? (i := 202) (by decide +kernel)) (by decide +kernel)
theorem kl_J4_18 : Cond.classLink RJ4 18 RJ0 ∈ wsA ∧ Cond.instantiable RJ0 4 ∈ wsA ∧ Cond.initialized RJ0 ∈ wsA := ⟨tb_6 (List.mem_of_getElem? (i := 76) (by decide +kernel)) (by decide +kernel), tb_6 (List.mem_of_getElem? (i := 77) (by decide +kernel)) (by decide +kernel), tb_1 (List.mem_of_getElem? (i := 16) (by decide +kernel)) (by decide +kernel)⟩
theorem cs_chkL : CalS yJ7_checkLength_df160 cJ7_checkLength_df160 2 none 2 := ⟨tb_6 (List.mem_of_getElem? (i := 106) (by decide +kernel)) (by decide +kernel), tb_1 (List.mem_of_getElem? (i := 19) (by decide +kernel)) (by decide +kernel), tb_6 (List.mem_of_getElem? (i := 107) (by decide +kernel)) (by decide +kernel), by decide +kernel, by decide +kernel, by decide +kernel⟩
theorem cs_corB : CalS yJ7_copyOfRangeByte_39247 cJ7_copyOfRangeByte_39247 5 (some (.array .byte)) 3 := ⟨tb_6 (List.mem_of_getElem? (i := 103) (by decide +kernel)) (by decide +kernel), tb_1 (List.mem_of_getElem? (i := 19) (by decide +kernel)) (by decide +kernel), tb_6 (List.mem_of_getElem? (i := 104) (by decide +kernel)) (by decide +kernel), by decide +kernel, by decide +kernel, by decide +kernel⟩
theorem cs_cor : CalS yJ7_copyOfRange_39247 cJ7_copyOfRange_39247 3 (some (.array .byte)) 3 := ⟨tb_6 (List.mem_of_getElem? (i := 100) (by decide +kernel)) (by decide +kernel), tb_1 (List.mem_of_getElem? (i := 19) (by decide +kernel)) (by decide +kernel), tb_6 (List.mem_of_getElem? (i := 101) (by decide +kernel)) (by decide +kernel), by decide +kernel, by decide +kernel, by decide +kernel⟩
theorem cu_getV : CalU yJ5_getValue_6d5f1 yJ5_getValue_6d5f1 cJ5_getValue_6d5f1 1 (some (.array .byte)) 0 := ⟨tb_6 (List.mem_of_getElem? (i := 87) (by decide +kernel)) (by decide +kernel), ⟨tb_6 (List.mem_of_getElem? (i := 86) (by decide +kernel)) (by decide +kernel), cJ5_getValue_6d5f1, 1, (some (.array .byte)), tb_6 (List.mem_of_getElem? (i := 89) (by decide +kernel)) (by decide +kernel)⟩, tb_6 (List.mem_of_getElem? (i := 86) (by decide +kernel)) (by decide +kernel), tb_1 (List.mem_of_getElem? (i := 14) (by decide +kernel)) (by decide +kernel), tb_6 (List.mem_of_getElem? (i := 89) (by decide +kernel)) (by decide +kernel), ⟨by decide +kernel, by decide +kernel⟩, by decide +kernel⟩
theorem su_len5 : CalSu yJ5_length_8abf5 RJ4 cJ5_length_8abf5 1 (some .int) 0 := ⟨tb_6 (List.mem_of_getElem? (i := 92) (by decide +kernel)) (by decide +kernel), tb_5 (List.mem_of_getElem? (i := 171) (by decide +kernel)) (by decide +kernel), tb_6 (List.mem_of_getElem? (i := 91) (by decide +kernel)) (by decide +kernel), tb_1 (List.mem_of_getElem? (i := 14) (by decide +kernel)) (by decide +kernel), tb_6 (List.mem_of_getElem? (i := 97) (by decide +kernel)) (by decide +kernel), by decide +kernel, by decide +kernel⟩
theorem cu_len4 : CalU yJ5_length_8abf5 yJ4_length_8abf5 cJ4_length_8abf5 1 (some .int) 0 := ⟨tb_6 (List.mem_of_getElem? (i := 92) (by decide +kernel)) (by decide +kernel), ⟨tb_6 (List.mem_of_getElem? (i := 91) (by decide +kernel)) (by decide +kernel), cJ5_length_8abf5, 1, (some .int), tb_6 (List.mem_of_getElem? (i := 97) (by decide +kernel)) (by decide +kernel)⟩, tb_6 (List.mem_of_getElem? (i := 94) (by decide +kernel)) (by decide +kernel), tb_1 (List.mem_of_getElem? (i := 15) (by decide +kernel)) (by decide +kernel), tb_6 (List.mem_of_getElem? (i := 95) (by decide +kernel)) (by decide +kernel), ⟨by decide +kernel, by decide +kernel⟩, by decide +kernel⟩
theorem cj_iniA : CalJ yJ0_init_db425 cJ0_init_db425 5 2 := ⟨tb_6 (List.mem_of_getElem? (i := 82) (by decide +kernel)) (by decide +kernel), tb_1 (List.mem_of_getElem? (i := 16) (by decide +kernel)) (by decide +kernel), tb_6 (List.mem_of_getElem? (i := 83) (by decide +kernel)) (by decide +kernel), by decide +kernel, by decide +kernel, by decide +kernel, by decide +kernel⟩
theorem cj_iniB : CalJ yJ0_init_81219 cJ0_init_81219 2 1 := ⟨tb_6 (List.mem_of_getElem? (i := 79) (by decide +kernel)) (by decide +kernel), tb_1 (List.mem_of_getElem? (i := 16) (by decide +kernel)) (by decide +kernel), tb_6 (List.mem_of_getElem? (i := 80) (by decide +kernel)) (by decide +kernel), by decide +kernel, by decide +kernel, by decide +kernel, by decide +kernel⟩
theorem cv_toS : CalV yJ4_toString_0e30d cJ4_toString_0e30d 1 (some (.object "java/lang/String")) 0 := ⟨tb_6 (List.mem_of_getElem? (i := 73) (by decide +kernel)) (by decide +kernel), tb_6 (List.mem_of_getElem? (i := 74) (by decide +kernel)) (by decide +kernel), tb_1 (List.mem_of_getElem? (i := 15) (by decide +kernel)) (by decide +kernel), tb_6 (List.mem_of_getElem? (i := 75) (by decide +kernel)) (by decide +kernel), by decide +kernel, by decide +kernel, by decide +kernel⟩
theorem sl_getV : Cond.selects RJ4 yJ5_getValue_6d5f1 yJ5_getValue_6d5f1 ∈ wsA := tb_6 (List.mem_of_getElem? (i := 88) (by decide +kernel)) (by decide +kernel)
theorem sl_len : Cond.selects RJ4 yJ5_length_8abf5 yJ4_length_8abf5 ∈ wsA := tb_6 (List.mem_of_getElem? (i := 93) (by decide +kernel)) (by decide +kernel)
theorem lm_J7_343 : Cond.methodLink RJ7 343 yJ7_checkLength_df160 ∈ wsA := tb_6 (List.mem_of_getElem? (i := 105) (by decide +kernel)) (by decide +kernel)
theorem lm_J7_339 : Cond.methodLink RJ7 339 yJ7_copyOfRangeByte_39247 ∈ wsA := tb_6 (List.mem_of_getElem? (i := 102) (by decide +kernel)) (by decide +kernel)
theorem lm_J0_552 : Cond.methodLink RJ0 552 yJ5_getValue_6d5f1 ∈ wsA := tb_6 (List.mem_of_getElem? (i := 85) (by decide +kernel)) (by decide +kernel)
theorem lm_J4_343 : Cond.methodLink RJ4 343 yJ5_length_8abf5 ∈ wsA := tb_6 (List.mem_of_getElem? (i := 96) (by decide +kernel)) (by decide +kernel)
theorem lm_J0_549 : Cond.methodLink RJ0 549 yJ5_length_8abf5 ∈ wsA := tb_6 (List.mem_of_getElem? (i := 90) (by decide +kernel)) (by decide +kernel)
theorem lm_J0_1047 : Cond.methodLink RJ0 1047 yJ5_isLatin1_aae02 ∈ wsA := tb_6 (List.mem_of_getElem? (i := 98) (by decide +kernel)) (by decide +kernel)
theorem lm_J0_54 : Cond.methodLink RJ0 54 yJ7_copyOfRange_39247 ∈ wsA := tb_6 (List.mem_of_getElem? (i := 99) (by decide +kernel)) (by decide +kernel)
theorem lm_J0_489 : Cond.methodLink RJ0 489 yJ0_init_db425 ∈ wsA := tb_6 (List.mem_of_getElem? (i := 81) (by decide +kernel)) (by decide +kernel)
theorem lm_J4_137 : Cond.methodLink RJ4 137 yJ0_init_81219 ∈ wsA := tb_6 (List.mem_of_getElem? (i := 78) (by decide +kernel)) (by decide +kernel)
theorem lm_J0_1 : Cond.methodLink RJ0 1 Lib.objectInit ∈ wsA := tb_6 (List.mem_of_getElem? (i := 84) (by decide +kernel)) (by decide +kernel)
theorem wP_pushF {Γ : GG} {sk : List SD} {U : State} {H H1 : Heap} {M : Mem} (hw : wP Γ sk U H M) (hc : ClS sk) (ho : ∀ q, q < H.size → H1[q]? = H[q]?) {d : SD} {f : Nat → Int} (hd : cOK (gP Γ sk.length H.size) U H1 d H.size f) : wP (gP Γ sk.length H.size) (sk ++ [d]) U H1 (fun q => if q = sk.length then f else M q) := by
  intro k e hk
  by_cases h1 : k < sk.length
  · rw [List.getElem?_append_left h1] at hk
    rw [gP_o (by omega)]
    show cOK _ _ _ _ _ (if k = sk.length then f else M k)
    rw [if_neg (by omega)]
    exact cOK_grow (Γ := Γ) (N := sk.length) rfl (hc k e hk) (fun j (hj : j < sk.length) => gP_o (Nat.ne_of_lt hj)) (cOK_kept (hw k e hk) (ho _ (wP_lt hw h1)))
  · have h2 : k < (sk ++ [d]).length := (List.getElem?_eq_some_iff.mp hk).1
    have h3 : k = sk.length := by
      simp at h2
      omega
    subst h3
    rw [List.getElem?_append_right (Nat.le_refl _), Nat.sub_self] at hk
    cases hk
    rw [gP_n]
    show cOK _ _ _ _ _ (if sk.length = sk.length then f else M sk.length)
    rw [if_pos rfl]
    exact hd
theorem row_vm {v : VmData} (h : ∀ k, v ≠ .statics k) : v.isStatics = false := by
  cases v <;> first | rfl | exact absurd rfl (h _)
section Text9
variable {p : Program} {l : Launch} {e : Env} {R : Room} {s : State} {m : MethodId} {args : Array Value} {below : List Frame} {meth : Method} {c : Code} {Q : State → Prop}
variable {nL : Nat} {Γ : GG} {sk : List SD} {M : Mem} {cells slots pc : Nat} {L : List (Nat × Value)} {st : List Value} {cc : ByteArray} {own : String}
theorem V_clone (C : CX p s m args c cc nL RJ7 Γ sk) (hcl : ClS sk) (h300 : 298 ≤ sk.length) {j w : Nat} (hj : sk[j]? = some (.inl (2, w))) (hR : 1 ≤ R.frames ∧ 40 ≤ R.locals) (hst : (st.map fun v => v.category).sum ≤ 8) (hroom : cells + 1 ≤ R.cells ∧ slots + w ≤ R.slots) (hb : ∀ i : Nat, i < w → -128 ≤ M j i ∧ M j i ≤ 127) (hd : decode cc pc = .ok (.invokevirtual 310, 3))
    (kk : ∀ Γ' : GG, Grw Γ Γ' sk (sk ++ [.inl (2, w)]) s.heap.size → CX p s m args c cc nL RJ7 Γ' (sk ++ [.inl (2, w)]) → ClS (sk ++ [.inl (2, w)]) → VV p l e R s m args below meth c Q nL Γ' (sk ++ [.inl (2, w)]) (fun q => if q = sk.length then M j else M q) (cells + 1) (slots + w) (pc + 3) L (vr Γ' sk.length :: st)) : VV p l e R s m args below meth c Q nL Γ sk M cells slots pc L (vr Γ j :: st) := by
  intro H locs ls hP hS hl hM T hT X
  obtain ⟨cell, h1, h2, h3, h4, h5, h6⟩ := hP j _ hj
  have h5 : s.vm.findClass "[B" = some cell.cls := h5 rfl
  obtain ⟨c0, t0', f1, f2, f3⟩ := Cond.castable_spec (va_Nw.use (A := args) rfl C.2.2.2.2.2.2.2.2.2.2.2.2.2.2.2.2.2.2)
  cases h5.symm.trans f1
  obtain ⟨-, kA, hkA, comp, hkind⟩ := State.isArrayOf_alike X.warmed.alike h2
  obtain ⟨hs2, kS, hkS, compS, hkindS⟩ := h2
  have hkind : kA.kind = .array comp .byte := hkind
  obtain ⟨vm', X', st9⟩ := X.cloneArray C.1 C.2.2.2.1 (C.2.2.2.2.1 _ cl_w.1) (C.2.2.2.2.1 _ cl_w.2.1) (C.2.2.2.2.1 _ cl_w.2.2.1) (C.2.2.2.2.1 _ cl_w.2.2.2.1) (C.2.2.2.2.1 _ cl_w.2.2.2.2) (a := gA Γ j) (cell := cell) (by rw [hT]; exact h1) hs2 h3 h5 f2 f3
    (fun i v hv => by
      have hi : i < w := by
        have := (Array.getElem?_eq_some_iff.mp hv).1
        rw [h4] at this
        exact this
      have hv2 := h6 i hi
      rw [hv] at hv2
      cases hv2
      have hf : fits .byte (vi (M j i)) = true := fitB (hb i hi)
      have hf2 : fits .byte (elG Γ 2 i (M j i)) = true := hf
      simpa [State.fitsSlot, State.slotType?, hkA, hkind] using hf2)
    (g := F0 m pc ls (vr Γ j :: st)) rfl (hl.1.1.trans C.2.2.1.symm) rfl (by rw [C.2.1]; exact hd) hR.1 (by show 2 * 0 + _ + 14 ≤ _; have := hR.2; omega) hroom.1 (by rw [h4]; exact hroom.2) (hloader := Vm.clonesLoader_of_array hkS hkindS)
  rw [h4] at X'
  generalize hH1 : H.push { cls := cell.cls, slots := cell.slots } = H1
  have z1 : H1.size = H.size + 1 := by rw [← hH1, Array.size_push]
  have e1 : H1[H.size]? = some { cls := cell.cls, slots := cell.slots } := by rw [← hH1, Array.getElem?_push_size]
  have o1 : ∀ q : Nat, q < H.size → H1[q]? = H[q]? := fun q hq => by rw [← hH1, Array.getElem?_push, if_neg (Nat.ne_of_lt hq)]
  have hG := Grw_push hP C.2.2.2.2.2.2.1 hS.1 (.inl (2, w))
  have hS1 : va_S (Fr Γ sk s.heap.size) s.heap H1 locs := ⟨Nat.le_trans hS.1 (by omega), fun x h1 h2 => (o1 x (by have := hS.1; omega)).trans (hS.2.1 x h1 h2), hS.2.2⟩
  have hw := wP_pushF hP hcl o1 (d := .inl (2, w)) (f := M j) ⟨_, e1, ⟨fun k h => (by cases h), kS, hkS, compS, hkindS⟩, (fun h => by cases h), h4, fun _ => h5, fun i hi => h6 i hi⟩
  obtain ⟨t, b1, b2⟩ := kk _ hG (CX_grow C hG h300) (ClS_push hcl (Or.inl (by show 2 < 4; omega))) H1 locs ls hw (S_up hG hS1) hl (fun q i => by
    show rng ((if q = sk.length then M j else M q) i)
    split
    · exact hM j i
    · exact hM q i) ((T.setVm vm').pushCell { cls := cell.cls, slots := cell.slots }) (by rw [← hH1, ← hT]; rfl) X'
  refine ⟨t, st9 t ?_, b2⟩
  rw [hT]
  rw [show vr (gP Γ sk.length H.size) sk.length = .ref H.size from congrArg Value.ref (gP_n Γ _ _)] at b1
  exact b1
theorem V_castB (C : CX p s m args c cc nL own Γ sk) {j w index : Nat} (hj : sk[j]? = some (.inl (2, w))) (hlink : Cond.classLink own index "[B" ∈ wsA) (hd : decode cc pc = .ok (.checkcast index, 3)) (kk : VV p l e R s m args below meth c Q nL Γ sk M cells slots (pc + 3) L (vr Γ j :: st)) : VV p l e R s m args below meth c Q nL Γ sk M cells slots pc L (vr Γ j :: st) := by
  intro H locs ls hP hS hl hM
  obtain ⟨cell, h1, h2, h3, h4, h5, h6⟩ := hP j _ hj
  exact va_castE C.1 C.2.1 C.2.2.2.1 (C.2.2.2.2.1 _ hlink) ⟨cell, h1, row_vm h2.1, h5 rfl⟩ hd (kk H locs ls hP hS hl hM)
theorem V_icmp_eqK (C : CX p s m args c cc nL own Γ sk) : True := trivial
end Text9
set_option maxRecDepth 100000 in
set_option maxHeartbeats 4000000 in
theorem c_chkL (l : Launch) (Γ : GG) (sk : List SD) {M : Mem} {x y : Int} (hx : rng x) (hy : rng y) (h : x ≤ y) : MetV l yJ7_checkLength_df160 cJ7_checkLength_df160 2 (rmz 0 0) Γ sk [vi x, vi y] M M := by
  refine MetV_of RJ7 rfl (by decide) rfl (Nat.le_of_ble_eq_true rfl) rfl ?_
  intro p e s m args below meth c C hr hlk hM
  refine V_iload_n (pc := 0) C 1 rfl dJ7_checkLength_df160_0 ?_
  refine V_iload_n (pc := 1) C 0 rfl dJ7_checkLength_df160_1 ?_
  refine V_icmp_ge (pc := 2) C 37 hy hx dJ7_checkLength_df160_2 (by decide) (fun _ => ?_) (fun z => absurd h z)
  exact V_vret (r := 0) (pc := 37) C hr hlk rfl dJ7_checkLength_df160_37
set_option maxRecDepth 100000 in
set_option maxHeartbeats 4000000 in
theorem c_corB (l : Launch) (Γ : GG) (sk : List SD) (hcl : ClS sk) (h300 : 298 ≤ sk.length) {M : Mem} {j w n : Nat} (hj : sk[j]? = some (.inl (2, w))) (hn : n ≤ w ∧ w ≤ 4000) (hb : ∀ i : Nat, i < w → -128 ≤ M j i ∧ M j i ≤ 127) : MetGR l yJ7_copyOfRangeByte_39247 cJ7_copyOfRangeByte_39247 5 (.array .byte) (rm1 1 200) Γ sk [vr Γ j, vi 0, vi (n : Int)] M (fun Γ' sk' M' k' => k' = sk.length ∧ sk' = sk ++ [.inl (2, n)] ∧ (∀ q, q ≠ sk.length → M' q = M q) ∧ ∀ i, i < n → M' sk.length i = M j i) := by
  refine MetGR_of RJ7 rfl (by decide) rfl (Nat.le_of_ble_eq_true rfl) rfl ?_
  intro p e s m args below meth c C hr hlk hM
  have inj := C.2.2.2.2.2.2.1
  refine V_iload_n (pc := 0) C 1 rfl dJ7_copyOfRangeByte_39247_0 ?_
  refine V_iload_n (pc := 1) C 2 rfl dJ7_copyOfRangeByte_39247_1 ?_
  refine V_callSV (pc := 2) C (As := [vi 0, vi (n : Int)]) (c_chkL l Γ sk (by decide) ⟨by omega, by omega⟩ (by omega)) cs_chkL lm_J7_343 ⟨rfl, rfl⟩ ⟨(Nat.le_of_ble_eq_true rfl), (Nat.le_of_ble_eq_true rfl)⟩ rfl (Nat.le_of_ble_eq_true rfl) ⟨Nat.zero_le _, Nat.zero_le _⟩ rfl dJ7_copyOfRangeByte_39247_2 ?_
  refine V_iload_n (pc := 5) C 2 rfl dJ7_copyOfRangeByte_39247_5 ?_
  refine V_iload_n (pc := 6) C 1 rfl dJ7_copyOfRangeByte_39247_6 ?_
  refine V_isub (pc := 7) C dJ7_copyOfRangeByte_39247_7 ?_
  refine V_istore_n (pc := 8) C rfl (by decide) dJ7_copyOfRangeByte_39247_8 ?_
  refine V_iload_n (pc := 9) C 3 rfl dJ7_copyOfRangeByte_39247_9 ?_
  refine V_newA (pc := 10) C hcl h300 (atype := .byte) 2 (by decide) rfl rfl ac_byte (n := n) (by omega) (by omega) ⟨(Nat.le_of_ble_eq_true rfl), by show 0 + n ≤ 4000; omega⟩ dJ7_copyOfRangeByte_39247_10 (fun Γ1 hG C1 hcl1 => ?_)
  have ej : up0 M sk.length j = M j := up0_o (Nat.ne_of_lt (sk_lt hj))
  rw [hG.vr (sk_lt hj)]
  refine V_astore (pc := 12) C1 rfl (by decide) dJ7_copyOfRangeByte_39247_12 ?_
  refine V_aload_n (pc := 14) C1 0 rfl dJ7_copyOfRangeByte_39247_14 ?_
  refine V_iload_n (pc := 15) C1 1 rfl dJ7_copyOfRangeByte_39247_15 ?_
  refine V_aload (pc := 16) C1 4 rfl dJ7_copyOfRangeByte_39247_16 ?_
  refine V_iconst (pc := 18) C1 dJ7_copyOfRangeByte_39247_18 ?_
  refine V_aload_n (pc := 19) C1 0 rfl dJ7_copyOfRangeByte_39247_19 ?_
  refine V_alen (pc := 20) C1 (sk_app hj) dJ7_copyOfRangeByte_39247_20 ?_
  refine V_iload_n (pc := 21) C1 1 rfl dJ7_copyOfRangeByte_39247_21 ?_
  refine V_isub (pc := 22) C1 dJ7_copyOfRangeByte_39247_22 ?_
  refine V_iload_n (pc := 23) C1 3 rfl dJ7_copyOfRangeByte_39247_23 ?_
  refine V_min (pc := 24) C1 lm_J7_304 math_min ⟨by omega, by omega⟩ ⟨by omega, by omega⟩ ⟨(Nat.le_of_ble_eq_true rfl), (Nat.le_of_ble_eq_true rfl)⟩ ⟨(Nat.le_of_ble_eq_true rfl), by show 0 + n ≤ 4000; omega⟩ (Nat.le_of_ble_eq_true rfl) dJ7_copyOfRangeByte_39247_24 ?_
  have em : imin ((w : Int) - 0) ((n : Int) - 0) = (n : Int) := by
    unfold imin
    split <;> omega
  rw [em]
  refine V_copy (pc := 27) C1 (sk_app hj) (sk_new sk _) (by omega) lm_J7_150 nat_copy ⟨(Nat.le_of_ble_eq_true rfl), (Nat.le_of_ble_eq_true rfl)⟩ (Nat.le_of_ble_eq_true rfl) ⟨by decide, by decide, by omega⟩ (by omega) (by omega) ⟨by decide, by decide, ⟨by omega, by omega⟩⟩ (by rw [ej]; exact hb) dJ7_copyOfRangeByte_39247_27 ?_
  refine V_aload (pc := 30) C1 4 rfl dJ7_copyOfRangeByte_39247_30 ?_
  refine V_room (k := 1) (n := 4000) (Nat.le_of_ble_eq_true rfl) (by show 0 + n ≤ 4000; omega) ?_
  refine V_grret (pc := 32) C1 hr (Or.inr ⟨_, rfl⟩) hlk hG hcl1 ⟨rfl, rfl, fun q hq => ?_, fun i hi => ?_⟩ dJ7_copyOfRangeByte_39247_32
  · rw [cpM_o hq, up0_o hq]
  · unfold cpM
    rw [if_pos ⟨rfl, Nat.zero_le _, by omega⟩, ej]
    rw [show (0 : Int).toNat + (i - (0 : Int).toNat) = i from by simp]
set_option maxRecDepth 100000 in
set_option maxHeartbeats 4000000 in
theorem c_cor (l : Launch) (Γ : GG) (sk : List SD) (hcl : ClS sk) (h300 : 298 ≤ sk.length) {M : Mem} {j w n : Nat} (hj : sk[j]? = some (.inl (2, w))) (hn : n ≤ w ∧ w ≤ 4000) (hb : ∀ i : Nat, i < w → -128 ≤ M j i ∧ M j i ≤ 127) : MetGR l yJ7_copyOfRange_39247 cJ7_copyOfRange_39247 3 (.array .byte) (rm1 2 240) Γ sk [vr Γ j, vi 0, vi (n : Int)] M (fun Γ' sk' M' k' => k' = sk.length ∧ sk' = sk ++ [.inl (2, n)] ∧ (∀ q, q ≠ sk.length → M' q = M q) ∧ ∀ i, i < n → M' sk.length i = M j i) := by
  refine MetGR_of RJ7 rfl (by decide) rfl (Nat.le_of_ble_eq_true rfl) rfl ?_
  intro p e s m args below meth c C hr hlk hM
  have inj := C.2.2.2.2.2.2.1
  refine V_iload_n (pc := 0) C 1 rfl dJ7_copyOfRange_39247_0 ?_
  refine V_if_ne (pc := 1) C 10 (by decide) dJ7_copyOfRange_39247_1 (by decide) (fun z => absurd rfl z) (fun _ => ?_)
  refine V_iload_n (pc := 4) C 2 rfl dJ7_copyOfRange_39247_4 ?_
  refine V_aload_n (pc := 5) C 0 rfl dJ7_copyOfRange_39247_5 ?_
  refine V_alen (pc := 6) C hj dJ7_copyOfRange_39247_6 ?_
  refine V_icmp_eq (pc := 7) C 17 ⟨by omega, by omega⟩ ⟨by omega, by omega⟩ dJ7_copyOfRange_39247_7 (by decide) (fun z => ?_) (fun z => ?_)
  · have hz : n = w := by omega
    subst hz
    refine V_aload_n (pc := 17) C 0 rfl dJ7_copyOfRange_39247_17 ?_
    refine V_clone (pc := 18) C hcl h300 hj ⟨(Nat.le_of_ble_eq_true rfl), (Nat.le_of_ble_eq_true rfl)⟩ (Nat.le_of_ble_eq_true rfl) ⟨(Nat.le_of_ble_eq_true rfl), by show 0 + n ≤ 4000; omega⟩ hb dJ7_copyOfRange_39247_18 (fun Γ1 hG C1 hcl1 => ?_)
    refine V_castB (pc := 21) C1 (sk_new sk _) kl_J7_311 dJ7_copyOfRange_39247_21 ?_
    refine V_room (k := 1) (n := 4000) (Nat.le_of_ble_eq_true rfl) (by show 0 + n ≤ 4000; omega) ?_
    refine V_grret (pc := 24) C1 hr (Or.inr ⟨_, rfl⟩) hlk hG hcl1 ⟨rfl, rfl, fun q hq => if_neg hq, fun i hi => ?_⟩ dJ7_copyOfRange_39247_24
    show (if sk.length = sk.length then M j else M sk.length) i = M j i
    rw [if_pos rfl]
  · skip
    refine V_aload_n (pc := 10) C 0 rfl dJ7_copyOfRange_39247_10 ?_
    refine V_iload_n (pc := 11) C 1 rfl dJ7_copyOfRange_39247_11 ?_
    refine V_iload_n (pc := 12) C 2 rfl dJ7_copyOfRange_39247_12 ?_
    intro H locs ls hP hS hl hMr
    refine V_backGR C h300 (V_goS C (pc := 13) (As := [vr Γ j, vi 0, vi (n : Int)]) (c_corB l Γ sk hcl h300 hj hn hb H.size) cs_corB lm_J7_339 ⟨⟨Nat.le_of_ble_eq_true rfl, Nat.le_of_ble_eq_true rfl⟩, Nat.le_of_ble_eq_true rfl, Nat.le_of_ble_eq_true rfl⟩ rfl (Nat.le_of_ble_eq_true rfl) dJ7_copyOfRange_39247_13 hP hS hl hMr) hS hl (fun Γ1 sk1 M1 k1 hG hcl1 hp C1 => ?_)
    refine V_room (k := 1) (n := 4000) (Nat.le_of_ble_eq_true rfl) (Nat.le_of_ble_eq_true rfl) ?_
    exact V_grret (pc := 16) C1 hr (Or.inr ⟨_, rfl⟩) hlk hG hcl1 hp dJ7_copyOfRange_39247_16
set_option maxRecDepth 100000 in
set_option maxHeartbeats 4000000 in
theorem c_getV (l : Launch) (Γ : GG) (sk : List SD) (hcl : ClS sk) (h300 : 298 ≤ sk.length) {M : Mem} {k j w n : Nat} (h : BW sk M k j w n) : MetGR l yJ5_getValue_6d5f1 cJ5_getValue_6d5f1 1 (.array .byte) (rmz 0 0) Γ sk [vr Γ k] M (fun Γ' sk' M' k' => Γ' = Γ ∧ sk' = sk ∧ M' = M ∧ k' = j) := by
  refine MetGR_of RJ5 rfl (by decide) rfl (Nat.le_of_ble_eq_true rfl) rfl ?_
  intro p e s m args below meth c C hr hlk hM
  have inj := C.2.2.2.2.2.2.1
  refine V_aload_n (pc := 0) C 0 rfl dJ5_getValue_6d5f1_0 ?_
  refine V_getR (pc := 1) C h.2.1 rfl inJ4 0 (by decide) rfl lf_J5_15 rfl dJ5_getValue_6d5f1_1 ?_
  exact V_grret (pc := 4) C hr (Or.inr ⟨_, rfl⟩) hlk (Grw.rf inj rfl) hcl ⟨rfl, rfl, rfl, rfl⟩ dJ5_getValue_6d5f1_4
set_option maxRecDepth 100000 in
set_option maxHeartbeats 4000000 in
theorem c_len5 (l : Launch) (Γ : GG) (sk : List SD) {M : Mem} {k j w n : Nat} (h : BW sk M k j w n) : MetI l yJ5_length_8abf5 cJ5_length_8abf5 1 .int (rmz 0 0) Γ sk [vr Γ k] M M (n : Int) := by
  refine MetI_of RJ5 rfl (by decide) rfl (Nat.le_of_ble_eq_true rfl) rfl ?_
  intro p e s m args below meth c C hr hlk hM
  refine V_aload_n (pc := 0) C 0 rfl dJ5_length_8abf5_0 ?_
  refine V_getI (pc := 1) C h.2.1 rfl inJ4 3 (by decide) rfl lf_J5_79 rfl dJ5_length_8abf5_1 ?_
  rw [h.2.2.2.2.1.2]
  have := h.2.2.2.1
  exact V_ret (pc := 4) C hr hlk rfl ⟨by omega, by omega⟩ dJ5_length_8abf5_4
set_option maxRecDepth 100000 in
set_option maxHeartbeats 4000000 in
theorem c_len4 (l : Launch) (Γ : GG) (sk : List SD) {M : Mem} {k j w n : Nat} (h : BW sk M k j w n) : MetI l yJ4_length_8abf5 cJ4_length_8abf5 1 .int (rmz 1 30) Γ sk [vr Γ k] M M (n : Int) := by
  refine MetI_of RJ4 rfl (by decide) rfl (Nat.le_of_ble_eq_true rfl) rfl ?_
  intro p e s m args below meth c C hr hlk hM
  refine V_aload_n (pc := 0) C 0 rfl dJ4_length_8abf5_0 ?_
  intro H locs ls hP hS hl hMr
  refine V_backI C (V_goSu C (pc := 1) (As := []) (c_len5 l Γ sk h H.size) su_len5 lm_J4_343 ⟨⟨Nat.le_of_ble_eq_true rfl, Nat.le_of_ble_eq_true rfl⟩, Nat.le_of_ble_eq_true rfl, Nat.le_of_ble_eq_true rfl⟩ h.2.1 rfl rfl (Nat.le_of_ble_eq_true rfl) dJ4_length_8abf5_1 hP hS hl hMr) hS hl (fun hrr => ?_)
  exact V_ret (pc := 4) C hr hlk rfl hrr dJ4_length_8abf5_4
/-- a String of the JDK's: n letters -/
def TS (sk : List SD) (M : Mem) (k n : Nat) (T : Nat → Int) : Prop := ∃ j, (298 ≤ k ∧ 298 ≤ j ∧ k ≠ j) ∧ sk[k]? = some (.inr (0, [some j, none, none, none])) ∧ sk[j]? = some (.inl (2, n)) ∧ n ≤ 4000 ∧ M k 1 = 0 ∧ ∀ i : Nat, i < n → M j i = T i
theorem HB_b {sk : List SD} {M : Mem} {k j w n : Nat} (h : BW sk M k j w n) : n ≤ w ∧ w ≤ 4000 := h.2.2.2.1
set_option maxRecDepth 100000 in
set_option maxHeartbeats 4000000 in
theorem c_iniA (l : Launch) (Γ : GG) (sk : List SD) (hcl : ClS sk) (h300 : 298 ≤ sk.length) {M : Mem} {k kb n : Nat} {T : Nat → Int} (hk : sk[k]? = some (.inr (0, []))) (hk3 : 298 ≤ k) (hz : M k 1 = 0 ∧ M k 2 = 0 ∧ M k 3 = 0) (h : HB sk M kb n T) : MetGV l yJ0_init_db425 cJ0_init_db425 5 (rm1 4 298) Γ sk [vr Γ k, vr Γ kb, .null] M (fun Γ' sk' M' => sk.length ≤ sk'.length ∧ KB sk sk' M M' ∧ TS sk' M' k n T) := by
  refine MetGV_of RJ0 rfl (by decide) rfl (Nat.le_of_ble_eq_true rfl) rfl ?_
  intro p e s m args below meth c C hr hlk hnm hM
  have inj := C.2.2.2.2.2.2.1
  obtain ⟨j, w, h, hT⟩ := h
  have hkl := sk_lt hk
  have hjl := sk_lt h.2.2.1
  have hnw := HB_b h
  refine V_aload_n (pc := 0) C 0 rfl dJ0_init_db425_0 ?_
  refine V_objI (pc := 1) C lm_J0_1 dJ0_init_db425_1 ⟨(Nat.le_of_ble_eq_true rfl), (Nat.le_of_ble_eq_true rfl)⟩ ?_
  refine V_aload_n (pc := 4) C 1 rfl dJ0_init_db425_4 ?_
  intro H locs ls hP hS hl hMr
  refine V_backGR C h300 (V_goU C (pc := 5) (As := []) (c_getV l Γ sk hcl h300 h H.size) cu_getV lm_J0_552 (slW C sl_getV) ⟨⟨Nat.le_of_ble_eq_true rfl, Nat.le_of_ble_eq_true rfl⟩, Nat.le_of_ble_eq_true rfl, Nat.le_of_ble_eq_true rfl⟩ h.2.1 rfl rfl (Nat.le_of_ble_eq_true rfl) dJ0_init_db425_5 hP hS hl hMr) hS hl (fun Γ1 sk1 M1 k1 hG hcl1 hp C1 => ?_)
  obtain ⟨rfl, rfl, rfl, rfl⟩ := hp
  refine V_astore_n (pc := 8) C rfl (by decide) dJ0_init_db425_8 ?_
  refine V_aload_n (pc := 9) C 1 rfl dJ0_init_db425_9 ?_
  refine V_callUI (pc := 10) C (As := []) (c_len4 l _ _ h) cu_len4 lm_J0_549 (C.2.2.2.2.1 _ sl_len) ⟨⟨Nat.le_of_ble_eq_true rfl, Nat.le_of_ble_eq_true rfl⟩, Nat.le_of_ble_eq_true rfl, Nat.le_of_ble_eq_true rfl⟩ h.2.1 rfl rfl (Nat.le_of_ble_eq_true rfl) rfl dJ0_init_db425_10 (fun _ => ?_)
  refine V_istore (pc := 13) C rfl (by decide) dJ0_init_db425_13 ?_
  refine V_aload_n (pc := 15) C 1 rfl dJ0_init_db425_15 ?_
  refine V_callUI (pc := 16) C (As := []) (c_lat l _ _ h) cu_lat lm_J0_1047 (slW C sl_lat) ⟨⟨Nat.le_of_ble_eq_true rfl, Nat.le_of_ble_eq_true rfl⟩, Nat.le_of_ble_eq_true rfl, Nat.le_of_ble_eq_true rfl⟩ h.2.1 rfl rfl (Nat.le_of_ble_eq_true rfl) rfl dJ0_init_db425_16 (fun _ => ?_)
  refine V_if_eq (pc := 19) C 41 (by decide) dJ0_init_db425_19 (by decide) (fun z => absurd z (by decide)) (fun _ => ?_)
  refine V_aload_n (pc := 22) C 0 rfl dJ0_init_db425_22 ?_
  refine V_iconst (pc := 23) C dJ0_init_db425_23 ?_
  refine V_putC (pc := 24) C (by omega) hk rfl inJ0 tyJ0 tyJ0_ok nmJ0 rfl lf_J_15 (fun _ => ⟨hnm, rfl⟩) rfl dJ0_init_db425_24 ?_
  refine V_aload_n (pc := 27) C 0 rfl dJ0_init_db425_27 ?_
  refine V_aload_n (pc := 28) C 3 rfl dJ0_init_db425_28 ?_
  refine V_iconst (pc := 29) C dJ0_init_db425_29 ?_
  refine V_iload (pc := 30) C 4 rfl dJ0_init_db425_30 ?_
  intro H2 locs2 ls2 hP2 hS2 hl2 hMr2
  refine V_backGR C h300 (V_goS C (pc := 32) (As := [vr Γ1 k1, vi 0, vi (n : Int)]) (c_cor l Γ1 sk1 hcl h300 h.2.2.1 hnw h.2.2.2.2.2 H2.size) cs_cor lm_J0_54 ⟨⟨Nat.le_of_ble_eq_true rfl, Nat.le_of_ble_eq_true rfl⟩, Nat.le_of_ble_eq_true rfl, Nat.le_of_ble_eq_true rfl⟩ rfl (Nat.le_of_ble_eq_true rfl) dJ0_init_db425_32 hP2 hS2 hl2 hMr2) hS2 hl2 (fun Γ3 sk3 M3 k3 hG3 hcl3 hp C3 => ?_)
  obtain ⟨rfl, rfl, hM3, hT3⟩ := hp
  rw [hG3.vr hkl, show Value.ref (gA Γ1 k) = vr Γ3 k from hG3.vr hkl]
  refine V_putB (pc := 35) (j := sk1.length) C3 hcl3 (by simp; omega) (by omega) (sk_app hk) rfl inJ0 tyJ0 tyJ0_ok nmJ0 rfl lf_J_9 (fun _ => ⟨hnm, rfl⟩) rfl (Or.inl ⟨rfl, by rw [hM3 _ (by omega)]; exact hz⟩) (by simp) dJ0_init_db425_35 (fun C9 hcl9 => ?_)
  refine V_goto (pc := 38) C9 97 dJ0_init_db425_38 (by decide) ?_
  refine V_room (k := 1) (n := 4000) (Nat.le_of_ble_eq_true rfl) (Nat.le_of_ble_eq_true rfl) ?_
  refine V_gvret (pc := 97) C9 hr hlk (hG3.trans (Grw.rf C3.2.2.2.2.2.2.1 (List.length_set ..)) (Nat.le_refl _)) hcl9 ⟨by rw [List.length_set]; simp, fun y hy => ⟨?_, hM3 y (by omega)⟩, sk1.length, ⟨hk3, h300, by omega⟩, sk_setk (by simp; omega), by rw [sk_keep (by omega)]; exact sk_new sk1 _, by omega, by rw [hM3 _ (by omega)]; exact hz.1, fun i hi => (hT3 i hi).trans (hT i hi)⟩ dJ0_init_db425_97
  rw [sk_keep (by omega), List.getElem?_append_left (by omega)]
set_option maxRecDepth 100000 in
set_option maxHeartbeats 4000000 in
theorem c_iniB (l : Launch) (Γ : GG) (sk : List SD) (hcl : ClS sk) (h300 : 298 ≤ sk.length) {M : Mem} {k kb n : Nat} {T : Nat → Int} (hk : sk[k]? = some (.inr (0, []))) (hk3 : 298 ≤ k) (hz : M k 1 = 0 ∧ M k 2 = 0 ∧ M k 3 = 0) (h : HB sk M kb n T) : MetGV l yJ0_init_81219 cJ0_init_81219 2 (rm1 5 340) Γ sk [vr Γ k, vr Γ kb] M (fun Γ' sk' M' => sk.length ≤ sk'.length ∧ KB sk sk' M M' ∧ TS sk' M' k n T) := by
  refine MetGV_of RJ0 rfl (by decide) rfl (Nat.le_of_ble_eq_true rfl) rfl ?_
  intro p e s m args below meth c C hr hlk hnm hM
  have inj := C.2.2.2.2.2.2.1
  refine V_aload_n (pc := 0) C 0 rfl dJ0_init_81219_0 ?_
  refine V_aload_n (pc := 1) C 1 rfl dJ0_init_81219_1 ?_
  refine V_null (pc := 2) C dJ0_init_81219_2 ?_
  intro H locs ls hP hS hl hMr
  refine V_backGV C h300 (V_goI C (pc := 3) (As := [vr Γ kb, .null]) (c_iniA l Γ sk hcl h300 hk hk3 hz h H.size) cj_iniA lm_J0_489 ⟨⟨Nat.le_of_ble_eq_true rfl, Nat.le_of_ble_eq_true rfl⟩, Nat.le_of_ble_eq_true rfl, Nat.le_of_ble_eq_true rfl⟩ rfl (Nat.le_of_ble_eq_true rfl) dJ0_init_81219_3 hP hS hl hMr) hS hl (fun Γ1 sk1 M1 hG1 hcl1 hp C1 => ?_)
  refine V_room (k := 1) (n := 4000) (Nat.le_of_ble_eq_true rfl) (Nat.le_of_ble_eq_true rfl) ?_
  exact V_gvret (pc := 6) C1 hr hlk hG1 hcl1 hp dJ0_init_81219_6
set_option maxRecDepth 100000 in
set_option maxHeartbeats 4000000 in
theorem c_toS (l : Launch) (Γ : GG) (sk : List SD) (hcl : ClS sk) (h300 : 298 ≤ sk.length) {M : Mem} {k n : Nat} {T : Nat → Int} (h : HB sk M k n T) : MetGR l yJ4_toString_0e30d cJ4_toString_0e30d 1 (.object "java/lang/String") ({ frames := 6, cells := 2, slots := 4004, locals := 380 } : Room) Γ sk [vr Γ k] M (fun Γ' sk' M' k' => sk.length ≤ sk'.length ∧ KB sk sk' M M' ∧ TS sk' M' k' n T) := by
  refine MetGR_of RJ4 rfl (by decide) rfl (Nat.le_of_ble_eq_true rfl) rfl ?_
  intro p e s m args below meth c C hr hlk hM
  have inj := C.2.2.2.2.2.2.1
  have hkl : k < sk.length := by
    obtain ⟨j, w, h, _⟩ := h
    exact sk_lt h.2.1
  refine V_newO (ci := 0) (pc := 0) C hcl h300 rfl inJ0 tyJ0 tyJ0_ok kl_J4_18.1 kl_J4_18.2.1 kl_J4_18.2.2 (fun j hj => ?_) ⟨(Nat.le_of_ble_eq_true rfl), (Nat.le_of_ble_eq_true rfl)⟩ dJ4_toString_0e30d_0 (fun Γ1 hG1 C1 hcl1 => ?_)
  · match j, hj with
    | 0, _ => rfl
    | 1, _ => rfl
    | 2, _ => rfl
    | 3, _ => rfl
  rw [hG1.vr hkl]
  have h9 : HB (sk ++ [.inr (0, [])]) (up0 M sk.length) k n T := by
    obtain ⟨j, w, h, hT⟩ := h
    have hjl := sk_lt h.2.2.1
    refine ⟨j, w, ⟨h.1, sk_app h.2.1, sk_app h.2.2.1, h.2.2.2.1, by rw [up0_o (by omega)]; exact h.2.2.2.2.1, by rw [up0_o (by omega)]; exact h.2.2.2.2.2⟩, by rw [up0_o (by omega)]; exact hT⟩
  have hl3 : 298 ≤ (sk ++ [(.inr (0, []) : SD)]).length := by simp; omega
  refine V_dup (pc := 3) C1 rfl dJ4_toString_0e30d_3 ?_
  refine V_aload_n (pc := 4) C1 0 rfl dJ4_toString_0e30d_4 ?_
  intro H locs ls hP hS hl hMr
  refine V_backGV C1 hl3 (V_goI C1 (pc := 5) (As := [vr Γ1 k]) (c_iniB l Γ1 _ hcl1 hl3 (sk_new sk _) h300 ⟨up0_n M _ 1, up0_n M _ 2, up0_n M _ 3⟩ h9 H.size) cj_iniB lm_J4_137 ⟨⟨Nat.le_of_ble_eq_true rfl, Nat.le_of_ble_eq_true rfl⟩, Nat.le_of_ble_eq_true rfl, Nat.le_of_ble_eq_true rfl⟩ rfl (Nat.le_of_ble_eq_true rfl) dJ4_toString_0e30d_5 hP hS hl hMr) hS hl (fun Γ3 sk3 M3 hG3 hcl3 hp C3 => ?_)
  obtain ⟨hle, hKB, hTS⟩ := hp
  rw [hG3.vr (k := sk.length) (by simp)]
  refine V_grret (pc := 8) C3 hr (Or.inl ⟨_, rfl⟩) hlk (hG1.trans hG3 (Nat.le_refl _)) hcl3 ⟨?_, fun y hy => ?_, hTS⟩ dJ4_toString_0e30d_8
  · rw [List.length_append] at hle
    omega
  · rw [(hKB y hy).1, (hKB y hy).2, List.getElem?_append_left (by omega), up0_o (by omega)]
    exact ⟨rfl, rfl⟩
