/-! the builder's methods that may make a longer row -/
theorem cs_cpO : CalS yJ7_copyOf_9075b cJ7_copyOf_9075b 3 (some (.array .byte)) 2 := ⟨tb_5 (List.mem_of_getElem? (i := 194) (by decide +kernel)) (by decide +kernel), tb_1 (List.mem_of_getElem? (i := 19) (by decide +kernel)) (by decide +kernel), tb_5 (List.mem_of_getElem? (i := 195) (by decide +kernel)) (by decide +kernel), by decide +kernel, by decide +kernel, by decide +kernel⟩
theorem cu_ens : CalU yJ5_ensureCapacityInternal_d00df yJ5_ensureCapacityInternal_d00df cJ5_ensureCapacityInternal_d00df 3 none 1 := ⟨tb_6 (List.mem_of_getElem? (i := 134) (by decide +kernel)) (by decide +kernel), ⟨tb_5 (List.mem_of_getElem? (i := 179) (by decide +kernel)) (by decide +kernel), cJ5_ensureCapacityInternal_d00df, 3, none, tb_5 (List.mem_of_getElem? (i := 180) (by decide +kernel)) (by decide +kernel)⟩, tb_5 (List.mem_of_getElem? (i := 179) (by decide +kernel)) (by decide +kernel), tb_1 (List.mem_of_getElem? (i := 14) (by decide +kernel)) (by decide +kernel), tb_5 (List.mem_of_getElem? (i := 180) (by decide +kernel)) (by decide +kernel), ⟨by decide +kernel, by decide +kernel⟩, by decide +kernel⟩
theorem cv_bpS : CalV yJ4_append_15ec4 cJ4_append_15ec4 2 (some (.object "java/lang/StringBuilder")) 1 := ⟨tb_5 (List.mem_of_getElem? (i := 167) (by decide +kernel)) (by decide +kernel), tb_5 (List.mem_of_getElem? (i := 168) (by decide +kernel)) (by decide +kernel), tb_1 (List.mem_of_getElem? (i := 15) (by decide +kernel)) (by decide +kernel), tb_5 (List.mem_of_getElem? (i := 169) (by decide +kernel)) (by decide +kernel), by decide +kernel, by decide +kernel, by decide +kernel⟩
theorem cv_bpI : CalV yJ4_append_bf812 cJ4_append_bf812 2 (some (.object "java/lang/StringBuilder")) 1 := ⟨tb_6 (List.mem_of_getElem? (i := 48) (by decide +kernel)) (by decide +kernel), tb_6 (List.mem_of_getElem? (i := 49) (by decide +kernel)) (by decide +kernel), tb_1 (List.mem_of_getElem? (i := 15) (by decide +kernel)) (by decide +kernel), tb_6 (List.mem_of_getElem? (i := 50) (by decide +kernel)) (by decide +kernel), by decide +kernel, by decide +kernel, by decide +kernel⟩
theorem cv_bpC : CalV yJ4_append_cf468 cJ4_append_cf468 2 (some (.object "java/lang/StringBuilder")) 1 := ⟨tb_6 (List.mem_of_getElem? (i := 35) (by decide +kernel)) (by decide +kernel), tb_6 (List.mem_of_getElem? (i := 36) (by decide +kernel)) (by decide +kernel), tb_1 (List.mem_of_getElem? (i := 15) (by decide +kernel)) (by decide +kernel), tb_6 (List.mem_of_getElem? (i := 37) (by decide +kernel)) (by decide +kernel), by decide +kernel, by decide +kernel, by decide +kernel⟩
theorem su_apS : CalSu yJ5_append_cf1ce RJ4 cJ5_append_cf1ce 3 (some (.object "java/lang/AbstractStringBuilder")) 1 := ⟨tb_5 (List.mem_of_getElem? (i := 162) (by decide +kernel)) (by decide +kernel), tb_5 (List.mem_of_getElem? (i := 171) (by decide +kernel)) (by decide +kernel), tb_5 (List.mem_of_getElem? (i := 161) (by decide +kernel)) (by decide +kernel), tb_1 (List.mem_of_getElem? (i := 14) (by decide +kernel)) (by decide +kernel), tb_5 (List.mem_of_getElem? (i := 172) (by decide +kernel)) (by decide +kernel), by decide +kernel, by decide +kernel⟩
theorem su_apI : CalSu yJ5_append_c97b9 RJ4 cJ5_append_c97b9 4 (some (.object "java/lang/AbstractStringBuilder")) 1 := ⟨tb_6 (List.mem_of_getElem? (i := 140) (by decide +kernel)) (by decide +kernel), tb_5 (List.mem_of_getElem? (i := 171) (by decide +kernel)) (by decide +kernel), tb_6 (List.mem_of_getElem? (i := 52) (by decide +kernel)) (by decide +kernel), tb_1 (List.mem_of_getElem? (i := 14) (by decide +kernel)) (by decide +kernel), tb_6 (List.mem_of_getElem? (i := 53) (by decide +kernel)) (by decide +kernel), by decide +kernel, by decide +kernel⟩
theorem su_apC : CalSu yJ5_append_3fe6f RJ4 cJ5_append_3fe6f 2 (some (.object "java/lang/AbstractStringBuilder")) 1 := ⟨tb_6 (List.mem_of_getElem? (i := 139) (by decide +kernel)) (by decide +kernel), tb_5 (List.mem_of_getElem? (i := 171) (by decide +kernel)) (by decide +kernel), tb_6 (List.mem_of_getElem? (i := 39) (by decide +kernel)) (by decide +kernel), tb_1 (List.mem_of_getElem? (i := 14) (by decide +kernel)) (by decide +kernel), tb_6 (List.mem_of_getElem? (i := 40) (by decide +kernel)) (by decide +kernel), by decide +kernel, by decide +kernel⟩
theorem cu_br : CalU yJ5_append_cf1ce yJ4_append_cf1ce cJ4_append_cf1ce 2 (some (.object "java/lang/AbstractStringBuilder")) 1 := ⟨tb_5 (List.mem_of_getElem? (i := 162) (by decide +kernel)) (by decide +kernel), ⟨tb_5 (List.mem_of_getElem? (i := 161) (by decide +kernel)) (by decide +kernel), cJ5_append_cf1ce, 3, (some (.object "java/lang/AbstractStringBuilder")), tb_5 (List.mem_of_getElem? (i := 172) (by decide +kernel)) (by decide +kernel)⟩, tb_5 (List.mem_of_getElem? (i := 164) (by decide +kernel)) (by decide +kernel), tb_1 (List.mem_of_getElem? (i := 15) (by decide +kernel)) (by decide +kernel), tb_5 (List.mem_of_getElem? (i := 165) (by decide +kernel)) (by decide +kernel), ⟨by decide +kernel, by decide +kernel⟩, by decide +kernel⟩
theorem cj_ini5 : CalJ yJ5_init_a7421 cJ5_init_a7421 5 1 := ⟨tb_5 (List.mem_of_getElem? (i := 146) (by decide +kernel)) (by decide +kernel), tb_1 (List.mem_of_getElem? (i := 14) (by decide +kernel)) (by decide +kernel), tb_5 (List.mem_of_getElem? (i := 147) (by decide +kernel)) (by decide +kernel), by decide +kernel, by decide +kernel, by decide +kernel, by decide +kernel⟩
theorem cj_ini4 : CalJ yJ4_init_a7421 cJ4_init_a7421 2 1 := ⟨tb_5 (List.mem_of_getElem? (i := 143) (by decide +kernel)) (by decide +kernel), tb_1 (List.mem_of_getElem? (i := 15) (by decide +kernel)) (by decide +kernel), tb_5 (List.mem_of_getElem? (i := 144) (by decide +kernel)) (by decide +kernel), by decide +kernel, by decide +kernel, by decide +kernel, by decide +kernel⟩
theorem sl_br : Cond.selects RJ4 yJ5_append_cf1ce yJ4_append_cf1ce ∈ wsA := tb_5 (List.mem_of_getElem? (i := 163) (by decide +kernel)) (by decide +kernel)
theorem pv_ens : Cond.selects RJ4 yJ5_ensureCapacityInternal_d00df yJ5_ensureCapacityInternal_d00df ∈ wsA := wsA_x (by decide +kernel) (by decide +kernel)
theorem lm_J5_104 : Cond.methodLink RJ5 104 yJ5_newCapacity_0f7a4 ∈ wsA := tb_5 (List.mem_of_getElem? (i := 181) (by decide +kernel)) (by decide +kernel)
theorem lm_J5_108 : Cond.methodLink RJ5 108 yJ7_copyOf_9075b ∈ wsA := tb_5 (List.mem_of_getElem? (i := 193) (by decide +kernel)) (by decide +kernel)
theorem lm_J5_100 : Cond.methodLink RJ5 100 yJ5_ensureCapacityInternal_d00df ∈ wsA := tb_5 (List.mem_of_getElem? (i := 177) (by decide +kernel)) (by decide +kernel)
theorem lm_J5_208 : Cond.methodLink RJ5 208 yJ5_putStringAt_47b60 ∈ wsA := tb_5 (List.mem_of_getElem? (i := 228) (by decide +kernel)) (by decide +kernel)
theorem lm_J4_29 : Cond.methodLink RJ4 29 yJ5_append_cf1ce ∈ wsA := tb_5 (List.mem_of_getElem? (i := 170) (by decide +kernel)) (by decide +kernel)
theorem lm_J4_53 : Cond.methodLink RJ4 53 yJ5_append_c97b9 ∈ wsA := tb_6 (List.mem_of_getElem? (i := 51) (by decide +kernel)) (by decide +kernel)
theorem lm_J4_50 : Cond.methodLink RJ4 50 yJ5_append_3fe6f ∈ wsA := tb_6 (List.mem_of_getElem? (i := 38) (by decide +kernel)) (by decide +kernel)
theorem lm_J5_43 : Cond.methodLink RJ5 43 yJ5_append_cf1ce ∈ wsA := tb_5 (List.mem_of_getElem? (i := 160) (by decide +kernel)) (by decide +kernel)
theorem lm_J4_7 : Cond.methodLink RJ4 7 yJ5_init_a7421 ∈ wsA := tb_5 (List.mem_of_getElem? (i := 145) (by decide +kernel)) (by decide +kernel)
theorem lm_J5_245 : Cond.methodLink RJ5 245 yJ6_stringSize_0f7a4 ∈ wsA := tb_6 (List.mem_of_getElem? (i := 54) (by decide +kernel)) (by decide +kernel)
theorem lm_J5_248 : Cond.methodLink RJ5 248 yJ6_getChars_ba4f3 ∈ wsA := tb_6 (List.mem_of_getElem? (i := 57) (by decide +kernel)) (by decide +kernel)
theorem lm_J5_191 : Cond.methodLink RJ5 191 yJ1_canEncode_fc78d ∈ wsA := tb_6 (List.mem_of_getElem? (i := 41) (by decide +kernel)) (by decide +kernel)
theorem lm_J7_304 : Cond.methodLink RJ7 304 Lib.Math.min.name ∈ wsA := tb_5 (List.mem_of_getElem? (i := 203) (by decide +kernel)) (by decide +kernel)
theorem lm_J5_3 : Cond.methodLink RJ5 3 Lib.objectInit ∈ wsA := tb_5 (List.mem_of_getElem? (i := 148) (by decide +kernel)) (by decide +kernel)
theorem ob_init : Cond.instanceMethod Lib.objectInit ∈ wsA ∧ Cond.code Lib.objectInit ⟨#[0xb1]⟩ 1 none ∈ wsA := ⟨tb_1 (List.mem_of_getElem? (i := 37) (by decide +kernel)) (by decide +kernel), tb_1 (List.mem_of_getElem? (i := 38) (by decide +kernel)) (by decide +kernel)⟩
theorem ac_byte : Cond.arrayClass (newarray.typeOf .byte) ∈ wsA := tb_3 (List.mem_of_getElem? (i := 24) (by decide +kernel)) (by decide +kernel)
/-- texts -/
def catT (T : Nat → Int) (n : Nat) (S : Nat → Int) : Nat → Int := fun i => if i < n then T i else S (i - n)
def HB (sk : List SD) (M : Mem) (k n : Nat) (T : Nat → Int) : Prop := ∃ j w, BW sk M k j w n ∧ ∀ i, i < n → M j i = T i
def KB (sk sk' : List SD) (M M' : Mem) : Prop := ∀ q, q < 298 → sk'[q]? = sk[q]? ∧ M' q = M q
theorem KB_refl (sk : List SD) (M : Mem) : KB sk sk M M := fun _ _ => ⟨rfl, rfl⟩
theorem KB_trans {s1 s2 s3 : List SD} {M1 M2 M3 : Mem} (h : KB s1 s2 M1 M2) (h2 : KB s2 s3 M2 M3) : KB s1 s3 M1 M3 := fun q hq => ⟨(h2 q hq).1.trans (h q hq).1, (h2 q hq).2.trans (h q hq).2⟩
abbrev rm1 (f w : Nat) : Room := { frames := f, cells := 1, slots := 4000, locals := w }
theorem sk_lt {α : Type} {sk : List α} {k : Nat} {d : α} (h : sk[k]? = some d) : k < sk.length := (List.getElem?_eq_some_iff.mp h).1
theorem sk_app {α : Type} {sk : List α} {k : Nat} {d e : α} (h : sk[k]? = some d) : (sk ++ [e])[k]? = some d := by rw [List.getElem?_append_left (sk_lt h)]; exact h
theorem sk_new {α : Type} (sk : List α) (e : α) : (sk ++ [e])[sk.length]? = some e := by simp
theorem sk_keep {α : Type} {sk : List α} {k q : Nat} {d : α} (h : q ≠ k) : (sk.set k d)[q]? = sk[q]? := List.getElem?_set_ne (fun z => h z.symm)
theorem sk_setk {α : Type} {sk : List α} {k : Nat} {d : α} (h : k < sk.length) : (sk.set k d)[k]? = some d := by simp [h]
section Obj9
variable {p : Program} {l : Launch} {e : Env} {R : Room} {s : State} {m : MethodId} {args : Array Value} {below : List Frame} {meth : Method} {c : Code} {Q : State → Prop}
variable {nL : Nat} {Γ : GG} {sk : List SD} {M : Mem} {cells slots pc : Nat} {L : List (Nat × Value)} {st : List Value} {cc : ByteArray} {own : String}
theorem V_objI (C : CX p s m args c cc nL own Γ sk) {idx a : Nat} (hlink : Cond.methodLink own idx Lib.objectInit ∈ wsA) (hd : decode cc pc = .ok (.invokespecial idx, 3)) (hR : 1 ≤ R.frames ∧ (st.map fun v => v.category).sum + 12 ≤ R.locals) (k : VV p l e R s m args below meth c Q nL Γ sk M cells slots (pc + 3) L st) : VV p l e R s m args below meth c Q nL Γ sk M cells slots pc L (.ref a :: st) :=
  fun H locs ls hP hS hl hM => W.objInit C.1 C.2.1 C.2.2.2.1 (C.2.2.2.2.1 _ hlink) (C.2.2.2.2.1 _ ob_init.1) (C.2.2.2.2.1 _ ob_init.2) rfl (hl.1.1.trans C.2.2.1.symm) rfl hd hR.1 (by show 2 * 0 + _ + 12 ≤ _; have := hR.2; omega) (k H locs ls hP hS hl hM)
theorem V_ifnn (C : CX p s m args c cc nL own Γ sk) {off : Int} {a : Nat} (tgt : Nat) (hd : decode cc pc = .ok (.ifnonnull off, 3)) (ht : (pc : Int) + off = (tgt : Int)) (k : VV p l e R s m args below meth c Q nL Γ sk M cells slots tgt L st) : VV p l e R s m args below meth c Q nL Γ sk M cells slots pc L (.ref a :: st) :=
  fun H locs ls hP hS hl hM => lv_ifnonnull C.1 C.2.1 hd ht (k H locs ls hP hS hl hM)
theorem V_null (C : CX p s m args c cc nL own Γ sk) (hd : decode cc pc = .ok (.aconst_null, 1)) (k : VV p l e R s m args below meth c Q nL Γ sk M cells slots (pc + 1) L (.null :: st)) : VV p l e R s m args below meth c Q nL Γ sk M cells slots pc L st :=
  fun H locs ls hP hS hl hM => lv_null C.1 C.2.1 hd (k H locs ls hP hS hl hM)
end Obj9
set_option maxRecDepth 100000 in
set_option maxHeartbeats 4000000 in
theorem c_cpO (l : Launch) (Γ : GG) (sk : List SD) (hcl : ClS sk) (h300 : 298 ≤ sk.length) {M : Mem} {j w q : Nat} {x : Int} (hj : sk[j]? = some (.inl (2, w))) (hx : x = (q : Int)) (hq : w < q ∧ q ≤ 4000) (hb : ∀ i : Nat, i < w → -128 ≤ M j i ∧ M j i ≤ 127) : MetGR l yJ7_copyOf_9075b cJ7_copyOf_9075b 3 (.array .byte) (rm1 1 200) Γ sk [vr Γ j, vi x] M (fun Γ' sk' M' k' => k' = sk.length ∧ sk' = sk ++ [.inl (2, q)] ∧ M' = cpM (up0 M sk.length) sk.length (M j) 0 0 w) := by
  refine MetGR_of RJ7 rfl (by decide) rfl (Nat.le_of_ble_eq_true rfl) rfl ?_
  intro p e s m args below meth c C hr hlk hM
  have inj := C.2.2.2.2.2.2.1
  refine V_iload_n (pc := 0) C 1 rfl dJ7_copyOf_9075b_0 ?_
  refine V_aload_n (pc := 1) C 0 rfl dJ7_copyOf_9075b_1 ?_
  subst hx
  refine V_alen (pc := 2) C hj dJ7_copyOf_9075b_2 ?_
  refine V_icmp_ne (pc := 3) C 14 ⟨by omega, by omega⟩ ⟨by omega, by omega⟩ dJ7_copyOf_9075b_3 (by decide) (fun _ => ?_) (fun z => absurd z (by omega))
  refine V_iload_n (pc := 14) C 1 rfl dJ7_copyOf_9075b_14 ?_
  refine V_newA (pc := 15) C hcl h300 (atype := .byte) 2 (by decide) rfl rfl ac_byte rfl (by omega) ⟨Nat.le_refl 1, by show 0 + q ≤ 4000; omega⟩ dJ7_copyOf_9075b_15 (fun Γ' hG C hcl' => ?_)
  have ej : up0 M sk.length j = M j := up0_o (Nat.ne_of_lt (sk_lt hj))
  rw [hG.vr (sk_lt hj)]
  refine V_astore_n (pc := 17) C rfl (by decide) dJ7_copyOf_9075b_17 ?_
  refine V_aload_n (pc := 18) C 0 rfl dJ7_copyOf_9075b_18 ?_
  refine V_iconst (pc := 19) C dJ7_copyOf_9075b_19 ?_
  refine V_aload_n (pc := 20) C 2 rfl dJ7_copyOf_9075b_20 ?_
  refine V_iconst (pc := 21) C dJ7_copyOf_9075b_21 ?_
  refine V_aload_n (pc := 22) C 0 rfl dJ7_copyOf_9075b_22 ?_
  refine V_alen (pc := 23) C (sk_app hj) dJ7_copyOf_9075b_23 ?_
  refine V_iload_n (pc := 24) C 1 rfl dJ7_copyOf_9075b_24 ?_
  refine V_min (pc := 25) C lm_J7_304 math_min ⟨by omega, by omega⟩ ⟨by omega, by omega⟩ ⟨Nat.le_of_ble_eq_true rfl, Nat.le_of_ble_eq_true rfl⟩ ⟨Nat.le_refl 1, by show 0 + q ≤ 4000; omega⟩ (Nat.le_of_ble_eq_true rfl) dJ7_copyOf_9075b_25 ?_
  have em : imin (w : Int) (q : Int) = (w : Int) := by
    unfold imin
    rw [if_neg (by omega)]
  rw [em]
  refine V_copy (pc := 28) C (sk_app hj) (sk_new sk _) (by omega) lm_J7_150 nat_copy ⟨Nat.le_of_ble_eq_true rfl, Nat.le_of_ble_eq_true rfl⟩ (Nat.le_of_ble_eq_true rfl) ⟨by decide, by decide, by omega⟩ (by omega) (by omega) ⟨by decide, by decide, ⟨by omega, by omega⟩⟩ (by rw [ej]; exact hb) dJ7_copyOf_9075b_28 ?_
  refine V_aload_n (pc := 31) C 2 rfl dJ7_copyOf_9075b_31 ?_
  refine V_room (Nat.le_refl 1) (by show 0 + q ≤ 4000; omega) ?_
  exact V_grret (pc := 32) C hr (Or.inr ⟨_, rfl⟩) hlk hG hcl' ⟨rfl, rfl, by rw [ej, Int.toNat_natCast]; rfl⟩ dJ7_copyOf_9075b_32
set_option maxRecDepth 100000 in
set_option maxHeartbeats 4000000 in
theorem c_ens (l : Launch) (Γ : GG) (sk : List SD) (hcl : ClS sk) (h300 : 298 ≤ sk.length) {M : Mem} {k j w n q : Nat} {x : Int} (h : BW sk M k j w n) (hx : x = (q : Int)) (hq : q ≤ 1200) : MetGV l yJ5_ensureCapacityInternal_d00df cJ5_ensureCapacityInternal_d00df 3 (rm1 5 400) Γ sk [vr Γ k, vi x] M (fun Γ' sk' M' => sk.length ≤ sk'.length ∧ KB sk sk' M M' ∧ ∃ j' w', BW sk' M' k j' w' n ∧ q ≤ w' ∧ ∀ i, i < n → M' j' i = M j i) := by
  refine MetGV_of RJ5 rfl (by decide) rfl (Nat.le_of_ble_eq_true rfl) rfl ?_
  intro p e s m args below meth c C hr hlk hnm hM
  have inj := C.2.2.2.2.2.2.1
  subst hx
  have hc0 := h.2.2.2.2.1.1
  have hw4 := h.2.2.2.1.2
  have hkl := sk_lt h.2.1
  have e1 : ∀ z : Int, z / ((2 ^ (0 : Int).toNat : Nat) : Int) = z := fun z => Int.ediv_one z
  have e0 : ∀ z : Int, z * ((2 ^ (0 : Int).toNat : Nat) : Int) = z := fun z => Int.mul_one z
  refine V_aload_n (pc := 0) C 0 rfl dJ5_ensureCapacityInternal_d00df_0 ?_
  refine V_getR (pc := 1) C h.2.1 rfl inJ4 0 (by decide) rfl lf_J5_15 rfl dJ5_ensureCapacityInternal_d00df_1 ?_
  refine V_alen (pc := 4) C h.2.2.1 dJ5_ensureCapacityInternal_d00df_4 ?_
  refine V_aload_n (pc := 5) C 0 rfl dJ5_ensureCapacityInternal_d00df_5 ?_
  refine V_getI (pc := 6) C h.2.1 rfl inJ4 1 (by decide) rfl lf_J5_22 rfl dJ5_ensureCapacityInternal_d00df_6 ?_
  rw [hc0]
  refine V_ishr (pc := 9) C ⟨by omega, by omega⟩ (by decide) dJ5_ensureCapacityInternal_d00df_9 ?_
  rw [e1]
  refine V_istore_n (pc := 10) C rfl (by decide) dJ5_ensureCapacityInternal_d00df_10 ?_
  refine V_iload_n (pc := 11) C 1 rfl dJ5_ensureCapacityInternal_d00df_11 ?_
  refine V_iload_n (pc := 12) C 2 rfl dJ5_ensureCapacityInternal_d00df_12 ?_
  refine V_isub (pc := 13) C dJ5_ensureCapacityInternal_d00df_13 ?_
  refine V_if_le (pc := 14) C 38 ⟨by omega, by omega⟩ dJ5_ensureCapacityInternal_d00df_14 (by decide) (fun z => ?_) (fun z => ?_)
  · refine V_room (Nat.zero_le 1) (Nat.zero_le 4000) ?_
    exact V_gvret (pc := 38) C hr hlk (Grw.rf inj rfl) hcl ⟨Nat.le_refl _, KB_refl sk M, j, w, h, by omega, fun _ _ => rfl⟩ dJ5_ensureCapacityInternal_d00df_38
  have hm : imax ((q : Int) - w) ((w : Int) + 2) = (((if q - w < w + 2 then w + 2 else q - w) : Nat) : Int) := by
    unfold imax
    split <;> split <;> omega
  refine V_aload_n (pc := 17) C 0 rfl dJ5_ensureCapacityInternal_d00df_17 ?_
  refine V_aload_n (pc := 18) C 0 rfl dJ5_ensureCapacityInternal_d00df_18 ?_
  refine V_getR (pc := 19) C h.2.1 rfl inJ4 0 (by decide) rfl lf_J5_15 rfl dJ5_ensureCapacityInternal_d00df_19 ?_
  refine V_aload_n (pc := 22) C 0 rfl dJ5_ensureCapacityInternal_d00df_22 ?_
  refine V_iload_n (pc := 23) C 1 rfl dJ5_ensureCapacityInternal_d00df_23 ?_
  refine V_callUI (pc := 24) C (As := [vi (q : Int)]) (c_newCap l Γ sk h ⟨by omega, by omega⟩) cu_newCap lm_J5_104 (slW C pv_newCap) ⟨⟨Nat.le_of_ble_eq_true rfl, Nat.le_of_ble_eq_true rfl⟩, Nat.le_of_ble_eq_true rfl, Nat.le_of_ble_eq_true rfl⟩ h.2.1 rfl rfl (Nat.le_of_ble_eq_true rfl) rfl dJ5_ensureCapacityInternal_d00df_24 (fun hrr => ?_)
  refine V_aload_n (pc := 27) C 0 rfl dJ5_ensureCapacityInternal_d00df_27 ?_
  refine V_getI (pc := 28) C h.2.1 rfl inJ4 1 (by decide) rfl lf_J5_22 rfl dJ5_ensureCapacityInternal_d00df_28 ?_
  rw [hc0, hm]
  rw [hm] at hrr
  have hz : (if q - w < w + 2 then w + 2 else q - w) ≤ 1202 ∧ q ≤ w + (if q - w < w + 2 then w + 2 else q - w) ∧ 0 < (if q - w < w + 2 then w + 2 else q - w) := by
    split <;> omega
  generalize (if q - w < w + 2 then w + 2 else q - w) = g at hz hrr ⊢
  refine V_ishl (pc := 31) C ⟨by omega, by decide, by rw [e0]; omega⟩ dJ5_ensureCapacityInternal_d00df_31 ?_
  rw [e0]
  intro H locs ls hP hS hl hMr
  refine V_backGR C h300 (V_goS C (pc := 32) (As := [vr Γ j, vi ((w : Int) + (g : Int))]) (c_cpO l Γ sk hcl h300 h.2.2.1 (q := w + g) (by omega) ⟨by omega, by omega⟩ h.2.2.2.2.2 H.size) cs_cpO lm_J5_108 ⟨⟨Nat.le_of_ble_eq_true rfl, Nat.le_of_ble_eq_true rfl⟩, Nat.le_of_ble_eq_true rfl, Nat.le_of_ble_eq_true rfl⟩ rfl (Nat.le_of_ble_eq_true rfl) dJ5_ensureCapacityInternal_d00df_32 hP hS hl hMr) hS hl (fun Γ' sk' M' k' hG hcl' hp C' => ?_)
  obtain ⟨rfl, rfl, rfl⟩ := hp
  rw [hG.vr hkl, show Value.ref (gA Γ k) = vr Γ' k from hG.vr hkl]
  have hk3 : 3 ≤ k := by have := h.1.1; omega
  have hnk : ∀ i, cpM (up0 M sk.length) sk.length (M j) 0 0 w k i = M k i := fun i => by
    unfold cpM
    rw [if_neg (by omega), up0_o (by omega)]
  refine V_putB (pc := 35) (j := sk.length) C' hcl' (by simp; omega) hk3 (sk_app h.2.1) rfl inJ4 tyJ4 tyJ4_ok nmJ4 rfl lf_J5_15 (fun z => by cases z) rfl (Or.inr ⟨j, rfl⟩) (by simp) dJ5_ensureCapacityInternal_d00df_35 (fun C9 hcl9 => ?_)
  have hG9 : Grw Γ Γ' sk ((sk ++ [(.inl (2, w + g) : SD)]).set k (.inr (1, [some sk.length, none, none, none]))) s.heap.size := hG.trans (Grw.rf C'.2.2.2.2.2.2.1 (List.length_set ..)) (Nat.le_refl _)
  refine V_gvret (pc := 38) C9 hr hlk hG9 hcl9 ⟨by rw [List.length_set]; simp, fun y hy => ?_, sk.length, w + g, ?_, hz.2.1, fun i hi => ?_⟩ dJ5_ensureCapacityInternal_d00df_38
  · have hyk : y ≠ k := by have := h.1.1; omega
    refine ⟨by rw [sk_keep hyk, List.getElem?_append_left (by omega)], ?_⟩
    funext i
    unfold cpM
    rw [if_neg (by omega), up0_o (by omega)]
  · refine ⟨⟨h.1.1, by omega, by omega⟩, sk_setk (by simp; omega), by rw [sk_keep (by omega)]; exact sk_new sk _, ⟨by have := h.2.2.2.1.1; omega, by omega⟩, ⟨by rw [hnk]; exact hc0, by rw [hnk]; exact h.2.2.2.2.1.2⟩, fun i hi => ?_⟩
    unfold cpM
    split
    · exact h.2.2.2.2.2 _ (by omega)
    · rw [up0_n]
      decide
  · unfold cpM
    rw [if_pos ⟨rfl, Nat.zero_le _, by have := h.2.2.2.1.1; omega⟩]
    simp
