theorem nar_char {x : Int} (h : 0 ≤ x ∧ x < 65536) : narrow .char (vi x) = vi x := by
  have e1 : i32 x = nI x.toNat := by
    show Int32.ofInt x = Int32.ofNat x.toNat
    have e2 : Int32.ofInt ((x.toNat : Nat) : Int) = Int32.ofNat x.toNat := Int32.ofInt_eq_ofNat
    rw [← e2, Int.toNat_of_nonneg h.1]
  unfold vi
  rw [e1]
  exact (pk_charN (q := x.toNat) (by omega)).1
theorem cf_Jlen : CalV yJ0_length_8abf5 cJ0_length_8abf5 1 (some .int) 0 := ⟨tb_2 (List.mem_of_getElem? (i := 183) (by decide +kernel)) (by decide +kernel), tb_2 (List.mem_of_getElem? (i := 184) (by decide +kernel)) (by decide +kernel), tb_1 (List.mem_of_getElem? (i := 16) (by decide +kernel)) (by decide +kernel), tb_2 (List.mem_of_getElem? (i := 185) (by decide +kernel)) (by decide +kernel), by decide +kernel, by decide +kernel, by decide +kernel⟩
theorem cf_Jcod : CalV yJ0_coder_7d493 cJ0_coder_7d493 1 (some .byte) 0 := ⟨tb_2 (List.mem_of_getElem? (i := 187) (by decide +kernel)) (by decide +kernel), tb_2 (List.mem_of_getElem? (i := 188) (by decide +kernel)) (by decide +kernel), tb_1 (List.mem_of_getElem? (i := 16) (by decide +kernel)) (by decide +kernel), tb_2 (List.mem_of_getElem? (i := 189) (by decide +kernel)) (by decide +kernel), by decide +kernel, by decide +kernel, by decide +kernel⟩
theorem cf_Jlat : CalV yJ0_isLatin1_aae02 cJ0_isLatin1_aae02 1 (some .boolean) 0 := ⟨tb_2 (List.mem_of_getElem? (i := 197) (by decide +kernel)) (by decide +kernel), tb_2 (List.mem_of_getElem? (i := 198) (by decide +kernel)) (by decide +kernel), tb_1 (List.mem_of_getElem? (i := 16) (by decide +kernel)) (by decide +kernel), tb_2 (List.mem_of_getElem? (i := 199) (by decide +kernel)) (by decide +kernel), by decide +kernel, by decide +kernel, by decide +kernel⟩
theorem cf_Jcha : CalV yJ0_charAt_5068e cJ0_charAt_5068e 2 (some .char) 1 := ⟨tb_2 (List.mem_of_getElem? (i := 193) (by decide +kernel)) (by decide +kernel), tb_2 (List.mem_of_getElem? (i := 194) (by decide +kernel)) (by decide +kernel), tb_1 (List.mem_of_getElem? (i := 16) (by decide +kernel)) (by decide +kernel), tb_2 (List.mem_of_getElem? (i := 195) (by decide +kernel)) (by decide +kernel), by decide +kernel, by decide +kernel, by decide +kernel⟩
theorem cf_Jchk : CalS yJ0_checkIndex_df160 cJ0_checkIndex_df160 2 none 2 := ⟨tb_2 (List.mem_of_getElem? (i := 204) (by decide +kernel)) (by decide +kernel), tb_1 (List.mem_of_getElem? (i := 16) (by decide +kernel)) (by decide +kernel), tb_2 (List.mem_of_getElem? (i := 205) (by decide +kernel)) (by decide +kernel), by decide +kernel, by decide +kernel, by decide +kernel⟩
theorem cf_Jch3 : CalS yJ3_checkIndex_8e157 cJ3_checkIndex_8e157 3 (some .int) 3 := ⟨tb_2 (List.mem_of_getElem? (i := 209) (by decide +kernel)) (by decide +kernel), tb_1 (List.mem_of_getElem? (i := 21) (by decide +kernel)) (by decide +kernel), tb_2 (List.mem_of_getElem? (i := 210) (by decide +kernel)) (by decide +kernel), by decide +kernel, by decide +kernel, by decide +kernel⟩
theorem cf_Jch1 : CalS yJ1_charAt_3b067 cJ1_charAt_3b067 2 (some .char) 2 := ⟨tb_2 (List.mem_of_getElem? (i := 201) (by decide +kernel)) (by decide +kernel), tb_1 (List.mem_of_getElem? (i := 22) (by decide +kernel)) (by decide +kernel), tb_2 (List.mem_of_getElem? (i := 202) (by decide +kernel)) (by decide +kernel), by decide +kernel, by decide +kernel, by decide +kernel⟩
theorem lf_J_38 : Cond.fieldLink RJ0 38 "java/lang/String" "COMPACT_STRINGS" "Z" ∈ wsA := tb_2 (List.mem_of_getElem? (i := 190) (by decide +kernel)) (by decide +kernel)
theorem lf_J_15 : Cond.fieldLink RJ0 15 "java/lang/String" "coder" "B" ∈ wsA := tb_6 (List.mem_of_getElem? (i := 119) (by decide +kernel)) (by decide +kernel)
theorem lf_J_9 : Cond.fieldLink RJ0 9 "java/lang/String" "value" "[B" ∈ wsA := tb_6 (List.mem_of_getElem? (i := 118) (by decide +kernel)) (by decide +kernel)
theorem lf_J_1053 : Cond.fieldLink RJ0 1053 "jdk/internal/util/Preconditions" "SIOOBE_FORMATTER" "Ljava/util/function/BiFunction;" ∈ wsA := tb_2 (List.mem_of_getElem? (i := 206) (by decide +kernel)) (by decide +kernel)
theorem lm_J_335 : Cond.methodLink RJ0 335 yJ0_coder_7d493 ∈ wsA := tb_2 (List.mem_of_getElem? (i := 186) (by decide +kernel)) (by decide +kernel)
theorem lm_J_492 : Cond.methodLink RJ0 492 yJ0_isLatin1_aae02 ∈ wsA := tb_2 (List.mem_of_getElem? (i := 196) (by decide +kernel)) (by decide +kernel)
theorem lm_J_495 : Cond.methodLink RJ0 495 yJ1_charAt_3b067 ∈ wsA := tb_2 (List.mem_of_getElem? (i := 200) (by decide +kernel)) (by decide +kernel)
theorem lm_J_1059 : Cond.methodLink RJ0 1059 yJ3_checkIndex_8e157 ∈ wsA := tb_2 (List.mem_of_getElem? (i := 208) (by decide +kernel)) (by decide +kernel)
theorem lm_J1_9 : Cond.methodLink RJ1 9 yJ0_checkIndex_df160 ∈ wsA := tb_2 (List.mem_of_getElem? (i := 203) (by decide +kernel)) (by decide +kernel)
set_option maxRecDepth 100000 in
set_option maxHeartbeats 4000000 in
theorem c_Jcod (l : Launch) (Γ : GG) (sk : List SD) {M : Mem} {q : Nat} (hq : q < lensL.length) : MetI l yJ0_coder_7d493 cJ0_coder_7d493 1 .byte ({ frames := 0, cells := 0, slots := 0, locals := 0 } : Room) Γ sk [vs Γ q] M M 0 := by
  refine MetI_of RJ0 rfl (by decide) rfl (Nat.le_of_ble_eq_true rfl) rfl ?_
  intro p e s m args below meth c C hr hlk hM
  refine V_getsV (pc := 0) C C.2.2.2.2.2.2.2.2.2.2.2.2.1 lf_J_38 dJ0_coder_7d493_0 ?_
  refine V_if_eq (pc := 3) C 13 (by decide) dJ0_coder_7d493_3 (by decide) (fun z => absurd z (by decide)) (fun _ => ?_)
  refine V_aload_n (pc := 6) C 0 rfl dJ0_coder_7d493_6 ?_
  refine V_scod (pc := 7) C hq lf_J_15 dJ0_coder_7d493_7 ?_
  refine V_goto (pc := 10) C 14 dJ0_coder_7d493_10 (by decide) ?_
  exact V_ret (pc := 14) C hr hlk rfl (by decide) dJ0_coder_7d493_14
set_option maxRecDepth 100000 in
set_option maxHeartbeats 4000000 in
theorem c_Jlat (l : Launch) (Γ : GG) (sk : List SD) {M : Mem} {q : Nat} (hq : q < lensL.length) : MetI l yJ0_isLatin1_aae02 cJ0_isLatin1_aae02 1 .boolean ({ frames := 0, cells := 0, slots := 0, locals := 0 } : Room) Γ sk [vs Γ q] M M 1 := by
  refine MetI_of RJ0 rfl (by decide) rfl (Nat.le_of_ble_eq_true rfl) rfl ?_
  intro p e s m args below meth c C hr hlk hM
  refine V_getsV (pc := 0) C C.2.2.2.2.2.2.2.2.2.2.2.2.1 lf_J_38 dJ0_isLatin1_aae02_0 ?_
  refine V_if_eq (pc := 3) C 17 (by decide) dJ0_isLatin1_aae02_3 (by decide) (fun z => absurd z (by decide)) (fun _ => ?_)
  refine V_aload_n (pc := 6) C 0 rfl dJ0_isLatin1_aae02_6 ?_
  refine V_scod (pc := 7) C hq lf_J_15 dJ0_isLatin1_aae02_7 ?_
  refine V_if_ne (pc := 10) C 17 (by decide) dJ0_isLatin1_aae02_10 (by decide) (fun z => absurd rfl z) (fun _ => ?_)
  refine V_iconst (pc := 13) C dJ0_isLatin1_aae02_13 ?_
  refine V_goto (pc := 14) C 18 dJ0_isLatin1_aae02_14 (by decide) ?_
  exact V_ret (pc := 18) C hr hlk rfl (by decide) dJ0_isLatin1_aae02_18
set_option maxRecDepth 100000 in
set_option maxHeartbeats 4000000 in
theorem c_Jlen (l : Launch) (Γ : GG) (sk : List SD) {M : Mem} {q : Nat} (hq : q < lensL.length) : MetI l yJ0_length_8abf5 cJ0_length_8abf5 1 .int ({ frames := 1, cells := 0, slots := 0, locals := 40 } : Room) Γ sk [vs Γ q] M M (slen q) := by
  refine MetI_of RJ0 rfl (by decide) rfl (Nat.le_of_ble_eq_true rfl) rfl ?_
  intro p e s m args below meth c C hr hlk hM
  refine V_aload_n (pc := 0) C 0 rfl dJ0_length_8abf5_0 ?_
  refine V_sval (pc := 1) C hq lf_J_9 dJ0_length_8abf5_1 ?_
  refine V_sblen (pc := 4) C hq dJ0_length_8abf5_4 ?_
  refine V_aload_n (pc := 5) C 0 rfl dJ0_length_8abf5_5 ?_
  refine V_callVIs (pc := 6) C (c_Jcod l Γ sk hq) cf_Jcod lm_J_335 ⟨rfl, rfl⟩ ⟨Nat.le_of_ble_eq_true rfl, Nat.le_of_ble_eq_true rfl⟩ hq rfl rfl (Nat.le_of_ble_eq_true rfl) ⟨Nat.zero_le _, Nat.zero_le _⟩ rfl dJ0_length_8abf5_6 (fun _ => ?_)
  refine V_ishr (pc := 9) C (slen_rng q) (by decide) dJ0_length_8abf5_9 ?_
  have e1 : slen q / ((2 ^ (0 : Int).toNat : Nat) : Int) = slen q := Int.ediv_one _
  rw [e1]
  exact V_ret (pc := 10) C hr hlk rfl (slen_rng q) dJ0_length_8abf5_10
set_option maxRecDepth 100000 in
set_option maxHeartbeats 4000000 in
theorem c_Jch3 (l : Launch) (Γ : GG) (sk : List SD) {M : Mem} {a b : Int} {v : Value} (hv : v = .null ∨ ∃ t, v = .ref t) (ha : rng a) (hb : rng b) (h : 0 ≤ a ∧ a < b) : MetI l yJ3_checkIndex_8e157 cJ3_checkIndex_8e157 3 .int ({ frames := 0, cells := 0, slots := 0, locals := 0 } : Room) Γ sk [vi a, vi b, v] M M a := by
  have hc : v.category = 1 := by
    rcases hv with rfl | ⟨t, rfl⟩ <;> rfl
  refine MetI_of RJ3 rfl (by decide) (by rcases hv with rfl | ⟨t, rfl⟩ <;> rfl) ?_ (L0 := [(0, vi a), (1, vi b), (2, v)]) rfl ?_
  · rcases hv with rfl | ⟨t, rfl⟩ <;> exact Nat.le_of_ble_eq_true rfl
  intro p e s m args below meth c C hr hlk hM
  refine V_iload_n (pc := 0) C 0 rfl dJ3_checkIndex_8e157_0 ?_
  refine V_if_lt (pc := 1) C 9 ha dJ3_checkIndex_8e157_1 (by decide) (fun z => absurd z (by omega)) (fun _ => ?_)
  refine V_iload_n (pc := 4) C 0 rfl dJ3_checkIndex_8e157_4 ?_
  refine V_iload_n (pc := 5) C 1 rfl dJ3_checkIndex_8e157_5 ?_
  refine V_icmp_lt (pc := 6) C 16 ha hb dJ3_checkIndex_8e157_6 (by decide) (fun _ => ?_) (fun z => absurd h.2 z)
  refine V_iload_n (pc := 16) C 0 rfl dJ3_checkIndex_8e157_16 ?_
  exact V_ret (pc := 17) C hr hlk rfl ha dJ3_checkIndex_8e157_17
set_option maxRecDepth 100000 in
set_option maxHeartbeats 4000000 in
theorem c_Jchk (l : Launch) (Γ : GG) (sk : List SD) {M : Mem} {a b : Int} (ha : rng a) (hb : rng b) (h : 0 ≤ a ∧ a < b) : MetV l yJ0_checkIndex_df160 cJ0_checkIndex_df160 2 ({ frames := 1, cells := 0, slots := 0, locals := 40 } : Room) Γ sk [vi a, vi b] M M := by
  refine MetV_of RJ0 rfl (by decide) rfl (Nat.le_of_ble_eq_true rfl) rfl ?_
  intro p e s m args below meth c C hr hlk hM
  refine V_iload_n (pc := 0) C 0 rfl dJ0_checkIndex_df160_0 ?_
  refine V_iload_n (pc := 1) C 1 rfl dJ0_checkIndex_df160_1 ?_
  obtain ⟨v, hv, hZ⟩ : ∃ v : Value, (v = .null ∨ ∃ t, v = .ref t) ∧ va_Z "jdk/internal/util/Preconditions" "SIOOBE_FORMATTER" "Ljava/util/function/BiFunction;" v (Fr Γ sk s.heap.size) s s.heap := by
    rcases C.2.2.2.2.2.2.2.2.2.2.2.2.2.1 with z | ⟨t, z⟩
    · exact ⟨_, Or.inl rfl, z⟩
    · exact ⟨_, Or.inr ⟨t, rfl⟩, z⟩
  refine V_getsV (pc := 2) C hZ lf_J_1053 dJ0_checkIndex_df160_2 ?_
  refine V_callSI (pc := 5) C (c_Jch3 l Γ sk hv ha hb h) cf_Jch3 lm_J_1059 ⟨rfl, rfl⟩ ⟨Nat.le_of_ble_eq_true rfl, Nat.le_of_ble_eq_true rfl⟩ rfl (Nat.le_of_ble_eq_true rfl) ⟨Nat.zero_le _, Nat.zero_le _⟩ rfl dJ0_checkIndex_df160_5 (fun _ => ?_)
  refine V_pop (pc := 8) C rfl dJ0_checkIndex_df160_8 ?_
  exact V_vret (r := 0) (pc := 9) C hr hlk rfl dJ0_checkIndex_df160_9
set_option maxRecDepth 100000 in
set_option maxHeartbeats 4000000 in
theorem schar_ok {q : Nat} (hq : q < lensL.length) {j : Int} (hj : 0 ≤ j ∧ j < slen q) : 0 ≤ schar q j.toNat ∧ schar q j.toNat ≤ 127 := by
  have h : ∀ i : Nat, i < lensL.length → ∀ k : Nat, k < lensL.getD i 0 → 0 ≤ ((bytL.getD i []).getD k 0).toInt ∧ ((bytL.getD i []).getD k 0).toInt ≤ 127 := by decide +kernel
  exact h q hq j.toNat (by have := hj.2; unfold slen at this; omega)
set_option maxRecDepth 100000 in
set_option maxHeartbeats 4000000 in
theorem c_Jch1 (l : Launch) (Γ : GG) (sk : List SD) {M : Mem} {q : Nat} {j : Int} (hq : q < lensL.length) (hj : 0 ≤ j ∧ j < slen q) (hr9 : rng j) : MetI l yJ1_charAt_3b067 cJ1_charAt_3b067 2 .char ({ frames := 2, cells := 0, slots := 0, locals := 80 } : Room) Γ sk [vb Γ q, vi j] M M (schar q j.toNat) := by
  refine MetI_of RJ1 rfl (by decide) rfl (Nat.le_of_ble_eq_true rfl) rfl ?_
  intro p e s m args below meth c C hr hlk hM
  refine V_iload_n (pc := 0) C 1 rfl dJ1_charAt_3b067_0 ?_
  refine V_aload_n (pc := 1) C 0 rfl dJ1_charAt_3b067_1 ?_
  refine V_sblen (pc := 2) C hq dJ1_charAt_3b067_2 ?_
  refine V_callSV (pc := 3) C (c_Jchk l Γ sk hr9 (slen_rng q) hj) cf_Jchk lm_J1_9 ⟨rfl, rfl⟩ ⟨Nat.le_of_ble_eq_true rfl, Nat.le_of_ble_eq_true rfl⟩ rfl (Nat.le_of_ble_eq_true rfl) ⟨Nat.zero_le _, Nat.zero_le _⟩ rfl dJ1_charAt_3b067_3 ?_
  refine V_aload_n (pc := 6) C 0 rfl dJ1_charAt_3b067_6 ?_
  refine V_iload_n (pc := 7) C 1 rfl dJ1_charAt_3b067_7 ?_
  refine V_sbald (pc := 8) C hq hj hr9 dJ1_charAt_3b067_8 ?_
  refine V_sipush (pc := 9) C (n := 255) dJ1_charAt_3b067_9 rfl ?_
  have hb := schar_ok hq hj
  refine V_iand (pc := 12) C (z := schar q j.toNat) 8 (by decide) (by decide) (by have e1 : ((2 ^ 8 : Nat) : Int) = 256 := rfl
                                                                                  rw [e1]; omega) dJ1_charAt_3b067_12 ?_
  refine V_i2c (pc := 13) C ⟨hb.1, by omega⟩ dJ1_charAt_3b067_13 ?_
  exact V_ret (pc := 14) C hr hlk (nar_char ⟨hb.1, by omega⟩) (schar_rng _ _) dJ1_charAt_3b067_14
set_option maxRecDepth 100000 in
set_option maxHeartbeats 4000000 in
theorem c_Jcha (l : Launch) (Γ : GG) (sk : List SD) {M : Mem} {q : Nat} {j : Int} (hq : q < lensL.length) (hj : 0 ≤ j ∧ j < slen q) (hr9 : rng j) : MetI l yJ0_charAt_5068e cJ0_charAt_5068e 2 .char ({ frames := 3, cells := 0, slots := 0, locals := 120 } : Room) Γ sk [vs Γ q, vi j] M M (schar q j.toNat) := by
  refine MetI_of RJ0 rfl (by decide) rfl (Nat.le_of_ble_eq_true rfl) rfl ?_
  intro p e s m args below meth c C hr hlk hM
  have hb := schar_ok hq hj
  refine V_aload_n (pc := 0) C 0 rfl dJ0_charAt_5068e_0 ?_
  refine V_callVIs (pc := 1) C (c_Jlat l Γ sk hq) cf_Jlat lm_J_492 ⟨rfl, rfl⟩ ⟨Nat.le_of_ble_eq_true rfl, Nat.le_of_ble_eq_true rfl⟩ hq rfl rfl (Nat.le_of_ble_eq_true rfl) ⟨Nat.zero_le _, Nat.zero_le _⟩ rfl dJ0_charAt_5068e_1 (fun _ => ?_)
  refine V_if_eq (pc := 4) C 16 (by decide) dJ0_charAt_5068e_4 (by decide) (fun z => absurd z (by decide)) (fun _ => ?_)
  refine V_aload_n (pc := 7) C 0 rfl dJ0_charAt_5068e_7 ?_
  refine V_sval (pc := 8) C hq lf_J_9 dJ0_charAt_5068e_8 ?_
  refine V_iload_n (pc := 11) C 1 rfl dJ0_charAt_5068e_11 ?_
  refine V_callSI (pc := 12) C (c_Jch1 l Γ sk hq hj hr9) cf_Jch1 lm_J_495 ⟨rfl, rfl⟩ ⟨Nat.le_of_ble_eq_true rfl, Nat.le_of_ble_eq_true rfl⟩ rfl (Nat.le_of_ble_eq_true rfl) ⟨Nat.zero_le _, Nat.zero_le _⟩ rfl dJ0_charAt_5068e_12 (fun _ => ?_)
  exact V_ret (pc := 15) C hr hlk (nar_char ⟨hb.1, by omega⟩) (schar_rng _ _) dJ0_charAt_5068e_15
section Str10
variable {p : Program} {l : Launch} {e : Env} {R : Room} {s : State} {m : MethodId} {args : Array Value} {below : List Frame} {meth : Method} {c : Code} {Q : State → Prop}
variable {nL : Nat} {Γ : GG} {sk : List SD} {M : Mem} {cells slots pc : Nat} {L : List (Nat × Value)} {st : List Value} {cc : ByteArray} {own : String}
theorem V_slen (C : CX p s m args c cc nL own Γ sk) {index q : Nat} (hq : q < lensL.length) (hlink : Cond.methodLink own index yJ0_length_8abf5 ∈ wsA) (hR : 12 ≤ R.frames ∧ 400 ≤ R.locals) (hcs : cells ≤ R.cells ∧ slots ≤ R.slots) (hst : (st.map fun v => v.category).sum ≤ 8) (hd : decode cc pc = .ok (.invokevirtual index, 3)) (k : VV p l e R s m args below meth c Q nL Γ sk M cells slots (pc + 3) L (vi (slen q) :: st)) : VV p l e R s m args below meth c Q nL Γ sk M cells slots pc L (vs Γ q :: st) :=
  V_callVIs C (c_Jlen l Γ sk hq) cf_Jlen hlink ⟨rfl, rfl⟩ ⟨by dsimp only; omega, by dsimp only; omega⟩ hq rfl rfl hst hcs rfl hd (fun _ => k)
theorem V_schar (C : CX p s m args c cc nL own Γ sk) {index q : Nat} {j : Int} (hq : q < lensL.length) (hj : 0 ≤ j ∧ j < slen q) (hr : rng j) (hlink : Cond.methodLink own index yJ0_charAt_5068e ∈ wsA) (hR : 12 ≤ R.frames ∧ 400 ≤ R.locals) (hcs : cells ≤ R.cells ∧ slots ≤ R.slots) (hst : (st.map fun v => v.category).sum ≤ 8) (hd : decode cc pc = .ok (.invokevirtual index, 3)) (k : VV p l e R s m args below meth c Q nL Γ sk M cells slots (pc + 3) L (vi (schar q j.toNat) :: st)) : VV p l e R s m args below meth c Q nL Γ sk M cells slots pc L (vi j :: vs Γ q :: st) :=
  V_callVIs C (c_Jcha l Γ sk hq hj hr) cf_Jcha hlink ⟨rfl, rfl⟩ ⟨by dsimp only; omega, by dsimp only; omega⟩ hq rfl rfl hst hcs rfl hd (fun _ => k)
end Str10
