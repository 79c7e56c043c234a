/-! a String's letters; told: the text handed to the class's input in blocks of twenty -/
def TJ (sk : List SD) (M : Mem) (k j n : Nat) : Prop := (298 ≤ k ∧ 298 ≤ j ∧ k ≠ j) ∧ sk[k]? = some (.inr (0, [some j, none, none, none])) ∧ sk[j]? = some (.inl (2, n)) ∧ n ≤ 4000 ∧ M k 1 = 0
theorem i32_or {a b : Nat} (hb : b < 256) (ha : a * 256 + b < 2147483648) : i32 ((a * 256 : Nat) : Int) ||| i32 (b : Int) = i32 ((a * 256 + b : Nat) : Int) := by
  have e : a * 256 + b = a * 256 ||| b := by
    have := Nat.two_pow_add_eq_or_of_lt (i := 8) (b := b) (by omega) a
    rw [show 2 ^ 8 * a = a * 256 from by omega] at this
    exact this
  have f : ∀ n : Nat, i32 (n : Int) = Int32.ofBitVec (BitVec.ofNat 32 n) := fun n => by
    apply Int32.toBitVec_inj.mp
    show BitVec.ofInt 32 (n : Int) = BitVec.ofNat 32 n
    exact BitVec.ofInt_natCast 32 n
  rw [f, f, f, e]
  apply Int32.toBitVec_inj.mp
  show BitVec.ofNat 32 (a * 256) ||| BitVec.ofNat 32 b = BitVec.ofNat 32 (a * 256 ||| b)
  exact (BitVec.ofNat_or ..).symm
section Or9
variable {p : Program} {l : Launch} {e : Env} {R : Room} {s : State} {m : MethodId} {args : Array Value} {below : List Frame} {meth : Method} {c : Code} {Q : State → Prop}
variable {nL : Nat} {Γ : GG} {sk : List SD} {M : Mem} {cells slots pc : Nat} {L : List (Nat × Value)} {st : List Value} {cc : ByteArray} {own : String}
theorem V_ior (C : CX p s m args c cc nL own Γ sk) {x y : Int} (hx : 0 ≤ x) (hy : 0 ≤ y ∧ y < 256) (hxy : x * 256 + y ≤ 2147483647) (hd : decode cc pc = .ok (.ior, 1)) (k : VV p l e R s m args below meth c Q nL Γ sk M cells slots (pc + 1) L (vi (x * 256 + y) :: st)) : VV p l e R s m args below meth c Q nL Γ sk M cells slots pc L (vi y :: vi (x * 256) :: st) := by
  obtain ⟨a, rfl⟩ := Int.eq_ofNat_of_zero_le hx
  obtain ⟨b, rfl⟩ := Int.eq_ofNat_of_zero_le hy.1
  have h9 := i32_or (a := a) (b := b) (by omega) (by omega)
  have e1 : ((a * 256 : Nat) : Int) = (a : Int) * 256 := by omega
  have e2 : ((a * 256 + b : Nat) : Int) = (a : Int) * 256 + b := by rw [Int.natCast_add, e1]
  rw [e1, e2] at h9
  intro H locs ls hP hS hl hM
  refine lv_ior C.1 C.2.1 hd ?_
  rw [h9]
  exact k H locs ls hP hS hl hM
end Or9
set_option maxRecDepth 100000 in
set_option maxHeartbeats 4000000 in
theorem c_Dcod (l : Launch) (Γ : GG) (sk : List SD) {M : Mem} {k j n : Nat} (h : TJ sk M k j n) : MetI l yJ0_coder_7d493 cJ0_coder_7d493 1 .byte (rmz 0 0) Γ sk [vr Γ k] M M 0 := by
  refine MetI_of RJ0 rfl (by decide) rfl (Nat.le_of_ble_eq_true rfl) rfl ?_
  intro p e s m args below meth c C hr hlk hM
  refine V_getsV (pc := 0) C C.2.2.2.2.2.2.2.2.2.2.2.2.1 lf_J_38 dJ0_coder_7d493_0 ?_
  refine V_if_eq (pc := 3) C 13 (by decide) dJ0_coder_7d493_3 (by decide) (fun z => absurd z (by decide)) (fun _ => ?_)
  refine V_aload_n (pc := 6) C 0 rfl dJ0_coder_7d493_6 ?_
  refine V_getI (pc := 7) C h.2.1 rfl inJ0 1 (by decide) rfl lf_J_15 rfl dJ0_coder_7d493_7 ?_
  rw [h.2.2.2.2]
  refine V_goto (pc := 10) C 14 dJ0_coder_7d493_10 (by decide) ?_
  exact V_ret (pc := 14) C hr hlk rfl (by decide) dJ0_coder_7d493_14
set_option maxRecDepth 100000 in
set_option maxHeartbeats 4000000 in
theorem c_Dlat (l : Launch) (Γ : GG) (sk : List SD) {M : Mem} {k j n : Nat} (h : TJ sk M k j n) : MetI l yJ0_isLatin1_aae02 cJ0_isLatin1_aae02 1 .boolean (rmz 0 0) Γ sk [vr Γ k] M M 1 := by
  refine MetI_of RJ0 rfl (by decide) rfl (Nat.le_of_ble_eq_true rfl) rfl ?_
  intro p e s m args below meth c C hr hlk hM
  refine V_getsV (pc := 0) C C.2.2.2.2.2.2.2.2.2.2.2.2.1 lf_J_38 dJ0_isLatin1_aae02_0 ?_
  refine V_if_eq (pc := 3) C 17 (by decide) dJ0_isLatin1_aae02_3 (by decide) (fun z => absurd z (by decide)) (fun _ => ?_)
  refine V_aload_n (pc := 6) C 0 rfl dJ0_isLatin1_aae02_6 ?_
  refine V_getI (pc := 7) C h.2.1 rfl inJ0 1 (by decide) rfl lf_J_15 rfl dJ0_isLatin1_aae02_7 ?_
  rw [h.2.2.2.2]
  refine V_if_ne (pc := 10) C 17 (by decide) dJ0_isLatin1_aae02_10 (by decide) (fun z => absurd rfl z) (fun _ => ?_)
  refine V_iconst (pc := 13) C dJ0_isLatin1_aae02_13 ?_
  refine V_goto (pc := 14) C 18 dJ0_isLatin1_aae02_14 (by decide) ?_
  exact V_ret (pc := 18) C hr hlk rfl (by decide) dJ0_isLatin1_aae02_18
set_option maxRecDepth 100000 in
set_option maxHeartbeats 4000000 in
theorem c_Dlen (l : Launch) (Γ : GG) (sk : List SD) {M : Mem} {k j n : Nat} (h : TJ sk M k j n) : MetI l yJ0_length_8abf5 cJ0_length_8abf5 1 .int (rmz 1 40) Γ sk [vr Γ k] M M (n : Int) := by
  refine MetI_of RJ0 rfl (by decide) rfl (Nat.le_of_ble_eq_true rfl) rfl ?_
  intro p e s m args below meth c C hr hlk hM
  have hn := h.2.2.2.1
  refine V_aload_n (pc := 0) C 0 rfl dJ0_length_8abf5_0 ?_
  refine V_getR (pc := 1) C h.2.1 rfl inJ0 0 (by decide) rfl lf_J_9 rfl dJ0_length_8abf5_1 ?_
  refine V_alen (pc := 4) C h.2.2.1 dJ0_length_8abf5_4 ?_
  refine V_aload_n (pc := 5) C 0 rfl dJ0_length_8abf5_5 ?_
  refine V_callVI (pc := 6) C (As := []) (c_Dcod l Γ sk h) cf_Jcod lm_J_335 ⟨rfl, rfl⟩ ⟨(Nat.le_of_ble_eq_true rfl), (Nat.le_of_ble_eq_true rfl)⟩ h.2.1 rfl rfl rfl (Nat.le_of_ble_eq_true rfl) ⟨Nat.zero_le _, Nat.zero_le _⟩ rfl dJ0_length_8abf5_6 (fun _ => ?_)
  refine V_ishr (pc := 9) C ⟨by omega, by omega⟩ (by decide) dJ0_length_8abf5_9 ?_
  have e1 : (n : Int) / ((2 ^ (0 : Int).toNat : Nat) : Int) = (n : Int) := Int.ediv_one _
  rw [e1]
  exact V_ret (pc := 10) C hr hlk rfl ⟨by omega, by omega⟩ dJ0_length_8abf5_10
set_option maxRecDepth 100000 in
set_option maxHeartbeats 4000000 in
theorem c_Dch1 (l : Launch) (Γ : GG) (sk : List SD) {M : Mem} {j n i : Nat} (hj : sk[j]? = some (.inl (2, n))) (hn : n ≤ 4000) (hi : i < n) (hb : 0 ≤ M j i ∧ M j i ≤ 127) : MetI l yJ1_charAt_3b067 cJ1_charAt_3b067 2 .char (rmz 2 80) Γ sk [vr Γ j, vi (i : Int)] M M (M j i) := by
  refine MetI_of RJ1 rfl (by decide) rfl (Nat.le_of_ble_eq_true rfl) rfl ?_
  intro p e s m args below meth c C hr hlk hM
  refine V_iload_n (pc := 0) C 1 rfl dJ1_charAt_3b067_0 ?_
  refine V_aload_n (pc := 1) C 0 rfl dJ1_charAt_3b067_1 ?_
  refine V_alen (pc := 2) C hj dJ1_charAt_3b067_2 ?_
  refine V_callSV (pc := 3) C (As := [vi (i : Int), vi (n : Int)]) (c_Jchk l Γ sk ⟨by omega, by omega⟩ ⟨by omega, by omega⟩ ⟨by omega, by omega⟩) cf_Jchk lm_J1_9 ⟨rfl, rfl⟩ ⟨(Nat.le_of_ble_eq_true rfl), (Nat.le_of_ble_eq_true rfl)⟩ rfl (Nat.le_of_ble_eq_true rfl) ⟨Nat.zero_le _, Nat.zero_le _⟩ rfl dJ1_charAt_3b067_3 ?_
  refine V_aload_n (pc := 6) C 0 rfl dJ1_charAt_3b067_6 ?_
  refine V_iload_n (pc := 7) C 1 rfl dJ1_charAt_3b067_7 ?_
  refine V_bald (pc := 8) C hj ⟨by omega, by omega⟩ ⟨by omega, by omega⟩ dJ1_charAt_3b067_8 ?_
  rw [Int.toNat_natCast]
  refine V_sipush (pc := 9) C (n := 255) dJ1_charAt_3b067_9 rfl ?_
  refine V_iand (pc := 12) C (z := M j i) 8 (by decide) (by decide) (by have e1 : ((2 ^ 8 : Nat) : Int) = 256 := rfl
                                                                        rw [e1]; omega) dJ1_charAt_3b067_12 ?_
  refine V_i2c (pc := 13) C ⟨hb.1, by omega⟩ dJ1_charAt_3b067_13 ?_
  exact V_ret (pc := 14) C hr hlk (nar_char ⟨hb.1, by omega⟩) ⟨by omega, by omega⟩ dJ1_charAt_3b067_14
set_option maxRecDepth 100000 in
set_option maxHeartbeats 4000000 in
theorem c_Dcha (l : Launch) (Γ : GG) (sk : List SD) {M : Mem} {k j n i : Nat} (h : TJ sk M k j n) (hi : i < n) (hb : 0 ≤ M j i ∧ M j i ≤ 127) : MetI l yJ0_charAt_5068e cJ0_charAt_5068e 2 .char (rmz 3 120) Γ sk [vr Γ k, vi (i : Int)] M M (M j i) := by
  refine MetI_of RJ0 rfl (by decide) rfl (Nat.le_of_ble_eq_true rfl) rfl ?_
  intro p e s m args below meth c C hr hlk hM
  refine V_aload_n (pc := 0) C 0 rfl dJ0_charAt_5068e_0 ?_
  refine V_callVI (pc := 1) C (As := []) (c_Dlat l Γ sk h) cf_Jlat lm_J_492 ⟨rfl, rfl⟩ ⟨(Nat.le_of_ble_eq_true rfl), (Nat.le_of_ble_eq_true rfl)⟩ h.2.1 rfl rfl rfl (Nat.le_of_ble_eq_true rfl) ⟨Nat.zero_le _, Nat.zero_le _⟩ rfl dJ0_charAt_5068e_1 (fun _ => ?_)
  refine V_if_eq (pc := 4) C 16 (by decide) dJ0_charAt_5068e_4 (by decide) (fun z => absurd z (by decide)) (fun _ => ?_)
  refine V_aload_n (pc := 7) C 0 rfl dJ0_charAt_5068e_7 ?_
  refine V_getR (pc := 8) C h.2.1 rfl inJ0 0 (by decide) rfl lf_J_9 rfl dJ0_charAt_5068e_8 ?_
  refine V_iload_n (pc := 11) C 1 rfl dJ0_charAt_5068e_11 ?_
  refine V_callSI (pc := 12) C (As := [vr Γ j, vi (i : Int)]) (c_Dch1 l Γ sk h.2.2.1 h.2.2.2.1 hi hb) cf_Jch1 lm_J_495 ⟨rfl, rfl⟩ ⟨(Nat.le_of_ble_eq_true rfl), (Nat.le_of_ble_eq_true rfl)⟩ rfl (Nat.le_of_ble_eq_true rfl) ⟨Nat.zero_le _, Nat.zero_le _⟩ rfl dJ0_charAt_5068e_12 (fun _ => ?_)
  exact V_ret (pc := 15) C hr hlk (nar_char ⟨hb.1, by omega⟩) ⟨by omega, by omega⟩ dJ0_charAt_5068e_15
theorem cf_X11_appendInput : CalV yX11_appendInput cX11_appendInput 6 (some .int) 5 := ⟨tb_3 (List.mem_of_getElem? (i := 70) (by decide +kernel)) (by decide +kernel), tb_3 (List.mem_of_getElem? (i := 71) (by decide +kernel)) (by decide +kernel), tb_1 (List.mem_of_getElem? (i := 1) (by decide +kernel)) (by decide +kernel), tb_3 (List.mem_of_getElem? (i := 72) (by decide +kernel)) (by decide +kernel), by decide +kernel, by decide +kernel, by decide +kernel⟩
theorem cf_X11_truncateInput : CalV yX11_truncateInput cX11_truncateInput 2 (some .boolean) 1 := ⟨tb_3 (List.mem_of_getElem? (i := 87) (by decide +kernel)) (by decide +kernel), tb_3 (List.mem_of_getElem? (i := 88) (by decide +kernel)) (by decide +kernel), tb_1 (List.mem_of_getElem? (i := 1) (by decide +kernel)) (by decide +kernel), tb_3 (List.mem_of_getElem? (i := 89) (by decide +kernel)) (by decide +kernel), by decide +kernel, by decide +kernel, by decide +kernel⟩
theorem cf_X11_loadSetup : CalV yX11_loadSetup cX11_loadSetup 2 (some .int) 0 := ⟨tb_2 (List.mem_of_getElem? (i := 144) (by decide +kernel)) (by decide +kernel), tb_2 (List.mem_of_getElem? (i := 145) (by decide +kernel)) (by decide +kernel), tb_1 (List.mem_of_getElem? (i := 1) (by decide +kernel)) (by decide +kernel), tb_2 (List.mem_of_getElem? (i := 146) (by decide +kernel)) (by decide +kernel), by decide +kernel, by decide +kernel, by decide +kernel⟩
theorem lk_L_45 : Cond.methodLink RL 45 yX11_appendInput ∈ wsA := tb_3 (List.mem_of_getElem? (i := 69) (by decide +kernel)) (by decide +kernel)
theorem lk_L_51 : Cond.methodLink RL 51 yX11_truncateInput ∈ wsA := tb_3 (List.mem_of_getElem? (i := 86) (by decide +kernel)) (by decide +kernel)
theorem lk_L_187 : Cond.methodLink RL 187 yX11_loadSetup ∈ wsA := tb_2 (List.mem_of_getElem? (i := 143) (by decide +kernel)) (by decide +kernel)
theorem lk_L_35 : Cond.methodLink RL 35 yJ0_length_8abf5 ∈ wsA := tb_3 (List.mem_of_getElem? (i := 67) (by decide +kernel)) (by decide +kernel)
theorem lk_L_41 : Cond.methodLink RL 41 yJ0_charAt_5068e ∈ wsA := tb_3 (List.mem_of_getElem? (i := 68) (by decide +kernel)) (by decide +kernel)
theorem lk_L_183 : Cond.methodLink RL 183 yL_told ∈ wsA := tb_3 (List.mem_of_getElem? (i := 64) (by decide +kernel)) (by decide +kernel)
theorem cs_told : CalS yL_told cL_told 5 none 2 := ⟨tb_3 (List.mem_of_getElem? (i := 65) (by decide +kernel)) (by decide +kernel), tb_1 (List.mem_of_getElem? (i := 0) (by decide +kernel)) (by decide +kernel), tb_3 (List.mem_of_getElem? (i := 66) (by decide +kernel)) (by decide +kernel), by decide +kernel, by decide +kernel, by decide +kernel⟩
theorem ac_int : Cond.arrayClass (newarray.typeOf .int) ∈ wsA := tb_1 (List.mem_of_getElem? (i := 73) (by decide +kernel)) (by decide +kernel)
/-- the words of the input: m letters from b on in one number -/
def wdv (ch : Nat → Int) (b : Nat) : Nat → Int
  | 0 => 0
  | m + 1 => wdv ch b m * 256 + ch (b + m)
theorem wdv_b {ch : Nat → Int} {b : Nat} (h : ∀ i, 0 ≤ ch i ∧ ch i ≤ 127) : ∀ m, m ≤ 3 → 0 ≤ wdv ch b m ∧ wdv ch b m ≤ 8355711
  | 0, _ => ⟨Int.le_refl _, by show (0 : Int) ≤ _; decide⟩
  | 1, _ => by have := h b; simp only [wdv, Nat.add_zero]; omega
  | 2, _ => by have := h b; have := h (b + 1); simp only [wdv, Nat.add_zero]; omega
  | 3, _ => by have := h b; have := h (b + 1); have := h (b + 2); simp only [wdv, Nat.add_zero]; omega
  | n + 4, hn => absurd hn (by omega)
/-- an input of K letters -/
def TXc (T : TX) (K : Nat) (ch : Nat → Int) : Prop := T.1 = (K : Int) ∧ ∀ i : Nat, i < K → T.2 (i : Int) = ch i
theorem pB_c {T : TX} {K : Nat} {ch : Nat → Int} {x : Int} (h : TXc T K ch) (hx : x = ch K) : TXc (pB T x) (K + 1) ch := by
  refine ⟨by show T.1 + 1 = _; rw [h.1]; omega, fun i hi => ?_⟩
  show (if (i : Int) = T.1 then x else T.2 i) = ch i
  rw [h.1]
  by_cases e : i = K
  · rw [if_pos (by omega), hx, e]
  · rw [if_neg (by omega)]
    exact h.2 i (by omega)
theorem wB_c {T : TX} {K : Nat} {ch : Nat → Int} (h : TXc T K ch) (hb : ∀ i, 0 ≤ ch i ∧ ch i ≤ 127) : TXc (wB T (wdv ch K 4)) (K + 4) ch := by
  have e : wdv ch K 4 = ((ch K * 256 + ch (K + 1)) * 256 + ch (K + 2)) * 256 + ch (K + 3) := by simp only [wdv, Nat.add_zero]; omega
  have h0 := hb K; have h1 := hb (K + 1); have h2 := hb (K + 2); have h3 := hb (K + 3)
  unfold wB
  rw [e]
  exact pB_c (pB_c (pB_c (pB_c h (by omega)) (by omega)) (by omega)) (by omega)
def chs (T : Nat → Int) (n : Nat) : Nat → Int := fun i => if i < n then T i else 32
theorem chs_b {T : Nat → Int} {n : Nat} (h : ∀ i, i < n → 0 ≤ T i ∧ T i ≤ 127) (i : Nat) : 0 ≤ chs T n i ∧ chs T n i ≤ 127 := by
  unfold chs
  split
  · exact h i ‹_›
  · decide
/-- the block's row after i letters -/
def IW (M M' : Mem) (a : Nat) (ch : Nat → Int) (b i : Nat) : Prop := (∀ q, q ≠ a → M' q = M q) ∧ ∀ j, j < 5 → M' a j = wdv ch (b + 4 * j) (min 4 (i - 4 * j))
theorem IW_step {M M' : Mem} {a : Nat} {ch : Nat → Int} {b i : Nat} (h : IW M M' a ch b i) (hi : i < 20) : IW M (up M' a (i / 4) (M' a (i / 4) * 256 + ch (b + i))) a ch b (i + 1) := by
  refine ⟨fun q hq => by rw [up_cell _ _ hq]; exact h.1 q hq, fun j hj => ?_⟩
  by_cases e : j = i / 4
  · subst e
    rw [up_same, h.2 _ hj, show min 4 (i + 1 - 4 * (i / 4)) = min 4 (i - 4 * (i / 4)) + 1 by omega]
    show _ = wdv ch _ _ * 256 + ch _
    rw [show b + 4 * (i / 4) + min 4 (i - 4 * (i / 4)) = b + i by omega]
  · rw [up_at (Or.inr e), h.2 j hj, show min 4 (i + 1 - 4 * j) = min 4 (i - 4 * j) by omega]
section Told
variable {p : Program} {l : Launch} {e : Env} {R : Room} {s : State} {m : MethodId} {args : Array Value} {below : List Frame} {meth : Method} {c : Code} {Q : State → Prop}
variable {Γ : GG} {sk : List SD} {M : Mem} {cells slots : Nat}
set_option maxRecDepth 100000 in
set_option maxHeartbeats 4000000 in
theorem told_in (C : CX p s m args c cL_told 5 RL Γ sk) (hR : 20 ≤ R.frames ∧ 600 ≤ R.locals) (hcs : cells ≤ R.cells ∧ slots ≤ R.slots) {a k n ks js : Nat} {T : Nat → Int} (ha : 298 ≤ a ∧ a ≠ js ∧ a ≠ ks) (hka : sk[a]? = some (.inl (0, 5))) (hT : TJ sk M ks js n) (hTb : ∀ i, i < n → M js i = T i ∧ 0 ≤ T i ∧ T i ≤ 127) (hk : k ≤ 2000)
    (kk : ∀ M', IW M M' a (chs T n) k 20 → VV p l e R s m args below meth c Q 5 Γ sk M' cells slots 70 [(0, vr Γ 3), (1, vr Γ ks), (2, vi (k : Int)), (3, vr Γ a), (4, vi ((20 : Nat) : Int))] []) :
    ∀ (r i : Nat) (M' : Mem), i + r = 20 → IW M M' a (chs T n) k i → VV p l e R s m args below meth c Q 5 Γ sk M' cells slots 17 [(0, vr Γ 3), (1, vr Γ ks), (2, vi (k : Int)), (3, vr Γ a), (4, vi (i : Int))] [] := by
  have hn := hT.2.2.2.1
  have hcb := chs_b (T := T) (n := n) (fun i hi => (hTb i hi).2)
  intro r
  induction r with
  | zero =>
    intro i M' hi hI
    obtain rfl : i = 20 := by omega
    refine V_iload (pc := 17) C 4 rfl dL_told_17 ?_
    refine V_bipush (pc := 19) C dL_told_19 rfl ?_
    refine V_icmp_ge (pc := 21) C 70 (by decide) (by decide) dL_told_21 (by decide) (fun _ => ?_) (fun z => absurd (Int.le_refl _) z)
    exact kk M' hI
  | succ r ih =>
    intro i M' hi hI
    have hj : TJ sk M' ks js n := ⟨hT.1, hT.2.1, hT.2.2.1, hT.2.2.2.1, by rw [hI.1 ks (by omega)]; exact hT.2.2.2.2⟩
    have hjs : M' js = M js := hI.1 js (by omega)
    have hwb : 0 ≤ M' a (i / 4) ∧ M' a (i / 4) ≤ 8355711 := by
      rw [hI.2 _ (by omega)]
      exact wdv_b hcb _ (by omega)
    have e8 : ∀ z : Int, z * ((2 ^ (8 : Int).toNat : Nat) : Int) = z * 256 := fun z => rfl
    have ei : ((i : Int) / 4).toNat = i / 4 := by omega
    refine V_iload (pc := 17) C 4 rfl dL_told_17 ?_
    refine V_bipush (pc := 19) C dL_told_19 rfl ?_
    refine V_icmp_ge (pc := 21) C 70 ⟨by omega, by omega⟩ (by decide) dL_told_21 (by decide) (fun z => absurd z (by omega)) (fun _ => ?_)
    refine V_aload_n (pc := 24) C 3 rfl dL_told_24 ?_
    refine V_iload (pc := 25) C 4 rfl dL_told_25 ?_
    refine V_iconst (pc := 27) C dL_told_27 ?_
    refine V_idiv (pc := 28) C ⟨⟨by omega, by omega⟩, by decide, by decide⟩ dL_told_28 ?_
    refine V_aload_n (pc := 29) C 3 rfl dL_told_29 ?_
    refine V_iload (pc := 30) C 4 rfl dL_told_30 ?_
    refine V_iconst (pc := 32) C dL_told_32 ?_
    refine V_idiv (pc := 33) C ⟨⟨by omega, by omega⟩, by decide, by decide⟩ dL_told_33 ?_
    refine V_iald (pc := 34) C hka ⟨by omega, by omega⟩ ⟨by omega, by omega⟩ dL_told_34 ?_
    rw [ei]
    refine V_bipush (pc := 35) C dL_told_35 rfl ?_
    refine V_ishl (pc := 37) C ⟨hwb.1, by decide, by rw [e8]; omega⟩ dL_told_37 ?_
    rw [e8]
    have tail : VV p l e R s m args below meth c Q 5 Γ sk M' cells slots 62 [(0, vr Γ 3), (1, vr Γ ks), (2, vi (k : Int)), (3, vr Γ a), (4, vi (i : Int))] [vi (chs T n (k + i)), vi (M' a (i / 4) * 256), vi ((i : Int) / 4), vr Γ a] := by
      have hc9 := hcb (k + i)
      refine V_ior (pc := 62) C hwb.1 ⟨hc9.1, by omega⟩ (by omega) dL_told_62 ?_
      refine V_iast (pc := 63) C (by omega) hka ⟨by omega, by omega⟩ ⟨by omega, by omega⟩ ⟨by omega, by omega⟩ dL_told_63 ?_
      rw [ei]
      refine V_iinc (pc := 64) C 4 rfl rfl (by decide) dL_told_64 ?_
      refine V_goto (pc := 67) C 17 dL_told_67 (by decide) ?_
      have := ih (i + 1) _ (by omega) (IW_step hI (by omega))
      rw [show ((i + 1 : Nat) : Int) = (i : Int) + 1 from by omega] at this
      exact this
    refine V_iload_n (pc := 38) C 2 rfl dL_told_38 ?_
    refine V_iload (pc := 39) C 4 rfl dL_told_39 ?_
    refine V_iadd (pc := 41) C dL_told_41 ?_
    refine V_aload_n (pc := 42) C 1 rfl dL_told_42 ?_
    refine V_callVI (pc := 43) C (As := []) (c_Dlen l Γ sk hj) cf_Jlen lk_L_35 ⟨rfl, rfl⟩ ⟨by show 1 + 1 ≤ _; omega, by show 8 + (1 + 11) + 40 ≤ _; omega⟩ hj.2.1 rfl rfl rfl (Nat.le_of_ble_eq_true rfl) hcs rfl dL_told_43 (fun _ => ?_)
    refine V_icmp_ge (pc := 46) C 60 ⟨by omega, by omega⟩ ⟨by omega, by omega⟩ dL_told_46 (by decide) (fun z => ?_) (fun z => ?_)
    · refine V_bipush (pc := 60) C dL_told_60 rfl ?_
      have e9 : chs T n (k + i) = 32 := if_neg (by omega)
      rw [e9] at tail
      exact tail
    · have e9 : chs T n (k + i) = M' js (k + i) := by
        rw [hjs, (hTb _ (by omega)).1]
        exact if_pos (by omega)
      rw [e9] at tail
      refine V_aload_n (pc := 49) C 1 rfl dL_told_49 ?_
      refine V_iload_n (pc := 50) C 2 rfl dL_told_50 ?_
      refine V_iload (pc := 51) C 4 rfl dL_told_51 ?_
      refine V_iadd (pc := 53) C dL_told_53 ?_
      rw [show (k : Int) + (i : Int) = ((k + i : Nat) : Int) from by omega]
      refine V_callVI (pc := 54) C (As := [vi ((k + i : Nat) : Int)]) (c_Dcha l Γ sk hj (i := k + i) (by omega) (by rw [hjs, (hTb _ (by omega)).1]; exact (hTb _ (by omega)).2)) cf_Jcha lk_L_41 ⟨rfl, rfl⟩ ⟨by show 3 + 1 ≤ _; omega, by show 8 + (2 + 11) + 120 ≤ _; omega⟩ hj.2.1 rfl rfl rfl (Nat.le_of_ble_eq_true rfl) hcs rfl dL_told_54 (fun _ => ?_)
      refine V_goto (pc := 57) C 62 dL_told_57 (by decide) ?_
      exact tail
end Told
