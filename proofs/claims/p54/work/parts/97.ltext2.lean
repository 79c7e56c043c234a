/-! the law from behind its constructors to its end -/
theorem lk_L_155 : Cond.methodLink RL 155 yL_cell ∈ wsA := tb_3 (List.mem_of_getElem? (i := 58) (by decide +kernel)) (by decide +kernel)
theorem cs_L_cell : CalS yL_cell cL_cell 2 (some .int) 2 := ⟨tb_3 (List.mem_of_getElem? (i := 59) (by decide +kernel)) (by decide +kernel), tb_1 (List.mem_of_getElem? (i := 0) (by decide +kernel)) (by decide +kernel), tb_3 (List.mem_of_getElem? (i := 60) (by decide +kernel)) (by decide +kernel), by decide +kernel, by decide +kernel, by decide +kernel⟩
theorem lk_L_170 : Cond.methodLink RL 170 yJ4_append_15ec4 ∈ wsA := tb_6 (List.mem_of_getElem? (i := 33) (by decide +kernel)) (by decide +kernel)
theorem lk_L_173 : Cond.methodLink RL 173 yJ4_append_bf812 ∈ wsA := tb_6 (List.mem_of_getElem? (i := 47) (by decide +kernel)) (by decide +kernel)
theorem lk_L_176 : Cond.methodLink RL 176 yJ4_append_cf468 ∈ wsA := tb_6 (List.mem_of_getElem? (i := 34) (by decide +kernel)) (by decide +kernel)
theorem lk_L_179 : Cond.methodLink RL 179 yJ4_toString_0e30d ∈ wsA := tb_6 (List.mem_of_getElem? (i := 72) (by decide +kernel)) (by decide +kernel)
theorem lk_L_163 : Cond.methodLink RL 163 yJ4_init_a7421 ∈ wsA := tb_5 (List.mem_of_getElem? (i := 142) (by decide +kernel)) (by decide +kernel)
theorem lk_L_190 : Cond.methodLink RL 190 yL_isLike ∈ wsA := tb_4 (List.mem_of_getElem? (i := 234) (by decide +kernel)) (by decide +kernel)
theorem lk_L_194 : Cond.methodLink RL 194 yL_acts ∈ wsA := tb_3 (List.mem_of_getElem? (i := 90) (by decide +kernel)) (by decide +kernel)
theorem cv_L_isLike : CalV yL_isLike cL_isLike 5 (some .boolean) 1 := ⟨tb_4 (List.mem_of_getElem? (i := 236) (by decide +kernel)) (by decide +kernel), wsA_in (List.mem_append_left _ (List.mem_map.mpr ⟨(yL_isLike, 8), List.mem_of_getElem? (i := 26) (by decide +kernel), rfl⟩)) (by decide +kernel), tb_1 (List.mem_of_getElem? (i := 0) (by decide +kernel)) (by decide +kernel), tb_4 (List.mem_of_getElem? (i := 237) (by decide +kernel)) (by decide +kernel), by decide +kernel, by decide +kernel, by decide +kernel⟩
theorem cv_L_acts : CalV yL_acts cL_acts 9 (some .boolean) 2 := ⟨tb_3 (List.mem_of_getElem? (i := 92) (by decide +kernel)) (by decide +kernel), wsA_in (List.mem_append_left _ (List.mem_map.mpr ⟨(yL_acts, 8), List.mem_of_getElem? (i := 10) (by decide +kernel), rfl⟩)) (by decide +kernel), tb_1 (List.mem_of_getElem? (i := 0) (by decide +kernel)) (by decide +kernel), tb_3 (List.mem_of_getElem? (i := 93) rfl) (by decide +kernel), by decide +kernel, by decide +kernel, by decide +kernel⟩
theorem kl_L_159 : Cond.classLink RL 159 RJ4 ∈ wsA ∧ Cond.instantiable RJ4 4 ∈ wsA ∧ Cond.initialized RJ4 ∈ wsA := ⟨tb_5 (List.mem_of_getElem? (i := 140) (by decide +kernel)) (by decide +kernel), tb_5 (List.mem_of_getElem? (i := 141) (by decide +kernel)) (by decide +kernel), tb_1 (List.mem_of_getElem? (i := 15) (by decide +kernel)) (by decide +kernel)⟩
def cellv (xs : Nat → Int) (L : Nat) (a : Int) : Int := if (L : Int) ≤ a then 113 * a + 67 else xs a.toNat
def bitv (x p m : Int) : Int := x % 4294967296 / (2 ^ p.toNat : Nat) % (2 ^ m.toNat : Nat)
theorem cellv_f {fu : Nat} {M : Mem} {L : Nat} {a : Int} (ha : 0 ≤ a ∧ a ≤ 300) : f_L_cell fu M 2 L a = some (M, cellv (M 2) L a) := by
  unfold f_L_cell cellv
  split
  · rw [grd_pos ⟨by omega, by omega⟩]
  · rw [grd_pos ⟨by omega, by omega⟩]
theorem bitv_f {fu : Nat} {M : Mem} {x p m : Int} (hp : 0 ≤ p ∧ p ≤ 31) (hm : 0 ≤ m ∧ m ≤ 30) : f_L_bits fu M x p m = some (M, bitv x p m) := by
  unfold f_L_bits
  rw [grd_pos hp, grd_pos hm]
  rfl
theorem bitv_6 (x p : Int) : 0 ≤ bitv x p 6 ∧ bitv x p 6 ≤ 63 := by
  have e : ((2 ^ (6 : Int).toNat : Nat) : Int) = 64 := rfl
  unfold bitv
  rw [e]
  omega
def lwv (xs : Nat → Int) (L k : Nat) : Int := bitv (cellv xs L (1 + (k : Int) / 2)) (8 * ((k : Int) % 2)) 6 - 20
theorem lwv_b (xs : Nat → Int) (L k : Nat) : -20 ≤ lwv xs L k ∧ lwv xs L k ≤ 43 := by
  have := bitv_6 (cellv xs L (1 + (k : Int) / 2)) (8 * ((k : Int) % 2))
  unfold lwv
  omega
theorem mk0_f {n : Nat} {vals : Int → Int} (hn : n ≤ 63) (hv : ∀ i, 0 ≤ i → i < (n : Int) → -999 ≤ vals i ∧ vals i ≤ 999) : aV (mk0 n vals) = 1 ∧ szA (mk0 n vals) 0 = n ∧ paA (mk0 n vals) 0 = -1 ∧ rlA (mk0 n vals) 0 = 0 ∧ ∀ i, ev (mk0 n vals) 0 i = vals i := by
  have e : aV (nd0 n vals) = 0 := by
    by_cases h0 : n = 0
    · subst h0
      have : nd0 ((0 : Nat) : Int) vals = E0 := if_pos (Int.le_refl 0)
      rw [this]
      rfl
    · exact (nd0_lv (s := n) (by omega) (by omega) hv).2.2.2.1
  have h1 := addV_sz (nd0 n vals) (-1) (if (n : Int) ≤ 0 then -1 else aN (nd0 n vals) - 1) n (aN (nd0 n vals)) vals
  have h2 := addV_pa (nd0 n vals) (-1) (if (n : Int) ≤ 0 then -1 else aN (nd0 n vals) - 1) n (aN (nd0 n vals)) vals
  have h3 := addV_rl (nd0 n vals) (-1) (if (n : Int) ≤ 0 then -1 else aN (nd0 n vals) - 1) n (aN (nd0 n vals)) vals
  have h4 := addV_e (nd0 n vals) (-1) (if (n : Int) ≤ 0 then -1 else aN (nd0 n vals) - 1) n (aN (nd0 n vals)) vals
  rw [e] at h1 h2 h3 h4
  refine ⟨?_, h1, h2, h3, h4⟩
  show aV (addV (nd0 n vals) (-1) _ n _ vals) = 1
  rw [addV_V, e]
  rfl
/-- between two elements of the text -/
def LQ (Γ0 : GG) (sk0 : List SD) (M0 : Mem) (sz L : Nat) (Γ : GG) (sk : List SD) (M : Mem) (k : Nat) : Prop :=
  (ClS sk ∧ 298 ≤ sk.length ∧ Grw Γ0 Γ sk0 sk sz) ∧ ((∀ q, q < 298 → sk[q]? = sk0[q]?) ∧ ∀ q, q < 298 → q ≠ 58 → M q = M0 q) ∧ HB sk M 298 (ln (lwv (M0 2) L) k) (lt9 (lwv (M0 2) L) k) ∧ ∀ i : Nat, i < k → M 58 i = lwv (M0 2) L i
theorem ExtL_298 {sk sk' : List SD} (h : ExtL sk) (he : ∀ q, q < 298 → sk'[q]? = sk[q]?) : ExtL sk' := fun k d h2 hk => by
  have h9 : k < (skC ++ skW).length := nth_lt9 hk
  have h8 : (skC ++ skW).length = 298 := by
    show (skC ++ (skW0 ++ skR)).length = 298
    rw [List.length_append, List.length_append]
    unfold skR
    rw [List.length_append, List.length_replicate, List.length_replicate]
    rfl
  rw [he k (by omega)]
  exact h k d h2 hk
theorem RmF_of {R rm : Room} {cells slots maxL : Nat} (hR : 200 ≤ R.frames ∧ 5000 ≤ R.locals) (hcs : 500000 ≤ R.cells ∧ 7000000 ≤ R.slots) (h1 : rm.frames + 1 ≤ 200 ∧ 8 + (maxL + 11) + rm.locals ≤ 5000) (h2 : cells ≤ 400000 ∧ slots ≤ 6000000) (h3 : rm.cells ≤ 1000 ∧ rm.slots ≤ 100000) : RmF R cells slots maxL rm :=
  ⟨⟨Nat.le_trans h1.1 hR.1, Nat.le_trans h1.2 hR.2⟩, Nat.le_trans (by omega) hcs.1, Nat.le_trans (by omega) hcs.2⟩
theorem str_L_161 : ("VectorVersionsLaw", 161, "list", 0) ∈ strL := by decide +kernel
theorem str_L_166 : ("VectorVersionsLaw", 166, " minus ", 10) ∈ strL := by decide +kernel
theorem str_L_168 : ("VectorVersionsLaw", 168, " ", 11) ∈ strL := by decide +kernel
section Law9
variable {p : Program} {l : Launch} {e : Env} {R : Room} {s : State} {m : MethodId} {args : Array Value} {below : List Frame} {meth : Method} {c : Code} {Q : State → Prop}
theorem V_callVIr {nL : Nat} {Γ : GG} {sk : List SD} {M : Mem} {cells slots pc : Nat} {L : List (Nat × Value)} {st : List Value} {cc : ByteArray} {own : String} (C : CX p s m args c cc nL own Γ sk) {y : MethodName} {bytes : ByteArray} {maxL n index k ci : Nat} {ret : FieldType} {rm : Room} {As st0 : List Value} {fs : List (Option Nat)} {q : vw_C} {M1 : Mem} {r : Int}
    (hM : MetI l y bytes maxL ret rm Γ sk (vr Γ k :: As) M M1 r) (hF : CalV y bytes maxL (some ret) n) (hlink : Cond.methodLink own index y ∈ wsA) (hR : RmF R cells slots maxL rm) (hk : sk[k]? = some (.inr (ci, fs))) (hc : vwCl[ci]? = some q) (hcq : q.1 = y.cls) (hn : As.length = n) (hst : (st.map fun v => v.category).sum ≤ 8) (hs0 : As.reverse ++ vr Γ k :: st = st0) (hd : decode cc pc = .ok (.invokevirtual index, 3))
    (kk : rng r → VV p l e R s m args below meth c Q nL Γ sk M1 (cells + rm.cells) (slots + rm.slots) (pc + 3) L (vi r :: st)) : VV p l e R s m args below meth c Q nL Γ sk M cells slots pc L st0 := by
  subst hs0
  intro H locs ls hP hS hl hMr
  exact V_backI C (V_goV C (hM H.size) hF hlink hR hk hc hcq hn hst hd hP hS hl hMr) hS hl kk
set_option maxRecDepth 100000 in
set_option maxHeartbeats 4000000 in
theorem law_text (l : Launch) (hl9 : l.stackTraces = false) (Γ0 : GG) (sk0 : List SD) (M0 : Mem) (hE : ExtL sk0) (L n : Nat) (hL : sk0[2]? = some (.inl (0, L))) (hLb : L ≤ 260) (hn : n ≤ 63) (hR : 200 ≤ R.frames ∧ 5000 ≤ R.locals) (hcs : 500000 ≤ R.cells ∧ 7000000 ≤ R.slots)
    (kk : ∀ (Γ : GG) (sk : List SD) (M : Mem) (cells slots : Nat), CX p s m args c cL_law 7 RL Γ sk → LQ Γ0 sk0 M0 s.heap.size L Γ sk M n → cells ≤ 1000 → slots ≤ 700000 → VV p l e R s m args below meth c Q 7 Γ sk M cells slots 126 [(0, vr Γ 2), (1, vr Γ 3), (2, vr Γ 52), (3, vi (n : Int)), (4, vr Γ 298), (5, vi (n : Int))] []) :
    ∀ (d k : Nat) (Γ : GG) (sk : List SD) (M : Mem) (cells slots : Nat), k + d = n → CX p s m args c cL_law 7 RL Γ sk → LQ Γ0 sk0 M0 s.heap.size L Γ sk M k → cells + 2 * d ≤ 1000 → slots + 8000 * d ≤ 700000 → VV p l e R s m args below meth c Q 7 Γ sk M cells slots 42 [(0, vr Γ 2), (1, vr Γ 3), (2, vr Γ 52), (3, vi (n : Int)), (4, vr Γ 298), (5, vi (k : Int))] [] := by
  intro d
  induction d with
  | zero =>
    intro k Γ sk M cells slots hk C hq h1 h2
    obtain rfl : k = n := by omega
    refine V_iload (pc := 42) C 5 rfl dL_law_42 ?_
    refine V_iload_n (pc := 44) C 3 rfl dL_law_44 ?_
    refine V_icmp_ge (pc := 45) C 126 ⟨by omega, by omega⟩ ⟨by omega, by omega⟩ dL_law_45 (by decide) (fun _ => ?_) (fun z => absurd (Int.le_refl _) z)
    exact kk Γ sk M cells slots C hq (by omega) (by omega)
  | succ d ih =>
    intro k Γ sk M cells slots hk C hq h1 h2
    obtain ⟨⟨hcl, h300, hG0⟩, ⟨hs, hM0⟩, hH, hv⟩ := hq
    have hEk := ExtL_298 hE hs
    have e1 := hEk 1 _ (by decide) rfl
    have e2 : sk[2]? = some (.inl (0, L)) := (hs 2 (by decide)).trans hL
    have e52 := hEk 52 _ (by decide) rfl
    have e58 : sk[58]? = some (.inl (0, 64)) := hEk.row (i := 0) ⟨by decide, by decide⟩
    have hm2 : M 2 = M0 2 := hM0 2 (by decide) (by decide)
    have hvb := lwv_b (M0 2) L k
    have hbl : 298 < sk.length := by
      obtain ⟨j0, w0, hb0, hT0⟩ := hH
      exact sk_lt hb0.2.1
    have hmx := ln_max (lwv (M0 2) L) k
    have hst9 := ln_step (lwv (M0 2) L) k
    refine V_iload (pc := 42) C 5 rfl dL_law_42 ?_
    refine V_iload_n (pc := 44) C 3 rfl dL_law_44 ?_
    refine V_icmp_ge (pc := 45) C 126 ⟨by omega, by omega⟩ ⟨by omega, by omega⟩ dL_law_45 (by decide) (fun z => absurd z (by omega)) (fun _ => ?_)
    refine V_aload_n (pc := 48) C 0 rfl dL_law_48 ?_
    refine V_iconst (pc := 49) C dL_law_49 ?_
    refine V_iload (pc := 50) C 5 rfl dL_law_50 ?_
    refine V_iconst (pc := 52) C dL_law_52 ?_
    refine V_idiv (pc := 53) C ⟨⟨by omega, by omega⟩, by decide, by decide⟩ dL_law_53 ?_
    refine V_iadd (pc := 54) C dL_law_54 ?_
    refine V_callSI (pc := 55) C (As := [vr Γ 2, vi (1 + (k : Int) / 2)]) (c_L_cell l Γ sk hEk hl9 2000 e2 (by omega) ⟨by omega, by omega⟩ (cellv_f ⟨by omega, by omega⟩)) cs_L_cell lk_L_155 ⟨rfl, rfl⟩ ⟨by show 0 + 1 ≤ _; omega, by show 8 + (2 + 11) + 0 ≤ _; omega⟩ rfl (Nat.le_of_ble_eq_true rfl) ⟨by omega, by omega⟩ rfl dL_law_55 (fun hr1 => ?_)
    refine V_bipush (pc := 58) C dL_law_58 rfl ?_
    refine V_iload (pc := 60) C 5 rfl dL_law_60 ?_
    refine V_iconst (pc := 62) C dL_law_62 ?_
    refine V_irem (pc := 63) C ⟨⟨by omega, by omega⟩, by decide, by decide⟩ dL_law_63 ?_
    refine V_imul (pc := 64) C dL_law_64 ?_
    refine V_bipush (pc := 65) C dL_law_65 rfl ?_
    refine V_callSI (pc := 67) C (As := [vi (cellv (M 2) L (1 + (k : Int) / 2)), vi (8 * ((k : Int) % 2)), vi 6]) (c_L_bits l Γ sk hEk hl9 2000 hr1 ⟨by omega, by omega⟩ (by decide) (bitv_f ⟨by omega, by omega⟩ (by decide))) cf_L_bits lk_L_72 ⟨rfl, rfl⟩ ⟨by show 0 + 1 ≤ _; omega, by show 8 + (3 + 11) + 0 ≤ _; omega⟩ rfl (Nat.le_of_ble_eq_true rfl) ⟨by omega, by omega⟩ rfl dL_law_67 (fun hr2 => ?_)
    refine V_bipush (pc := 70) C dL_law_70 rfl ?_
    refine V_isub (pc := 72) C dL_law_72 ?_
    rw [hm2, show bitv (cellv (M0 2) L (1 + (k : Int) / 2)) (8 * ((k : Int) % 2)) 6 - 20 = lwv (M0 2) L k from rfl]
    refine V_istore (pc := 73) C rfl (by decide) dL_law_73 ?_
    refine V_aload_n (pc := 75) C 2 rfl dL_law_75 ?_
    refine V_getR (pc := 76) C e52 rfl inL 0 (by decide) rfl lfi_L_9 rfl dL_law_76 ?_
    refine V_iconst (pc := 79) C dL_law_79 ?_
    refine V_aald (pc := 80) C e1 ⟨by decide, by decide⟩ (by decide) dL_law_80 ?_
    refine V_iload (pc := 81) C 5 rfl dL_law_81 ?_
    refine V_iload (pc := 83) C 6 rfl dL_law_83 ?_
    refine V_iast (k := 58) (pc := 85) C (by decide) e58 ⟨by omega, by omega⟩ ⟨by omega, by omega⟩ ⟨by omega, by omega⟩ dL_law_85 ?_
    rw [Int.toNat_natCast]
    generalize hX : lwv (M0 2) L k = x at *
    have hM9 : ∀ q, q ≠ 58 → up M 58 k x q = M q := fun q hq => up_cell _ _ hq
    have hH9 : HB sk (up M 58 k x) 298 (ln (lwv (M0 2) L) k) (lt9 (lwv (M0 2) L) k) := by
      obtain ⟨j0, w0, hb0, hT0⟩ := hH
      have hj0 := hb0.1.2.1
      refine ⟨j0, w0, ⟨hb0.1, hb0.2.1, hb0.2.2.1, hb0.2.2.2.1, by rw [hM9 298 (by decide)]; exact hb0.2.2.2.2.1, by rw [hM9 j0 (by omega)]; exact hb0.2.2.2.2.2⟩, by rw [hM9 j0 (by omega)]; exact hT0⟩
    have hsl := sepq_l x
    have hq9 : sepq x < lensL.length := by
      unfold sepq
      split <;> decide
    have go : VV p l e R s m args below meth c Q 7 Γ sk (up M 58 k x) cells slots 100 [(0, vr Γ 2), (1, vr Γ 3), (2, vr Γ 52), (3, vi (n : Int)), (4, vr Γ 298), (5, vi (k : Int)), (6, vi x)] [vs Γ (sepq x), vr Γ 298] := by
      obtain ⟨g9, hg9⟩ := slen_nat (sepq x)
      have hln1 : ln (lwv (M0 2) L) k + (slen (sepq x)).toNat + dgN x.natAbs = ln (lwv (M0 2) L) (k + 1) := by rw [← hX]; rfl
      have hlt1 : catT (catT (lt9 (lwv (M0 2) L) k) (ln (lwv (M0 2) L) k) (schar (sepq x))) (ln (lwv (M0 2) L) k + (slen (sepq x)).toNat) (dgS x.natAbs) = lt9 (lwv (M0 2) L) (k + 1) := by rw [← hX]; rfl
      have hls : (slen (sepq x)).toNat ≤ 7 := by
        rw [hsl]
        split <;> omega
      intro H locs ls hP hS hl hMr
      obtain ⟨j0, w0, hb0, hT0⟩ := id hH9
      refine V_backGR C h300 (V_goV C (pc := 100) (As := [vs Γ (sepq x)]) (c_bpS l Γ sk hcl h300 hH9 hq9 (by rw [hg9] at hls ⊢; omega) H.size) cv_bpS lk_L_170 (RmF_of hR hcs ⟨Nat.le_of_ble_eq_true rfl, Nat.le_of_ble_eq_true rfl⟩ ⟨by (try dsimp only [rm1, rmz]); omega, by (try dsimp only [rm1, rmz]); omega⟩ ⟨Nat.le_of_ble_eq_true rfl, Nat.le_of_ble_eq_true rfl⟩) hb0.2.1 rfl rfl rfl (Nat.le_of_ble_eq_true rfl) dL_law_100 hP hS hl hMr) hS hl (fun Γ1 sk1 M1 k1 hG1 hcl1 hp C1 => ?_)
      obtain ⟨rfl, hle1, hKB1, hH1⟩ := hp
      rw [hG1.vr (k := 2) (by omega), hG1.vr (k := 3) (by omega), hG1.vr (k := 52) (by omega), hG1.vr hbl]
      have h301 : 298 ≤ sk1.length := Nat.le_trans h300 hle1
      have hbl1 : 298 < sk1.length := Nat.lt_of_lt_of_le hbl hle1
      have fin : VV p l e R s m args below meth c Q 7 Γ1 sk1 M1 (cells + 1) (slots + 4000) 116 [(0, vr Γ1 2), (1, vr Γ1 3), (2, vr Γ1 52), (3, vi (n : Int)), (4, vr Γ1 298), (5, vi (k : Int)), (6, vi x)] [vi ((x.natAbs : Nat) : Int), vr Γ1 298] := by
        intro H2 locs2 ls2 hP2 hS2 hl2 hMr2
        obtain ⟨j1, w1, hb1, hT1⟩ := id hH1
        refine V_backGR C1 h301 (V_goV C1 (pc := 116) (As := [vi ((x.natAbs : Nat) : Int)]) (c_bpI l Γ1 sk1 hcl1 h301 hH1 (by omega) (by omega) H2.size) cv_bpI lk_L_173 (RmF_of hR hcs ⟨Nat.le_of_ble_eq_true rfl, Nat.le_of_ble_eq_true rfl⟩ ⟨by (try dsimp only [rm1, rmz]); omega, by (try dsimp only [rm1, rmz]); omega⟩ ⟨Nat.le_of_ble_eq_true rfl, Nat.le_of_ble_eq_true rfl⟩) hb1.2.1 rfl rfl rfl (Nat.le_of_ble_eq_true rfl) dL_law_116 hP2 hS2 hl2 hMr2) hS2 hl2 (fun Γ3 sk3 M3 k3 hG3 hcl3 hp C3 => ?_)
        obtain ⟨rfl, hle3, hKB3, hH3⟩ := hp
        rw [hG3.vr (k := 2) (by omega), hG3.vr (k := 3) (by omega), hG3.vr (k := 52) (by omega), hG3.vr hbl1]
        refine V_pop (pc := 119) C3 rfl dL_law_119 ?_
        refine V_iinc (pc := 120) C3 5 rfl rfl (by decide) dL_law_120 ?_
        refine V_goto (pc := 123) C3 42 dL_law_123 (by decide) ?_
        refine V_sub [0, 1, 2, 3, 4, 5] rfl rfl ?_
        have hkb := KB_trans hKB1 hKB3
        rw [hln1, hlt1] at hH3
        have := ih (k + 1) Γ3 sk3 M3 (cells + 1 + 1) (slots + 4000 + 4000) (by omega) C3 ⟨⟨hcl3, Nat.le_trans h301 hle3, (hG0.trans hG1 (Nat.le_refl _)).trans hG3 (Nat.le_refl _)⟩, ⟨fun q hq => (hkb q hq).1.trans (hs q hq), fun q hq q5 => ((hkb q hq).2.trans (hM9 q q5)).trans (hM0 q hq q5)⟩, hH3, fun i hi => by
          rw [(hkb 58 (by decide)).2]
          by_cases ei : i = k
          · rw [ei, up_same, hX]
          · rw [up_at (Or.inr ei)]
            exact hv i (by omega)⟩ (by omega) (by omega)
        rw [show ((k + 1 : Nat) : Int) = (k : Int) + 1 from by omega] at this
        exact this
      refine V_iload (pc := 103) C1 6 rfl dL_law_103 ?_
      refine V_if_ge (pc := 105) C1 114 ⟨by omega, by omega⟩ dL_law_105 (by decide) (fun z => ?_) (fun z => ?_)
      · refine V_iload (pc := 114) C1 6 rfl dL_law_114 ?_
        rw [show ((x.natAbs : Nat) : Int) = x by omega] at fin
        exact fin
      · refine V_iload (pc := 108) C1 6 rfl dL_law_108 ?_
        refine V_ineg (pc := 110) C1 dL_law_110 ?_
        refine V_goto (pc := 111) C1 116 dL_law_111 (by decide) ?_
        rw [show ((x.natAbs : Nat) : Int) = -x by omega] at fin
        exact fin
    refine V_aload (pc := 86) C 4 rfl dL_law_86 ?_
    refine V_iload (pc := 88) C 6 rfl dL_law_88 ?_
    refine V_if_ge (pc := 90) C 98 ⟨by omega, by omega⟩ dL_law_90 (by decide) (fun z => ?_) (fun z => ?_)
    · refine V_ldcS (pc := 98) (q := 11) C (C.2.2.2.2.2.2.2.2.2.2.2.1 _ str_L_168) dL_law_98 ?_
      have e9 : sepq x = 11 := if_neg (by omega)
      rw [e9] at go
      exact go
    · refine V_ldcS (pc := 93) (q := 10) C (C.2.2.2.2.2.2.2.2.2.2.2.1 _ str_L_166) dL_law_93 ?_
      refine V_goto (pc := 95) C 100 dL_law_95 (by decide) ?_
      have e9 : sepq x = 10 := if_pos (by omega)
      rw [e9] at go
      exact go
end Law9
