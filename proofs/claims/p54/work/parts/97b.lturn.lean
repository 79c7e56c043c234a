/-! the turns of the law; the law whole behind its constructors -/
section Law10
variable {p : Program} {l : Launch} {e : Env} {R : Room} {s : State} {m : MethodId} {args : Array Value} {below : List Frame} {meth : Method} {c : Code} {Q : State → Prop}
variable {Γ : GG} {sk : List SD}
set_option maxRecDepth 100000 in
set_option maxHeartbeats 4000000 in
theorem law_turns (l : Launch) (hl9 : l.stackTraces = false) (C : CX p s m args c cL_law 7 RL Γ sk) (hE : ExtL sk) (L n : Nat) (hL : sk[2]? = some (.inl (0, L))) (hLb : L ≤ 260) (hR : 200 ≤ R.frames ∧ 5000 ≤ R.locals) (hcs : 500000 ≤ R.cells ∧ 7000000 ≤ R.slots)
    (kk : ∀ (M : Mem) (A : AS) (H : Int → AS) (h0 : Int) (cells slots : Nat), KS M A H h0 → LR M A → LSn M A → cells ≤ 2000 → slots ≤ 800000 → VV p l e R s m args below meth c Q 7 Γ sk M cells slots 230 [(0, vr Γ 2), (1, vr Γ 3), (2, vr Γ 52), (3, vi (n : Int)), (4, vr Γ 298), (5, vi ((44 : Nat) : Int))] []) :
    ∀ (d k : Nat) (M : Mem) (A : AS) (H : Int → AS) (h0 : Int) (cells slots : Nat), k + d = 44 → KS M A H h0 → LR M A → LSn M A → cells + d ≤ 2000 → slots + 6 * d ≤ 800000 → VV p l e R s m args below meth c Q 7 Γ sk M cells slots 178 [(0, vr Γ 2), (1, vr Γ 3), (2, vr Γ 52), (3, vi (n : Int)), (4, vr Γ 298), (5, vi (k : Int))] [] := by
  have e3 := hE 3 _ (by decide) rfl
  have e52 := hE 52 _ (by decide) rfl
  intro d
  induction d with
  | zero =>
    intro k M A H h0 cells slots hk hK hR9 hS9 h1 h2
    obtain rfl : k = 44 := by omega
    refine V_iload (pc := 178) C 5 rfl dL_law_178 ?_
    refine V_bipush (pc := 180) C dL_law_180 rfl ?_
    refine V_icmp_ge (pc := 182) C 230 (by decide) (by decide) dL_law_182 (by decide) (fun _ => ?_) (fun z => absurd (Int.le_refl _) z)
    exact kk M A H h0 cells slots hK hR9 hS9 (by omega) (by omega)
  | succ d ih =>
    intro k M A H h0 cells slots hk hK hR9 hS9 h1 h2
    refine V_iload (pc := 178) C 5 rfl dL_law_178 ?_
    refine V_bipush (pc := 180) C dL_law_180 rfl ?_
    refine V_icmp_ge (pc := 182) C 230 ⟨by omega, by omega⟩ (by decide) dL_law_182 (by decide) (fun z => absurd z (by omega)) (fun _ => ?_)
    refine V_aload_n (pc := 185) C 2 rfl dL_law_185 ?_
    refine V_aload_n (pc := 186) C 1 rfl dL_law_186 ?_
    refine V_aload_n (pc := 187) C 0 rfl dL_law_187 ?_
    refine V_bipush (pc := 188) C dL_law_188 rfl ?_
    refine V_iload (pc := 190) C 5 rfl dL_law_190 ?_
    refine V_iadd (pc := 192) C dL_law_192 ?_
    refine V_callSI (pc := 193) C (As := [vr Γ 2, vi (34 + (k : Int))]) (c_L_cell l Γ sk hE hl9 2000 hL (by omega) ⟨by omega, by omega⟩ (cellv_f ⟨by omega, by omega⟩)) cs_L_cell lk_L_155 ⟨rfl, rfl⟩ ⟨by show 0 + 1 ≤ _; omega, by show 8 + (2 + 11) + 0 ≤ _; omega⟩ rfl (Nat.le_of_ble_eq_true rfl) ⟨by omega, by omega⟩ rfl dL_law_193 (fun hr1 => ?_)
    obtain ⟨M1, A1, H1, c1, ea, hK1, hR1, hS1⟩ := acts_ok (fu := 2000) (Nat.le_refl _) hK hR9 hS9 (cellv (M 2) L (34 + (k : Int)))
    refine V_callVIr (pc := 196) C (As := [vr Γ 3, vi (cellv (M 2) L (34 + (k : Int)))]) (c_L_acts l Γ sk hE hl9 2000 hr1 ea) cv_L_acts lk_L_194 (RmF_of hR hcs ⟨Nat.le_of_ble_eq_true rfl, Nat.le_of_ble_eq_true rfl⟩ ⟨by (try dsimp only [rm1, rmz]); omega, by (try dsimp only [rm1, rmz]); omega⟩ ⟨Nat.le_of_ble_eq_true rfl, Nat.le_of_ble_eq_true rfl⟩) e52 rfl rfl rfl (Nat.le_of_ble_eq_true rfl) rfl dL_law_196 (fun _ => ?_)
    refine V_if_ne (pc := 199) C 204 (by decide) dL_law_199 (by decide) (fun _ => ?_) (fun z => absurd z (by decide))
    have nx : ∀ (M9 : Mem), KS M9 A1 H1 c1 → LR M9 A1 → LSn M9 A1 → VV p l e R s m args below meth c Q 7 Γ sk M9 (cells + 1) (slots + 6) 224 [(0, vr Γ 2), (1, vr Γ 3), (2, vr Γ 52), (3, vi (n : Int)), (4, vr Γ 298), (5, vi (k : Int))] [] := fun M9 hK9 hR9 hS9 => by
      refine V_iinc (pc := 224) C 5 rfl rfl (by decide) dL_law_224 ?_
      refine V_goto (pc := 227) C 178 dL_law_227 (by decide) ?_
      have := ih (k + 1) M9 A1 H1 c1 (cells + 1) (slots + 6) (by omega) hK9 hR9 hS9 (by omega) (by omega)
      rw [show ((k + 1 : Nat) : Int) = (k : Int) + 1 from by omega] at this
      exact this
    refine V_iload (pc := 204) C 5 rfl dL_law_204 ?_
    refine V_bipush (pc := 206) C dL_law_206 rfl ?_
    refine V_irem (pc := 208) C ⟨⟨by omega, by omega⟩, by decide, by decide⟩ dL_law_208 ?_
    refine V_bipush (pc := 209) C dL_law_209 rfl ?_
    refine V_icmp_ne (pc := 211) C 224 ⟨by omega, by omega⟩ (by decide) dL_law_211 (by decide) (fun _ => nx M1 hK1 hR1 hS1) (fun _ => ?_)
    refine V_aload_n (pc := 214) C 2 rfl dL_law_214 ?_
    refine V_aload_n (pc := 215) C 1 rfl dL_law_215 ?_
    obtain ⟨M2, ei, hS2, hf2⟩ := isLike_ok (fu := 2000) (Nat.le_refl _) hK1.1 hR1 hS1
    refine V_callVIr (pc := 216) C (As := [vr Γ 3]) (c_L_isLike l Γ sk hE hl9 2000 ei) cv_L_isLike lk_L_190 (RmF_of hR hcs ⟨Nat.le_of_ble_eq_true rfl, Nat.le_of_ble_eq_true rfl⟩ ⟨by (try dsimp only [rm1, rmz]); omega, by (try dsimp only [rm1, rmz]); omega⟩ ⟨Nat.le_of_ble_eq_true rfl, Nat.le_of_ble_eq_true rfl⟩) e52 rfl rfl rfl (Nat.le_of_ble_eq_true rfl) rfl dL_law_216 (fun _ => ?_)
    refine V_if_ne (pc := 219) C 224 (by decide) dL_law_219 (by decide) (fun _ => ?_) (fun z => absurd z (by decide))
    exact nx M2 ⟨CM_V hK1.1 hf2, HC_V hK1.2.1 hf2, hK1.2.2⟩ (LR_V hR1 hK1.1.2.1.2 hf2) hS2
end Law10
section Law11
variable {p : Program} {l : Launch} {e : Env} {R : Room} {s : State} {m : MethodId} {args : Array Value} {below : List Frame} {meth : Method} {c : Code} {Q : State → Prop}
/-- what the cells hold when both objects are made -/
def LZ (M : Mem) : Prop := M 43 0 = 0 ∧ (M 38 0 = 0 ∧ M 38 1 = 0) ∧ M 52 6 = 1 ∧ ∀ q i, 53 ≤ q → M q i = 0
set_option maxRecDepth 100000 in
set_option maxHeartbeats 4000000 in
theorem law_vv (l : Launch) (hl9 : l.stackTraces = false) (Γ : GG) (sk : List SD) (M : Mem) (C : CX p s m args c cL_law 7 RL Γ sk) (hcl : ClS sk) (hlen : sk.length = 298) (hE : ExtL sk) (L : Nat) (hL : sk[2]? = some (.inl (0, L))) (hLb : L ≤ 260) (hZ : LZ M) (hR : 200 ≤ R.frames ∧ 5000 ≤ R.locals) (hcs : 500000 ≤ R.cells ∧ 7000000 ≤ R.slots) {cells slots : Nat} (hc0 : cells ≤ 400 ∧ slots ≤ 20000)
    (fin : ∀ (Γ9 : GG) (sk9 : List SD) (M9 : Mem) (cells slots : Nat) (L9 : List (Nat × Value)), Grw Γ Γ9 sk sk9 s.heap.size → cells ≤ 3000 → slots ≤ 900000 → VV p l e R s m args below meth c Q 7 Γ9 sk9 M9 cells slots 235 L9 [vi 1]) : VV p l e R s m args below meth c Q 7 Γ sk M cells slots 16 [(0, vr Γ 2), (1, vr Γ 3), (2, vr Γ 52)] [] := by
  have h300 : 298 ≤ sk.length := by omega
  have inj := C.2.2.2.2.2.2.1
  refine V_aload_n (pc := 16) C 0 rfl dL_law_16 ?_
  refine V_iconst (pc := 17) C dL_law_17 ?_
  refine V_callSI (pc := 18) C (As := [vr Γ 2, vi 0]) (c_L_cell l Γ sk hE hl9 2000 hL (by omega) (by decide) (cellv_f (by decide))) cs_L_cell lk_L_155 ⟨rfl, rfl⟩ ⟨by show 0 + 1 ≤ _; omega, by show 8 + (2 + 11) + 0 ≤ _; omega⟩ rfl (Nat.le_of_ble_eq_true rfl) ⟨by omega, by omega⟩ rfl dL_law_18 (fun hr1 => ?_)
  refine V_iconst (pc := 21) C dL_law_21 ?_
  refine V_bipush (pc := 22) C dL_law_22 rfl ?_
  refine V_callSI (pc := 24) C (As := [vi (cellv (M 2) L 0), vi 0, vi 6]) (c_L_bits l Γ sk hE hl9 2000 hr1 (by decide) (by decide) (bitv_f (by decide) (by decide))) cf_L_bits lk_L_72 ⟨rfl, rfl⟩ ⟨by show 0 + 1 ≤ _; omega, by show 8 + (3 + 11) + 0 ≤ _; omega⟩ rfl (Nat.le_of_ble_eq_true rfl) ⟨by omega, by omega⟩ rfl dL_law_24 (fun hr2 => ?_)
  have hb6 := bitv_6 (cellv (M 2) L 0) 0
  obtain ⟨n, hn⟩ := Int.eq_ofNat_of_zero_le hb6.1
  rw [hn] at hb6 ⊢
  have hn63 : n ≤ 63 := by omega
  refine V_istore_n (pc := 27) C rfl (by decide) dL_law_27 ?_
  refine V_newO (ci := 1) (pc := 28) C hcl h300 rfl inJ4 tyJ4 tyJ4_ok kl_L_159.1 kl_L_159.2.1 kl_L_159.2.2 (fun j hj => ?_) ⟨by omega, by omega⟩ dL_law_28 (fun Γ1 hG1 C1 hcl1 => ?_)
  · match j, hj with
    | 0, _ => rfl
    | 1, _ => rfl
    | 2, _ => rfl
    | 3, _ => rfl
  rw [hG1.vr (k := 2) (by omega), hG1.vr (k := 3) (by omega), hG1.vr (k := 52) (by omega)]
  have hl1 : 298 ≤ (sk ++ [(.inr (1, []) : SD)]).length := by simp; omega
  rw [hlen]
  refine V_dup (pc := 31) C1 rfl dL_law_31 ?_
  refine V_ldcS (pc := 32) (q := 0) C1 (C1.2.2.2.2.2.2.2.2.2.2.2.1 _ str_L_161) dL_law_32 ?_
  have hk1 : (sk ++ [(.inr (1, []) : SD)])[298]? = some (.inr (1, [])) := by
    have := sk_new sk (.inr (1, []) : SD)
    rw [hlen] at this
    exact this
  intro H locs ls hP hS hl hMr
  refine V_backGV C1 hl1 (V_goI C1 (pc := 34) (As := [vs Γ1 0]) (c_ini4 l Γ1 _ hcl1 hl1 hk1 (Nat.le_refl _) ⟨up0_n M _ 1, up0_n M _ 2, up0_n M _ 3⟩ (by decide) (by decide) H.size) cj_ini4 lk_L_163 (RmF_of hR hcs ⟨Nat.le_of_ble_eq_true rfl, Nat.le_of_ble_eq_true rfl⟩ ⟨by (try dsimp only [rm1, rmz]); omega, by (try dsimp only [rm1, rmz]); omega⟩ ⟨Nat.le_of_ble_eq_true rfl, Nat.le_of_ble_eq_true rfl⟩) rfl (Nat.le_of_ble_eq_true rfl) dL_law_34 hP hS hl hMr) hS hl (fun Γ2 sk2 M2 hG2 hcl2 hp C2 => ?_)
  obtain ⟨hle2, hKB2, hH2⟩ := hp
  rw [hG2.vr (k := 2) (by omega), hG2.vr (k := 3) (by omega), hG2.vr (k := 52) (by omega), hG2.vr (k := 298) (by simp; omega)]
  have h302 : 298 ≤ sk2.length := Nat.le_trans hl1 hle2
  have hs2 : ∀ q, q < 298 → sk2[q]? = sk[q]? := fun q hq => (hKB2 q hq).1.trans (List.getElem?_append_left (by omega))
  have hM2 : ∀ q, q < 298 → M2 q = M q := fun q hq => (hKB2 q hq).2.trans (up0_o (by omega))
  refine V_astore (pc := 37) C2 rfl (by decide) dL_law_37 ?_
  refine V_iconst (pc := 39) C2 dL_law_39 ?_
  refine V_istore (pc := 40) C2 rfl (by decide) dL_law_40 ?_
  have hE2 := ExtL_298 hE hs2
  have hL2 : sk2[2]? = some (.inl (0, L)) := (hs2 2 (by decide)).trans hL
  have inj2 := C2.2.2.2.2.2.2.1
  refine law_text l hl9 Γ2 sk2 M2 hE2 L n hL2 hLb hn63 hR hcs (fun Γ3 sk3 M3 ce sl C3 hq3 hce hsl => ?_) n 0 Γ2 sk2 M2 _ _ (by omega) C2 ⟨⟨hcl2, h302, Grw.rf inj2 rfl⟩, ⟨fun _ _ => rfl, fun _ _ _ => rfl⟩, hH2, fun i hi => absurd hi (by omega)⟩ (by show cells + 1 + 2 + 2 * n ≤ 1000; omega) (by show slots + 4 + 8000 + 8000 * n ≤ 700000; omega)
  obtain ⟨⟨hcl3, h303, hG3⟩, ⟨hs3, hM3⟩, hH3, hv3⟩ := hq3
  have hmx := ln_max (lwv (M2 2) L) n
  have hbl3 : 298 < sk3.length := by
    obtain ⟨j0, w0, hb0, hT0⟩ := hH3
    exact sk_lt hb0.2.1
  refine V_aload (pc := 126) C3 4 rfl dL_law_126 ?_
  refine V_bipush (pc := 128) C3 dL_law_128 rfl ?_
  intro H4 locs4 ls4 hP4 hS4 hl4 hMr4
  obtain ⟨j0, w0, hb0, hT0⟩ := id hH3
  refine V_backGR C3 h303 (V_goV C3 (pc := 130) (As := [vi 59]) (c_bpC l Γ3 sk3 hcl3 h303 hH3 (x := 59) (by decide) (by omega) H4.size) cv_bpC lk_L_176 (RmF_of hR hcs ⟨Nat.le_of_ble_eq_true rfl, Nat.le_of_ble_eq_true rfl⟩ ⟨by (try dsimp only [rm1, rmz]); omega, by (try dsimp only [rm1, rmz]); omega⟩ ⟨Nat.le_of_ble_eq_true rfl, Nat.le_of_ble_eq_true rfl⟩) hb0.2.1 rfl rfl rfl (Nat.le_of_ble_eq_true rfl) dL_law_130 hP4 hS4 hl4 hMr4) hS4 hl4 (fun Γ5 sk5 M5 k5 hG5 hcl5 hp C5 => ?_)
  obtain ⟨rfl, hle5, hKB5, hH5⟩ := hp
  rw [hG5.vr (k := 2) (by omega), hG5.vr (k := 3) (by omega), hG5.vr (k := 52) (by omega), hG5.vr hbl3]
  have h305 : 298 ≤ sk5.length := Nat.le_trans h303 hle5
  have hbl5 : 298 < sk5.length := Nat.lt_of_lt_of_le hbl3 hle5
  have hs5 : ∀ q, q < 298 → sk5[q]? = sk[q]? := fun q hq => ((hKB5 q hq).1.trans (hs3 q hq)).trans (hs2 q hq)
  have hM5 : ∀ q, q < 298 → q ≠ 58 → M5 q = M q := fun q hq q5 => ((hKB5 q hq).2.trans (hM3 q hq q5)).trans (hM2 q hq)
  have hE5 := ExtL_298 hE hs5
  have e52 := hE5 52 _ (by decide) rfl
  have e53 := hE5 53 _ (by decide) rfl
  have e54 := hE5 54 _ (by decide) rfl
  refine V_pop (pc := 133) C5 rfl dL_law_133 ?_
  refine V_aload_n (pc := 134) C5 2 rfl dL_law_134 ?_
  refine V_getR (pc := 135) C5 e52 rfl inL 1 (by decide) rfl lfi_L_14 rfl dL_law_135 ?_
  refine V_iconst (pc := 138) C5 dL_law_138 ?_
  refine V_iload_n (pc := 139) C5 3 rfl dL_law_139 ?_
  refine V_iast (pc := 140) C5 (by decide) e53 (by decide) (by decide) ⟨by omega, by omega⟩ dL_law_140 ?_
  refine V_aload_n (pc := 141) C5 2 rfl dL_law_141 ?_
  refine V_getR (pc := 142) C5 e52 rfl inL 2 (by decide) rfl lfi_L_18 rfl dL_law_142 ?_
  refine V_iconst (pc := 145) C5 dL_law_145 ?_
  refine V_iconst (pc := 146) C5 dL_law_146 ?_
  refine V_iast (pc := 147) C5 (by decide) e54 (by decide) (by decide) (by decide) dL_law_147 ?_
  obtain ⟨M6, hM6⟩ : ∃ z, z = up (up M5 53 ((0 : Int).toNat) (n : Int)) 54 ((0 : Int).toNat) (-1) := ⟨_, rfl⟩
  rw [← hM6]
  have h6o : ∀ q, q ≠ 53 → q ≠ 54 → M6 q = M5 q := fun q q1 q2 => by rw [hM6, up_cell _ _ q2, up_cell _ _ q1]
  have hH6 : HB sk5 M6 298 (ln (lwv (M2 2) L) n + 1) (catT (lt9 (lwv (M2 2) L) n) (ln (lwv (M2 2) L) n) (fun _ => 59)) := by
    obtain ⟨j1, w1, hb1, hT1⟩ := hH5
    have hj1 := hb1.1.2.1
    exact ⟨j1, w1, ⟨hb1.1, hb1.2.1, hb1.2.2.1, hb1.2.2.2.1, by rw [h6o 298 (by decide) (by decide)]; exact hb1.2.2.2.2.1, by rw [h6o j1 (by omega) (by omega)]; exact hb1.2.2.2.2.2⟩, by rw [h6o j1 (by omega) (by omega)]; exact hT1⟩
  generalize hVV : lwv (M2 2) L = vals at *
  have hvb : ∀ j, -20 ≤ vals j ∧ vals j ≤ 43 := fun j => by rw [← hVV]; exact lwv_b _ _ j
  refine V_aload_n (pc := 148) C5 1 rfl dL_law_148 ?_
  refine V_aload (pc := 149) C5 4 rfl dL_law_149 ?_
  intro H7 locs7 ls7 hP7 hS7 hl7 hMr7
  obtain ⟨j1, w1, hb1, hT1⟩ := id hH6
  refine V_backGR C5 h305 (V_goV C5 (pc := 151) (As := []) (c_toS l Γ5 sk5 hcl5 h305 hH6 H7.size) cv_toS lk_L_179 (RmF_of hR hcs ⟨Nat.le_of_ble_eq_true rfl, Nat.le_of_ble_eq_true rfl⟩ ⟨by (try dsimp only [rm1, rmz]); omega, by (try dsimp only [rm1, rmz]); omega⟩ ⟨Nat.le_of_ble_eq_true rfl, Nat.le_of_ble_eq_true rfl⟩) hb1.2.1 rfl rfl rfl (Nat.le_of_ble_eq_true rfl) dL_law_151 hP7 hS7 hl7 hMr7) hS7 hl7 (fun Γ8 sk8 M8 k8 hG8 hcl8 hp C8 => ?_)
  obtain ⟨hle8, hKB8, hT8⟩ := hp
  rw [hG8.vr (k := 2) (by omega), hG8.vr (k := 3) (by omega), hG8.vr (k := 52) (by omega), hG8.vr hbl5, show Value.ref (gA Γ5 3) = vr Γ8 3 from hG8.vr (k := 3) (by omega)]
  have h308 : 298 ≤ sk8.length := Nat.le_trans h305 hle8
  have hs8 : ∀ q, q < 298 → sk8[q]? = sk[q]? := fun q hq => (hKB8 q hq).1.trans (hs5 q hq)
  have hE8 := ExtL_298 hE hs8
  have hFb : ∀ i, i < ln vals n + 1 → 0 ≤ catT (lt9 vals n) (ln vals n) (fun _ => 59) i ∧ catT (lt9 vals n) (ln vals n) (fun _ => 59) i ≤ 127 := fun i hi => by
    have := FT_b (vals := vals) (n := n) (fun j _ => by have := hvb j; omega) hi
    have e : (FT vals n).2 (i : Int) = catT (lt9 vals n) (ln vals n) (fun _ => 59) i := by
      show catT (lt9 vals n) (ln vals n) (fun _ => 59) (i : Int).toNat = _
      rw [Int.toNat_natCast]
    rw [e] at this
    exact this
  have hi8 : iC M8 (0, fun _ => 0) := by
    refine ⟨?_, Int.le_refl 0, by show (0 : Int) ≤ 600; decide, fun i i0 i1 => absurd i1 (Int.not_lt.mpr i0)⟩
    rw [(hKB8 43 (by decide)).2, h6o 43 (by decide) (by decide), hM5 43 (by decide) (by decide)]
    exact hZ.1
  intro Ha locsa lsa hPa hSa hla hMra
  refine V_backGV C8 h308 (V_goS C8 (pc := 154) (As := [vr Γ8 3, vr Γ8 k8]) (c_told l Γ8 sk8 hcl8 h308 hE8.c hT8 hFb (by omega) hi8 rfl Ha.size) cs_told lk_L_183 (RmF_of hR hcs ⟨Nat.le_of_ble_eq_true rfl, Nat.le_of_ble_eq_true rfl⟩ ⟨by (try dsimp only [rm1, rmz]); omega, by (try dsimp only [rm1, rmz]); omega⟩ ⟨Nat.le_of_ble_eq_true rfl, Nat.le_of_ble_eq_true rfl⟩) rfl (Nat.le_of_ble_eq_true rfl) dL_law_154 hPa hSa hla hMra) hSa hla (fun Γb skb Mb hGb hclb hp Cb => ?_)
  obtain ⟨hleb, hsb, hMb, hib⟩ := hp
  have hbl8 : 298 < sk8.length := Nat.lt_of_lt_of_le hbl5 hle8
  rw [hGb.vr (k := 2) (by omega), hGb.vr (k := 3) (by omega), hGb.vr (k := 52) (by omega), hGb.vr hbl8]
  have hskb : ∀ q, q < 298 → skb[q]? = sk[q]? := fun q hq => (hsb q hq).trans (hs8 q hq)
  have hEb := ExtL_298 hE hskb
  have e3 := hEb 3 _ (by decide) rfl
  have e52b := hEb 52 _ (by decide) rfl
  have hMM : ∀ q, q < 298 → q ≠ 43 → q ≠ 44 → Mb q = M6 q := fun q hq q1 q2 => (hMb q hq q1 q2).trans (hKB8 q hq).2
  have hM0 : ∀ q, q < 298 → q ≠ 43 → q ≠ 44 → q ≠ 53 → q ≠ 54 → q ≠ 58 → Mb q = M q := fun q hq q1 q2 q3 q4 q5 => by rw [hMM q hq q1 q2, h6o q q3 q4, hM5 q hq q5]
  have hic : iC Mb (FT vals n) := hib
  have hHC : HC Mb (fun _ => E0) 0 := by
    refine ⟨?_, by decide, ?_, fun j j0 j1 => absurd j1 (Int.not_lt.mpr j0)⟩
    · rw [hM0 38 (by decide) (by decide) (by decide) (by decide) (by decide) (by decide)]; exact hZ.2.1.1
    · rw [hM0 38 (by decide) (by decide) (by decide) (by decide) (by decide) (by decide), hZ.2.1.2]; decide
  obtain ⟨r, hPS, r1, r2, r3⟩ := PS_all (vals := vals) hn63 (fun j _ => by have := hvb j; omega)
  obtain ⟨Mc, ec, -, -, -, -, -, ⟨vs9, hvs, hCM⟩, hHC9, -, -, hfrK⟩ := (loadSetup_C (fu := 2000) hic hHC hPS (Nat.le_refl _)).2 r1
  rw [r2] at ec hvs hCM
  refine V_aload_n (pc := 157) Cb 1 rfl dL_law_157 ?_
  refine V_callVIr (pc := 158) Cb (As := []) (c_X11_loadSetup l Γb skb hEb.c 2000 ec) cf_X11_loadSetup lk_L_187 (RmF_of hR hcs ⟨Nat.le_of_ble_eq_true rfl, Nat.le_of_ble_eq_true rfl⟩ ⟨by (try dsimp only [rm1, rmz]); omega, by (try dsimp only [rm1, rmz]); omega⟩ ⟨Nat.le_of_ble_eq_true rfl, Nat.le_of_ble_eq_true rfl⟩) e3 rfl rfl rfl (Nat.le_of_ble_eq_true rfl) rfl dL_law_158 (fun _ => ?_)
  refine V_iload_n (pc := 161) Cb 3 rfl dL_law_161 ?_
  refine V_icmp_ne (pc := 162) Cb 173 ⟨by omega, by omega⟩ ⟨by omega, by omega⟩ dL_law_162 (by decide) (fun z => absurd rfl z) (fun _ => ?_)
  have hvs2 : ∀ i : Nat, i < n → vs9 (i : Int) = vals i := fun i hi => (hvs i (by omega) (by omega)).trans (r3 i hi)
  obtain ⟨f1, f2, f3, f4, f5⟩ := mk0_f (n := n) (vals := vs9) hn63 (fun i i0 i1 => by
    have := hvs2 i.toNat (by omega)
    rw [Int.toNat_of_nonneg i0] at this
    rw [this]
    have := hvb i.toNat
    omega)
  have hfr : ∀ q, 50 ≤ q → q < 298 → Mc q = Mb q := fun q q1 q2 => hfrK q (Or.inr (by omega)) (by omega) (by omega) (by omega) (by omega) (by omega) (by omega)
  have hZh : ∀ q i, 55 ≤ q → q < 298 → q ≠ 58 → Mc q i = 0 := fun q i q1 q2 q3 => by
    rw [hfr q (by omega) q2, hM0 q q2 (by omega) (by omega) (by omega) (by omega) q3]
    exact hZ.2.2.2 q i (by omega)
  have hLR : LR Mc (mk0 n vs9) := by
    refine ⟨?_, fun v v0 v1 => ?_, fun v v0 v1 => hZh 55 _ (by decide) (by decide) (by decide)⟩
    · rw [f1, hfr 52 (by decide) (by decide), hM0 52 (by decide) (by decide) (by decide) (by decide) (by decide) (by decide)]
      exact hZ.2.2.1
    · rw [f1] at v1
      obtain rfl : v = 0 := by omega
      refine ⟨⟨?_, ?_, ?_⟩, fun i i0 i1 => ?_⟩
      · rw [f2, hfr 53 (by decide) (by decide), hMM 53 (by decide) (by decide) (by decide), hM6, up_cell _ _ (by decide)]
        exact up_same _ _ _ _
      · rw [f3, hfr 54 (by decide) (by decide), hMM 54 (by decide) (by decide) (by decide), hM6]
        exact up_same _ _ _ _
      · rw [f4]
        exact hZh 55 _ (by decide) (by decide) (by decide)
      · rw [f2] at i1
        rw [f5, show (58 + (0 : Int).toNat) = 58 from rfl, hfr 58 (by decide) (by decide), hMM 58 (by decide) (by decide) (by decide), h6o 58 (by decide) (by decide), (hKB5 58 (by decide)).2, hv3 i.toNat (by omega)]
        have := hvs2 i.toNat (by omega)
        rw [Int.toNat_of_nonneg i0] at this
        exact this.symm
  have hLS : LSn Mc (mk0 n vs9) := fun k k0 k1 => Or.inl (hZh 57 _ (by decide) (by decide) (by decide))
  have hKS : KS Mc (mk0 n vs9) (fun _ => E0) 0 := ⟨hCM, hHC9 _, fun j j0 j1 => absurd j1 (Int.not_lt.mpr j0)⟩
  refine V_aload_n (pc := 165) Cb 2 rfl dL_law_165 ?_
  refine V_aload_n (pc := 166) Cb 1 rfl dL_law_166 ?_
  obtain ⟨Md, ed, hSd, hfd⟩ := isLike_ok (fu := 2000) (Nat.le_refl _) hCM hLR hLS
  refine V_callVIr (pc := 167) Cb (As := [vr Γb 3]) (c_L_isLike l Γb skb hEb hl9 2000 ed) cv_L_isLike lk_L_190 (RmF_of hR hcs ⟨Nat.le_of_ble_eq_true rfl, Nat.le_of_ble_eq_true rfl⟩ ⟨by (try dsimp only [rm1, rmz]); omega, by (try dsimp only [rm1, rmz]); omega⟩ ⟨Nat.le_of_ble_eq_true rfl, Nat.le_of_ble_eq_true rfl⟩) e52b rfl rfl rfl (Nat.le_of_ble_eq_true rfl) rfl dL_law_167 (fun _ => ?_)
  refine V_if_ne (pc := 170) Cb 175 (by decide) dL_law_170 (by decide) (fun _ => ?_) (fun z => absurd z (by decide))
  refine V_iconst (pc := 175) Cb dL_law_175 ?_
  refine V_istore (pc := 176) Cb rfl (by decide) dL_law_176 ?_
  have hGa : Grw Γ Γb sk skb s.heap.size := ((((hG1.trans hG2 (Nat.le_refl _)).trans hG3 (Nat.le_refl _)).trans hG5 (Nat.le_refl _)).trans hG8 (Nat.le_refl _)).trans hGb (Nat.le_refl _)
  refine law_turns l hl9 Cb hEb L n ((hskb 2 (by decide)).trans hL) hLb hR hcs (fun Me Ae He he ce2 sl2 hKe hRe hSe hce2 hsl2 => ?_) 44 0 Md _ _ _ _ _ rfl ⟨CM_V hCM hfd, HC_V (hHC9 (fun _ => E0)) hfd, fun j j0 j1 => absurd j1 (Int.not_lt.mpr j0)⟩ (LR_V hLR hCM.2.1.2 hfd) hSd (by show ce + 1 + 2 + 40 + 0 + 0 + 44 ≤ 2000; omega) (by show sl + 4000 + 4004 + 200 + 0 + 0 + 6 * 44 ≤ 800000; omega)
  refine V_aload_n (pc := 230) Cb 2 rfl dL_law_230 ?_
  refine V_aload_n (pc := 231) Cb 1 rfl dL_law_231 ?_
  obtain ⟨Mf, ef, hSf, hff⟩ := isLike_ok (fu := 2000) (Nat.le_refl _) hKe.1 hRe hSe
  refine V_callVIr (pc := 232) Cb (As := [vr Γb 3]) (c_L_isLike l Γb skb hEb hl9 2000 ef) cv_L_isLike lk_L_190 (RmF_of hR hcs ⟨Nat.le_of_ble_eq_true rfl, Nat.le_of_ble_eq_true rfl⟩ ⟨by (try dsimp only [rm1, rmz]); omega, by (try dsimp only [rm1, rmz]); omega⟩ ⟨Nat.le_of_ble_eq_true rfl, Nat.le_of_ble_eq_true rfl⟩) e52b rfl rfl rfl (Nat.le_of_ble_eq_true rfl) rfl dL_law_232 (fun _ => ?_)
  exact fin Γb skb Mf _ _ _ hGa (by show ce2 + 0 ≤ 3000; omega) (by show sl2 + 0 ≤ 900000; omega)
end Law11
