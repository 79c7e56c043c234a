/-! told, whole -/
/-- what stands between two blocks -/
def TQ (Γ0 : GG) (sk0 : List SD) (M0 : Mem) (sz ks js n : Nat) (T : Nat → Int) (Γ : GG) (sk : List SD) (M : Mem) (K : Nat) : Prop :=
  (ClS sk ∧ 298 ≤ sk.length ∧ Grw Γ0 Γ sk0 sk sz) ∧ ((∀ q, q < 298 → sk[q]? = sk0[q]?) ∧ ∀ q, q < 298 → q ≠ 43 → q ≠ 44 → M q = M0 q) ∧ (TJ sk M ks js n ∧ ∀ i, i < n → M js i = T i ∧ 0 ≤ T i ∧ T i ≤ 127) ∧ ∃ T0, iC M T0 ∧ TXc T0 K (chs T n)
theorem nth_lt9 {α : Type} : ∀ {a : List α} {k : Nat} {x : α}, nth a k = some x → k < a.length
  | [], _, _, h => by cases h
  | _ :: _, 0, _, _ => Nat.succ_pos _
  | _ :: a, k + 1, _, h => Nat.succ_lt_succ (nth_lt9 (a := a) (k := k) h)
theorem Ext_300 {sk sk' : List SD} (h : Ext sk) (he : ∀ q, q < 298 → sk'[q]? = sk[q]?) : Ext sk' := fun k d h2 hk => by
  have : k < skC.length := nth_lt9 hk
  rw [he k (Nat.lt_of_lt_of_le this (by decide))]
  exact h k d h2 hk
section Told2
variable {p : Program} {l : Launch} {e : Env} {R : Room} {s : State} {m : MethodId} {args : Array Value} {below : List Frame} {meth : Method} {c : Code} {Q : State → Prop}
set_option maxRecDepth 100000 in
set_option maxHeartbeats 4000000 in
theorem told_out (Γ0 : GG) (sk0 : List SD) (M0 : Mem) (hE : Ext sk0) (ks js n : Nat) (T : Nat → Int) (hn : n ≤ 580) (hR : 20 ≤ R.frames ∧ 600 ≤ R.locals) (hcs : 40 ≤ R.cells ∧ 200 ≤ R.slots)
    (kk : ∀ (Γ : GG) (sk : List SD) (M : Mem) (cells slots K : Nat), CX p s m args c cL_told 5 RL Γ sk → TQ Γ0 sk0 M0 s.heap.size ks js n T Γ sk M K → n ≤ K → cells ≤ 40 → slots ≤ 200 → VV p l e R s m args below meth c Q 5 Γ sk M cells slots 96 [(0, vr Γ 3), (1, vr Γ ks), (2, vi (K : Int))] []) :
    ∀ (t : Nat) (Γ : GG) (sk : List SD) (M : Mem) (cells slots K : Nat), CX p s m args c cL_told 5 RL Γ sk → TQ Γ0 sk0 M0 s.heap.size ks js n T Γ sk M K → n ≤ K + 20 * t → K ≤ 600 → cells + t ≤ 40 → slots + 5 * t ≤ 200 →
      VV p l e R s m args below meth c Q 5 Γ sk M cells slots 2 [(0, vr Γ 3), (1, vr Γ ks), (2, vi (K : Int))] [] := by
  intro t
  induction t with
  | zero =>
    intro Γ sk M cells slots K C hq h1 h2 h3 h4
    have hj := hq.2.2.1.1
    refine V_iload_n (pc := 2) C 2 rfl dL_told_2 ?_
    refine V_aload_n (pc := 3) C 1 rfl dL_told_3 ?_
    refine V_callVI (pc := 4) C (As := []) (c_Dlen l Γ sk hj) cf_Jlen lk_L_35 ⟨rfl, rfl⟩ ⟨by show 1 + 1 ≤ _; omega, by show 8 + (1 + 11) + 40 ≤ _; omega⟩ hj.2.1 rfl rfl rfl (Nat.le_of_ble_eq_true rfl) ⟨by omega, by omega⟩ rfl dL_told_4 (fun _ => ?_)
    refine V_icmp_ge (pc := 7) C 96 ⟨by omega, by omega⟩ ⟨by omega, by omega⟩ dL_told_7 (by decide) (fun _ => ?_) (fun z => absurd z (by omega))
    exact kk Γ sk M cells slots K C hq (by omega) (by omega) (by omega)
  | succ t ih =>
    intro Γ sk M cells slots K C hq h1 h2 h3 h4
    obtain ⟨⟨hcl, h300, hG0⟩, ⟨hs, hM0⟩, ⟨hj, hTb⟩, T0, hi, hTX⟩ := id hq
    have hcb := chs_b (T := T) (n := n) (fun i hi => (hTb i hi).2)
    have hksl := sk_lt hj.2.1
    have hjsl := sk_lt hj.2.2.1
    refine V_iload_n (pc := 2) C 2 rfl dL_told_2 ?_
    refine V_aload_n (pc := 3) C 1 rfl dL_told_3 ?_
    refine V_callVI (pc := 4) C (As := []) (c_Dlen l Γ sk hj) cf_Jlen lk_L_35 ⟨rfl, rfl⟩ ⟨by show 1 + 1 ≤ _; omega, by show 8 + (1 + 11) + 40 ≤ _; omega⟩ hj.2.1 rfl rfl rfl (Nat.le_of_ble_eq_true rfl) ⟨by omega, by omega⟩ rfl dL_told_4 (fun _ => ?_)
    refine V_icmp_ge (pc := 7) C 96 ⟨by omega, by omega⟩ ⟨by omega, by omega⟩ dL_told_7 (by decide) (fun _ => ?_) (fun z => ?_)
    · exact kk Γ sk M cells slots K C hq (by omega) (by omega) (by omega)
    refine V_iconst (pc := 10) C dL_told_10 ?_
    refine V_newA (pc := 11) C hcl h300 (atype := .int) 0 (by decide) rfl rfl ac_int (n := 5) rfl (by omega) ⟨by omega, by omega⟩ dL_told_11 (fun Γ1 hG C1 hcl1 => ?_)
    rw [hG.vr (k := 3) (by omega), hG.vr hksl]
    refine V_astore_n (pc := 13) C1 rfl (by decide) dL_told_13 ?_
    refine V_iconst (pc := 14) C1 dL_told_14 ?_
    refine V_istore (pc := 15) C1 rfl (by decide) dL_told_15 ?_
    have hl1 : 298 ≤ (sk ++ [(.inl (0, 5) : SD)]).length := by simp; omega
    have hM1 : ∀ q, q ≠ sk.length → up0 M sk.length q = M q := fun q hq => up0_o hq
    have hj1 : TJ (sk ++ [.inl (0, 5)]) (up0 M sk.length) ks js n := ⟨hj.1, sk_app hj.2.1, sk_app hj.2.2.1, hj.2.2.2.1, by rw [hM1 _ (by omega)]; exact hj.2.2.2.2⟩
    have hTb1 : ∀ i, i < n → up0 M sk.length js i = T i ∧ 0 ≤ T i ∧ T i ≤ 127 := fun i hi => by rw [hM1 _ (by omega)]; exact hTb i hi
    refine told_in C1 hR ⟨by omega, by omega⟩ (a := sk.length) (k := K) ⟨by omega, by omega, by omega⟩ (sk_new sk _) hj1 hTb1 (by omega) (fun M2 hI => ?_) 20 0 _ rfl ⟨fun _ _ => rfl, fun j hj => ?_⟩
    · refine V_rng (fun hMr => ?_)
      have w0 : M2 sk.length ((0 : Int).toNat) = wdv (chs T n) K 4 := hI.2 0 (by decide)
      have w1 : M2 sk.length ((1 : Int).toNat) = wdv (chs T n) (K + 4) 4 := hI.2 1 (by decide)
      have w2 : M2 sk.length ((2 : Int).toNat) = wdv (chs T n) (K + 4 + 4) 4 := hI.2 2 (by decide)
      have w3 : M2 sk.length ((3 : Int).toNat) = wdv (chs T n) (K + 4 + 4 + 4) 4 := hI.2 3 (by decide)
      have w4 : M2 sk.length ((4 : Int).toNat) = wdv (chs T n) (K + 4 + 4 + 4 + 4) 4 := hI.2 4 (by decide)
      have r0 := hMr sk.length ((0 : Int).toNat); have r1 := hMr sk.length ((1 : Int).toNat); have r2 := hMr sk.length ((2 : Int).toNat); have r3 := hMr sk.length ((3 : Int).toNat); have r4 := hMr sk.length ((4 : Int).toNat)
      rw [w0] at r0; rw [w1] at r1; rw [w2] at r2; rw [w3] at r3; rw [w4] at r4
      have hM2 : ∀ q, q ≠ sk.length → M2 q = M q := fun q hq => (hI.1 q hq).trans (hM1 q hq)
      have hi2 : iC M2 T0 := by
        obtain ⟨a1, a2, a3, a4⟩ := hi
        exact ⟨by rw [hM2 43 (by omega)]; exact a1, a2, a3, fun i i0 i1 => by rw [hM2 44 (by omega)]; exact a4 i i0 i1⟩
      have hT5 := wB_c (wB_c (wB_c (wB_c (wB_c hTX hcb) hcb) hcb) hcb) hcb
      obtain ⟨M3, hf, hi3, hfr⟩ := (appendInput_C (fu := 2000) hi2 (wdv (chs T n) K 4) (wdv (chs T n) (K + 4) 4) (wdv (chs T n) (K + 4 + 4) 4) (wdv (chs T n) (K + 4 + 4 + 4) 4) (wdv (chs T n) (K + 4 + 4 + 4 + 4) 4)).2 (by rw [hTX.1]; omega)
      have hE1 : Ext (sk ++ [.inl (0, 5)]) := Ext_300 hE (fun q hq => by rw [List.getElem?_append_left (by omega)]; exact hs q hq)
      have e3 := hE1 3 _ (by decide) rfl
      refine V_aload_n (pc := 70) C1 0 rfl dL_told_70 ?_
      refine V_aload_n (pc := 71) C1 3 rfl dL_told_71 ?_
      refine V_iconst (pc := 72) C1 dL_told_72 ?_
      refine V_iald (pc := 73) C1 (sk_new sk _) (by decide) (by decide) dL_told_73 ?_
      refine V_aload_n (pc := 74) C1 3 rfl dL_told_74 ?_
      refine V_iconst (pc := 75) C1 dL_told_75 ?_
      refine V_iald (pc := 76) C1 (sk_new sk _) (by decide) (by decide) dL_told_76 ?_
      refine V_aload_n (pc := 77) C1 3 rfl dL_told_77 ?_
      refine V_iconst (pc := 78) C1 dL_told_78 ?_
      refine V_iald (pc := 79) C1 (sk_new sk _) (by decide) (by decide) dL_told_79 ?_
      refine V_aload_n (pc := 80) C1 3 rfl dL_told_80 ?_
      refine V_iconst (pc := 81) C1 dL_told_81 ?_
      refine V_iald (pc := 82) C1 (sk_new sk _) (by decide) (by decide) dL_told_82 ?_
      refine V_aload_n (pc := 83) C1 3 rfl dL_told_83 ?_
      refine V_iconst (pc := 84) C1 dL_told_84 ?_
      refine V_iald (pc := 85) C1 (sk_new sk _) (by decide) (by decide) dL_told_85 ?_
      rw [w0, w1, w2, w3, w4]
      refine V_callVI (pc := 86) C1 (As := [vi (wdv (chs T n) K 4), vi (wdv (chs T n) (K + 4) 4), vi (wdv (chs T n) (K + 4 + 4) 4), vi (wdv (chs T n) (K + 4 + 4 + 4) 4), vi (wdv (chs T n) (K + 4 + 4 + 4 + 4) 4)]) (c_X11_appendInput l Γ1 _ hE1 2000 r0 r1 r2 r3 r4 hf) cf_X11_appendInput lk_L_45 ⟨rfl, rfl⟩ ⟨by show 3 + 1 ≤ _; omega, by show 8 + (6 + 11) + 64 ≤ _; omega⟩ e3 rfl rfl rfl (Nat.le_of_ble_eq_true rfl) ⟨by omega, by omega⟩ rfl dL_told_86 (fun _ => ?_)
      refine V_pop (pc := 89) C1 rfl dL_told_89 ?_
      refine V_iinc (pc := 90) C1 2 rfl rfl (by decide) dL_told_90 ?_
      refine V_goto (pc := 93) C1 2 dL_told_93 (by decide) ?_
      refine V_sub [0, 1, 2] rfl rfl ?_
      have := ih Γ1 (sk ++ [.inl (0, 5)]) M3 (cells + 1) (slots + 5) (K + 20) C1 ⟨⟨hcl1, hl1, hG0.trans hG (Nat.le_refl _)⟩, ⟨fun q hq => by rw [List.getElem?_append_left (by omega)]; exact hs q hq, fun q hq q1 q2 => by rw [hfr q q1 q2, hM2 q (by omega)]; exact hM0 q hq q1 q2⟩, ⟨⟨hj1.1, hj1.2.1, hj1.2.2.1, hj1.2.2.2.1, by have := hj.1; rw [hfr ks (by omega) (by omega), hM2 ks (by omega)]; exact hj.2.2.2.2⟩, fun i hi => by have := hj.1; rw [hfr js (by omega) (by omega), hM2 js (by omega)]; exact hTb i hi⟩, _, hi3, hT5⟩ (by omega) (by omega) (by omega) (by omega)
      rw [show ((K + 20 : Nat) : Int) = (K : Int) + 20 from by omega] at this
      exact this
    · rw [show min 4 (0 - 4 * j) = 0 by omega, up0_n]
      rfl
end Told2
set_option maxRecDepth 100000 in
set_option maxHeartbeats 4000000 in
theorem c_told (l : Launch) (Γ : GG) (sk : List SD) (hcl : ClS sk) (h300 : 298 ≤ sk.length) (hE : Ext sk) {M : Mem} {ks n : Nat} {T : Nat → Int} {T0 : TX} (hT : TS sk M ks n T) (hTb : ∀ i, i < n → 0 ≤ T i ∧ T i ≤ 127) (hn : n ≤ 580) (hi : iC M T0) (h0 : T0.1 = 0) : MetGV l yL_told cL_told 5 ({ frames := 20, cells := 40, slots := 200, locals := 600 } : Room) Γ sk [vr Γ 3, vr Γ ks] M (fun Γ' sk' M' => sk.length ≤ sk'.length ∧ (∀ q, q < 298 → sk'[q]? = sk[q]?) ∧ (∀ q, q < 298 → q ≠ 43 → q ≠ 44 → M' q = M q) ∧ iC M' ((n : Int), fun i => T i.toNat)) := by
  refine MetGV_of RL rfl (by decide) rfl (Nat.le_of_ble_eq_true rfl) rfl ?_
  intro p e s m args below meth c C hr hlk hnm hM
  have inj := C.2.2.2.2.2.2.1
  obtain ⟨js, h1, h2, h3, h4, h5, h6⟩ := hT
  refine V_iconst (pc := 0) C dL_told_0 ?_
  refine V_istore_n (pc := 1) C rfl (by decide) dL_told_1 ?_
  refine told_out Γ sk M hE ks js n T hn ⟨(Nat.le_of_ble_eq_true rfl), (Nat.le_of_ble_eq_true rfl)⟩ ⟨(Nat.le_of_ble_eq_true rfl), (Nat.le_of_ble_eq_true rfl)⟩ (fun Γ1 sk1 M1 cells slots K C1 hq hK hc1 hs1 => ?_) 29 Γ sk M 0 0 0 C ⟨⟨hcl, h300, Grw.rf inj rfl⟩, ⟨fun _ _ => rfl, fun _ _ _ _ => rfl⟩, ⟨⟨h1, h2, h3, h4, h5⟩, fun i hi => ⟨h6 i hi, hTb i hi⟩⟩, T0, hi, h0, fun i hi => absurd hi (by omega)⟩ (by omega) (by omega) (by omega) (by omega)
  obtain ⟨⟨hcl1, h301, hG0⟩, ⟨hs, hM0⟩, ⟨hj, hTb1⟩, T1, hi1, hTX⟩ := hq
  have hf := truncateInput_C (fu := 2000) hi1 (n : Int)
  rw [if_pos (by rw [hTX.1]; omega)] at hf
  have e3 := Ext_300 hE hs 3 _ (by decide) rfl
  refine V_aload_n (pc := 96) C1 0 rfl dL_told_96 ?_
  refine V_aload_n (pc := 97) C1 1 rfl dL_told_97 ?_
  refine V_callVI (pc := 98) C1 (As := []) (c_Dlen l Γ1 sk1 hj) cf_Jlen lk_L_35 ⟨rfl, rfl⟩ ⟨(Nat.le_of_ble_eq_true rfl), (Nat.le_of_ble_eq_true rfl)⟩ hj.2.1 rfl rfl rfl (Nat.le_of_ble_eq_true rfl) ⟨by show _ ≤ 40; omega, by show _ ≤ 200; omega⟩ rfl dL_told_98 (fun _ => ?_)
  refine V_callVI (pc := 101) C1 (As := [vi (n : Int)]) (c_X11_truncateInput l Γ1 sk1 (Ext_300 hE hs) 2000 ⟨by omega, by omega⟩ hf.1) cf_X11_truncateInput lk_L_51 ⟨rfl, rfl⟩ ⟨(Nat.le_of_ble_eq_true rfl), (Nat.le_of_ble_eq_true rfl)⟩ e3 rfl rfl rfl (Nat.le_of_ble_eq_true rfl) ⟨by show _ ≤ 40; omega, by show _ ≤ 200; omega⟩ rfl dL_told_101 (fun _ => ?_)
  refine V_pop (pc := 104) C1 rfl dL_told_104 ?_
  refine V_room (k := 40) (n := 200) hc1 hs1 ?_
  refine V_gvret (pc := 105) C1 hr hlk hG0 hcl1 ⟨hG0.2.2.1, hs, fun q q0 q1 q2 => by rw [up_cell _ _ q1]; exact hM0 q q0 q1 q2, ?_⟩ dL_told_105
  obtain ⟨a1, a2, a3, a4⟩ := hf.2 (by rw [hTX.1]; omega)
  refine ⟨a1, a2, a3, fun i i0 i1 => ?_⟩
  have i1' : i < (n : Int) := i1
  have e9 : T1.2 i = T i.toNat := by
    have := hTX.2 i.toNat (by omega)
    rw [Int.toNat_of_nonneg i0] at this
    rw [this]
    exact if_pos (by omega)
  have := a4 i i0 i1
  show up M1 43 0 (n : Int) 44 i.toNat = T i.toNat ∧ 0 ≤ T i.toNat ∧ T i.toNat ≤ 255
  rw [← e9]
  exact this
