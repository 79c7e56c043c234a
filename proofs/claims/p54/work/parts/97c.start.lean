/-! the law from its entry to what stands behind its constructors -/
theorem cfi_X11_init : CalI yX11_init cX11_init 1 0 := ⟨tb_1 (List.mem_of_getElem? (i := 34) (by decide +kernel)) (by decide +kernel), tb_1 (List.mem_of_getElem? (i := 1) (by decide +kernel)) (by decide +kernel), tb_1 (List.mem_of_getElem? (i := 35) (by decide +kernel)) (by decide +kernel), rfl, by decide +kernel, by decide +kernel, by decide +kernel⟩
theorem cfi_L_init : CalI yL_init cL_init 1 0 := ⟨tb_3 (List.mem_of_getElem? (i := 28) (by decide +kernel)) (by decide +kernel), tb_1 (List.mem_of_getElem? (i := 0) (by decide +kernel)) (by decide +kernel), tb_3 (List.mem_of_getElem? (i := 29) (by decide +kernel)) (by decide +kernel), rfl, by decide +kernel, by decide +kernel, by decide +kernel⟩
theorem lk_L_153 : Cond.methodLink RL 153 yX11_init ∈ wsA := tb_1 (List.mem_of_getElem? (i := 33) (by decide +kernel)) (by decide +kernel)
theorem lk_L_154 : Cond.methodLink RL 154 yL_init ∈ wsA := tb_3 (List.mem_of_getElem? (i := 27) (by decide +kernel)) (by decide +kernel)
theorem cn_L_46 : Cond.classLink RL 46 RX11 ∈ wsA := tb_1 (List.mem_of_getElem? (i := 31) (by decide +kernel)) (by decide +kernel)
theorem ci_X11 : Cond.instantiable RX11 11 ∈ wsA := tb_1 (List.mem_of_getElem? (i := 32) (by decide +kernel)) (by decide +kernel)
theorem cz_X11 : Cond.initialized RX11 ∈ wsA := tb_1 (List.mem_of_getElem? (i := 1) (by decide +kernel)) (by decide +kernel)
theorem cn_L_10 : Cond.classLink RL 10 RL ∈ wsA := tb_3 (List.mem_of_getElem? (i := 25) (by decide +kernel)) (by decide +kernel)
theorem ci_L : Cond.instantiable RL 8 ∈ wsA := tb_3 (List.mem_of_getElem? (i := 26) (by decide +kernel)) (by decide +kernel)
theorem cz_L : Cond.initialized RL ∈ wsA := tb_1 (List.mem_of_getElem? (i := 0) (by decide +kernel)) (by decide +kernel)
theorem W_size {p : Program} {l : Launch} {e : Env} {R : Room} {s : State} {m : MethodId} {args : Array Value} {below : List Frame} {meth : Method} {c : Code} {H : Heap} {locs : List Loc} {cells slots : Nat} {Q : State → Prop} {g : JFrame} (k : H.size ≤ s.heap.size + cells → W p l e R s m args below meth c H locs cells slots Q g) : W p l e R s m args below meth c H locs cells slots Q g := fun T hT X => k (by rw [← hT]; exact X.same.2.2.1) T hT X
section
variable {p : Program} {l : Launch} {e : Env} {R : Room} {s : State} {m : MethodId} {args : Array Value} {below : List Frame} {meth : Method} {c : Code} {Q : State → Prop}
variable {nL lo : Nat} {D : va_G} {cells slots pc : Nat} {L : List (Nat × Value)} {st : List Value} {cc : ByteArray} {own : String} {H : Heap} {locs : List Loc} {ls : Array Slot}
/-- a constructor's call, its contract as it stands -/
theorem L_callG (C : CN p s m args c cc nL own D) {y : MethodName} {bytes : ByteArray} {maxL n index lo0 lo1 mc ms : Nat} {rm : Room} {b : Nat} {As st0 : List Value} {B : State → Prop} {Pc : Array Value → State → Prop} (h01 : lo0 ≤ lo1)
    (hM : Met l y (Cond.code y bytes maxL none :: wsA) rm Pc (va_Qv (S := Unit) (fun _ => True) (fun _ t => B t) (fun q => lo1 ≤ q)) mc ms (fun q => lo1 ≤ q)) (hmc : rm.cells = mc ∧ rm.slots = ms) (hF : CalI y bytes maxL n) (hlink : Cond.methodLink own index y ∈ wsA) (hR : rm.frames + 1 ≤ R.frames ∧ 8 + (maxL + 11) + rm.locals ≤ R.locals) (hn : As.length = n) (hst : (st.map fun v => v.category).sum ≤ 8) (hf : cells + mc ≤ R.cells ∧ slots + ms ≤ R.slots) (hs0 : As.reverse ++ .ref b :: st = st0) (hd : decode cc pc = .ok (.invokespecial index, 3))
    (hp : PreS s H Pc (.ref b :: As)) (hS : va_S (fun q => lo0 ≤ q) s.heap H locs) (hl : lvs ls nL L)
    (kk : ∀ (t : State) (H1 : Heap) (locs1 : List Loc), t.heap = H1 → t.vm.Alike s.vm → B t → (∀ q, q < H.size → ¬ lo1 ≤ q → H1[q]? = H[q]?) → va_S (fun q => lo0 ≤ q) s.heap H1 locs1 → W p l e R s m args below meth c H1 locs1 (cells + mc) (slots + ms) Q (F0 m (pc + 3) ls st)) : W p l e R s m args below meth c H locs cells slots Q (F0 m pc ls st0) := by
  subst hs0
  obtain ⟨rfl, rfl⟩ := hmc
  obtain ⟨f1, f2, f3, f4, f5⟩ := hF
  refine va_callv (va_runI (g := F0 m pc ls (As.reverse ++ .ref b :: st)) (n := n) (nL := nL) (Ts := wsA) ⟨C.1, C.2.1, C.2.2.1, C.2.2.2.1, C.2.2.2.2.1⟩ hM (cwI n C.2.2.2.2.1 (goodA f3) rfl rfl rfl (C.2.2.2.2.1 _ f2) (C.2.2.2.2.1 _ hlink) (C.2.2.2.2.1 _ f1) f4 f5 hR) hp rfl hn hl.1.1 rfl (lv_room hst) hd hf) hS (fun q _ hq => Nat.le_trans h01 hq) (fun q hq => Nat.le_trans h01 hq) (fun u t H1 locs1 ht hvm hw1 hB hz1 hk1 hS1 => ?_)
  exact kk t H1 locs1 ht hvm.symm hB (fun q h1 h2 => hk1 q h1 h2) hS1
theorem L_astore_n (C : CN p s m args c cc nL own D) {i : Fin 4} {a : Nat} {L' : List (Nat × Value)} (hl : lvs ls nL L) (hL : stL (i : Nat) (.ref a) L = L') (hn : (i : Nat) < nL) (hd : decode cc pc = .ok (.astore_n i, 1)) (k : ∀ ls' : Array Slot, lvs ls' nL L' → W p l e R s m args below meth c H locs cells slots Q (F0 m (pc + 1) ls' st)) : W p l e R s m args below meth c H locs cells slots Q (F0 m pc ls (.ref a :: st)) :=
  lv_astore_n C.1 C.2.1 hd rfl hl.1 hn rfl (fun ls' h' => k ls' (hL ▸ lvs_st hl rfl h' rfl))
theorem pre_init {Γ : GG} {sk3 sk : List SD} {d0 : PD} {M : Mem} (hD : D = Γ.1) (z : H.size = lo + 1) (hP : pP D s H lo [d0]) (hw : wP Γ sk3 s H M) (hE : ∀ U : State, s.WarmedH U.vm → Env9 nestL strL lensL bytL Γ sk U H) : PreS s H (fun a U => a = ([.ref lo] : List Value).toArray ∧ U.heap.size = lo + 1 ∧ pP D U U.heap lo [d0] ∧ wP Γ sk3 U U.heap M ∧ Env9 nestL strL lensL bytL Γ sk U U.heap) [.ref lo] :=
  ⟨FrameBlind_init hD, fun U hU hW => ⟨rfl, by rw [hU]; exact z, by rw [hU]; exact pP.moved hW.alike hP, by rw [hU]; exact wP_moved hW.alike hw, by rw [hU]; exact hE U hW⟩⟩
/-- a new object -/
theorem L_new (C : CN p s m args c cc nL own D) {K : String} {T : u_T} {N ci index h : Nat} (hc : vwCl[ci]? = some (K, T, N)) (hin : ∀ w ∈ u_ws K T N, w ∈ wsA) (ty : Nat → FieldType) (hty : ∀ k, k < N → parseFieldDescriptor (T k).2.2.1 = some (ty k)) (hcl : Cond.classLink own index K ∈ wsA) (hinst : Cond.instantiable K N ∈ wsA) (hini : Cond.initialized K ∈ wsA) {fs : List Value} (hfs : ∀ j, j < N → defaultValue (ty j) = vp_V fs j) (hz : H.size = h) (hroom : cells + 1 ≤ R.cells ∧ slots + N ≤ R.slots) (hd : decode cc pc = .ok (.new index, 3))
    (kk : ∀ H1 : Heap, pP D s H1 h [.inr (ci, fs)] → H1.size = h + 1 → (∀ q, q < h → H1[q]? = H[q]?) → W p l e R s m args below meth c H1 locs (cells + 1) (slots + N) Q (F0 m (pc + 3) ls (.ref h :: st))) : W p l e R s m args below meth c H locs cells slots Q (F0 m pc ls st) := by
  have hKn := C.2.2.2.2.2.1.1 ci _ hc
  refine W.newcK C.1 C.2.1 C.2.2.2.1 (C.2.2.2.2.1 _ hcl) (C.2.2.2.2.1 _ hinst) (C.2.2.2.2.1 _ hini) rfl hd hroom.1 hroom.2 hKn.2.1 hz fun H1 kC hkC e1 z1 o1 => ?_
  refine kk H1 (fun k d hk => ?_) z1 o1
  cases k with
  | zero =>
    cases hk
    exact ⟨_, hc, (u_born ty (C.2.2.2.2.1) hin hKn hkC e1 hty).to hfs⟩
  | succ k => cases hk
end
def clb (N : Nat) : SD → Bool
  | .inl q => decide (q.1 < 4) || decide (4 ≤ q.1 ∧ q.1 - 4 + q.2 ≤ N)
  | .inr q => q.2.all (fun o => match o with
    | none => true
    | some j => decide (j < N))
theorem clb_ok {N : Nat} {d : SD} (h : clb N d = true) : ClD N d := by
  cases d with
  | inl q =>
    rcases (Bool.or_eq_true _ _).mp h with h | h
    · exact Or.inl (of_decide_eq_true h)
    · exact Or.inr (of_decide_eq_true h).2
  | inr q =>
    intro k hk
    exact of_decide_eq_true (List.all_eq_true.mp h (some k) hk)
theorem ClS_skZ (nS : Nat) : ClS (skZ nS) := by
  intro k d hk
  rw [skZ_len]
  have ha : (skZ nS).all (clb 298) = true := by
    show (skS nS ++ (skW0 ++ skR)).all (clb 298) = true
    rw [List.all_append, List.all_append]
    unfold skR
    rw [List.all_append, List.all_replicate, List.all_replicate]
    rfl
  exact clb_ok (List.all_eq_true.mp ha d (List.mem_of_getElem? hk))
section Start
variable {D : va_G} {S : (Nat → Nat) × (Nat → Nat)} {a0 a1 b lo nS : Nat}
theorem Fr_of {sz : Nat} (hsz : sz = lo) {z1 : Nat} {sk : List SD} {q : Nat} (hq : lo ≤ q) : Fr (mkG D S a0 z1 b lo) sk sz q := Or.inr (by omega)
set_option maxRecDepth 100000 in
set_option maxHeartbeats 8000000 in
theorem law_run (l : Launch) (hl9 : l.stackTraces = false) {m0 m1 xs : Nat → Int} {p : Program} {e : Env} {s : State} {m : MethodId} {args : Array Value} {below : List Frame} {meth : Method} {c : Code} {Q : State → Prop} (hsz : s.heap.size = lo) (hlo : a0 < lo ∧ a1 < lo ∧ b < lo) (hnS : nS ≤ 260) (hm : mR (mC m0 m1 xs)) (hz : ∀ i : Int, 0 ≤ i → i < 10 → (mC m0 m1 xs) 0 i.toNat = v10 i) (C : CN p s m args c cL_law 7 RL D) (hAO : va_AO9 s)
    (hE : ∀ (z1 : Nat) (sk : List SD), z1 = a1 ∨ z1 = lo + 49 + 1 → sk.length ≤ 298 → Env9 nestL strL lensL bytL (mkG D S a0 z1 b lo) sk s s.heap)
    (hw : wP (mkG D S a0 a1 b lo) (sk3 nS) s s.heap (mC m0 m1 xs))
    (fin : ∀ (Γ9 : GG) (sk9 : List SD) (M9 : Mem) (cells slots : Nat) (L9 : List (Nat × Value)), Grw (mkG D S a0 (lo + 49 + 1) b lo) Γ9 (skZ nS) sk9 s.heap.size → cells ≤ 3000 → slots ≤ 900000 → VV p l e room_1 s m args below meth c Q 7 Γ9 sk9 M9 cells slots 235 L9 [vi 1]) {ls0 : Array Slot} (hl0 : lvs ls0 7 [(0, .ref b)]) :
    W p l e room_1 s m args below meth c s.heap [] 0 0 Q (F0 m 0 ls0 []) := by
  obtain ⟨M1, e1, f1⟩ := init_C (fu := 40000) hz (by decide)
  have hw3 : ∀ (k : Nat) (d : SD), (sk3 nS)[k]? = some d → gA (mkG D S a0 a1 b lo) k < lo := by
    intro k d hk
    match k, hk with
    | 0, _ => exact hlo.1
    | 1, _ => exact hlo.2.1
    | 2, _ => exact hlo.2.2
  suffices hNN : NN p l e room_1 s m args below meth c Q 7 D lo [] 0 0 0 [(0, .ref b)] [] from hNN s.heap [] ls0 ⟨hsz, fun k d hk => (by cases hk), va_S.rf⟩ hl0
  refine N_new (ci := 13) (pc := 0) C (K := RX11) rfl inX11 tyX11 tyX11_ok cn_L_46 ci_X11 cz_X11 (fs := [.null, .null, .int 0, .null, .null, .null, .null, .null, .null, .null, .null]) (by decide +kernel) (q := 0) rfl (show 0 + 1 ≤ 600086 ∧ 0 + 11 ≤ 7301442 by decide) dL_law_0 ?_
  refine N_dup (pc := 3) C rfl dL_law_3 ?_
  intro H locs ls h hl
  obtain ⟨z, hP, hS⟩ := h
  have z : H.size = lo + 1 := z
  have hwH : wP (mkG D S a0 a1 b lo) (sk3 nS) s H (mC m0 m1 xs) := wP_kept2 hw hw3 (fun q hq => hS.2.1 q (by omega) (by omega))
  have hM1 := c_init_X11 l (D := D) (S := S) (a0 := a0) (a1 := a1) (b := b) (lo := lo) (nS := nS) hlo hm e1
  have hE1 := hE a1 (skS9 nS) (Or.inl rfl) (Nat.le_of_ble_eq_true rfl)
  refine L_callG (pc := 4) C (As := []) (st := [.ref lo]) (Nat.le_refl lo) hM1 ⟨rfl, rfl⟩ cfi_X11_init lk_L_153 ⟨Nat.le_of_ble_eq_true rfl, Nat.le_of_ble_eq_true rfl⟩ rfl (Nat.le_of_ble_eq_true rfl) (show 0 + 1 + 48 ≤ 600086 ∧ 0 + 11 + 5507 ≤ 7301442 by decide) rfl dL_law_4 (pre_init rfl z hP hwH (fun U hW => Env9_go hE1 (va_S_sub hS (fun q hq => Fr_of hsz hq)) hW)) hS hl (fun t9 H1 locs1 ht9 hv9 hB9 _ hS1 => ?_)
  obtain ⟨b1, b2⟩ := hB9
  rw [ht9] at b1
  have b1 := wP_moved hv9 b1
  have hge : lo + (51 - 3) < H1.size := wP_lt9 b1 (k := 51) rfl
  refine W_size (fun hsz1 => ?_)
  have hH1 : H1.size = lo + 49 := by omega
  refine L_astore_n (pc := 7) C hl (L' := [(0, .ref b), (1, .ref lo)]) rfl (by decide) dL_law_7 (fun ls1 h1 => ?_)
  refine L_new (pc := 8) C (ci := 14) (K := RL) rfl inL tyL tyL_ok cn_L_10 ci_L cz_L (fs := [.null, .null, .null, .null, .null, .null, .int 0, .int 0]) (by decide +kernel) hH1 (show 0 + 1 + 48 + 1 ≤ 600086 ∧ 0 + 11 + 5507 + 8 ≤ 7301442 by decide) dL_law_8 fun H2 hP2 z9 o9 => ?_
  refine lv_dup (pc := 11) C.1 C.2.1 dL_law_11 rfl ?_
  have hS2 : va_S (fun q => lo ≤ q) s.heap H2 locs1 := ⟨Nat.le_trans hS1.1 (by omega), fun x h1 h2 => (o9 x (by have := hS1.1; omega)).trans (hS1.2.1 x h1 h2), hS1.2.2⟩
  have hlt9 : ∀ (k : Nat) (d : SD), (skS9 nS)[k]? = some d → gA (mkG D S a0 a1 b lo) k < lo + 49 := by
    intro k d hk
    have hk2 : k < 52 := (List.getElem?_eq_some_iff.mp hk).1
    show adr a0 a1 b lo k < lo + 49
    unfold adr
    split
    · omega
    · split
      · omega
      · split
        · omega
        · first
          | omega
          | (rw [if_pos hk2]; omega)
  have pL : PreS s H2 (fun a U => a = ([.ref (lo + 49)] : List Value).toArray ∧ U.heap.size = lo + 49 + 1 ∧ pP D U U.heap (lo + 49) [.inr (14, [.null, .null, .null, .null, .null, .null, .int 0, .int 0])] ∧ va_K D vwCl [] U ∧ (∀ q ∈ nestL, va_Nw (nOK q) U) ∧ va_AO9 U) [.ref (lo + 49)] :=
    ⟨fun a U g mk hp => ⟨hp.1, hp.2.1, hp.2.2.1, va_K.moved (u := U) (U := U.calling g mk a) (Vm.Alike.refl U.vm) hp.2.2.2.1, fun q hq => va_Nw.same rfl rfl (hp.2.2.2.2.1 q hq), hp.2.2.2.2.2⟩, fun U hU hW => ⟨rfl, by rw [hU]; exact z9, by rw [hU]; exact pP.moved hW.alike hP2, va_K.moved hW.alike C.2.2.2.2.2.1, fun q hq => va_Nw.warmM hW (C.2.2.2.2.2.2 q hq), fun a U' hal => hAO a U' (hW.alike.trans hal)⟩⟩
  refine L_callG (pc := 12) C (As := []) (st := [.ref (lo + 49)]) (Nat.le_add_right lo 49) (c_init_L l (D := D) (lo := lo + 49) (lo0 := lo + 49) (Nat.le_refl _)) ⟨rfl, rfl⟩ cfi_L_init lk_L_154 ⟨Nat.le_of_ble_eq_true rfl, Nat.le_of_ble_eq_true rfl⟩ rfl (Nat.le_of_ble_eq_true rfl) (show 0 + 1 + 48 + 1 + 246 ≤ 600086 ∧ 0 + 11 + 5507 + 8 + 3960 ≤ 7301442 by decide) rfl dL_law_12 pL hS2 h1 (fun t8 H3 locs3 ht8 hv8 hB8 hk8 hS3 => ?_)
  obtain ⟨c1, c2⟩ := hB8
  rw [ht8] at c1 c2
  have c3 : pP D s H3 (lo + 49) (lwP (lo + 49)) := pP.moved hv8 c2
  have c4 : wP (mkG D S a0 a1 b lo) (skS9 nS) s H3 M1 := wP_kept2 b1 hlt9 (fun q hq => (hk8 q (by omega) (by omega)).trans (o9 q hq))
  have c5 := wP_all c3 c4
  refine L_astore_n (pc := 15) C h1 (L' := [(0, .ref b), (1, .ref lo), (2, .ref (lo + 49))]) rfl (by decide) dL_law_15 (fun ls2 h2 => ?_)
  have hEZ := hE (lo + 49 + 1) (skZ nS) (Or.inr rfl) (Nat.le_of_eq (skZ_len nS))
  have CA : CX p s m args c cL_law 7 RL (mkG D S a0 (lo + 49 + 1) b lo) (skZ nS) := ⟨C.1, C.2.1, C.2.2.1, C.2.2.2.1, C.2.2.2.2.1, hEZ⟩
  have hm9 : ∀ q, q < 5 ∨ 18 < q → M1 q = mC m0 m1 xs q := f1
  have hZ : LZ (mL M1) := by
    refine ⟨?_, ⟨?_, ?_⟩, rfl, fun q i hq => mL_hi hq i⟩
    · rw [mL_lo (by decide) (by decide), hm9 43 (by decide)]; rfl
    · rw [mL_lo (by decide) (by decide), hm9 38 (by decide)]; rfl
    · rw [mL_lo (by decide) (by decide), hm9 38 (by decide)]; rfl
  have hVV := law_vv l hl9 (mkG D S a0 (lo + 49 + 1) b lo) (skZ nS) (mL M1) CA (ClS_skZ nS) (skZ_len nS) (ExtL_skZ nS) nS rfl hnS hZ (R := room_1) (by decide) (by decide) (cells := 0 + 1 + 48 + 1 + 246) (slots := 0 + 11 + 5507 + 8 + 3960) (by decide) fin
  exact hVV H3 locs3 ls2 c5 (va_S_sub hS3 (fun q hq => Fr_of hsz hq)) h2 (mL_r b2)
end Start
