/-! the law from its entry to its loop -/
theorem W_size {p : Program} {l : Launch} {e : Env} {R : Room} {s : State} {m : MethodId} {args : Array Value} {below : List Frame} {meth : Method} {c : Code} {H : Heap} {locs : List Loc} {cells slots : Nat} {Q : State → Prop} {g : JFrame} (k : H.size ≤ s.heap.size + cells → W p l e R s m args below meth c H locs cells slots Q g) : W p l e R s m args below meth c H locs cells slots Q g := fun T hT X => k (by rw [← hT]; exact X.same.2.2.1) T hT X
theorem adr_agree {a0 a1 b lo n1 a a' k : Nat} (hk : k < 65) : adr a0 a1 b lo n1 a k = adr a0 a1 b lo n1 a' k := by
  unfold adr
  rw [if_pos hk, if_pos hk]
def lo65 : SD → Bool
  | .inl _ => true
  | .inr q => q.2.all (fun o => match o with
    | none => true
    | some j => decide (j < 65))
theorem lo65_all (nS : Nat) : (skS nS ++ skM).all lo65 = true := rfl
theorem wP_agreeG {D : va_G} {S : (Nat → Nat) × (Nat → Nat)} {a0 a1 b lo n1 a a' : Nat} {sk : List SD} {U : State} {H : Heap} {M : Mem} (hlen : sk.length ≤ 65) (hlo : sk.all lo65 = true) (h : wP (mkG D S a0 a1 b lo n1 a) sk U H M) : wP (mkG D S a0 a1 b lo n1 a') sk U H M := by
  intro k d hk
  have hk2 : k < 65 := Nat.lt_of_lt_of_le (List.getElem?_eq_some_iff.mp hk).1 hlen
  have h9 := h k d hk
  have hg : gA (mkG D S a0 a1 b lo n1 a') k = gA (mkG D S a0 a1 b lo n1 a) k := adr_agree hk2
  rw [hg]
  have hall := List.all_eq_true.mp hlo d (List.mem_of_getElem? hk)
  cases d with
  | inl q => exact h9
  | inr q =>
    obtain ⟨r, h1, h2⟩ := h9
    refine ⟨r, h1, t_OB.to h2 (fun i hi => ?_)⟩
    have hq : ∀ o, q.2[i]? = some o → (match o with
      | none => true
      | some j => decide (j < 65)) = true := fun o ho => List.all_eq_true.mp hall o (List.mem_of_getElem? ho)
    unfold fv
    cases ho : q.2[i]? with
    | none => rfl
    | some o =>
      cases o with
      | none => rfl
      | some j =>
        have hj : j < 65 := of_decide_eq_true (hq (some j) ho)
        show Value.ref (adr a0 a1 b lo n1 a j) = Value.ref (adr a0 a1 b lo n1 a' j)
        rw [adr_agree hj]
theorem wP_take {Γ : GG} {sk X : List SD} {U : State} {H : Heap} {M : Mem} (h : wP Γ (sk ++ X) U H M) : wP Γ sk U H M := fun k d hk => h k d (by rw [List.getElem?_append_left (List.getElem?_eq_some_iff.mp hk).1]; exact hk)
def m65 (M : Mem) : Mem := fun q i => if q = 65 ∨ q = 66 then 0 else M q i
theorem cfi_X11_init : CalI yX11_init cX11_init 1 0 := ⟨tb_1 (List.mem_of_getElem? (i := 29) (by decide +kernel)) (by decide +kernel), tb_1 (List.mem_of_getElem? (i := 1) (by decide +kernel)) (by decide +kernel), tb_1 (List.mem_of_getElem? (i := 30) (by decide +kernel)) (by decide +kernel), rfl, by decide +kernel, by decide +kernel, by decide +kernel⟩
theorem lk_L_121 : Cond.methodLink RL 121 yX11_init ∈ wsA := tb_1 (List.mem_of_getElem? (i := 28) (by decide +kernel)) (by decide +kernel)
theorem cfi_X12_init : CalI yX12_init cX12_init 3 0 := ⟨tb_6 (List.mem_of_getElem? (i := 222) (by decide +kernel)) (by decide +kernel), tb_1 (List.mem_of_getElem? (i := 14) (by decide +kernel)) (by decide +kernel), tb_6 (List.mem_of_getElem? (i := 223) (by decide +kernel)) (by decide +kernel), rfl, by decide +kernel, by decide +kernel, by decide +kernel⟩
theorem lk_L_124 : Cond.methodLink RL 124 yX12_init ∈ wsA := tb_6 (List.mem_of_getElem? (i := 221) (by decide +kernel)) (by decide +kernel)
theorem cn_L_8 : Cond.classLink RL 8 RX11 ∈ wsA := tb_1 (List.mem_of_getElem? (i := 26) (by decide +kernel)) (by decide +kernel)
theorem ci_X11 : Cond.instantiable RX11 11 ∈ wsA := tb_1 (List.mem_of_getElem? (i := 27) (by decide +kernel)) (by decide +kernel)
theorem cz_X11 : Cond.initialized RX11 ∈ wsA := tb_1 (List.mem_of_getElem? (i := 1) (by decide +kernel)) (by decide +kernel)
theorem cn_L_122 : Cond.classLink RL 122 RX12 ∈ wsA := tb_6 (List.mem_of_getElem? (i := 219) (by decide +kernel)) (by decide +kernel)
theorem ci_X12 : Cond.instantiable RX12 28 ∈ wsA := tb_6 (List.mem_of_getElem? (i := 220) (by decide +kernel)) (by decide +kernel)
theorem cz_X12 : Cond.initialized RX12 ∈ wsA := tb_1 (List.mem_of_getElem? (i := 14) (by decide +kernel)) (by decide +kernel)
theorem ac_long : Cond.arrayClass FieldType.long ∈ wsA := tb_9 (List.mem_of_getElem? (i := 157) (by decide +kernel)) (by decide +kernel)

section
variable {p : Program} {l : Launch} {e : Env} {R : Room} {s : State} {m : MethodId} {args : Array Value} {below : List Frame} {meth : Method} {c : Code} {Q : State → Prop}
variable {nL lo : Nat} {D : va_G} {cells slots pc : Nat} {L : List (Nat × Value)} {st : List Value} {cc : ByteArray} {own : String} {H : Heap} {locs : List Loc} {ls : Array Slot}
/-- a constructor's call, its contract as it stands -/
theorem L_call (C : CN p s m args c cc nL own D) {y : MethodName} {bytes : ByteArray} {maxL n index lo0 mc ms : Nat} {rm : Room} {b : Nat} {As st0 : List Value} {Γ : GG} {sk : List SD} {M1 : Mem} {Pc : Array Value → State → Prop}
    (hM : Met l y (Cond.code y bytes maxL none :: wsA) rm Pc (va_Qv (S := Unit) (fun _ => True) (fun _ t => wP Γ sk t t.heap M1 ∧ mR M1) (fun q => lo0 ≤ q)) mc ms (fun q => lo0 ≤ q)) (hmc : rm.cells = mc ∧ rm.slots = ms) (hF : CalI y bytes maxL n) (hlink : Cond.methodLink own index y ∈ wsA) (hR : rm.frames + 1 ≤ R.frames ∧ 8 + (maxL + 11) + rm.locals ≤ R.locals) (hn : As.length = n) (hst : (st.map fun v => v.category).sum ≤ 8) (hf : cells + mc ≤ R.cells ∧ slots + ms ≤ R.slots) (hs0 : As.reverse ++ .ref b :: st = st0) (hd : decode cc pc = .ok (.invokespecial index, 3))
    (hp : PreS s H Pc (.ref b :: As)) (hS : va_S (fun q => lo0 ≤ q) s.heap H locs) (hl : lvs ls nL L)
    (kk : ∀ (H1 : Heap) (locs1 : List Loc), wP Γ sk s H1 M1 → mR M1 → va_S (fun q => lo0 ≤ q) s.heap H1 locs1 → W p l e R s m args below meth c H1 locs1 (cells + mc) (slots + ms) Q (F0 m (pc + 3) ls st)) : W p l e R s m args below meth c H locs cells slots Q (F0 m pc ls st0) := by
  subst hs0
  obtain ⟨rfl, rfl⟩ := hmc
  obtain ⟨f1, f2, f3, f4, f5⟩ := hF
  refine va_callv (va_runI (g := F0 m pc ls (As.reverse ++ .ref b :: st)) (n := n) (nL := nL) (Ts := wsA) ⟨C.1, C.2.1, C.2.2.1, C.2.2.2.1, C.2.2.2.2.1⟩ hM (cwI n C.2.2.2.2.1 (goodA f3) rfl rfl rfl (C.2.2.2.2.1 _ f2) (C.2.2.2.2.1 _ hlink) (C.2.2.2.2.1 _ f1) f4 f5 hR) hp rfl hn hl.1.1 rfl (lv_room hst) hd hf) hS (fun q _ hq => hq) (fun q hq => hq) (fun u t H1 locs1 ht hvm hw1 hB hz1 hk1 hS1 => ?_)
  obtain ⟨b1, b2⟩ := hB
  rw [ht] at b1
  exact kk H1 locs1 (wP_moved hvm.symm b1) b2 hS1
theorem L_astore_n (C : CN p s m args c cc nL own D) {i : Fin 4} {a : Nat} {L' : List (Nat × Value)} (hl : lvs ls nL L) (hL : stL (i : Nat) (.ref a) L = L') (hn : (i : Nat) < nL) (hd : decode cc pc = .ok (.astore_n i, 1)) (k : ∀ ls' : Array Slot, lvs ls' nL L' → W p l e R s m args below meth c H locs cells slots Q (F0 m (pc + 1) ls' st)) : W p l e R s m args below meth c H locs cells slots Q (F0 m pc ls (.ref a :: st)) :=
  lv_astore_n C.1 C.2.1 hd rfl hl.1 hn rfl (fun ls' h' => k ls' (hL ▸ lvs_st hl rfl h' rfl))
theorem pre_init {Γ : GG} {sk3 sk : List SD} {d0 : PD} {M : Mem} (hD : D = Γ.1) (z : H.size = lo + 1) (hP : pP D s H lo [d0]) (hw : wP Γ sk3 s H M) (hE : ∀ U : State, s.WarmedH U.vm → Env9 nestL strL lensL bytL Γ sk U H) : PreS s H (fun a U => a = ([.ref lo] : List Value).toArray ∧ U.heap.size = lo + 1 ∧ pP D U U.heap lo [d0] ∧ wP Γ sk3 U U.heap M ∧ Env9 nestL strL lensL bytL Γ sk U U.heap) [.ref lo] :=
  ⟨FrameBlind_init hD, fun U hU hW => ⟨rfl, by rw [hU]; exact z, by rw [hU]; exact pP.moved hW.alike hP, by rw [hU]; exact wP_moved hW.alike hw, by rw [hU]; exact hE U hW⟩⟩
/-- a new object -/
theorem L_new (C : CN p s m args c cc nL own D) {K : String} {T : u_T} {N ci index h : Nat} (hc : vwCl[ci]? = some (K, T, N)) (hin : ∀ w ∈ u_ws K T N, w ∈ wsA) (ty : Nat → FieldType) (hty : ∀ k, k < N → parseFieldDescriptor (T k).2.2.1 = some (ty k)) (hcl : Cond.classLink own index K ∈ wsA) (hinst : Cond.instantiable K N ∈ wsA) (hini : Cond.initialized K ∈ wsA) {fs : List Value} (hfs : ∀ j, j < N → defaultValue (ty j) = vp_V fs j) (hz : H.size = h) (hroom : cells + 1 ≤ R.cells ∧ slots + N ≤ R.slots) (hd : decode cc pc = .ok (.new index, 3))
    (kk : ∀ H1 : Heap, pP D s H1 h [.inr (ci, fs)] → H1.size = h + 1 → (∀ q, q < h → H1[q]? = H[q]?) → W p l e R s m args below meth c H1 locs (cells + 1) (slots + N) Q (F0 m (pc + 3) ls (.ref h :: st))) : W p l e R s m args below meth c H locs cells slots Q (F0 m pc ls st) := by
  have hKn := C.2.2.2.2.2.1.1 ci _ hc
  refine W.newcK C.1 C.2.1 C.2.2.2.1 (C.2.2.2.2.1 _ hcl) (C.2.2.2.2.1 _ hinst) (C.2.2.2.2.1 _ hini) rfl hd hroom.1 hroom.2 hKn.2.1 hz fun H1 kC hkC e1 z1 o1 => ?_
  refine kk H1 (fun k d hk => ?_) z1 o1
  cases k with
  | zero =>
    cases hk
    exact ⟨_, hc, (u_born ty (C.2.2.2.2.1) hin hKn hkC e1 hty).to hfs⟩
  | succ k => cases hk
/-- the law's own row, one long -/
theorem L_newl (C : CN p s m args c cc nL own D) {S : (Nat → Nat) × (Nat → Nat)} {a0 a1 b n1 a nS : Nat} {M : Mem} (hz : H.size = a) (hw : wP (mkG D S a0 a1 b lo n1 a) (skS nS ++ skM) s H M) (hf : cells + 1 ≤ R.cells ∧ slots + 1 ≤ R.slots) (hd : decode cc pc = .ok (.newarray .long, 2))
    (kk : ∀ H1 : Heap, wP (mkG D S a0 a1 b lo n1 a) (skS nS ++ (skM ++ skO)) s H1 (m65 M) → H1.size = a + 1 → (∀ q, q < a → H1[q]? = H[q]?) → W p l e R s m args below meth c H1 locs (cells + 1) (slots + 1) Q (F0 m (pc + 2) ls (.ref a :: st))) : W p l e R s m args below meth c H locs cells slots Q (F0 m pc ls (vi 1 :: st)) := by
  refine va_newaK (atype := .long) C.1 C.2.1 (C.2.2.2.2.1 _ (show Cond.arrayClass (newarray.typeOf .long) ∈ wsA from ac_long)) rfl hd rfl (n := i32 1) (N := 1) (by decide) (by decide) (by decide) hf.1 hf.2 hz fun H1 cA e1 z1 o1 hAr hNm => ?_
  refine kk H1 ?_ z1 o1
  have hlt : ∀ (k : Nat) (d : SD), (skS nS ++ skM)[k]? = some d → gA (mkG D S a0 a1 b lo n1 a) k < a := fun k d hk => hz ▸ wP_lt hw hk
  intro k d hk
  rw [← List.append_assoc] at hk
  by_cases h9 : k < 65
  · have h0 : (skS nS ++ skM)[k]? = some d := by rw [List.getElem?_append_left (show k < (skS nS ++ skM).length from h9)] at hk; exact hk
    have hm : m65 M k = M k := by
      funext i
      exact if_neg (by omega)
    rw [hm]
    exact cOK_kept (hw k d h0) (o1 _ (hlt k d h0))
  · have h1 : k = 65 := by
      have : k < (skS nS ++ skM ++ skO).length := (List.getElem?_eq_some_iff.mp hk).1
      have : k < 66 := this
      omega
    subst h1
    have hd9 : d = .inl (3, 1) := (Option.some.inj (show some (Sum.inl (3, 1)) = some d from hk)).symm
    subst hd9
    have hg : gA (mkG D S a0 a1 b lo n1 a) 65 = a := rfl
    rw [hg]
    refine ⟨_, e1, hAr _ _, (by intro hz; cases hz), arrV_size _ _ _, fun j hj => ?_⟩
    have hj0 : j = 0 := by omega
    subst hj0
    rfl
end
section
variable {D : va_G} {S : (Nat → Nat) × (Nat → Nat)} {a0 a1 b lo nS : Nat} {p : Program} {e : Env} {s : State} {m : MethodId} {args : Array Value} {below : List Frame} {meth : Method} {c : Code} {Q : State → Prop} {ls : Array Slot} {H : Heap} {locs : List Loc}
theorem Fr_of (hsz : s.heap.size = lo) {a : Nat} {sk : List SD} {q : Nat} (hq : lo ≤ q) : Fr (mkG D S a0 a1 b lo (lo + 49) a) sk s.heap.size q := Or.inr (by omega)
/-- from pc 15 to the loop -/
theorem law_tail (l : Launch) (hl9 : l.stackTraces = false) (hsz : s.heap.size = lo) (hnS : nS ≤ 3072) (C : CN p s m args c cL_law 9 RL D)
    (hE : ∀ (a65 : Nat) (sk : List SD), lo + 62 ≤ a65 → sk.length ≤ 67 → Env9 nestL strL lensL bytL (mkG D S a0 a1 b lo (lo + 49) a65) sk s s.heap)
    (fin : ∀ (a : Nat) (M : Mem) (cells slots : Nat) (x4 : Int), lo + 62 ≤ a → cells ≤ 601024 → slots ≤ 7293034 → VV p l e room_1 s m args below meth c Q 9 (mkG D S a0 a1 b lo (lo + 49) a) (skS nS ++ (skM ++ skO)) M cells slots 2661 [(0, vr (mkG D S a0 a1 b lo (lo + 49) a) 2), (1, vr (mkG D S a0 a1 b lo (lo + 49) a) 3), (2, vr (mkG D S a0 a1 b lo (lo + 49) a) 52), (3, vr (mkG D S a0 a1 b lo (lo + 49) a) 65), (4, vi x4)] [vi 1])
    {M2 : Mem} (hM : mR M2) (hI : LIv (m65 M2)) (hl : lvs ls 9 [(0, .ref b), (1, .ref lo)]) (hw : wP (mkG D S a0 a1 b lo (lo + 49) (lo + 49 + 13)) (skS nS ++ skM) s H M2) (hge : lo + 63 ≤ H.size) (hS : va_S (fun q => lo ≤ q) s.heap H locs) : W p l e room_1 s m args below meth c H locs 64 60000 Q (F0 m 15 ls [.ref (lo + 49)]) := by
  refine L_astore_n (pc := 15) C hl (L' := [(0, .ref b), (1, .ref lo), (2, .ref (lo + 49))]) rfl (by decide) dL_law_15 (fun ls1 h1 => ?_)
  refine lv_iconst (pc := 16) C.1 C.2.1 dL_law_16 (v := i32 1) rfl ?_
  have hw9 : wP (mkG D S a0 a1 b lo (lo + 49) H.size) (skS nS ++ skM) s H M2 := wP_agreeG (Nat.le_of_ble_eq_true rfl) (lo65_all nS) hw
  refine L_newl (pc := 17) C (a := H.size) rfl hw9 (show 64 + 1 ≤ 601024 ∧ 60000 + 1 ≤ 7293034 from by decide) dL_law_17 (fun H1 w1 z1 o1 => ?_)
  refine L_astore_n (pc := 19) C h1 (L' := [(0, .ref b), (1, .ref lo), (2, .ref (lo + 49)), (3, .ref H.size)]) rfl (by decide) dL_law_19 (fun ls2 h2 => ?_)
  generalize hA : H.size = a at *
  have hEA := hE a (skS nS ++ (skM ++ skO)) (by omega) (Nat.le_of_ble_eq_true rfl)
  have CA : CX p s m args c cL_law 9 RL (mkG D S a0 a1 b lo (lo + 49) a) (skS nS ++ (skM ++ skO)) := ⟨C.1, C.2.1, C.2.2.1, C.2.2.2.1, C.2.2.2.2.1, hEA⟩
  have hS1 : va_S (Fr (mkG D S a0 a1 b lo (lo + 49) a) (skS nS ++ (skM ++ skO)) s.heap.size) s.heap H1 locs := va_S_sub (A := fun q => lo ≤ q) ⟨Nat.le_trans hS.1 (by omega), fun x y1 y2 => (o1 x (by have := hS.1; omega)).trans (hS.2.1 x y1 y2), hS.2.2⟩ (fun q hq => Fr_of hsz hq)
  have hm9 : mR (m65 M2) := fun k i => by
    show rng (if k = 65 ∨ k = 66 then 0 else M2 k i)
    split
    · decide
    · exact hM k i
  suffices hVV : VV p l e room_1 s m args below meth c Q 9 (mkG D S a0 a1 b lo (lo + 49) a) (skS nS ++ (skM ++ skO)) (m65 M2) (64 + 1) (60000 + 1) 20 [(0, vr (mkG D S a0 a1 b lo (lo + 49) a) 2), (1, vr (mkG D S a0 a1 b lo (lo + 49) a) 3), (2, vr (mkG D S a0 a1 b lo (lo + 49) a) 52), (3, vr (mkG D S a0 a1 b lo (lo + 49) a) 65)] [] from hVV H1 locs ls2 w1 hS1 h2 hm9
  refine V_iconst (pc := 20) CA dL_law_20 ?_
  refine V_istore (pc := 21) CA (L' := [(0, vr (mkG D S a0 a1 b lo (lo + 49) a) 2), (1, vr (mkG D S a0 a1 b lo (lo + 49) a) 3), (2, vr (mkG D S a0 a1 b lo (lo + 49) a) 52), (3, vr (mkG D S a0 a1 b lo (lo + 49) a) 65), (4, vi 0)]) rfl (by decide) dL_law_21 ?_
  exact law_loop (ExtL_skS nS) hl9 (nS := nS) rfl hnS CA (fun M cells slots x4 => fin a M cells slots x4 (by omega)) 513 0 (m65 M2) (64 + 1) (60000 + 1) (by decide) (by decide) (by omega) hI (by decide) (by decide)
/-- from pc 7 to pc 15 -/
theorem law_mid (l : Launch) (hl9 : l.stackTraces = false) (hlo : a0 < lo ∧ a1 < lo ∧ b < lo) (hsz : s.heap.size = lo) (hnS : nS ≤ 3072) (C : CN p s m args c cL_law 9 RL D)
    (hE : ∀ (a65 : Nat) (sk : List SD), lo + 62 ≤ a65 → sk.length ≤ 67 → Env9 nestL strL lensL bytL (mkG D S a0 a1 b lo (lo + 49) a65) sk s s.heap)
    (fin : ∀ (a : Nat) (M : Mem) (cells slots : Nat) (x4 : Int), lo + 62 ≤ a → cells ≤ 601024 → slots ≤ 7293034 → VV p l e room_1 s m args below meth c Q 9 (mkG D S a0 a1 b lo (lo + 49) a) (skS nS ++ (skM ++ skO)) M cells slots 2661 [(0, vr (mkG D S a0 a1 b lo (lo + 49) a) 2), (1, vr (mkG D S a0 a1 b lo (lo + 49) a) 3), (2, vr (mkG D S a0 a1 b lo (lo + 49) a) 52), (3, vr (mkG D S a0 a1 b lo (lo + 49) a) 65), (4, vi x4)] [vi 1])
    {M1 M2 : Mem} (hM : mR M1) (e2 : f_X12_tail 40000 (mM M1) = some (M2, 0)) (hI : LIv (m65 M2)) (hl : lvs ls 9 [(0, .ref b)]) (hw : wP (mkG D S a0 a1 b lo (lo + 49) (lo + 63)) (skS nS) s H M1) (hH : H.size = lo + 49) (hS : va_S (fun q => lo ≤ q) s.heap H locs) : W p l e room_1 s m args below meth c H locs 49 5518 Q (F0 m 7 ls [.ref lo]) := by
  refine L_astore_n (pc := 7) C hl (L' := [(0, .ref b), (1, .ref lo)]) rfl (by decide) dL_law_7 (fun ls1 h1 => ?_)
  refine L_new (pc := 8) C (ci := 12) (K := RX12) rfl inX12 tyX12 tyX12_ok cn_L_122 ci_X12 cz_X12 (fs := [.null, .null, .null, .null, .int 0, .int 0, .int 0, .null, .null, .int 0, .null, .null, .null, .int 0, .int 0, .int 0, .int 0, .int 0, .int 0, .int 0, .int 0, .int 0, .null, .int 0, .null, .int 0, .null, .int 0]) (by decide +kernel) hH (show 49 + 1 ≤ 601024 ∧ 5518 + 28 ≤ 7293034 by decide) dL_law_8 fun H2 hP2 z9 o9 => ?_
  have b3 : wP (mkG D S a0 a1 b lo (lo + 49) (lo + 63)) (skS nS) s H2 M1 := wP_kept hw (fun q hq => o9 q (by omega))
  have b3T : wP (mkG D S a0 a1 b lo (lo + 49) (lo + 49 + 13)) (skS nS) s H2 M1 := wP_agreeG (Nat.le_of_ble_eq_true rfl) rfl b3
  have hS2 : va_S (fun q => lo ≤ q) s.heap H2 locs := ⟨Nat.le_trans hS.1 (by omega), fun x h1 h2 => (o9 x (by have := hS.1; omega)).trans (hS.2.1 x h1 h2), hS.2.2⟩
  refine lv_dup (pc := 11) C.1 C.2.1 dL_law_11 rfl ?_
  have hM2 := c_init_X12 l (D := D) (S := S) (a0 := a0) (a1 := a1) (b := b) (lo0 := lo) (lo := lo + 49) (nS := nS) ⟨hlo.1, hlo.2.1, hlo.2.2, Nat.le_refl _⟩ hM e2
  have hE2 := hE (lo + 49 + 13) (skS nS ++ (skM ++ [.inl (0, 10)])) (by omega) (Nat.le_of_ble_eq_true rfl)
  refine L_call (pc := 12) C (As := []) (st := [.ref (lo + 49)]) hM2 ⟨rfl, rfl⟩ cfi_X12_init lk_L_124 ⟨Nat.le_of_ble_eq_true rfl, Nat.le_of_ble_eq_true rfl⟩ rfl (Nat.le_of_ble_eq_true rfl) (show 49 + 1 + 14 ≤ 601024 ∧ 5518 + 28 + 47758 ≤ 7293034 by decide) rfl dL_law_12 (pre_init rfl z9 hP2 b3T (fun U hW => Env9_go hE2 (va_S_sub hS2 (fun q hq => Fr_of hsz hq)) hW)) hS2 h1 (fun H3 locs3 c1 c2 hS3 => ?_)
  have hge : lo + 49 + 13 < H3.size := wP_lt c1 (k := 65) rfl
  have c9 : wP (mkG D S a0 a1 b lo (lo + 49) (lo + 49 + 13)) (skS nS ++ skM) s H3 M2 := wP_take (X := [.inl (0, 10)]) (by rw [List.append_assoc]; exact c1)
  intro T hT X
  exact law_tail l hl9 hsz hnS C hE fin c2 hI h1 c9 (by omega) hS3 T hT (stand_widen X (Nat.le_of_ble_eq_true rfl) (Nat.le_of_ble_eq_true rfl))
end
section
set_option maxRecDepth 100000 in
set_option maxHeartbeats 8000000 in
theorem law_run (l : Launch) (hl9 : l.stackTraces = false) {D : va_G} {S : (Nat → Nat) × (Nat → Nat)} {a0 a1 b lo nS : Nat} {m0 m1 xs : Nat → Int} {p : Program} {e : Env} {s : State} {m : MethodId} {args : Array Value} {below : List Frame} {meth : Method} {c : Code} {Q : State → Prop} (hsz : s.heap.size = lo) (hlo : a0 < lo ∧ a1 < lo ∧ b < lo) (hnS : nS ≤ 3072) (hm : mR (mC m0 m1 xs)) (hz : zC (mC m0 m1 xs)) (C : CN p s m args c cL_law 9 RL D)
    (hE : ∀ (a65 : Nat) (sk : List SD), lo + 62 ≤ a65 → sk.length ≤ 67 → Env9 nestL strL lensL bytL (mkG D S a0 a1 b lo (lo + 49) a65) sk s s.heap)
    (hw : wP (mkG D S a0 a1 b lo (lo + 49) (lo + 63)) (sk3 nS) s s.heap (mC m0 m1 xs))
    (fin : ∀ (a : Nat) (M : Mem) (cells slots : Nat) (x4 : Int), lo + 62 ≤ a → cells ≤ 601024 → slots ≤ 7293034 → VV p l e room_1 s m args below meth c Q 9 (mkG D S a0 a1 b lo (lo + 49) a) (skS nS ++ (skM ++ skO)) M cells slots 2661 [(0, vr (mkG D S a0 a1 b lo (lo + 49) a) 2), (1, vr (mkG D S a0 a1 b lo (lo + 49) a) 3), (2, vr (mkG D S a0 a1 b lo (lo + 49) a) 52), (3, vr (mkG D S a0 a1 b lo (lo + 49) a) 65), (4, vi x4)] [vi 1]) {ls0 : Array Slot} (hl0 : lvs ls0 9 [(0, .ref b)]) :
    W p l e room_1 s m args below meth c s.heap [] 0 0 Q (F0 m 0 ls0 []) := by
  obtain ⟨M1, e1, r1, f1⟩ := init_C (fu := 40000) hz (by decide) (fun _ => E0) E0
  have e0 : (mM M1) 0 = (mC m0 m1 xs) 0 := (mM_lo (by decide)).trans (f1 0 (by decide))
  obtain ⟨M2, e2, r2, f2⟩ := init_M (fu := 40000) (M := mM M1) ⟨fun q q1 q2 i hi => by
    show (if q < 52 then M1 q i else if q = 52 ∧ i = 15 then -1 else 0) = 0
    rw [if_neg (by omega), if_neg hi], rfl⟩ (fun i i0 i1 => by rw [e0]; exact hz.1 i i0 i1) (by decide) (fun _ => E0) E0
  rw [e0] at r2
  have hI : INV (m65 M2) (mk0 10 (fun i => (mC m0 m1 xs) 0 i.toNat)) (fun _ => E0) 0 tx0 tx0 0 (-1) 0 E0 := by
    have g : ∀ q, q ≤ 64 → m65 M2 q = M2 q := fun q hq => by
      funext i
      exact if_neg (by omega)
    exact ⟨RC1_lo (RC1_lo r1 (M' := M2) (fun q hq => by rw [f2 q hq]; exact mM_lo hq)) (fun q hq => g q (by omega)), RM1_o r2 (fun q _ hq => g q hq), fun j j0 j1 => absurd j1 (Int.not_lt.mpr j0), Or.inl rfl, fun hz => absurd hz (by decide)⟩
  have hw3 : ∀ (k : Nat) (d : SD), (sk3 nS)[k]? = some d → gA (mkG D S a0 a1 b lo (lo + 49) (lo + 63)) k < lo := by
    intro k d hk
    match k, hk with
    | 0, _ => exact hlo.1
    | 1, _ => exact hlo.2.1
    | 2, _ => exact hlo.2.2
  have hI9 : LIv (m65 M2) := ⟨_, _, _, _, _, _, _, _, _, hI⟩
  suffices hNN : NN p l e room_1 s m args below meth c Q 9 D lo [] 0 0 0 [(0, .ref b)] [] from hNN s.heap [] ls0 ⟨hsz, fun k d hk => (by cases hk), va_S.rf⟩ hl0
  refine N_new (ci := 11) (pc := 0) C (K := RX11) rfl inX11 tyX11 tyX11_ok cn_L_8 ci_X11 cz_X11 (fs := [.null, .null, .int 0, .null, .null, .null, .null, .null, .null, .null, .null]) (by decide +kernel) (q := 0) rfl (show 0 + 1 ≤ 601024 ∧ 0 + 11 ≤ 7293034 by decide) dL_law_0 ?_
  refine N_dup (pc := 3) C rfl dL_law_3 ?_
  intro H locs ls h hl
  obtain ⟨z, hP, hS⟩ := h
  have z : H.size = lo + 1 := z
  have hwH : wP (mkG D S a0 a1 b lo (lo + 49) (lo + 63)) (sk3 nS) s H (mC m0 m1 xs) := wP_kept2 hw hw3 (fun q hq => hS.2.1 q (by omega) (by omega))
  have hM1 := c_init_X11 l (D := D) (S := S) (a0 := a0) (a1 := a1) (b := b) (lo := lo) (n1 := lo + 49) (a65 := lo + 63) (nS := nS) hlo ⟨Nat.le_refl _, by omega⟩ hm e1
  have hE1 := hE (lo + 63) (skS nS) (by omega) (Nat.le_of_ble_eq_true rfl)
  refine L_call (pc := 4) C (As := []) (st := [.ref lo]) hM1 ⟨rfl, rfl⟩ cfi_X11_init lk_L_121 ⟨Nat.le_of_ble_eq_true rfl, Nat.le_of_ble_eq_true rfl⟩ rfl (Nat.le_of_ble_eq_true rfl) (show 0 + 1 + 48 ≤ 601024 ∧ 0 + 11 + 5507 ≤ 7293034 by decide) rfl dL_law_4 (pre_init rfl z hP hwH (fun U hW => Env9_go hE1 (va_S_sub hS (fun q hq => Fr_of hsz hq)) hW)) hS hl (fun H1 locs1 b1 b2 hS1 => ?_)
  have hge : lo + (51 - 3) < H1.size := wP_lt b1 (k := 51) rfl
  refine W_size (fun hsz1 => ?_)
  exact law_mid l hl9 hlo hsz hnS C hE fin b2 e2 hI9 hl b1 (by omega) hS1
end
