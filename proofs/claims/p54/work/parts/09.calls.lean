/-! calls and a method's start -/
abbrev CX (p : Program) (s : State) (m : MethodId) (args : Array Value) (c : Code) (cc : ByteArray) (nL : Nat) (own : String) (Γ : GG) (sk : List SD) : Prop := CX9 nestL strL lensL bytL p s m args c cc nL own Γ sk
abbrev PreW (Γ : GG) (sk : List SD) (av : List Value) (M : Mem) (sz : Nat) : Array Value → State → Prop := PreW9 nestL strL lensL bytL Γ sk av M sz
/-- a method's contract: with these arguments over the cells M it answers r and leaves M' -/
def MetI (l : Launch) (y : MethodName) (bytes : ByteArray) (maxL : Nat) (ret : FieldType) (rm : Room) (Γ : GG) (sk : List SD) (av : List Value) (M M' : Mem) (r : Int) : Prop :=
  ∀ sz, Met l y (Cond.code y bytes maxL (some ret) :: wsA) rm (PreW Γ sk av M sz) (PostI Γ sk M' r sz) rm.cells rm.slots (Fr Γ sk sz)
def MetV (l : Launch) (y : MethodName) (bytes : ByteArray) (maxL : Nat) (rm : Room) (Γ : GG) (sk : List SD) (av : List Value) (M M' : Mem) : Prop :=
  ∀ sz, Met l y (Cond.code y bytes maxL none :: wsA) rm (PreW Γ sk av M sz) (PostV Γ sk M' sz) rm.cells rm.slots (Fr Γ sk sz)
theorem PreW_blind {Γ : GG} {sk : List SD} {av : List Value} {M : Mem} {sz : Nat} : FrameBlind (PreW Γ sk av M sz) := by
  intro a U g mk h
  obtain ⟨h0, h1, h2, h3, h4, h5, h6, h7, h8, h9, h10, h11⟩ := h
  have hv : (U.calling g mk a).vm = U.vm := rfl
  have hal : U.vm.Alike (U.calling g mk a).vm := Vm.Alike.refl U.vm
  refine ⟨h0, h1, wP_moved (u := U) (U := U.calling g mk a) hal h2, h3, va_K.moved (u := U) (U := U.calling g mk a) hal h4, h5, fun q hq => va_Nw.same rfl rfl (h6 q hq), h7.moved (u := U) (U := U.calling g mk a) hal, ⟨dgE_go (u := U) (U := U.calling g mk a) h8.1 hal (fun _ _ _ => rfl) (fun _ h => h), dgE_go (u := U) (U := U.calling g mk a) h8.2 hal (fun _ _ _ => rfl) (fun _ h => h)⟩, h9.moved (u := U) (U := U.calling g mk a) hal, fun q hq => vk_R.same rfl (h10 q hq), EnvJ_go (u := U) (U := U.calling g mk a) h11 hal (fun _ _ _ => rfl) (fun _ h => h)⟩
theorem goodA {c : Cond} (h : c ∈ wsA) : GoodIn wsA (c :: wsA) := by
  intro w hw
  have h2 : w ∈ wsA := by
    rcases List.mem_cons.mp hw with e | e
    · rw [e]; exact h
    · exact e
  exact ⟨h2, good_of_word (List.mem_filter.mp h2).2⟩
def CalV (y : MethodName) (bytes : ByteArray) (maxL : Nat) (ret : Option FieldType) (n : Nat) : Prop :=
  Cond.instanceMethod y ∈ wsA ∧ Cond.selects y.cls y y ∈ wsA ∧ Cond.initialized y.cls ∈ wsA ∧ Cond.code y bytes maxL ret ∈ wsA ∧ (y.cls ≠ "java/lang/invoke/MethodHandle" ∧ y.cls ≠ "java/lang/invoke/VarHandle" ∧ (parseMethodDescriptor y.desc).map (fun d => d.parameters.length) = some n)
def CalS (y : MethodName) (bytes : ByteArray) (maxL : Nat) (ret : Option FieldType) (n : Nat) : Prop :=
  Cond.static y ∈ wsA ∧ Cond.initialized y.cls ∈ wsA ∧ Cond.code y bytes maxL ret ∈ wsA ∧ (y.cls ≠ "java/lang/invoke/MethodHandle" ∧ y.cls ≠ "java/lang/invoke/VarHandle" ∧ (parseMethodDescriptor y.desc).map (fun d => d.parameters.length) = some n)
section Calls9
variable {p : Program} {l : Launch} {e : Env} {R : Room} {s : State} {m : MethodId} {args : Array Value} {below : List Frame} {meth : Method} {c : Code} {Q : State → Prop}
variable {nL : Nat} {Γ : GG} {sk : List SD} {M : Mem} {cells slots pc : Nat} {L : List (Nat × Value)} {st : List Value} {cc : ByteArray} {own : String}
theorem V_recv (C : CX p s m args c cc nL own Γ sk) {k ci : Nat} {fs : List (Option Nat)} {q : vw_C} {H : Heap} (hP : wP Γ sk s H M) (hk : sk[k]? = some (.inr (ci, fs))) (hc : vwCl[ci]? = some q) : ∃ cell : Cell, H[gA Γ k]? = some cell ∧ cell.vm.isStatics = false ∧ s.vm.findClass q.1 = some cell.cls := by
  obtain ⟨r, h1, cell, q1, q2, q3, q4⟩ := hP k _ hk
  obtain ⟨hSl, hfc, kC, hkC, hkind⟩ := C.2.2.2.2.2.1.1 ci _ hc
  exact ⟨cell, q1, by rw [q3]; rfl, by rw [q2]; exact hfc⟩
theorem V_pre (C : CX p s m args c cc nL own Γ sk) {H : Heap} {locs : List Loc} {av : List Value} (hP : wP Γ sk s H M) (hS : va_S (Fr Γ sk s.heap.size) s.heap H locs) (hM : mR M) : ∀ U : State, U.heap = H → s.WarmedH U.vm → PreW Γ sk av M H.size av.toArray U := by
  intro U hU hW
  refine ⟨rfl, by rw [hU], by rw [hU]; exact wP_moved hW.alike hP, hM, by rw [hU]; exact Env9_go C.2.2.2.2.2 hS hW⟩
theorem V_runV (C : CX p s m args c cc nL own Γ sk) {y : MethodName} {bytes : ByteArray} {maxL n index mc ms k ci : Nat} {ret : Option FieldType} {rm : Room} {As : List Value} {Qc : Array Value → State → Outcome → State → Prop} {free : Addr → Prop} {fs : List (Option Nat)} {q : vw_C} {H : Heap} {locs : List Loc} {ls : Array Slot}
    (hM : Met l y (Cond.code y bytes maxL ret :: wsA) rm (PreW Γ sk (vr Γ k :: As) M H.size) Qc mc ms free) (hF : CalV y bytes maxL ret n) (hlink : Cond.methodLink own index y ∈ wsA) (hmc : rm.cells = mc ∧ rm.slots = ms) (hR : rm.frames + 1 ≤ R.frames ∧ 8 + (maxL + 11) + rm.locals ≤ R.locals)
    (hk : sk[k]? = some (.inr (ci, fs))) (hc : vwCl[ci]? = some q) (hcq : q.1 = y.cls) (hn : As.length = n) (hst : (st.map fun v => v.category).sum ≤ 8) (hf : cells + mc ≤ R.cells ∧ slots + ms ≤ R.slots) (hd : decode cc pc = .ok (.invokevirtual index, 3))
    (hP : wP Γ sk s H M) (hS : va_S (Fr Γ sk s.heap.size) s.heap H locs) (hl : lvs ls nL L) (hMr : mR M) :
    va_Run p l e R s m args below meth c H locs cells slots mc ms (F0 m pc ls (As.reverse ++ vr Γ k :: st)) st (Qc (vr Γ k :: As).toArray) free := by
  obtain ⟨f1, f2, f3, f4, f5⟩ := hF
  refine va_runV ⟨C.1, C.2.1, C.2.2.1, C.2.2.2.1, C.2.2.2.2.1⟩ hM (cwV (C := y.cls) n C.2.2.2.2.1 (goodIn_app (a := [.methodLink own index y, .instanceMethod y, .selects y.cls y y, .initialized y.cls]) ?_ (goodA f4)) rfl hmc.1 hmc.2 ⟨rfl, f5⟩ hR) ⟨PreW_blind, ?_, V_pre C hP hS hMr⟩ rfl hn hl.1.1 rfl (lv_room hst) hd hf
  · intro w hw
    have h2 : w ∈ wsA := by
      simp only [List.mem_cons, List.not_mem_nil, or_false] at hw
      rcases hw with rfl | rfl | rfl | rfl
      · exact hlink
      · exact f1
      · exact f2
      · exact f3
    exact ⟨h2, good_of_word (List.mem_filter.mp h2).2⟩
  · rw [← hcq]
    exact V_recv C hP hk hc
theorem V_runS (C : CX p s m args c cc nL own Γ sk) {y : MethodName} {bytes : ByteArray} {maxL n index mc ms : Nat} {ret : Option FieldType} {rm : Room} {As : List Value} {Qc : Array Value → State → Outcome → State → Prop} {free : Addr → Prop} {H : Heap} {locs : List Loc} {ls : Array Slot}
    (hM : Met l y (Cond.code y bytes maxL ret :: wsA) rm (PreW Γ sk As M H.size) Qc mc ms free) (hF : CalS y bytes maxL ret n) (hlink : Cond.methodLink own index y ∈ wsA) (hmc : rm.cells = mc ∧ rm.slots = ms) (hR : rm.frames + 1 ≤ R.frames ∧ 8 + (maxL + 11) + rm.locals ≤ R.locals)
    (hn : As.length = n) (hst : (st.map fun v => v.category).sum ≤ 8) (hf : cells + mc ≤ R.cells ∧ slots + ms ≤ R.slots) (hd : decode cc pc = .ok (.invokestatic index, 3))
    (hP : wP Γ sk s H M) (hS : va_S (Fr Γ sk s.heap.size) s.heap H locs) (hl : lvs ls nL L) (hMr : mR M) :
    va_Run p l e R s m args below meth c H locs cells slots mc ms (F0 m pc ls (As.reverse ++ st)) st (Qc As.toArray) free := by
  obtain ⟨f1, f2, f3, f4⟩ := hF
  refine va_runS ⟨C.1, C.2.1, C.2.2.1, C.2.2.2.1, C.2.2.2.2.1⟩ hM (va_cwS n C.2.2.2.2.1 (goodIn_app (a := [.methodLink own index y, .static y, .initialized y.cls]) ?_ (goodA f3)) rfl hmc.1 hmc.2 f4 hR) ⟨PreW_blind, V_pre C hP hS hMr⟩ rfl hn hl.1.1 rfl (lv_room hst) hd hf
  intro w hw
  have h2 : w ∈ wsA := by
    simp only [List.mem_cons, List.not_mem_nil, or_false] at hw
    rcases hw with rfl | rfl | rfl
    · exact hlink
    · exact f1
    · exact f2
  exact ⟨h2, good_of_word (List.mem_filter.mp h2).2⟩
theorem V_runSN (C : CX p s m args c cc nL own Γ sk) {y : MethodName} {bytes : ByteArray} {maxL n index mc ms : Nat} {host : String} {ret : Option FieldType} {rm : Room} {As : List Value} {Qc : Array Value → State → Outcome → State → Prop} {free : Addr → Prop} {H : Heap} {locs : List Loc} {ls : Array Slot}
    (hM : Met l y (Cond.code y bytes maxL ret :: wsA) rm (PreW Γ sk As M H.size) Qc mc ms free) (hF : CalS y bytes maxL ret n) (hlink : (own, index, y, host) ∈ nestL) (hmc : rm.cells = mc ∧ rm.slots = ms) (hR : rm.frames + 1 ≤ R.frames ∧ 8 + (maxL + 11) + rm.locals ≤ R.locals)
    (hn : As.length = n) (hst : (st.map fun v => v.category).sum ≤ 8) (hf : cells + mc ≤ R.cells ∧ slots + ms ≤ R.slots) (hd : decode cc pc = .ok (.invokestatic index, 3))
    (hP : wP Γ sk s H M) (hS : va_S (Fr Γ sk s.heap.size) s.heap H locs) (hl : lvs ls nL L) (hMr : mR M) :
    va_Run p l e R s m args below meth c H locs cells slots mc ms (F0 m pc ls (As.reverse ++ st)) st (Qc As.toArray) free := by
  obtain ⟨f1, f2, f3, f4⟩ := hF
  exact va_runSN ⟨C.1, C.2.1, C.2.2.1, C.2.2.2.1, C.2.2.2.2.1⟩ hM ⟨va_cnB n C.2.2.2.2.1 (goodA f3) rfl hmc.1 hmc.2 (C.2.2.2.2.2.2.2.1 _ hlink) (C.2.2.2.2.1 _ f2) f4 hR, C.2.2.2.2.1 _ f1, trivial⟩ ⟨PreW_blind, V_pre C hP hS hMr⟩ rfl hn hl.1.1 rfl (lv_room hst) hd hf
/-- behind a call that answers a number -/
theorem V_backI (C : CX p s m args c cc nL own Γ sk) {M1 : Mem} {r : Int} {mc ms : Nat} {a : Array Value} {H : Heap} {locs : List Loc} {ls : Array Slot} {st0 : List Value} (hr : va_Run p l e R s m args below meth c H locs cells slots mc ms (F0 m pc ls st0) st (PostI Γ sk M1 r H.size a) (Fr Γ sk H.size)) (hS : va_S (Fr Γ sk s.heap.size) s.heap H locs) (hl : lvs ls nL L)
    (kk : rng r → VV p l e R s m args below meth c Q nL Γ sk M1 (cells + mc) (slots + ms) (pc + 3) L (vi r :: st)) : W p l e R s m args below meth c H locs cells slots Q (F0 m pc ls st0) :=
  va_calli hr hS (fun q _ h => Fr_mono hS.1 h) (fun q h => Fr_mono hS.1 h) (fun r' u t H1 locs1 ht hvm hw hB hz1 hk1 hS1 => by
    obtain ⟨rfl, hrr⟩ := hw
    rw [ht] at hB
    exact kk hrr H1 locs1 ls (wP_moved hvm.symm hB.1) hS1 hl hB.2)
theorem V_backV (C : CX p s m args c cc nL own Γ sk) {M1 : Mem} {mc ms : Nat} {a : Array Value} {H : Heap} {locs : List Loc} {ls : Array Slot} {st0 : List Value} (hr : va_Run p l e R s m args below meth c H locs cells slots mc ms (F0 m pc ls st0) st (PostV Γ sk M1 H.size a) (Fr Γ sk H.size)) (hS : va_S (Fr Γ sk s.heap.size) s.heap H locs) (hl : lvs ls nL L)
    (kk : VV p l e R s m args below meth c Q nL Γ sk M1 (cells + mc) (slots + ms) (pc + 3) L st) : W p l e R s m args below meth c H locs cells slots Q (F0 m pc ls st0) :=
  va_callv hr hS (fun q _ h => Fr_mono hS.1 h) (fun q h => Fr_mono hS.1 h) (fun u t H1 locs1 ht hvm hw hB hz1 hk1 hS1 => by
    rw [ht] at hB
    exact kk H1 locs1 ls (wP_moved hvm.symm hB.1) hS1 hl hB.2)
theorem V_callVI (C : CX p s m args c cc nL own Γ sk) {y : MethodName} {bytes : ByteArray} {maxL n index k ci : Nat} {ret : FieldType} {rm : Room} {As st0 : List Value} {fs : List (Option Nat)} {q : vw_C} {M1 : Mem} {r : Int}
    (hM : MetI l y bytes maxL ret rm Γ sk (vr Γ k :: As) M M1 r) (hF : CalV y bytes maxL (some ret) n) (hlink : Cond.methodLink own index y ∈ wsA) (h0 : rm.cells = 0 ∧ rm.slots = 0) (hR : rm.frames + 1 ≤ R.frames ∧ 8 + (maxL + 11) + rm.locals ≤ R.locals) (hk : sk[k]? = some (.inr (ci, fs))) (hc : vwCl[ci]? = some q) (hcq : q.1 = y.cls) (hn : As.length = n) (hst : (st.map fun v => v.category).sum ≤ 8) (hf : cells ≤ R.cells ∧ slots ≤ R.slots) (hs0 : As.reverse ++ vr Γ k :: st = st0) (hd : decode cc pc = .ok (.invokevirtual index, 3))
    (kk : rng r → VV p l e R s m args below meth c Q nL Γ sk M1 cells slots (pc + 3) L (vi r :: st)) : VV p l e R s m args below meth c Q nL Γ sk M cells slots pc L st0 := by
  subst hs0
  intro H locs ls hP hS hl hMr
  have hM' := hM H.size
  rw [h0.1, h0.2] at hM'
  exact V_backI C (V_runV C hM' hF hlink h0 hR hk hc hcq hn hst hf hd hP hS hl hMr) hS hl kk
theorem V_callVV (C : CX p s m args c cc nL own Γ sk) {y : MethodName} {bytes : ByteArray} {maxL n index k ci : Nat} {rm : Room} {As st0 : List Value} {fs : List (Option Nat)} {q : vw_C} {M1 : Mem}
    (hM : MetV l y bytes maxL rm Γ sk (vr Γ k :: As) M M1) (hF : CalV y bytes maxL none n) (hlink : Cond.methodLink own index y ∈ wsA) (h0 : rm.cells = 0 ∧ rm.slots = 0) (hR : rm.frames + 1 ≤ R.frames ∧ 8 + (maxL + 11) + rm.locals ≤ R.locals) (hk : sk[k]? = some (.inr (ci, fs))) (hc : vwCl[ci]? = some q) (hcq : q.1 = y.cls) (hn : As.length = n) (hst : (st.map fun v => v.category).sum ≤ 8) (hf : cells ≤ R.cells ∧ slots ≤ R.slots) (hs0 : As.reverse ++ vr Γ k :: st = st0) (hd : decode cc pc = .ok (.invokevirtual index, 3))
    (kk : VV p l e R s m args below meth c Q nL Γ sk M1 cells slots (pc + 3) L st) : VV p l e R s m args below meth c Q nL Γ sk M cells slots pc L st0 := by
  subst hs0
  intro H locs ls hP hS hl hMr
  have hM' := hM H.size
  rw [h0.1, h0.2] at hM'
  exact V_backV C (V_runV C hM' hF hlink h0 hR hk hc hcq hn hst hf hd hP hS hl hMr) hS hl kk
theorem V_callSI (C : CX p s m args c cc nL own Γ sk) {y : MethodName} {bytes : ByteArray} {maxL n index : Nat} {ret : FieldType} {rm : Room} {As st0 : List Value} {M1 : Mem} {r : Int}
    (hM : MetI l y bytes maxL ret rm Γ sk As M M1 r) (hF : CalS y bytes maxL (some ret) n) (hlink : Cond.methodLink own index y ∈ wsA) (h0 : rm.cells = 0 ∧ rm.slots = 0) (hR : rm.frames + 1 ≤ R.frames ∧ 8 + (maxL + 11) + rm.locals ≤ R.locals) (hn : As.length = n) (hst : (st.map fun v => v.category).sum ≤ 8) (hf : cells ≤ R.cells ∧ slots ≤ R.slots) (hs0 : As.reverse ++ st = st0) (hd : decode cc pc = .ok (.invokestatic index, 3))
    (kk : rng r → VV p l e R s m args below meth c Q nL Γ sk M1 cells slots (pc + 3) L (vi r :: st)) : VV p l e R s m args below meth c Q nL Γ sk M cells slots pc L st0 := by
  subst hs0
  intro H locs ls hP hS hl hMr
  have hM' := hM H.size
  rw [h0.1, h0.2] at hM'
  exact V_backI C (V_runS C hM' hF hlink h0 hR hn hst hf hd hP hS hl hMr) hS hl kk
theorem V_callSV (C : CX p s m args c cc nL own Γ sk) {y : MethodName} {bytes : ByteArray} {maxL n index : Nat} {rm : Room} {As st0 : List Value} {M1 : Mem}
    (hM : MetV l y bytes maxL rm Γ sk As M M1) (hF : CalS y bytes maxL none n) (hlink : Cond.methodLink own index y ∈ wsA) (h0 : rm.cells = 0 ∧ rm.slots = 0) (hR : rm.frames + 1 ≤ R.frames ∧ 8 + (maxL + 11) + rm.locals ≤ R.locals) (hn : As.length = n) (hst : (st.map fun v => v.category).sum ≤ 8) (hf : cells ≤ R.cells ∧ slots ≤ R.slots) (hs0 : As.reverse ++ st = st0) (hd : decode cc pc = .ok (.invokestatic index, 3))
    (kk : VV p l e R s m args below meth c Q nL Γ sk M1 cells slots (pc + 3) L st) : VV p l e R s m args below meth c Q nL Γ sk M cells slots pc L st0 := by
  subst hs0
  intro H locs ls hP hS hl hMr
  have hM' := hM H.size
  rw [h0.1, h0.2] at hM'
  exact V_backV C (V_runS C hM' hF hlink h0 hR hn hst hf hd hP hS hl hMr) hS hl kk
theorem V_callNI (C : CX p s m args c cc nL own Γ sk) {y : MethodName} {bytes : ByteArray} {maxL n index : Nat} {ret : FieldType} {host : String} {rm : Room} {As st0 : List Value} {M1 : Mem} {r : Int}
    (hM : MetI l y bytes maxL ret rm Γ sk As M M1 r) (hF : CalS y bytes maxL (some ret) n) (hlink : (own, index, y, host) ∈ nestL) (h0 : rm.cells = 0 ∧ rm.slots = 0) (hR : rm.frames + 1 ≤ R.frames ∧ 8 + (maxL + 11) + rm.locals ≤ R.locals) (hn : As.length = n) (hst : (st.map fun v => v.category).sum ≤ 8) (hf : cells ≤ R.cells ∧ slots ≤ R.slots) (hs0 : As.reverse ++ st = st0) (hd : decode cc pc = .ok (.invokestatic index, 3))
    (kk : rng r → VV p l e R s m args below meth c Q nL Γ sk M1 cells slots (pc + 3) L (vi r :: st)) : VV p l e R s m args below meth c Q nL Γ sk M cells slots pc L st0 := by
  subst hs0
  intro H locs ls hP hS hl hMr
  have hM' := hM H.size
  rw [h0.1, h0.2] at hM'
  exact V_backI C (V_runSN C hM' hF hlink h0 hR hn hst hf hd hP hS hl hMr) hS hl kk
theorem V_callNV (C : CX p s m args c cc nL own Γ sk) {y : MethodName} {bytes : ByteArray} {maxL n index : Nat} {host : String} {rm : Room} {As st0 : List Value} {M1 : Mem}
    (hM : MetV l y bytes maxL rm Γ sk As M M1) (hF : CalS y bytes maxL none n) (hlink : (own, index, y, host) ∈ nestL) (h0 : rm.cells = 0 ∧ rm.slots = 0) (hR : rm.frames + 1 ≤ R.frames ∧ 8 + (maxL + 11) + rm.locals ≤ R.locals) (hn : As.length = n) (hst : (st.map fun v => v.category).sum ≤ 8) (hf : cells ≤ R.cells ∧ slots ≤ R.slots) (hs0 : As.reverse ++ st = st0) (hd : decode cc pc = .ok (.invokestatic index, 3))
    (kk : VV p l e R s m args below meth c Q nL Γ sk M1 cells slots (pc + 3) L st) : VV p l e R s m args below meth c Q nL Γ sk M cells slots pc L st0 := by
  subst hs0
  intro H locs ls hP hS hl hMr
  have hM' := hM H.size
  rw [h0.1, h0.2] at hM'
  exact V_backV C (V_runSN C hM' hF hlink h0 hR hn hst hf hd hP hS hl hMr) hS hl kk
theorem nod_args : ∀ (av : List Value) (i : Nat), av.all (fun v => v.category == 1) = true → nodL (lv_args i av) ∧ (∀ q ∈ lv_args i av, i ≤ q.1 ∧ q.2.category = 1)
  | [], _, _ => ⟨trivial, fun q h => absurd h List.not_mem_nil⟩
  | v :: r, i, h => by
    simp only [List.all_cons, Bool.and_eq_true, beq_iff_eq] at h
    obtain ⟨h1, h2⟩ := nod_args r (i + 1) h.2
    have e : lv_args i (v :: r) = (i, v) :: lv_args (i + 1) r := by
      show (i, v) :: lv_args (if v.category = 2 then i + 2 else i + 1) r = _
      rw [if_neg (by rw [h.1]; decide)]
    rw [e]
    refine ⟨⟨fun z hz => ?_, h1⟩, fun q hq => ?_⟩
    · have := (h2 z hz).1
      show z.1 ≠ i
      omega
    · rcases List.mem_cons.mp hq with rfl | hq
      · exact ⟨Nat.le_refl _, h.1⟩
      · have := h2 q hq
        exact ⟨by omega, this.2⟩
theorem V_start {y : MethodName} {bytes : ByteArray} {maxL : Nat} {ret : Option FieldType} {rm : Room} {av : List Value} {sz : Nat} {s₁ : State} {L0 : List (Nat × Value)} (own : String) (hown : own = y.cls) (B : BodyLoose p l y (headSpec (Cond.code y bytes maxL ret :: wsA) rm) bytes maxL ret e s m args below meth c s₁) (hml : c.maxLocals = maxL) (hp : PreW Γ sk av M sz args s) (hcat : av.all (fun v => v.category == 1) = true) (hlen : (lg_sl av).length ≤ maxL) (hL : lv_args 0 av = L0)
    (kk : CX p s m args c bytes maxL own Γ sk → s.heap.size = sz → meth.sig.returnType = ret → meth.locks = false → mR M → VV p l e rm s m args below meth c Q maxL Γ sk M 0 0 0 L0 []) : W p l e (headSpec (Cond.code y bytes maxL ret :: wsA) rm).room s m args below meth c s.heap [] 0 0 Q (entryFrame m args maxL) := by
  subst hL
  obtain ⟨rfl, h1, h2, h3, h4⟩ := hp
  have hts0 := atoms_spec (ws := Cond.code y bytes maxL ret :: wsA) B.pre
  have hts : ∀ w ∈ wsA, w.before av.toArray s = true := fun w hw => hts0 w (List.mem_cons_of_mem _ hw)
  have hc : s.vm.findClass y.cls = some m.cls := findClass_of_methodNamed B.named
  have hl := lv_entry av (n := maxL) hlen
  rw [lg_entry_eq]
  exact kk ⟨B.exec, B.bytes, hml, by rw [hown]; exact hc, hts, h4⟩ h1 B.returns B.notSynchronized h3 s.heap [] _ h2 va_S.rf ⟨hl, (nod_args av 0 hcat).1, fun q hq => ((nod_args av 0 hcat).2 q hq).2⟩ h3
end Calls9
theorem MetI_of {l : Launch} {y : MethodName} {bytes : ByteArray} {maxL : Nat} {ret : FieldType} {rm : Room} {Γ : GG} {sk : List SD} {av : List Value} {M M' : Mem} {r : Int} {L0 : List (Nat × Value)} (own : String) (hown : own = y.cls) (hy : plainName y.cls = true) (hcat : av.all (fun v => v.category == 1) = true) (hlen : (lg_sl av).length ≤ maxL) (hL : lv_args 0 av = L0)
    (kk : ∀ (p : Program) (e : Env) (s : State) (m : MethodId) (args : Array Value) (below : List Frame) (meth : Method) (c : Code), CX p s m args c bytes maxL own Γ sk → meth.sig.returnType = some ret → meth.locks = false → mR M → VV p l e rm s m args below meth c (MQ below (PostI Γ sk M' r s.heap.size) args s rm.cells rm.slots (Fr Γ sk s.heap.size)) maxL Γ sk M 0 0 0 L0 []) : MetI l y bytes maxL ret rm Γ sk av M M' r := by
  intro sz
  refine Met.ofW (cc := bytes) (maxL := maxL) (ret := some ret) hy rfl ?_
  intro p e s m args below meth c s₁ B hml hp
  refine V_start own hown B hml hp hcat hlen hL fun C hsz hr hlk hM => ?_
  subst hsz
  exact kk p e s m args below meth c C hr hlk hM
theorem MetV_of {l : Launch} {y : MethodName} {bytes : ByteArray} {maxL : Nat} {rm : Room} {Γ : GG} {sk : List SD} {av : List Value} {M M' : Mem} {L0 : List (Nat × Value)} (own : String) (hown : own = y.cls) (hy : plainName y.cls = true) (hcat : av.all (fun v => v.category == 1) = true) (hlen : (lg_sl av).length ≤ maxL) (hL : lv_args 0 av = L0)
    (kk : ∀ (p : Program) (e : Env) (s : State) (m : MethodId) (args : Array Value) (below : List Frame) (meth : Method) (c : Code), CX p s m args c bytes maxL own Γ sk → meth.sig.returnType = none → meth.locks = false → mR M → VV p l e rm s m args below meth c (MQ below (PostV Γ sk M' s.heap.size) args s rm.cells rm.slots (Fr Γ sk s.heap.size)) maxL Γ sk M 0 0 0 L0 []) : MetV l y bytes maxL rm Γ sk av M M' := by
  intro sz
  refine Met.ofW (cc := bytes) (maxL := maxL) (ret := none) hy rfl ?_
  intro p e s m args below meth c s₁ B hml hp
  refine V_start own hown B hml hp hcat hlen hL fun C hsz hr hlk hM => ?_
  subst hsz
  exact kk p e s m args below meth c C hr hlk hM
