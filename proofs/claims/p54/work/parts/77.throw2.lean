/-! methods that throw, second part: their starts and ends; methods with handlers -/
theorem MetXI_of {l : Launch} {y : MethodName} {bytes : ByteArray} {maxL : Nat} {ret : FieldType} {rm : Room} {Γ : GG} {sk : List SD} {av : List Value} {M M' : Mem} {o : Nat × Int} {L0 : List (Nat × Value)} (own : String) (hown : own = y.cls) (hy : plainName y.cls = true) (hcat : av.all (fun v => v.category == 1) = true) (hlen : (lg_sl av).length ≤ maxL) (hL : lv_args 0 av = L0)
    (kk : ∀ (p : Program) (e : Env) (s : State) (m : MethodId) (args : Array Value) (below : List Frame) (meth : Method) (c : Code), CX p s m args c bytes maxL own Γ sk → meth.sig.returnType = some ret → meth.locks = false → (∀ x ∈ c.exceptionTable.toList, False) → mR M → VV p l e rm s m args below meth c (vx_MQ below (PostXI Γ sk M' o s.heap.size) (PostT Γ sk M' o s.heap.size) args s rm.cells rm.slots (Fr Γ sk s.heap.size)) maxL Γ sk M 0 0 0 L0 []) : MetXI l y bytes maxL ret rm Γ sk av M M' o := by
  intro sz
  refine vx_ofW (cc := bytes) (maxL := maxL) (ret := some ret) hy rfl ?_
  intro p e s m args below meth c s₁ B hml hex hp
  refine V_start own hown B hml hp hcat hlen hL fun C hsz hr hlk hM => ?_
  subst hsz
  exact kk p e s m args below meth c C hr hlk hex hM
theorem MetXV_of {l : Launch} {y : MethodName} {bytes : ByteArray} {maxL : Nat} {rm : Room} {Γ : GG} {sk : List SD} {av : List Value} {M M' : Mem} {o : Nat × Int} {L0 : List (Nat × Value)} (own : String) (hown : own = y.cls) (hy : plainName y.cls = true) (hcat : av.all (fun v => v.category == 1) = true) (hlen : (lg_sl av).length ≤ maxL) (hL : lv_args 0 av = L0)
    (kk : ∀ (p : Program) (e : Env) (s : State) (m : MethodId) (args : Array Value) (below : List Frame) (meth : Method) (c : Code), CX p s m args c bytes maxL own Γ sk → meth.sig.returnType = none → meth.locks = false → (∀ x ∈ c.exceptionTable.toList, False) → mR M → VV p l e rm s m args below meth c (vx_MQ below (PostXV Γ sk M' o s.heap.size) (PostT Γ sk M' o s.heap.size) args s rm.cells rm.slots (Fr Γ sk s.heap.size)) maxL Γ sk M 0 0 0 L0 []) : MetXV l y bytes maxL rm Γ sk av M M' o := by
  intro sz
  refine vx_ofW (cc := bytes) (maxL := maxL) (ret := none) hy rfl ?_
  intro p e s m args below meth c s₁ B hml hex hp
  refine V_start own hown B hml hp hcat hlen hL fun C hsz hr hlk hM => ?_
  subst hsz
  exact kk p e s m args below meth c C hr hlk hex hM
section Throw2
variable {p : Program} {l : Launch} {e : Env} {R : Room} {s : State} {m : MethodId} {args : Array Value} {below : List Frame} {meth : Method} {c : Code} {Q : State → Prop}
variable {nL : Nat} {Γ : GG} {sk : List SD} {M : Mem} {cells slots pc : Nat} {L : List (Nat × Value)} {st : List Value} {cc : ByteArray} {own : String}
theorem V_xiret (C : CX p s m args c cc nL own Γ sk) {M' : Mem} {x : Int} {o : Nat × Int} {XC : String → State → State → Prop} (hr : meth.sig.returnType = some .int) (hlk : meth.locks = false) (hx : rng x) (h : some (M, ((0 : Nat), x)) = some (M', o)) (hd : decode cc pc = .ok (.ireturn, 1)) : VV p l e R s m args below meth c (vx_MQ below (PostXI Γ sk M' o s.heap.size) XC args s (tc o) (ts6 o) (Fr Γ sk s.heap.size)) nL Γ sk M 0 0 pc L [vi x] := by
  cases h
  intro H locs ls hP hS hl hM
  exact vx_ret (W.iret C.1 C.2.1 hr (fun t ht hW => ⟨⟨_, (), rfl, ⟨rfl, rfl, hx⟩, by rw [ht]; exact wP_moved hW.alike hP, hM⟩, hS.F ht⟩) hS.2.2 hd hlk)
theorem V_xzret (C : CX p s m args c cc nL own Γ sk) {M' : Mem} {x : Int} {o : Nat × Int} {XC : String → State → State → Prop} (hr : meth.sig.returnType = some .boolean) (hlk : meth.locks = false) (hx : 0 ≤ x ∧ x ≤ 1) (h : some (M, ((0 : Nat), x)) = some (M', o)) (hd : decode cc pc = .ok (.ireturn, 1)) : VV p l e R s m args below meth c (vx_MQ below (PostXI Γ sk M' o s.heap.size) XC args s (tc o) (ts6 o) (Fr Γ sk s.heap.size)) nL Γ sk M 0 0 pc L [vi x] := by
  cases h
  intro H locs ls hP hS hl hM
  exact vx_ret (W.zret C.1 C.2.1 hr (by rcases (show x = 0 ∨ x = 1 by omega) with rfl | rfl <;> rfl) (fun t ht hW => ⟨⟨_, (), rfl, ⟨rfl, rfl, by omega, by omega⟩, by rw [ht]; exact wP_moved hW.alike hP, hM⟩, hS.F ht⟩) hS.2.2 hd hlk)
theorem V_xvret (C : CX p s m args c cc nL own Γ sk) {M' : Mem} {z : Int} {o : Nat × Int} {XC : String → State → State → Prop} (hr : meth.sig.returnType = none) (hlk : meth.locks = false) (h : some (M, ((0 : Nat), z)) = some (M', o)) (hd : decode cc pc = .ok (.return_, 1)) : VV p l e R s m args below meth c (vx_MQ below (PostXV Γ sk M' o s.heap.size) XC args s (tc o) (ts6 o) (Fr Γ sk s.heap.size)) nL Γ sk M 0 0 pc L [] := by
  cases h
  intro H locs ls hP hS hl hM
  exact vx_ret (W.vret C.1 C.2.1 hr (fun t ht hW => ⟨⟨(), rfl, rfl, by rw [ht]; exact wP_moved hW.alike hP, hM⟩, hS.F ht⟩) hS.2.2 hd hlk)
/-- the words of a throw that aren't good ones: what they say follows from the good ones, or stands in the world -/
def vx_bad (E : String) : List Cond := [.castable E E, .declares (Bundle.initS "java/lang/RuntimeException"), .declares (Bundle.initS "java/lang/Exception"), .declares (Bundle.initS Bundle.tN)]
def vx_decW : List Cond := [.instanceMethod (Bundle.initS "java/lang/RuntimeException"), .code (Bundle.initS "java/lang/RuntimeException") Bundle.six 2 none, .instanceMethod (Bundle.initS "java/lang/Exception"), .code (Bundle.initS "java/lang/Exception") Bundle.six 2 none, .instanceMethod (Bundle.initS Bundle.tN), .code (Bundle.initS Bundle.tN) LibCode.Throwable.InitS.code 2 none]
theorem decl_of {x : MethodName} {bytes : ByteArray} {n : Nat} {ret : Option FieldType} {a : Array Value} {U : State} (h1 : (Cond.instanceMethod x).before a U = true) (h2 : (Cond.code x bytes n ret).before a U = true) : (Cond.declares x).before a U = true := by
  obtain ⟨m, meth, hn, hm, hst, -⟩ := Cond.instanceMethod_spec h1
  obtain ⟨meth', c', hm', -, -, -, -, -, -, hsig⟩ := Cond.code_spec hn h2
  cases hm.symm.trans hm'
  show (Cond.declares x).holds _ _ _ _ _ = true
  simp [Cond.holds, Cond.value, hn, hm, hst, hsig]
theorem vx_badT (E : String) : ∀ w ∈ vx_bad E, vx_ot w = true := by
  intro w hw
  simp only [vx_bad, List.mem_cons, List.not_mem_nil, or_false] at hw
  rcases hw with rfl | rfl | rfl | rfl <;> rfl
theorem vx_badOK (C : CX p s m args c cc nL own Γ sk) (hdec : ∀ w ∈ vx_decW, w ∈ wsA) {E : String} (hc : va_Nw (.castable E E) s) : ∀ w ∈ vx_bad E, w.before args s = true := by
  have hw0 : ∀ w ∈ vx_decW, w.before args s = true := fun w hw => C.2.2.2.2.1 _ (hdec w hw)
  intro w hw
  simp only [vx_bad, List.mem_cons, List.not_mem_nil, or_false] at hw
  rcases hw with rfl | rfl | rfl | rfl
  · exact va_Nw.use rfl hc
  · exact decl_of (hw0 (.instanceMethod (Bundle.initS "java/lang/RuntimeException")) (by simp [vx_decW])) (hw0 (.code (Bundle.initS "java/lang/RuntimeException") Bundle.six 2 none) (by simp [vx_decW]))
  · exact decl_of (hw0 (.instanceMethod (Bundle.initS "java/lang/Exception")) (by simp [vx_decW])) (hw0 (.code (Bundle.initS "java/lang/Exception") Bundle.six 2 none) (by simp [vx_decW]))
  · exact decl_of (hw0 (.instanceMethod (Bundle.initS Bundle.tN)) (by simp [vx_decW])) (hw0 (.code (Bundle.initS Bundle.tN) LibCode.Throwable.InitS.code 2 none) (by simp [vx_decW]))
/-- throw new E("text"), the text by a wide index -/
theorem V_throwW (C : CX p s m args c cc nL own Γ sk) (hl9 : l.stackTraces = false) {ik is ic q j : Nat} {text : String} {M' : Mem} {o : Nat × Int} {Qc : Array Value → State → Outcome → State → Prop} (h : some (M, (j + 1, (0 : Int))) = some (M', o)) (hj : exN (j + 1) ∈ castL) (hlk9 : Cond.classLink own ik (exN (j + 1)) ∈ wsA) (hini : Cond.initialized (exN (j + 1)) ∈ wsA) (hstr : (own, is, text, q) ∈ strL)
    (hat : ∀ w ∈ (vx_atS own ic (exN (j + 1)) exW).filter goodWord, w ∈ wsA) (hbad : ∀ w ∈ (vx_atS own ic (exN (j + 1)) exW).filter (fun w => !goodWord w), w ∈ vx_bad (exN (j + 1))) (hdec : ∀ w ∈ vx_decW, w ∈ wsA) (hfit : Bundle.fit (exN (j + 1)) = true)
    (hex : ∀ x ∈ c.exceptionTable.toList, False) (hlk : meth.locks = false) (hR : 5 < R.frames ∧ 90 ≤ R.locals) (hRc : R.cells = tc o ∧ R.slots = ts6 o)
    (d0 : decode cc pc = .ok (.new ik, 3)) (d3 : decode cc (pc + 3) = .ok (.dup, 1)) (d4 : decode cc (pc + 4) = .ok (.ldc_w is, 3)) (d7 : decode cc (pc + 7) = .ok (.invokespecial ic, 3)) (d10 : decode cc (pc + 10) = .ok (.athrow, 1)) :
    VV p l e R s m args below meth c (vx_MQ below Qc (PostT Γ sk M' o s.heap.size) args s (tc o) (ts6 o) (Fr Γ sk s.heap.size)) nL Γ sk M 0 0 pc L [] := by
  cases h
  intro H locs ls hP hS hl hMr
  have hJ := C.2.2.2.2.2.2.2.2.2.2.2.2
  have hg1 : ∀ w ∈ wsA, vx_ot w = true := fun w hw => by
    unfold vx_ot
    rw [(List.mem_filter.mp hw).2, Bool.or_true]
  refine vx_throwSW C.1 C.2.1 hl9 (names := exW) (A := Fr Γ sk s.heap.size) C.2.2.2.1 hfit (by decide +kernel) (C.2.2.2.2.1 _ hlk9) (C.2.2.2.2.1 _ hini) (C.2.2.2.2.2.2.2.2.2.2.2.1 _ hstr) (vx_hat (B := vx_bad (exN (j + 1))) (fun w hw => C.2.2.2.2.1 _ (hat w hw)) hbad (vx_badOK C hdec (hJ.2.2.2.2.1 _ hj))) ?_ hJ.2.2.1 hJ.2.2.2.1 hS (hl.1.1.trans C.2.2.1.symm) d0 d3 d4 d7 d10 (fun x hx => (hex x hx).elim) ?_ ?_ ?_ ?_ hlk (fun t hvm hz hk => ⟨(), Nat.succ_ne_zero j, ⟨rfl, ?_, hMr⟩, ?_⟩) hS.2.2 (Nat.le_refl 1) (Nat.le_refl 6)
  · intro w hw
    rcases List.mem_cons.mp hw with rfl | hw
    · exact hg1 _ hlk9
    · rcases List.mem_cons.mp hw with rfl | hw
      · exact hg1 _ hini
      · by_cases g : goodWord w = true
        · unfold vx_ot
          rw [g, Bool.or_true]
        · have : w ∈ (vx_atS own ic (exN (j + 1)) exW).filter (fun w => !goodWord w) := List.mem_filter.mpr ⟨hw, by
            show (!goodWord w) = true
            cases hgw : goodWord w
            · rfl
            · exact absurd hgw g⟩
          exact vx_badT _ _ (hbad w this)
  · exact hR.1
  · have := hR.2
    show (([] : List Value).map fun v => v.category).sum + (13 * (2 + 1) + 43) ≤ R.locals
    simp
    omega
  · rw [hRc.1]; exact Nat.le_refl 1
  · rw [hRc.2]; exact Nat.le_refl 6
  · exact wP_moved hvm (fun k d hk9 => cOK_kept (hP k d hk9) (hk _ (by
      have h9 := hP k d hk9
      cases d with
      | inl q =>
        obtain ⟨cell, h1, -⟩ := h9
        exact (Array.getElem?_eq_some_iff.mp h1).1
      | inr q =>
        obtain ⟨r, -, cell, h1, -⟩ := h9
        exact (Array.getElem?_eq_some_iff.mp h1).1)))
  · exact ⟨Nat.le_trans hS.1 hz, fun q hq hq2 => by rw [hk q (Nat.lt_of_lt_of_le hq hS.1)]; exact hS.2.1 q hq hq2⟩
/-! methods with handlers, that answer -/
abbrev noX : String → State → State → Prop := vx_X (S := Unit) (fun _ => False) (fun _ _ _ => False) (fun _ => False)
def MetH (l : Launch) (y : MethodName) (bytes : ByteArray) (maxL : Nat) (ret : FieldType) (hh : List (Nat × Nat × Nat × Nat)) (rm : Room) (Γ : GG) (sk : List SD) (av : List Value) (M M' : Mem) (r : Int) : Prop :=
  ∀ sz, vx_Met l y (Cond.codeWith y bytes maxL (some ret) hh :: wsA) rm (PreW Γ sk av M sz) (PostI Γ sk M' r sz) noX rm.cells rm.slots (Fr Γ sk sz)
theorem V_startH {y : MethodName} {bytes : ByteArray} {maxL : Nat} {ret : Option FieldType} {hh : List (Nat × Nat × Nat × Nat)} {rm : Room} {av : List Value} {sz : Nat} {s₁ : State} {L0 : List (Nat × Value)} (own : String) (hown : own = y.cls) (B : BodyLoose p l y (headSpec (Cond.codeWith y bytes maxL ret hh :: wsA) rm) bytes maxL ret e s m args below meth c s₁) (hml : c.maxLocals = maxL) (hp : PreW Γ sk av M sz args s) (hcat : av.all (fun v => v.category == 1) = true) (hlen : (lg_sl av).length ≤ maxL) (hL : lv_args 0 av = L0)
    (kk : CX p s m args c bytes maxL own Γ sk → s.heap.size = sz → meth.sig.returnType = ret → meth.locks = false → c.exceptionTable.toList = tableOf hh → mR M → VV p l e rm s m args below meth c Q maxL Γ sk M 0 0 0 L0 []) : W p l e (headSpec (Cond.codeWith y bytes maxL ret hh :: wsA) rm).room s m args below meth c s.heap [] 0 0 Q (entryFrame m args maxL) := by
  subst hL
  obtain ⟨rfl, h1, h2, h3, h4⟩ := hp
  have hts0 := atoms_spec (ws := Cond.codeWith y bytes maxL ret hh :: wsA) B.pre
  have hts : ∀ w ∈ wsA, w.before av.toArray s = true := fun w hw => hts0 w (List.mem_cons_of_mem _ hw)
  have hc : s.vm.findClass y.cls = some m.cls := findClass_of_methodNamed B.named
  have hl := lv_entry av (n := maxL) hlen
  have ht := vx_table (x := y) B (hts0 _ List.mem_cons_self)
  rw [lg_entry_eq]
  exact kk ⟨B.exec, B.bytes, hml, by rw [hown]; exact hc, hts, h4⟩ h1 B.returns B.notSynchronized ht h3 s.heap [] _ h2 va_S.rf ⟨hl, (nod_args av 0 hcat).1, fun q hq => ((nod_args av 0 hcat).2 q hq).2⟩ h3
theorem V_hiret (C : CX p s m args c cc nL own Γ sk) {M' : Mem} {x r : Int} {mc ms : Nat} {XC : String → State → State → Prop} (hr : meth.sig.returnType = some .int) (hlk : meth.locks = false) (hx : rng x) (h : some (M, x) = some (M', r)) (hd : decode cc pc = .ok (.ireturn, 1)) : VV p l e R s m args below meth c (vx_MQ below (PostI Γ sk M' r s.heap.size) XC args s mc ms (Fr Γ sk s.heap.size)) nL Γ sk M mc ms pc L [vi x] := by
  cases h
  intro H locs ls hP hS hl hM
  exact vx_ret (W.iret C.1 C.2.1 hr (fun t ht hW => ⟨⟨_, (), rfl, ⟨rfl, hx⟩, by rw [ht]; exact wP_moved hW.alike hP, hM⟩, hS.F ht⟩) hS.2.2 hd hlk)
/-- a caught exception is put aside -/
theorem V_astoreX (C : CX p s m args c cc nL own Γ sk) {i a : Nat} {L' : List (Nat × Value)} (hL : stL i (.ref a) L = L') (hn : i < nL) (hd : decode cc pc = .ok (.astore i, 2)) (k : VV p l e R s m args below meth c Q nL Γ sk M cells slots (pc + 2) L' st) : VV p l e R s m args below meth c Q nL Γ sk M cells slots pc L (.ref a :: st) := V_astore C hL hn hd k
/-- a call of a method with handlers, that answers -/
def CalH (y : MethodName) (bytes : ByteArray) (maxL : Nat) (ret : Option FieldType) (hh : List (Nat × Nat × Nat × Nat)) (n : Nat) : Prop :=
  Cond.static y ∈ wsA ∧ Cond.initialized y.cls ∈ wsA ∧ Cond.codeWith y bytes maxL ret hh ∈ wsA ∧ (y.cls ≠ "java/lang/invoke/MethodHandle" ∧ y.cls ≠ "java/lang/invoke/VarHandle" ∧ (parseMethodDescriptor y.desc).map (fun d => d.parameters.length) = some n)
theorem V_callH (C : CX p s m args c cc nL own Γ sk) {y : MethodName} {bytes : ByteArray} {maxL n index : Nat} {ret : FieldType} {hh : List (Nat × Nat × Nat × Nat)} {rm : Room} {As st0 : List Value} {M1 : Mem} {r : Int}
    (hM : MetH l y bytes maxL ret hh rm Γ sk As M M1 r) (hF : CalH y bytes maxL (some ret) hh n) (hlink : Cond.methodLink own index y ∈ wsA) (h0 : rm.cells = 1 ∧ rm.slots = 6) (hR : rm.frames + 1 ≤ R.frames ∧ 8 + (maxL + 11) + rm.locals ≤ R.locals) (hn : As.length = n) (hst : (st.map fun v => v.category).sum ≤ 8) (hf : cells + 1 ≤ R.cells ∧ slots + 6 ≤ R.slots) (hs0 : As.reverse ++ st = st0) (hd : decode cc pc = .ok (.invokestatic index, 3))
    (kk : rng r → VV p l e R s m args below meth c Q nL Γ sk M1 (cells + 1) (slots + 6) (pc + 3) L (vi r :: st)) : VV p l e R s m args below meth c Q nL Γ sk M cells slots pc L st0 := by
  subst hs0
  intro H locs ls hP hS hl hMr
  have hM' := hM H.size
  rw [h0.1, h0.2] at hM'
  obtain ⟨f1, f2, f3, f4⟩ := hF
  have hrun := vx_runSX (hh := hh) (cells := cells) (slots := slots) (locs := locs) (H := H) (below := below) (e := e) (meth := meth) (R := R) (g := F0 m pc ls (As.reverse ++ st)) (rest := st) (index := index) (n := n) (nL := nL) (cc := cc) (Ts := wsA) ⟨C.1, C.2.1, C.2.2.1, C.2.2.2.1, C.2.2.2.2.1⟩ hM' (vx_cwSW n C.2.2.2.2.1 (goodIn_app (a := [.methodLink own index y, .static y, .initialized y.cls]) ?_ (goodA f3)) rfl h0.1 h0.2 f4 hR) ⟨PreW_blind, V_pre C hP hS hMr⟩ rfl hn hl.1.1 rfl (lv_room hst) hd hf
  · refine vx_calli hrun hS (fun q _ h => Fr_mono hS.1 h) (fun q h => Fr_mono hS.1 h) (fun q hq h => h.elim) (fun E ce q9 u t H1 locs1 ht hvm hpx hBX hz1 hk1 hS1 hc9 hv9 hf9 => hpx.elim) (fun r' u t H1 locs1 ht hvm hw hB hz1 hk1 hS1 => ?_)
    obtain ⟨rfl, hrr⟩ := hw
    rw [ht] at hB
    exact kk hrr H1 locs1 ls (wP_moved hvm.symm hB.1) hS1 hl hB.2
  · intro w hw
    have h2 : w ∈ wsA := by
      simp only [List.mem_cons, List.not_mem_nil, or_false] at hw
      rcases hw with rfl | rfl | rfl
      · exact hlink
      · exact f1
      · exact f2
    exact ⟨h2, good_of_word (List.mem_filter.mp h2).2⟩
end Throw2
theorem MetH_of {l : Launch} {y : MethodName} {bytes : ByteArray} {maxL : Nat} {ret : FieldType} {hh : List (Nat × Nat × Nat × Nat)} {rm : Room} {Γ : GG} {sk : List SD} {av : List Value} {M M' : Mem} {r : Int} {L0 : List (Nat × Value)} (own : String) (hown : own = y.cls) (hy : plainName y.cls = true) (hcat : av.all (fun v => v.category == 1) = true) (hlen : (lg_sl av).length ≤ maxL) (hL : lv_args 0 av = L0)
    (kk : ∀ (p : Program) (e : Env) (s : State) (m : MethodId) (args : Array Value) (below : List Frame) (meth : Method) (c : Code), CX p s m args c bytes maxL own Γ sk → meth.sig.returnType = some ret → meth.locks = false → c.exceptionTable.toList = tableOf hh → mR M → VV p l e rm s m args below meth c (vx_MQ below (PostI Γ sk M' r s.heap.size) noX args s rm.cells rm.slots (Fr Γ sk s.heap.size)) maxL Γ sk M 0 0 0 L0 []) : MetH l y bytes maxL ret hh rm Γ sk av M M' r := by
  intro sz
  refine vx_ofWH (cc := bytes) (maxL := maxL) (ret := some ret) (hh := hh) hy rfl ?_
  intro p e s m args below meth c s₁ B hml hp
  refine V_startH own hown B hml hp hcat hlen hL fun C hsz hr hlk ht hM => ?_
  subst hsz
  exact kk p e s m args below meth c C hr hlk ht hM

