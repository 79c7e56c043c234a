/-! calls and ends in worlds that grow; System.arraycopy over rows of bytes -/
abbrev UG : Type := GG × (List SD × Mem)
abbrev UR : Type := GG × (List SD × (Mem × Nat))
def PostGV (Γ : GG) (sk : List SD) (P : GG → List SD → Mem → Prop) (sz : Nat) : Array Value → State → Outcome → State → Prop := va_Qv (S := UG) (fun _ => True) (fun u t => Grw Γ u.1 sk u.2.1 sz ∧ ClS u.2.1 ∧ wP u.1 u.2.1 t t.heap u.2.2 ∧ mR u.2.2 ∧ P u.1 u.2.1 u.2.2) (Fr Γ sk sz)
def PostGR (Γ : GG) (sk : List SD) (P : GG → List SD → Mem → Nat → Prop) (sz : Nat) : Array Value → State → Outcome → State → Prop := va_Qr (S := UR) (fun _ => True) (fun u a t => a = gA u.1 u.2.2.2 ∧ Grw Γ u.1 sk u.2.1 sz ∧ ClS u.2.1 ∧ wP u.1 u.2.1 t t.heap u.2.2.1 ∧ mR u.2.2.1 ∧ P u.1 u.2.1 u.2.2.1 u.2.2.2) (Fr Γ sk sz)
def MetGV (l : Launch) (y : MethodName) (bytes : ByteArray) (maxL : Nat) (rm : Room) (Γ : GG) (sk : List SD) (av : List Value) (M : Mem) (P : GG → List SD → Mem → Prop) : Prop :=
  ∀ sz, Met l y (Cond.code y bytes maxL none :: wsA) rm (PreW Γ sk av M sz) (PostGV Γ sk P sz) rm.cells rm.slots (Fr Γ sk sz)
def MetGR (l : Launch) (y : MethodName) (bytes : ByteArray) (maxL : Nat) (ret : FieldType) (rm : Room) (Γ : GG) (sk : List SD) (av : List Value) (M : Mem) (P : GG → List SD → Mem → Nat → Prop) : Prop :=
  ∀ sz, Met l y (Cond.code y bytes maxL (some ret) :: wsA) rm (PreW Γ sk av M sz) (PostGR Γ sk P sz) rm.cells rm.slots (Fr Γ sk sz)
/-- a call's room -/
def RmF (R : Room) (cells slots maxL : Nat) (rm : Room) : Prop := (rm.frames + 1 ≤ R.frames ∧ 8 + (maxL + 11) + rm.locals ≤ R.locals) ∧ cells + rm.cells ≤ R.cells ∧ slots + rm.slots ≤ R.slots
section GCall
variable {p : Program} {l : Launch} {e : Env} {R : Room} {s : State} {m : MethodId} {args : Array Value} {below : List Frame} {meth : Method} {c : Code} {Q : State → Prop}
variable {nL : Nat} {Γ : GG} {sk : List SD} {M : Mem} {cells slots pc : Nat} {L : List (Nat × Value)} {st : List Value} {cc : ByteArray} {own : String}
theorem V_backGV (C : CX p s m args c cc nL own Γ sk) (h300 : 298 ≤ sk.length) {P : GG → List SD → Mem → Prop} {mc ms : Nat} {a : Array Value} {H : Heap} {locs : List Loc} {ls : Array Slot} {st0 : List Value} (hr : va_Run p l e R s m args below meth c H locs cells slots mc ms (F0 m pc ls st0) st (PostGV Γ sk P H.size a) (Fr Γ sk H.size)) (hS : va_S (Fr Γ sk s.heap.size) s.heap H locs) (hl : lvs ls nL L)
    (kk : ∀ (Γ' : GG) (sk' : List SD) (M' : Mem), Grw Γ Γ' sk sk' s.heap.size → ClS sk' → P Γ' sk' M' → CX p s m args c cc nL own Γ' sk' → VV p l e R s m args below meth c Q nL Γ' sk' M' (cells + mc) (slots + ms) (pc + 3) L st) : W p l e R s m args below meth c H locs cells slots Q (F0 m pc ls st0) :=
  va_callv hr hS (fun q _ h => Fr_mono hS.1 h) (fun q h => Fr_mono hS.1 h) (fun u t H1 locs1 ht hvm hw hB hz1 hk1 hS1 => by
    obtain ⟨g1, g2, g3, g4, g5⟩ := hB
    rw [ht] at g3
    have g := g1.less hS.1
    exact kk u.1 u.2.1 u.2.2 g g2 g5 (CX_grow C g h300) H1 locs1 ls (wP_moved hvm.symm g3) (S_up g hS1) hl g4)
theorem V_backGR (C : CX p s m args c cc nL own Γ sk) (h300 : 298 ≤ sk.length) {P : GG → List SD → Mem → Nat → Prop} {mc ms : Nat} {a : Array Value} {H : Heap} {locs : List Loc} {ls : Array Slot} {st0 : List Value} (hr : va_Run p l e R s m args below meth c H locs cells slots mc ms (F0 m pc ls st0) st (PostGR Γ sk P H.size a) (Fr Γ sk H.size)) (hS : va_S (Fr Γ sk s.heap.size) s.heap H locs) (hl : lvs ls nL L)
    (kk : ∀ (Γ' : GG) (sk' : List SD) (M' : Mem) (k : Nat), Grw Γ Γ' sk sk' s.heap.size → ClS sk' → P Γ' sk' M' k → CX p s m args c cc nL own Γ' sk' → VV p l e R s m args below meth c Q nL Γ' sk' M' (cells + mc) (slots + ms) (pc + 3) L (vr Γ' k :: st)) : W p l e R s m args below meth c H locs cells slots Q (F0 m pc ls st0) :=
  va_callr hr hS (fun q _ h => Fr_mono hS.1 h) (fun q h => Fr_mono hS.1 h) (fun u ra t H1 locs1 ht hvm hw hB hz1 hk1 hS1 => by
    obtain ⟨g0, g1, g2, g3, g4, g5⟩ := hB
    rw [ht] at g3
    subst g0
    have g := g1.less hS.1
    exact kk u.1 u.2.1 u.2.2.1 u.2.2.2 g g2 g5 (CX_grow C g h300) H1 locs1 ls (wP_moved hvm.symm g3) (S_up g hS1) hl g4)
theorem V_gvret {Γ0 : GG} {sk0 : List SD} (C : CX p s m args c cc nL own Γ sk) {P : GG → List SD → Mem → Prop} {mc ms : Nat} (hr : meth.sig.returnType = none) (hlk : meth.locks = false) (hG : Grw Γ0 Γ sk0 sk s.heap.size) (hcl : ClS sk) (hp : P Γ sk M) (hd : decode cc pc = .ok (.return_, 1)) : VV p l e R s m args below meth c (MQ below (PostGV Γ0 sk0 P s.heap.size) args s mc ms (Fr Γ0 sk0 s.heap.size)) nL Γ sk M mc ms pc L [] := by
  intro H locs ls hP hS hl hM
  exact W.vret C.1 C.2.1 hr (fun t ht hW => ⟨⟨(Γ, sk, M), rfl, trivial, hG, hcl, by rw [ht]; exact wP_moved hW.alike hP, hM, hp⟩, (S_down hG hS).F ht⟩) (S_down hG hS).2.2 hd hlk
theorem V_grret {Γ0 : GG} {sk0 : List SD} (C : CX p s m args c cc nL own Γ sk) {P : GG → List SD → Mem → Nat → Prop} {mc ms k : Nat} {rt : FieldType} (hr : meth.sig.returnType = some rt) (hrt : (∃ n, rt = .object n) ∨ ∃ t, rt = .array t) (hlk : meth.locks = false) (hG : Grw Γ0 Γ sk0 sk s.heap.size) (hcl : ClS sk) (hp : P Γ sk M k) (hd : decode cc pc = .ok (.areturn, 1)) : VV p l e R s m args below meth c (MQ below (PostGR Γ0 sk0 P s.heap.size) args s mc ms (Fr Γ0 sk0 s.heap.size)) nL Γ sk M mc ms pc L [vr Γ k] := by
  intro H locs ls hP hS hl hM
  exact W.aret C.1 C.2.1 hr hrt (Or.inr ⟨_, rfl⟩) (fun t ht hW => ⟨⟨(Γ, sk, M, k), _, rfl, trivial, rfl, hG, hcl, by rw [ht]; exact wP_moved hW.alike hP, hM, hp⟩, (S_down hG hS).F ht⟩) (S_down hG hS).2.2 hd hlk
/-- the four ways to call, as runs -/
theorem V_goV (C : CX p s m args c cc nL own Γ sk) {y : MethodName} {bytes : ByteArray} {maxL n index k ci : Nat} {ret : Option FieldType} {rm : Room} {As : List Value} {Qc : Array Value → State → Outcome → State → Prop} {fs : List (Option Nat)} {q : vw_C} {H : Heap} {locs : List Loc} {ls : Array Slot}
    (hM : Met l y (Cond.code y bytes maxL ret :: wsA) rm (PreW Γ sk (vr Γ k :: As) M H.size) Qc rm.cells rm.slots (Fr Γ sk H.size)) (hF : CalV y bytes maxL ret n) (hlink : Cond.methodLink own index y ∈ wsA) (hR : RmF R cells slots maxL rm)
    (hk : sk[k]? = some (.inr (ci, fs))) (hc : vwCl[ci]? = some q) (hcq : q.1 = y.cls) (hn : As.length = n) (hst : (st.map fun v => v.category).sum ≤ 8) (hd : decode cc pc = .ok (.invokevirtual index, 3))
    (hP : wP Γ sk s H M) (hS : va_S (Fr Γ sk s.heap.size) s.heap H locs) (hl : lvs ls nL L) (hMr : mR M) :
    va_Run p l e R s m args below meth c H locs cells slots rm.cells rm.slots (F0 m pc ls (As.reverse ++ vr Γ k :: st)) st (Qc (vr Γ k :: As).toArray) (Fr Γ sk H.size) :=
  V_runV C hM hF hlink ⟨rfl, rfl⟩ hR.1 hk hc hcq hn hst hR.2 hd hP hS hl hMr
/-- a method named by an inherited reference x, run as y -/
def CalU (x y : MethodName) (bytes : ByteArray) (maxL : Nat) (ret : Option FieldType) (n : Nat) : Prop :=
  Cond.sameMethod x.cls x.cls x.name x.desc ∈ wsA ∧ (Cond.instanceMethod x ∈ wsA ∧ ∃ b0 m0 r0, Cond.code x b0 m0 r0 ∈ wsA) ∧ Cond.instanceMethod y ∈ wsA ∧ Cond.initialized y.cls ∈ wsA ∧ Cond.code y bytes maxL ret ∈ wsA ∧ (x.cls ≠ "java/lang/invoke/MethodHandle" ∧ x.cls ≠ "java/lang/invoke/VarHandle") ∧ (parseMethodDescriptor x.desc).map (fun d => d.parameters.length) = some n
theorem V_goU (C : CX p s m args c cc nL own Γ sk) {x y : MethodName} {bytes : ByteArray} {maxL n index k ci : Nat} {ret : Option FieldType} {rm : Room} {As : List Value} {Qc : Array Value → State → Outcome → State → Prop} {fs : List (Option Nat)} {q : vw_C} {H : Heap} {locs : List Loc} {ls : Array Slot}
    (hM : Met l y (Cond.code y bytes maxL ret :: wsA) rm (PreW Γ sk (vr Γ k :: As) M H.size) Qc rm.cells rm.slots (Fr Γ sk H.size)) (hF : CalU x y bytes maxL ret n) (hlink : Cond.methodLink own index x ∈ wsA) (hsel : (Cond.selects q.1 x y).before args s = true) (hR : RmF R cells slots maxL rm)
    (hk : sk[k]? = some (.inr (ci, fs))) (hc : vwCl[ci]? = some q) (hn : As.length = n) (hst : (st.map fun v => v.category).sum ≤ 8) (hd : decode cc pc = .ok (.invokevirtual index, 3))
    (hP : wP Γ sk s H M) (hS : va_S (Fr Γ sk s.heap.size) s.heap H locs) (hl : lvs ls nL L) (hMr : mR M) :
    va_Run p l e R s m args below meth c H locs cells slots rm.cells rm.slots (F0 m pc ls (As.reverse ++ vr Γ k :: st)) st (Qc (vr Γ k :: As).toArray) (Fr Γ sk H.size) := by
  obtain ⟨f1, ⟨f2, b0, m0, r0, f3⟩, f4, f5, f6, f7, f8⟩ := hF
  have ht := C.2.2.2.2.1
  refine va_runU (C := q.1) (owner := x.cls) ⟨C.1, C.2.1, C.2.2.1, C.2.2.2.1, C.2.2.2.2.1⟩ hM ⟨⟨rfl, rfl, hR.1.1, hR.1.2, pay_in ht (goodA f6), List.mem_cons_self⟩, ht _ f6, ht _ f5, f7, fun sig h => ?_, ht _ hlink, ht _ f1, va_Decl.of (ht _ f2) (ht _ f3), hsel, ht _ f4⟩ ⟨PreW_blind, V_recv C hP hk hc, V_pre C hP hS hMr⟩ rfl hn hl.1.1 rfl (lv_room hst) hd hR.2
  rw [h] at f8
  exact (Option.some.inj f8).symm
/-- super.y(..) -/
def CalSu (y : MethodName) (own : String) (bytes : ByteArray) (maxL : Nat) (ret : Option FieldType) (n : Nat) : Prop :=
  Cond.sameMethod y.cls y.cls y.name y.desc ∈ wsA ∧ Cond.superclass own y.cls ∈ wsA ∧ Cond.instanceMethod y ∈ wsA ∧ Cond.initialized y.cls ∈ wsA ∧ Cond.code y bytes maxL ret ∈ wsA ∧ (y.name ≠ "<init>" ∧ (parseMethodDescriptor y.desc).map (fun d => d.parameters.length) = some n)
theorem V_goSu (C : CX p s m args c cc nL own Γ sk) {y : MethodName} {bytes : ByteArray} {maxL n index k ci : Nat} {ret : Option FieldType} {rm : Room} {As : List Value} {Qc : Array Value → State → Outcome → State → Prop} {fs : List (Option Nat)} {q : vw_C} {H : Heap} {locs : List Loc} {ls : Array Slot}
    (hM : Met l y (Cond.code y bytes maxL ret :: wsA) rm (PreW Γ sk (vr Γ k :: As) M H.size) Qc rm.cells rm.slots (Fr Γ sk H.size)) (hF : CalSu y own bytes maxL ret n) (hlink : Cond.methodLink own index y ∈ wsA) (hR : RmF R cells slots maxL rm)
    (hk : sk[k]? = some (.inr (ci, fs))) (hc : vwCl[ci]? = some q) (hn : As.length = n) (hst : (st.map fun v => v.category).sum ≤ 8) (hd : decode cc pc = .ok (.invokespecial index, 3))
    (hP : wP Γ sk s H M) (hS : va_S (Fr Γ sk s.heap.size) s.heap H locs) (hl : lvs ls nL L) (hMr : mR M) :
    va_Run p l e R s m args below meth c H locs cells slots rm.cells rm.slots (F0 m pc ls (As.reverse ++ vr Γ k :: st)) st (Qc (vr Γ k :: As).toArray) (Fr Γ sk H.size) := by
  obtain ⟨f1, f2, f3, f4, f5, f6, f7⟩ := hF
  have ht := C.2.2.2.2.1
  obtain ⟨hSl, hfc, kC, hkC, hkind⟩ := C.2.2.2.2.2.1.1 ci _ hc
  refine va_runSU (C := q.1) ⟨hfc, kC, hkC, hkind⟩ ⟨C.1, C.2.1, C.2.2.1, C.2.2.2.1, C.2.2.2.2.1⟩ hM ⟨⟨rfl, rfl, hR.1.1, hR.1.2, pay_in ht (goodA f5), List.mem_cons_self⟩, ht _ hlink, ht _ f1, ht _ f2, ht _ f3, ht _ f4, ht _ f5, f6, fun sig h => ?_⟩ ⟨PreW_blind, V_recv C hP hk hc, V_pre C hP hS hMr⟩ rfl hn hl.1.1 rfl (lv_room hst) hd hR.2
  rw [h] at f7
  exact (Option.some.inj f7).symm
theorem V_goS (C : CX p s m args c cc nL own Γ sk) {y : MethodName} {bytes : ByteArray} {maxL n index : Nat} {ret : Option FieldType} {rm : Room} {As : List Value} {Qc : Array Value → State → Outcome → State → Prop} {H : Heap} {locs : List Loc} {ls : Array Slot}
    (hM : Met l y (Cond.code y bytes maxL ret :: wsA) rm (PreW Γ sk As M H.size) Qc rm.cells rm.slots (Fr Γ sk H.size)) (hF : CalS y bytes maxL ret n) (hlink : Cond.methodLink own index y ∈ wsA) (hR : RmF R cells slots maxL rm)
    (hn : As.length = n) (hst : (st.map fun v => v.category).sum ≤ 8) (hd : decode cc pc = .ok (.invokestatic index, 3))
    (hP : wP Γ sk s H M) (hS : va_S (Fr Γ sk s.heap.size) s.heap H locs) (hl : lvs ls nL L) (hMr : mR M) :
    va_Run p l e R s m args below meth c H locs cells slots rm.cells rm.slots (F0 m pc ls (As.reverse ++ st)) st (Qc As.toArray) (Fr Γ sk H.size) :=
  V_runS C hM hF hlink ⟨rfl, rfl⟩ hR.1 hn hst hR.2 hd hP hS hl hMr
/-- a constructor's call -/
def CalJ (y : MethodName) (bytes : ByteArray) (maxL n : Nat) : Prop :=
  Cond.instanceMethod y ∈ wsA ∧ Cond.initialized y.cls ∈ wsA ∧ Cond.code y bytes maxL none ∈ wsA ∧ y.name = "<init>" ∧ (y.cls ≠ "java/lang/invoke/MethodHandle" ∧ y.cls ≠ "java/lang/invoke/VarHandle" ∧ (parseMethodDescriptor y.desc).map (fun d => d.parameters.length) = some n)
theorem V_goI (C : CX p s m args c cc nL own Γ sk) {y : MethodName} {bytes : ByteArray} {maxL n index k : Nat} {rm : Room} {As : List Value} {Qc : Array Value → State → Outcome → State → Prop} {H : Heap} {locs : List Loc} {ls : Array Slot}
    (hM : Met l y (Cond.code y bytes maxL none :: wsA) rm (PreW Γ sk (vr Γ k :: As) M H.size) Qc rm.cells rm.slots (Fr Γ sk H.size)) (hF : CalJ y bytes maxL n) (hlink : Cond.methodLink own index y ∈ wsA) (hR : RmF R cells slots maxL rm)
    (hn : As.length = n) (hst : (st.map fun v => v.category).sum ≤ 8) (hd : decode cc pc = .ok (.invokespecial index, 3))
    (hP : wP Γ sk s H M) (hS : va_S (Fr Γ sk s.heap.size) s.heap H locs) (hl : lvs ls nL L) (hMr : mR M) :
    va_Run p l e R s m args below meth c H locs cells slots rm.cells rm.slots (F0 m pc ls (As.reverse ++ vr Γ k :: st)) st (Qc (vr Γ k :: As).toArray) (Fr Γ sk H.size) := by
  obtain ⟨f1, f2, f3, f4, f5⟩ := hF
  exact va_runI ⟨C.1, C.2.1, C.2.2.1, C.2.2.2.1, C.2.2.2.2.1⟩ hM (cwI n C.2.2.2.2.1 (goodA f3) rfl rfl rfl (C.2.2.2.2.1 _ f2) (C.2.2.2.2.1 _ hlink) (C.2.2.2.2.1 _ f1) f4 f5 hR.1) ⟨PreW_blind, V_pre C hP hS hMr⟩ rfl hn hl.1.1 rfl (lv_room hst) hd hR.2
/-- rows of bytes copied -/
def cpM (M : Mem) (k1 : Nat) (f0 : Nat → Int) (sp dp n : Nat) : Mem := fun q i => if q = k1 ∧ dp ≤ i ∧ i < dp + n then f0 (sp + (i - dp)) else M q i
theorem fitB {x : Int} (h : -128 ≤ x ∧ x ≤ 127) : fits .byte (vi x) = true := by
  have hx : rng x := ⟨by omega, by omega⟩
  have h1 : (-128 : Int32) ≤ i32 x := by
    have := (i32_le (x := -128) (y := x) (by decide) hx).mpr h.1
    exact this
  have h2 : i32 x ≤ (127 : Int32) := by
    have := (i32_le (x := x) (y := 127) hx (by decide)).mpr h.2
    exact this
  show (decide ((-128 : Int32) ≤ i32 x) && decide (i32 x ≤ (127 : Int32))) = true
  rw [decide_eq_true h1, decide_eq_true h2]
  rfl
theorem copy_core (C : CX p s m args c cc nL own Γ sk) {index k1 n1 a0 n0 : Nat} {f0 : Nat → Int} {sp dp n : Int} (hk1 : sk[k1]? = some (.inl (2, n1))) (h3 : 3 ≤ k1) (hlink : Cond.methodLink own index arraycopyName ∈ wsA) (hw : Cond.native arraycopyName ∈ wsA ∧ Cond.static arraycopyName ∈ wsA ∧ Cond.initialized "java/lang/System" ∈ wsA) (hR : 1 ≤ R.frames ∧ 200 ≤ R.locals) (hst : (st.map fun v => v.category).sum ≤ 8) (h1 : 0 ≤ sp ∧ 0 ≤ dp ∧ 0 ≤ n) (h4 : sp + n ≤ n0) (h5 : dp + n ≤ n1) (hr : rng sp ∧ rng dp ∧ rng n) (hb : ∀ j : Nat, j < n0 → -128 ≤ f0 j ∧ f0 j ≤ 127) (hd : decode cc pc = .ok (.invokestatic index, 3))
    {H : Heap} {locs : List Loc} {ls : Array Slot} (hP : wP Γ sk s H M) (hS : va_S (Fr Γ sk s.heap.size) s.heap H locs) (hl : lvs ls nL L) (hM : mR M) (hcs : ∃ cs : Cell, H[a0]? = some cs ∧ s.isArrayOf cs .byte ∧ cs.vm ≠ .unknown ∧ n0 ≤ cs.slots.size ∧ ∀ j : Nat, j < n0 → cs.slots[j]? = some (vi (f0 j)))
    (kk : VV p l e R s m args below meth c Q nL Γ sk (cpM M k1 f0 sp.toNat dp.toNat n.toNat) cells slots (pc + 3) L st) : W p l e R s m args below meth c H locs cells slots Q (F0 m pc ls (vi n :: vi dp :: vr Γ k1 :: vi sp :: .ref a0 :: st)) := by
  obtain ⟨cs, c1, ⟨c2, ks, hks, sComp, hsk⟩, c3, c4, c5⟩ := hcs
  obtain ⟨cd, d1, ⟨d2, kd, hkd, dComp, hdk⟩, d3, d4, d6, d5⟩ := hP k1 _ hk1
  have e1 : (i32 sp).toNatClampNeg = sp.toNat := i32_clamp hr.1
  have e2 : (i32 dp).toNatClampNeg = dp.toNat := i32_clamp hr.2.1
  have e3 : (i32 n).toNatClampNeg = n.toNat := i32_clamp hr.2.2
  have hval : ∀ i : Nat, i < n.toNat → cs.slots.getD (sp.toNat + i) .null = vi (f0 (sp.toNat + i)) := fun i hi => by
    rw [Array.getD_eq_getD_getElem?, c5 _ (by omega)]
    rfl
  intro T hT X
  have d1' : T.heap[gA Γ k1]? = some cd := by rw [hT]; exact d1
  obtain ⟨vm', X', step⟩ := X.arraycopy C.1 C.2.2.2.1 (C.2.2.2.2.1 _ hlink) (C.2.2.2.2.1 _ hw.1) (C.2.2.2.2.1 _ hw.2.1) (C.2.2.2.2.1 _ hw.2.2) (src := a0) (dst := gA Γ k1) (cs := cs) (cd := cd) (srcPos := i32 sp) (destPos := i32 dp) (n := i32 n) (by rw [hT]; exact c1) d1' c2 d2 c3 d3 hks hkd hsk hdk rfl
    (by rw [← i32_0, i32_lt hr.1 (by decide)]; omega) (by rw [← i32_0, i32_lt hr.2.1 (by decide)]; omega) (by rw [← i32_0, i32_lt hr.2.2 (by decide)]; omega) (by rw [i32_toInt hr.1, i32_toInt hr.2.2]; omega) (by rw [i32_toInt hr.2.1, i32_toInt hr.2.2, d4]; show ¬ dp + n > ((n1 : Nat) : Int); omega)
    (fun vm₁ _ i hi => by
      rw [e3] at hi
      rw [e1, hval i hi]
      exact ⟨fitB (hb _ (by omega)), trivial⟩)
    (g := F0 m pc ls (vi n :: vi dp :: vr Γ k1 :: vi sp :: .ref a0 :: st)) rfl (hl.1.1.trans C.2.2.1.symm) (rest := st) rfl (by rw [C.2.1]; exact hd) hR.1 (by
      show 2 * 0 + _ + (nativeFrameWords "java/lang/System" "arraycopy" 5 + 11) ≤ _
      have h9 : nativeFrameWords "java/lang/System" "arraycopy" 5 ≤ 100 := by decide +kernel
      have := hR.2
      omega)
  generalize hcd : copied cs cd (i32 sp) (i32 dp) (i32 n) = cd' at X' step
  have hcd2 : cd' = cd.storeRun dp.toNat (cs.stretch sp.toNat n.toNat) := by
    rw [← hcd, ← e1, ← e2, ← e3]
  have hlen : (cs.stretch sp.toNat n.toNat).length = n.toNat := by simp [Cell.stretch]
  obtain ⟨s1, s2, s3, -, -⟩ := Cell.storeRun_facts cd dp.toNat (cs.stretch sp.toNat n.toNat)
  rw [← hcd2] at s1 s2 s3
  have hl9 : gA Γ k1 < H.size := (Array.getElem?_eq_some_iff.mp d1).1
  have hheap : ((T.setVm vm').setCell (gA Γ k1) cd').heap = H.setIfInBounds (gA Γ k1) cd' := by rw [← hT]; rfl
  have oq : ∀ q : Nat, q ≠ gA Γ k1 → (H.setIfInBounds (gA Γ k1) cd')[q]? = H[q]? := fun q hq => by simp [Array.getElem?_setIfInBounds, Ne.symm hq]
  have hA : Fr Γ sk s.heap.size (gA Γ k1) := Or.inl ⟨k1, (List.getElem?_eq_some_iff.mp hk1).1, h3, rfl⟩
  have hw1 : wP Γ sk s (H.setIfInBounds (gA Γ k1) cd') (cpM M k1 f0 sp.toNat dp.toNat n.toNat) := by
    refine wP_set hP C.2.2.2.2.2.2.1 hk1 ⟨cd', by simp [Array.getElem?_setIfInBounds, hl9], ⟨fun k => by rw [s2]; exact d2 k, kd, by rw [s1]; exact hkd, dComp, hdk⟩, by rw [s2]; exact d3, by rw [s3]; exact d4, fun z => by rw [s1]; exact d6 z, fun j hj => ?_⟩ oq (fun j hj => by funext i; simp [cpM, hj])
    rw [hcd2, Cell.storeRun_get cd dp.toNat _ j (by rw [hlen, d4]; show _ ≤ n1; omega), hlen]
    show _ = some (vi (cpM M k1 f0 sp.toNat dp.toNat n.toNat k1 j))
    by_cases hj2 : dp.toNat ≤ j ∧ j < dp.toNat + n.toNat
    · rw [if_pos hj2]
      have : (cs.stretch sp.toNat n.toNat)[j - dp.toNat]? = some (vi (f0 (sp.toNat + (j - dp.toNat)))) := by
        rw [← hval (j - dp.toNat) (by omega)]
        simp [Cell.stretch, show j - dp.toNat < n.toNat by omega]
      rw [this]
      simp [cpM, hj2]
    · rw [if_neg hj2, d5 j hj]
      have : cpM M k1 f0 sp.toNat dp.toNat n.toNat k1 j = M k1 j := by
        unfold cpM
        rw [if_neg (fun z => hj2 z.2)]
      rw [this]
      rfl
  have hM1 : mR (cpM M k1 f0 sp.toNat dp.toNat n.toNat) := fun q i => by
    unfold cpM
    split
    · rename_i hz
      have := hb (sp.toNat + (i - dp.toNat)) (by omega)
      exact ⟨by omega, by omega⟩
    · exact hM q i
  obtain ⟨t, a1, b1⟩ := kk _ _ ls hw1 ⟨by simp; exact hS.1, fun q g1 g2 => by
      rw [oq q (fun e => g2 (by rw [e]; exact hA))]
      exact hS.2.1 q g1 g2, fun q hq => by
      rcases List.mem_append.mp hq with h | h
      · exact hS.2.2 q h
      · obtain ⟨z, -, hz⟩ := List.mem_map.mp h
        rw [← hz]
        exact hA⟩ hl hM1 _ hheap X'
  exact ⟨t, step t a1, b1⟩
/-- from a row of the world -/
theorem V_copy (C : CX p s m args c cc nL own Γ sk) {index k0 k1 n0 n1 : Nat} {sp dp n : Int} (hk0 : sk[k0]? = some (.inl (2, n0))) (hk1 : sk[k1]? = some (.inl (2, n1))) (h3 : 3 ≤ k1) (hlink : Cond.methodLink own index arraycopyName ∈ wsA) (hw : Cond.native arraycopyName ∈ wsA ∧ Cond.static arraycopyName ∈ wsA ∧ Cond.initialized "java/lang/System" ∈ wsA) (hR : 1 ≤ R.frames ∧ 200 ≤ R.locals) (hst : (st.map fun v => v.category).sum ≤ 8) (h1 : 0 ≤ sp ∧ 0 ≤ dp ∧ 0 ≤ n) (h4 : sp + n ≤ n0) (h5 : dp + n ≤ n1) (hr : rng sp ∧ rng dp ∧ rng n) (hb : ∀ j : Nat, j < n0 → -128 ≤ M k0 j ∧ M k0 j ≤ 127) (hd : decode cc pc = .ok (.invokestatic index, 3))
    (kk : VV p l e R s m args below meth c Q nL Γ sk (cpM M k1 (M k0) sp.toNat dp.toNat n.toNat) cells slots (pc + 3) L st) : VV p l e R s m args below meth c Q nL Γ sk M cells slots pc L (vi n :: vi dp :: vr Γ k1 :: vi sp :: vr Γ k0 :: st) := by
  intro H locs ls hP hS hl hM
  obtain ⟨cs, c1, c2, c3, c4, -, c5⟩ := hP k0 _ hk0
  exact copy_core C hk1 h3 hlink hw hR hst h1 h4 h5 hr hb hd hP hS hl hM ⟨cs, c1, c2, c3, Nat.le_of_eq c4.symm, c5⟩ kk
/-- from a literal's row -/
theorem V_copyS (C : CX p s m args c cc nL own Γ sk) {index q k1 n1 : Nat} {sp dp n : Int} (hq : q < lensL.length) (hk1 : sk[k1]? = some (.inl (2, n1))) (h3 : 3 ≤ k1) (hlink : Cond.methodLink own index arraycopyName ∈ wsA) (hw : Cond.native arraycopyName ∈ wsA ∧ Cond.static arraycopyName ∈ wsA ∧ Cond.initialized "java/lang/System" ∈ wsA) (hR : 1 ≤ R.frames ∧ 200 ≤ R.locals) (hst : (st.map fun v => v.category).sum ≤ 8) (h1 : 0 ≤ sp ∧ 0 ≤ dp ∧ 0 ≤ n) (h4 : sp + n ≤ slen q) (h5 : dp + n ≤ n1) (hr : rng sp ∧ rng dp ∧ rng n) (hd : decode cc pc = .ok (.invokestatic index, 3))
    (kk : VV p l e R s m args below meth c Q nL Γ sk (cpM M k1 (schar q) sp.toNat dp.toNat n.toNat) cells slots (pc + 3) L st) : VV p l e R s m args below meth c Q nL Γ sk M cells slots pc L (vi n :: vi dp :: vr Γ k1 :: vi sp :: vb Γ q :: st) := by
  intro H locs ls hP hS hl hM
  obtain ⟨cs, t1, t2, t3, t4, t5, t6, t7⟩ := ((V_S C).1 q hq).2.2.2
  have hb : ∀ j : Nat, j < lensL.getD q 0 → -128 ≤ schar q j ∧ schar q j ≤ 127 := fun j hj => by
    have := schar_ok hq (j := (j : Int)) ⟨by omega, by unfold slen; omega⟩
    rw [Int.toNat_natCast] at this
    omega
  exact copy_core C (n0 := lensL.getD q 0) hk1 h3 hlink hw hR hst h1 h4 h5 hr hb hd hP hS hl hM ⟨cs, by rw [hS.2.1 _ (Array.getElem?_eq_some_iff.mp t1).1 t7]; exact t1, t2, t3, t4, fun j hj => by
    rw [t6 j hj]
    show some (Value.int _) = some (Value.int (Int32.ofInt (schar q j)))
    unfold schar
    rw [Int32.ofInt_toInt]⟩ kk
end GCall
theorem MetGV_of {l : Launch} {y : MethodName} {bytes : ByteArray} {maxL : Nat} {rm : Room} {Γ : GG} {sk : List SD} {av : List Value} {M : Mem} {P : GG → List SD → Mem → Prop} {L0 : List (Nat × Value)} (own : String) (hown : own = y.cls) (hy : plainName y.cls = true) (hcat : av.all (fun v => v.category == 1) = true) (hlen : (lg_sl av).length ≤ maxL) (hL : lv_args 0 av = L0)
    (kk : ∀ (p : Program) (e : Env) (s : State) (m : MethodId) (args : Array Value) (below : List Frame) (meth : Method) (c : Code), CX p s m args c bytes maxL own Γ sk → meth.sig.returnType = none → meth.locks = false → meth.name = y.name → mR M → VV p l e rm s m args below meth c (MQ below (PostGV Γ sk P s.heap.size) args s rm.cells rm.slots (Fr Γ sk s.heap.size)) maxL Γ sk M 0 0 0 L0 []) : MetGV l y bytes maxL rm Γ sk av M P := by
  intro sz
  refine Met.ofW (cc := bytes) (maxL := maxL) (ret := none) hy rfl ?_
  intro p e s m args below meth c s₁ B hml hp
  have hnm := (name_of_methodNamed B.named B.method).1
  refine V_start own hown B hml hp hcat hlen hL fun C hsz hr hlk hM => ?_
  subst hsz
  exact kk p e s m args below meth c C hr hlk hnm hM
theorem MetGR_of {l : Launch} {y : MethodName} {bytes : ByteArray} {maxL : Nat} {ret : FieldType} {rm : Room} {Γ : GG} {sk : List SD} {av : List Value} {M : Mem} {P : GG → List SD → Mem → Nat → Prop} {L0 : List (Nat × Value)} (own : String) (hown : own = y.cls) (hy : plainName y.cls = true) (hcat : av.all (fun v => v.category == 1) = true) (hlen : (lg_sl av).length ≤ maxL) (hL : lv_args 0 av = L0)
    (kk : ∀ (p : Program) (e : Env) (s : State) (m : MethodId) (args : Array Value) (below : List Frame) (meth : Method) (c : Code), CX p s m args c bytes maxL own Γ sk → meth.sig.returnType = some ret → meth.locks = false → mR M → VV p l e rm s m args below meth c (MQ below (PostGR Γ sk P s.heap.size) args s rm.cells rm.slots (Fr Γ sk s.heap.size)) maxL Γ sk M 0 0 0 L0 []) : MetGR l y bytes maxL ret rm Γ sk av M P := by
  intro sz
  refine Met.ofW (cc := bytes) (maxL := maxL) (ret := some ret) hy rfl ?_
  intro p e s m args below meth c s₁ B hml hp
  refine V_start own hown B hml hp hcat hlen hL fun C hsz hr hlk hM => ?_
  subst hsz
  exact kk p e s m args below meth c C hr hlk hM
