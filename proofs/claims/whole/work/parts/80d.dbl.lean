/-! the two methods that answer a quotient, on both sides -/
def PostD (Γ : GG) (sk : List SD) (M : Mem) (o : Int × Int) (sz : Nat) : Array Value → State → Outcome → State → Prop := va_Qd (S := Unit) (fun r' _ => r' = dq o) (fun _ t => wP Γ sk t t.heap M ∧ mR M) (Fr Γ sk sz)
def PostF (Γ : GG) (sk : List SD) (M : Mem) (o : Int × Int) (sz : Nat) : Array Value → State → Outcome → State → Prop := va_Qf (S := Unit) (fun r' _ => r' = fq o) (fun _ t => wP Γ sk t t.heap M ∧ mR M) (Fr Γ sk sz)
def MetDq (l : Launch) (y : MethodName) (bytes : ByteArray) (maxL : Nat) (rm : Room) (Γ : GG) (sk : List SD) (av : List Value) (M M' : Mem) (o : Int × Int) : Prop :=
  ∀ sz, Met l y (Cond.code y bytes maxL (some .double) :: wsA) rm (PreW Γ sk av M sz) (PostD Γ sk M' o sz) rm.cells rm.slots (Fr Γ sk sz)
def MetFq (l : Launch) (y : MethodName) (bytes : ByteArray) (maxL : Nat) (rm : Room) (Γ : GG) (sk : List SD) (av : List Value) (M M' : Mem) (o : Int × Int) : Prop :=
  ∀ sz, Met l y (Cond.code y bytes maxL (some .float) :: wsA) rm (PreW Γ sk av M sz) (PostF Γ sk M' o sz) rm.cells rm.slots (Fr Γ sk sz)
theorem MetDq_of {l : Launch} {y : MethodName} {bytes : ByteArray} {maxL : Nat} {rm : Room} {Γ : GG} {sk : List SD} {av : List Value} {M M' : Mem} {o : Int × Int} {L0 : List (Nat × Value)} (own : String) (hown : own = y.cls) (hy : plainName y.cls = true) (hcat : av.all (fun v => v.category == 1) = true) (hlen : (lg_sl av).length ≤ maxL) (hL : lv_args 0 av = L0)
    (kk : ∀ (p : Program) (e : Env) (s : State) (m : MethodId) (args : Array Value) (below : List Frame) (meth : Method) (c : Code), CX p s m args c bytes maxL own Γ sk → meth.sig.returnType = some .double → meth.locks = false → mR M → VV p l e rm s m args below meth c (MQ below (PostD Γ sk M' o s.heap.size) args s rm.cells rm.slots (Fr Γ sk s.heap.size)) maxL Γ sk M 0 0 0 L0 []) : MetDq l y bytes maxL rm Γ sk av M M' o := by
  intro sz
  refine Met.ofW (cc := bytes) (maxL := maxL) (ret := some .double) hy rfl ?_
  intro p e s m args below meth c s₁ B hml hp
  refine V_start own hown B hml hp hcat hlen hL fun C hsz hr hlk hM => ?_
  subst hsz
  exact kk p e s m args below meth c C hr hlk hM
theorem MetFq_of {l : Launch} {y : MethodName} {bytes : ByteArray} {maxL : Nat} {rm : Room} {Γ : GG} {sk : List SD} {av : List Value} {M M' : Mem} {o : Int × Int} {L0 : List (Nat × Value)} (own : String) (hown : own = y.cls) (hy : plainName y.cls = true) (hcat : av.all (fun v => v.category == 1) = true) (hlen : (lg_sl av).length ≤ maxL) (hL : lv_args 0 av = L0)
    (kk : ∀ (p : Program) (e : Env) (s : State) (m : MethodId) (args : Array Value) (below : List Frame) (meth : Method) (c : Code), CX p s m args c bytes maxL own Γ sk → meth.sig.returnType = some .float → meth.locks = false → mR M → VV p l e rm s m args below meth c (MQ below (PostF Γ sk M' o s.heap.size) args s rm.cells rm.slots (Fr Γ sk s.heap.size)) maxL Γ sk M 0 0 0 L0 []) : MetFq l y bytes maxL rm Γ sk av M M' o := by
  intro sz
  refine Met.ofW (cc := bytes) (maxL := maxL) (ret := some .float) hy rfl ?_
  intro p e s m args below meth c s₁ B hml hp
  refine V_start own hown B hml hp hcat hlen hL fun C hsz hr hlk hM => ?_
  subst hsz
  exact kk p e s m args below meth c C hr hlk hM
section Dbl
variable {p : Program} {l : Launch} {e : Env} {R : Room} {s : State} {m : MethodId} {args : Array Value} {below : List Frame} {meth : Method} {c : Code} {Q : State → Prop}
variable {nL : Nat} {Γ : GG} {sk : List SD} {M : Mem} {cells slots pc : Nat} {L : List (Nat × Value)} {st : List Value} {cc : ByteArray} {own : String}
theorem V_dconst0 (C : CX p s m args c cc nL own Γ sk) (hd : decode cc pc = .ok (.dconst 0, 1)) (k : VV p l e R s m args below meth c Q nL Γ sk M cells slots (pc + 1) L (.double (dq (0, 0)) :: st)) : VV p l e R s m args below meth c Q nL Γ sk M cells slots pc L st :=
  fun H locs ls hP hS hl hM => lv_dconst0 C.1 C.2.1 hd (k H locs ls hP hS hl hM)
theorem V_fconst0 (C : CX p s m args c cc nL own Γ sk) (hd : decode cc pc = .ok (.fconst 0, 1)) (k : VV p l e R s m args below meth c Q nL Γ sk M cells slots (pc + 1) L (.float (fq (0, 0)) :: st)) : VV p l e R s m args below meth c Q nL Γ sk M cells slots pc L st :=
  fun H locs ls hP hS hl hM => lv_fconst0 C.1 C.2.1 hd (k H locs ls hP hS hl hM)
theorem V_i2d (C : CX p s m args c cc nL own Γ sk) {x : Int} (hd : decode cc pc = .ok (.i2d, 1)) (k : VV p l e R s m args below meth c Q nL Γ sk M cells slots (pc + 1) L (.double (FP.i2d (i32 x)) :: st)) : VV p l e R s m args below meth c Q nL Γ sk M cells slots pc L (vi x :: st) :=
  fun H locs ls hP hS hl hM => lv_i2d C.1 C.2.1 hd (k H locs ls hP hS hl hM)
theorem V_i2f (C : CX p s m args c cc nL own Γ sk) {x : Int} (hd : decode cc pc = .ok (.i2f, 1)) (k : VV p l e R s m args below meth c Q nL Γ sk M cells slots (pc + 1) L (.float (FP.i2f (i32 x)) :: st)) : VV p l e R s m args below meth c Q nL Γ sk M cells slots pc L (vi x :: st) :=
  fun H locs ls hP hS hl hM => lv_i2f C.1 C.2.1 hd (k H locs ls hP hS hl hM)
theorem V_ddiv (C : CX p s m args c cc nL own Γ sk) {a b : Int} (hab : (0 ≤ a ∧ a < 8192) ∧ 0 < b ∧ b < 8192) (hd : decode cc pc = .ok (.ddiv, 1)) (k : VV p l e R s m args below meth c Q nL Γ sk M cells slots (pc + 1) L (.double (dq (a, b)) :: st)) : VV p l e R s m args below meth c Q nL Γ sk M cells slots pc L (.double (FP.i2d (i32 b)) :: .double (FP.i2d (i32 a)) :: st) := by
  have e : dq (a, b) = FP.ddiv (FP.i2d (i32 a)) (FP.i2d (i32 b)) := if_neg (show ¬ b = 0 by omega)
  rw [e] at k
  exact fun H locs ls hP hS hl hM => lv_ddiv C.1 C.2.1 hd (fp_ddiv hab.1 hab.2) (k H locs ls hP hS hl hM)
theorem V_fdiv (C : CX p s m args c cc nL own Γ sk) {a b : Int} (hab : (0 ≤ a ∧ a < 8192) ∧ 0 < b ∧ b < 8192) (hd : decode cc pc = .ok (.fdiv, 1)) (k : VV p l e R s m args below meth c Q nL Γ sk M cells slots (pc + 1) L (.float (fq (a, b)) :: st)) : VV p l e R s m args below meth c Q nL Γ sk M cells slots pc L (.float (FP.i2f (i32 b)) :: .float (FP.i2f (i32 a)) :: st) := by
  have e : fq (a, b) = FP.fdiv (FP.i2f (i32 a)) (FP.i2f (i32 b)) := if_neg (show ¬ b = 0 by omega)
  rw [e] at k
  exact fun H locs ls hP hS hl hM => lv_fdiv C.1 C.2.1 hd (fp_fdiv hab.1 hab.2) (k H locs ls hP hS hl hM)
theorem V_dret (C : CX p s m args c cc nL own Γ sk) {M' : Mem} {x o : Int × Int} {mc ms : Nat} (hr : meth.sig.returnType = some .double) (hlk : meth.locks = false) (h : some (M, x) = some (M', o)) (hd : decode cc pc = .ok (.dreturn, 1)) : VV p l e R s m args below meth c (MQ below (PostD Γ sk M' o s.heap.size) args s mc ms (Fr Γ sk s.heap.size)) nL Γ sk M mc ms pc L [.double (dq x)] := by
  cases h
  intro H locs ls hP hS hl hM
  exact W.dret C.1 C.2.1 hr (fun t ht hW => ⟨⟨_, (), rfl, rfl, by rw [ht]; exact wP_moved hW.alike hP, hM⟩, hS.F ht⟩) hS.2.2 hd hlk
theorem V_fret (C : CX p s m args c cc nL own Γ sk) {M' : Mem} {x o : Int × Int} {mc ms : Nat} (hr : meth.sig.returnType = some .float) (hlk : meth.locks = false) (h : some (M, x) = some (M', o)) (hd : decode cc pc = .ok (.freturn, 1)) : VV p l e R s m args below meth c (MQ below (PostF Γ sk M' o s.heap.size) args s mc ms (Fr Γ sk s.heap.size)) nL Γ sk M mc ms pc L [.float (fq x)] := by
  cases h
  intro H locs ls hP hS hl hM
  exact W.fret C.1 C.2.1 hr (fun t ht hW => ⟨⟨_, (), rfl, rfl, by rw [ht]; exact wP_moved hW.alike hP, hM⟩, hS.F ht⟩) hS.2.2 hd hlk
/-- a call of such a method, the caller's locals as they are -/
theorem W_callD (C : CX p s m args c cc nL own Γ sk) {y : MethodName} {bytes : ByteArray} {maxL n index k ci : Nat} {rm : Room} {As : List Value} {fs : List (Option Nat)} {q : vw_C} {M1 : Mem} {o : Int × Int} {H : Heap} {locs : List Loc} {ls : Array Slot}
    (hM : MetDq l y bytes maxL rm Γ sk (vr Γ k :: As) M M1 o) (hF : CalV y bytes maxL (some .double) n) (hlink : Cond.methodLink own index y ∈ wsA) (h0 : rm.cells = 0 ∧ rm.slots = 0) (hR : rm.frames + 1 ≤ R.frames ∧ 8 + (maxL + 11) + rm.locals ≤ R.locals) (hk : sk[k]? = some (.inr (ci, fs))) (hc : vwCl[ci]? = some q) (hcq : q.1 = y.cls) (hn : As.length = n) (hst : (st.map fun v => v.category).sum ≤ 8) (hf : cells ≤ R.cells ∧ slots ≤ R.slots) (hd : decode cc pc = .ok (.invokevirtual index, 3))
    (hP : wP Γ sk s H M) (hS : va_S (Fr Γ sk s.heap.size) s.heap H locs) (hl : lvs ls nL L) (hMr : mR M)
    (kk : ∀ (H1 : Heap) (locs1 : List Loc), wP Γ sk s H1 M1 → va_S (Fr Γ sk s.heap.size) s.heap H1 locs1 → mR M1 → W p l e R s m args below meth c H1 locs1 cells slots Q (F0 m (pc + 3) ls (.double (dq o) :: st))) : W p l e R s m args below meth c H locs cells slots Q (F0 m pc ls (As.reverse ++ vr Γ k :: st)) := by
  have hM' := hM H.size
  rw [h0.1, h0.2] at hM'
  exact va_calld (V_runV C hM' hF hlink h0 hR hk hc hcq hn hst hf hd hP hS hl hMr) hS (fun q _ h => Fr_mono hS.1 h) (fun q h => Fr_mono hS.1 h) (fun r' u t H1 locs1 ht hvm hw hB hz1 hk1 hS1 => by
    cases hw
    rw [ht] at hB
    exact kk H1 locs1 (wP_moved hvm.symm hB.1) hS1 hB.2)
theorem W_callF (C : CX p s m args c cc nL own Γ sk) {y : MethodName} {bytes : ByteArray} {maxL n index k ci : Nat} {rm : Room} {As : List Value} {fs : List (Option Nat)} {q : vw_C} {M1 : Mem} {o : Int × Int} {H : Heap} {locs : List Loc} {ls : Array Slot}
    (hM : MetFq l y bytes maxL rm Γ sk (vr Γ k :: As) M M1 o) (hF : CalV y bytes maxL (some .float) n) (hlink : Cond.methodLink own index y ∈ wsA) (h0 : rm.cells = 0 ∧ rm.slots = 0) (hR : rm.frames + 1 ≤ R.frames ∧ 8 + (maxL + 11) + rm.locals ≤ R.locals) (hk : sk[k]? = some (.inr (ci, fs))) (hc : vwCl[ci]? = some q) (hcq : q.1 = y.cls) (hn : As.length = n) (hst : (st.map fun v => v.category).sum ≤ 8) (hf : cells ≤ R.cells ∧ slots ≤ R.slots) (hd : decode cc pc = .ok (.invokevirtual index, 3))
    (hP : wP Γ sk s H M) (hS : va_S (Fr Γ sk s.heap.size) s.heap H locs) (hl : lvs ls nL L) (hMr : mR M)
    (kk : ∀ (H1 : Heap) (locs1 : List Loc), wP Γ sk s H1 M1 → va_S (Fr Γ sk s.heap.size) s.heap H1 locs1 → mR M1 → W p l e R s m args below meth c H1 locs1 cells slots Q (F0 m (pc + 3) ls (.float (fq o) :: st))) : W p l e R s m args below meth c H locs cells slots Q (F0 m pc ls (As.reverse ++ vr Γ k :: st)) := by
  have hM' := hM H.size
  rw [h0.1, h0.2] at hM'
  exact va_callf (V_runV C hM' hF hlink h0 hR hk hc hcq hn hst hf hd hP hS hl hMr) hS (fun q _ h => Fr_mono hS.1 h) (fun q h => Fr_mono hS.1 h) (fun r' u t H1 locs1 ht hvm hw hB hz1 hk1 hS1 => by
    cases hw
    rw [ht] at hB
    exact kk H1 locs1 (wP_moved hvm.symm hB.1) hS1 hB.2)
end Dbl
