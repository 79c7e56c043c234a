/-! methods that throw: contracts and rules -/
def exN : Nat → String
  | 1 => "java/lang/IndexOutOfBoundsException"
  | 2 => "java/lang/IllegalArgumentException"
  | 3 => "java/lang/IllegalStateException"
  | _ => "java/util/NoSuchElementException"
/-- the cells that an outcome costs: (0, r) answers, (n + 1, _) throws -/
def tc : Nat × Int → Nat
  | (0, _) => 0
  | (_ + 1, _) => 1
def ts6 : Nat × Int → Nat
  | (0, _) => 0
  | (_ + 1, _) => 6
def cax {β : Type} (o : Option (Mem × (Nat × Int))) (k : Mem → Int → Option β) (kx : Mem → Nat → Option β) : Option β := match o with
  | some (M, (0, r)) => k M r
  | some (M, (n + 1, _)) => kx M n
  | none => none
theorem cax_of {β : Type} {o : Option (Mem × (Nat × Int))} {k : Mem → Int → Option β} {kx : Mem → Nat → Option β} {x : β} (h : cax o k kx = some x) : (∃ (M : Mem) (r : Int), o = some (M, (0, r)) ∧ k M r = some x) ∨ (∃ (M : Mem) (n : Nat) (z : Int), o = some (M, (n + 1, z)) ∧ kx M n = some x) := by
  match o, h with
  | some (M, (0, r)), h => exact Or.inl ⟨M, r, rfl, h⟩
  | some (M, (n + 1, z)), h => exact Or.inr ⟨M, n, z, rfl, h⟩
theorem cax_ret {β : Type} (M : Mem) (r : Int) (k : Mem → Int → Option β) (kx : Mem → Nat → Option β) : cax (some (M, (0, r))) k kx = k M r := rfl
theorem cax_thr {β : Type} (M : Mem) (n : Nat) (z : Int) (k : Mem → Int → Option β) (kx : Mem → Nat → Option β) : cax (some (M, (n + 1, z))) k kx = kx M n := rfl
def PostXI (Γ : GG) (sk : List SD) (M : Mem) (o : Nat × Int) (sz : Nat) : Array Value → State → Outcome → State → Prop := va_Qi (S := Unit) (fun r' _ => o.1 = 0 ∧ r' = i32 o.2 ∧ rng o.2) (fun _ t => wP Γ sk t t.heap M ∧ mR M) (Fr Γ sk sz)
def PostXV (Γ : GG) (sk : List SD) (M : Mem) (o : Nat × Int) (sz : Nat) : Array Value → State → Outcome → State → Prop := va_Qv (S := Unit) (fun _ => o.1 = 0) (fun _ t => wP Γ sk t t.heap M ∧ mR M) (Fr Γ sk sz)
def PostT (Γ : GG) (sk : List SD) (M : Mem) (o : Nat × Int) (sz : Nat) : String → State → State → Prop := vx_X (S := Unit) (fun _ => o.1 ≠ 0) (fun E _ t => E = exN o.1 ∧ wP Γ sk t t.heap M ∧ mR M) (Fr Γ sk sz)
def MetXI (l : Launch) (y : MethodName) (bytes : ByteArray) (maxL : Nat) (ret : FieldType) (rm : Room) (Γ : GG) (sk : List SD) (av : List Value) (M M' : Mem) (o : Nat × Int) : Prop :=
  ∀ sz, vx_Met l y (Cond.code y bytes maxL (some ret) :: wsA) rm (PreW Γ sk av M sz) (PostXI Γ sk M' o sz) (PostT Γ sk M' o sz) rm.cells rm.slots (Fr Γ sk sz)
def MetXV (l : Launch) (y : MethodName) (bytes : ByteArray) (maxL : Nat) (rm : Room) (Γ : GG) (sk : List SD) (av : List Value) (M M' : Mem) (o : Nat × Int) : Prop :=
  ∀ sz, vx_Met l y (Cond.code y bytes maxL none :: wsA) rm (PreW Γ sk av M sz) (PostXV Γ sk M' o sz) (PostT Γ sk M' o sz) rm.cells rm.slots (Fr Γ sk sz)
/-- a method with handlers, that answers -/
def MetXH (l : Launch) (y : MethodName) (bytes : ByteArray) (maxL : Nat) (ret : FieldType) (hh : List (Nat × Nat × Nat × Nat)) (rm : Room) (Γ : GG) (sk : List SD) (av : List Value) (M M' : Mem) (r : Int) : Prop :=
  ∀ sz, vx_Met l y (Cond.codeWith y bytes maxL (some ret) hh :: wsA) rm (PreW Γ sk av M sz) (PostI Γ sk M' r sz) (fun _ _ _ => False) rm.cells rm.slots (Fr Γ sk sz)
def w32 (x : Int) : Int := x.bmod 4294967296
theorem w32_rng (x : Int) : rng (w32 x) := by
  have h1 := Int.le_bmod (x := x) (m := 4294967296) (by decide)
  have h2 := Int.bmod_lt (x := x) (m := 4294967296) (by decide)
  unfold w32
  constructor
  · simpa using h1
  · have h3 : x.bmod 4294967296 < 2147483648 := by simpa using h2
    omega
theorem vi_w32 (x : Int) : vi (w32 x) = vi x := by
  unfold vi i32 w32
  congr 1
  apply Int32.toInt_inj.mp
  rw [Int32.toInt_ofInt, Int32.toInt_ofInt]
  exact Int.bmod_bmod
section ThrowRules
variable {p : Program} {l : Launch} {e : Env} {R : Room} {s : State} {m : MethodId} {args : Array Value} {below : List Frame} {meth : Method} {c : Code} {Q : State → Prop}
variable {nL : Nat} {Γ : GG} {sk : List SD} {M : Mem} {cells slots pc : Nat} {L : List (Nat × Value)} {st : List Value} {cc : ByteArray} {own : String}
theorem V_room {k n : Nat} (h1 : cells ≤ k) (h2 : slots ≤ n) (kk : VV p l e R s m args below meth c Q nL Γ sk M k n pc L st) : VV p l e R s m args below meth c Q nL Γ sk M cells slots pc L st := fun H locs ls hP hS hl hM T hT X => kk H locs ls hP hS hl hM T hT (stand_widen X h1 h2)
theorem V_runXV (C : CX p s m args c cc nL own Γ sk) {y : MethodName} {bytes : ByteArray} {maxL n index mc ms k ci : Nat} {ret : Option FieldType} {rm : Room} {As : List Value} {Qc : Array Value → State → Outcome → State → Prop} {XC : String → State → State → Prop} {free : Addr → Prop} {fs : List (Option Nat)} {q : vw_C} {H : Heap} {locs : List Loc} {ls : Array Slot}
    (hM : vx_Met l y (Cond.code y bytes maxL ret :: wsA) rm (PreW Γ sk (vr Γ k :: As) M H.size) Qc XC mc ms free) (hF : CalV y bytes maxL ret n) (hlink : Cond.methodLink own index y ∈ wsA) (hmc : rm.cells = mc ∧ rm.slots = ms) (hR : rm.frames + 1 ≤ R.frames ∧ 8 + (maxL + 11) + rm.locals ≤ R.locals)
    (hk : sk[k]? = some (.inr (ci, fs))) (hc : vwCl[ci]? = some q) (hcq : q.1 = y.cls) (hn : As.length = n) (hst : (st.map fun v => v.category).sum ≤ 8) (hf : cells + mc ≤ R.cells ∧ slots + ms ≤ R.slots) (hd : decode cc pc = .ok (.invokevirtual index, 3))
    (hP : wP Γ sk s H M) (hS : va_S (Fr Γ sk s.heap.size) s.heap H locs) (hl : lvs ls nL L) (hMr : mR M) :
    vx_Run p l e R s m args below meth c H locs cells slots mc ms (F0 m pc ls (As.reverse ++ vr Γ k :: st)) st (Qc (vr Γ k :: As).toArray) XC free := by
  obtain ⟨f1, f2, f3, f4, f5⟩ := hF
  refine vx_runV ⟨C.1, C.2.1, C.2.2.1, C.2.2.2.1, C.2.2.2.2.1⟩ hM (cwV (C := y.cls) n C.2.2.2.2.1 (goodIn_app (a := [.methodLink own index y, .instanceMethod y, .selects y.cls y y, .initialized y.cls]) ?_ (goodA f4)) rfl hmc.1 hmc.2 ⟨rfl, f5⟩ hR) ⟨PreW_blind, ?_, V_pre C hP hS hMr⟩ rfl hn hl.1.1 rfl (lv_room hst) hd hf
  · intro w hw
    have h2 : w ∈ wsA := by
      simp only [List.mem_cons, List.not_mem_nil, or_false] at hw
      rcases hw with rfl | rfl | rfl | rfl
      · exact hlink
      · exact f1
      · exact f2
      · exact f3
    exact ⟨h2, good_of_word (List.mem_filter.mp h2).2⟩
  · rw [← hcq]
    exact V_recv C hP hk hc
theorem V_runXS (C : CX p s m args c cc nL own Γ sk) {y : MethodName} {bytes : ByteArray} {maxL n index mc ms : Nat} {ret : Option FieldType} {rm : Room} {As : List Value} {Qc : Array Value → State → Outcome → State → Prop} {XC : String → State → State → Prop} {free : Addr → Prop} {H : Heap} {locs : List Loc} {ls : Array Slot}
    (hM : vx_Met l y (Cond.code y bytes maxL ret :: wsA) rm (PreW Γ sk As M H.size) Qc XC mc ms free) (hF : CalS y bytes maxL ret n) (hlink : Cond.methodLink own index y ∈ wsA) (hmc : rm.cells = mc ∧ rm.slots = ms) (hR : rm.frames + 1 ≤ R.frames ∧ 8 + (maxL + 11) + rm.locals ≤ R.locals)
    (hn : As.length = n) (hst : (st.map fun v => v.category).sum ≤ 8) (hf : cells + mc ≤ R.cells ∧ slots + ms ≤ R.slots) (hd : decode cc pc = .ok (.invokestatic index, 3))
    (hP : wP Γ sk s H M) (hS : va_S (Fr Γ sk s.heap.size) s.heap H locs) (hl : lvs ls nL L) (hMr : mR M) :
    vx_Run p l e R s m args below meth c H locs cells slots mc ms (F0 m pc ls (As.reverse ++ st)) st (Qc As.toArray) XC free := by
  obtain ⟨f1, f2, f3, f4⟩ := hF
  refine vx_runS ⟨C.1, C.2.1, C.2.2.1, C.2.2.2.1, C.2.2.2.2.1⟩ hM (va_cwS n C.2.2.2.2.1 (goodIn_app (a := [.methodLink own index y, .static y, .initialized y.cls]) ?_ (goodA f3)) rfl hmc.1 hmc.2 f4 hR) ⟨PreW_blind, V_pre C hP hS hMr⟩ rfl hn hl.1.1 rfl (lv_room hst) hd hf
  intro w hw
  have h2 : w ∈ wsA := by
    simp only [List.mem_cons, List.not_mem_nil, or_false] at hw
    rcases hw with rfl | rfl | rfl
    · exact hlink
    · exact f1
    · exact f2
  exact ⟨h2, good_of_word (List.mem_filter.mp h2).2⟩
/-- behind a call that did not throw -/
theorem V_backXV (C : CX p s m args c cc nL own Γ sk) {M1 : Mem} {z : Int} {mc ms : Nat} {a : Array Value} {H : Heap} {locs : List Loc} {ls : Array Slot} {st0 : List Value} (hr : vx_Run p l e R s m args below meth c H locs cells slots mc ms (F0 m pc ls st0) st (PostXV Γ sk M1 (0, z) H.size a) (PostT Γ sk M1 (0, z) H.size) (Fr Γ sk H.size)) (hS : va_S (Fr Γ sk s.heap.size) s.heap H locs) (hl : lvs ls nL L)
    (kk : VV p l e R s m args below meth c Q nL Γ sk M1 (cells + mc) (slots + ms) (pc + 3) L st) : W p l e R s m args below meth c H locs cells slots Q (F0 m pc ls st0) :=
  vx_callv hr hS (fun q _ h => Fr_mono hS.1 h) (fun q h => Fr_mono hS.1 h) (fun q _ h => Fr_mono hS.1 h) (fun E ce q9 u t H1 locs1 ht hvm hpx hBX hz1 hk1 hS1 hc9 hv9 hf9 => absurd rfl hpx)
    (fun u t H1 locs1 ht hvm hw hB hz1 hk1 hS1 => by
      rw [ht] at hB
      exact kk H1 locs1 ls (wP_moved hvm.symm hB.1) hS1 hl hB.2)
theorem V_backXI (C : CX p s m args c cc nL own Γ sk) {M1 : Mem} {r : Int} {mc ms : Nat} {a : Array Value} {H : Heap} {locs : List Loc} {ls : Array Slot} {st0 : List Value} (hr : vx_Run p l e R s m args below meth c H locs cells slots mc ms (F0 m pc ls st0) st (PostXI Γ sk M1 (0, r) H.size a) (PostT Γ sk M1 (0, r) H.size) (Fr Γ sk H.size)) (hS : va_S (Fr Γ sk s.heap.size) s.heap H locs) (hl : lvs ls nL L)
    (kk : rng r → VV p l e R s m args below meth c Q nL Γ sk M1 (cells + mc) (slots + ms) (pc + 3) L (vi r :: st)) : W p l e R s m args below meth c H locs cells slots Q (F0 m pc ls st0) :=
  vx_calli hr hS (fun q _ h => Fr_mono hS.1 h) (fun q h => Fr_mono hS.1 h) (fun q _ h => Fr_mono hS.1 h) (fun E ce q9 u t H1 locs1 ht hvm hpx hBX hz1 hk1 hS1 hc9 hv9 hf9 => absurd rfl hpx)
    (fun r' u t H1 locs1 ht hvm hw hB hz1 hk1 hS1 => by
      obtain ⟨-, rfl, hrr⟩ := hw
      rw [ht] at hB
      exact kk hrr H1 locs1 ls (wP_moved hvm.symm hB.1) hS1 hl hB.2)
/-- behind a call that threw: on to the caller -/
theorem V_outXV (C : CX p s m args c cc nL own Γ sk) {M1 : Mem} {n : Nat} {z z' : Int} {mc ms mc' ms' : Nat} {a : Array Value} {H : Heap} {locs : List Loc} {ls : Array Slot} {st0 : List Value} {Qc : Array Value → State → Outcome → State → Prop} (hr : vx_Run p l e R s m args below meth c H locs cells slots mc ms (F0 m pc ls st0) st (PostXV Γ sk M1 (n + 1, z) H.size a) (PostT Γ sk M1 (n + 1, z) H.size) (Fr Γ sk H.size)) (hS : va_S (Fr Γ sk s.heap.size) s.heap H locs)
    (hex : ∀ x ∈ c.exceptionTable.toList, False) (hlk : meth.locks = false) (h1 : cells + mc ≤ mc') (h2 : slots + ms ≤ ms') : W p l e R s m args below meth c H locs cells slots (vx_MQ below Qc (PostT Γ sk M1 (n + 1, z') s.heap.size) args s mc' ms' (Fr Γ sk s.heap.size)) (F0 m pc ls st0) :=
  vx_callv hr hS (fun q _ h => Fr_mono hS.1 h) (fun q h => Fr_mono hS.1 h) (fun q _ h => Fr_mono hS.1 h) (fun E ce q9 u t H1 locs1 ht hvm hpx hBX hz1 hk1 hS1 hc9 hv9 hf9 =>
      vx_out (fun x hx => (hex x hx).elim) hlk hc9 hv9 hf9 (fun t2 ht2 hvm2 => ⟨(), hpx, ⟨hBX.1, by rw [ht2, ← ht]; exact wP_moved (hvm.symm.trans hvm2) hBX.2.1, hBX.2.2⟩, hS1.F ht2⟩) hS1.2.2 h1 h2)
    (fun u t H1 locs1 ht hvm hw hB hz1 hk1 hS1 => absurd hw (Nat.succ_ne_zero n))
theorem V_callXV0 (C : CX p s m args c cc nL own Γ sk) {y : MethodName} {bytes : ByteArray} {maxL n index k ci : Nat} {rm : Room} {As st0 : List Value} {fs : List (Option Nat)} {q : vw_C} {M1 : Mem} {r : Int}
    (hM : MetXV l y bytes maxL rm Γ sk (vr Γ k :: As) M M1 (0, r)) (hF : CalV y bytes maxL none n) (hlink : Cond.methodLink own index y ∈ wsA) (h0 : rm.cells = 0 ∧ rm.slots = 0) (hR : rm.frames + 1 ≤ R.frames ∧ 8 + (maxL + 11) + rm.locals ≤ R.locals) (hk : sk[k]? = some (.inr (ci, fs))) (hc : vwCl[ci]? = some q) (hcq : q.1 = y.cls) (hn : As.length = n) (hst : (st.map fun v => v.category).sum ≤ 8) (hf : cells ≤ R.cells ∧ slots ≤ R.slots) (hs0 : As.reverse ++ vr Γ k :: st = st0) (hd : decode cc pc = .ok (.invokevirtual index, 3))
    (kk : VV p l e R s m args below meth c Q nL Γ sk M1 cells slots (pc + 3) L st) : VV p l e R s m args below meth c Q nL Γ sk M cells slots pc L st0 := by
  subst hs0
  intro H locs ls hP hS hl hMr
  have hM' := hM H.size
  rw [h0.1, h0.2] at hM'
  exact V_backXV C (V_runXV C hM' hF hlink h0 hR hk hc hcq hn hst hf hd hP hS hl hMr) hS hl kk
theorem V_callXS0 (C : CX p s m args c cc nL own Γ sk) {y : MethodName} {bytes : ByteArray} {maxL n index : Nat} {rm : Room} {As st0 : List Value} {M1 : Mem} {r : Int}
    (hM : MetXV l y bytes maxL rm Γ sk As M M1 (0, r)) (hF : CalS y bytes maxL none n) (hlink : Cond.methodLink own index y ∈ wsA) (h0 : rm.cells = 0 ∧ rm.slots = 0) (hR : rm.frames + 1 ≤ R.frames ∧ 8 + (maxL + 11) + rm.locals ≤ R.locals) (hn : As.length = n) (hst : (st.map fun v => v.category).sum ≤ 8) (hf : cells ≤ R.cells ∧ slots ≤ R.slots) (hs0 : As.reverse ++ st = st0) (hd : decode cc pc = .ok (.invokestatic index, 3))
    (kk : VV p l e R s m args below meth c Q nL Γ sk M1 cells slots (pc + 3) L st) : VV p l e R s m args below meth c Q nL Γ sk M cells slots pc L st0 := by
  subst hs0
  intro H locs ls hP hS hl hMr
  have hM' := hM H.size
  rw [h0.1, h0.2] at hM'
  exact V_backXV C (V_runXS C hM' hF hlink h0 hR hn hst hf hd hP hS hl hMr) hS hl kk
theorem V_callXI0 (C : CX p s m args c cc nL own Γ sk) {y : MethodName} {bytes : ByteArray} {maxL n index k ci : Nat} {ret : FieldType} {rm : Room} {As st0 : List Value} {fs : List (Option Nat)} {q : vw_C} {M1 : Mem} {r : Int}
    (hM : MetXI l y bytes maxL ret rm Γ sk (vr Γ k :: As) M M1 (0, r)) (hF : CalV y bytes maxL (some ret) n) (hlink : Cond.methodLink own index y ∈ wsA) (h0 : rm.cells = 0 ∧ rm.slots = 0) (hR : rm.frames + 1 ≤ R.frames ∧ 8 + (maxL + 11) + rm.locals ≤ R.locals) (hk : sk[k]? = some (.inr (ci, fs))) (hc : vwCl[ci]? = some q) (hcq : q.1 = y.cls) (hn : As.length = n) (hst : (st.map fun v => v.category).sum ≤ 8) (hf : cells ≤ R.cells ∧ slots ≤ R.slots) (hs0 : As.reverse ++ vr Γ k :: st = st0) (hd : decode cc pc = .ok (.invokevirtual index, 3))
    (kk : rng r → VV p l e R s m args below meth c Q nL Γ sk M1 cells slots (pc + 3) L (vi r :: st)) : VV p l e R s m args below meth c Q nL Γ sk M cells slots pc L st0 := by
  subst hs0
  intro H locs ls hP hS hl hMr
  have hM' := hM H.size
  rw [h0.1, h0.2] at hM'
  exact V_backXI C (V_runXV C hM' hF hlink h0 hR hk hc hcq hn hst hf hd hP hS hl hMr) hS hl kk
/-- calls that throw, in a method that throws on -/
theorem V_callXVt (C : CX p s m args c cc nL own Γ sk) {y : MethodName} {bytes : ByteArray} {maxL n index k ci j : Nat} {rm : Room} {As st0 : List Value} {fs : List (Option Nat)} {q : vw_C} {M1 M' : Mem} {z : Int} {o : Nat × Int} {Qc : Array Value → State → Outcome → State → Prop}
    (hM : MetXV l y bytes maxL rm Γ sk (vr Γ k :: As) M M1 (j + 1, z)) (h : some (M1, (j + 1, (0 : Int))) = some (M', o)) (hex : ∀ x ∈ c.exceptionTable.toList, False) (hlk : meth.locks = false) (hF : CalV y bytes maxL none n) (hlink : Cond.methodLink own index y ∈ wsA) (h0 : rm.cells = 1 ∧ rm.slots = 6) (hR : rm.frames + 1 ≤ R.frames ∧ 8 + (maxL + 11) + rm.locals ≤ R.locals) (hRc : R.cells = tc o ∧ R.slots = ts6 o) (hk : sk[k]? = some (.inr (ci, fs))) (hc : vwCl[ci]? = some q) (hcq : q.1 = y.cls) (hn : As.length = n) (hst : (st.map fun v => v.category).sum ≤ 8) (hs0 : As.reverse ++ vr Γ k :: st = st0) (hd : decode cc pc = .ok (.invokevirtual index, 3)) :
    VV p l e R s m args below meth c (vx_MQ below Qc (PostT Γ sk M' o s.heap.size) args s (tc o) (ts6 o) (Fr Γ sk s.heap.size)) nL Γ sk M 0 0 pc L st0 := by
  subst hs0
  cases h
  intro H locs ls hP hS hl hMr
  have hM' := hM H.size
  rw [h0.1, h0.2] at hM'
  exact V_outXV C (V_runXV C hM' hF hlink h0 hR hk hc hcq hn hst (by rw [hRc.1, hRc.2]; exact ⟨Nat.le_refl 1, Nat.le_refl 6⟩) hd hP hS hl hMr) hS hex hlk (Nat.le_refl 1) (Nat.le_refl 6)
theorem V_callXSt (C : CX p s m args c cc nL own Γ sk) {y : MethodName} {bytes : ByteArray} {maxL n index j : Nat} {rm : Room} {As st0 : List Value} {M1 M' : Mem} {z : Int} {o : Nat × Int} {Qc : Array Value → State → Outcome → State → Prop}
    (hM : MetXV l y bytes maxL rm Γ sk As M M1 (j + 1, z)) (h : some (M1, (j + 1, (0 : Int))) = some (M', o)) (hex : ∀ x ∈ c.exceptionTable.toList, False) (hlk : meth.locks = false) (hF : CalS y bytes maxL none n) (hlink : Cond.methodLink own index y ∈ wsA) (h0 : rm.cells = 1 ∧ rm.slots = 6) (hR : rm.frames + 1 ≤ R.frames ∧ 8 + (maxL + 11) + rm.locals ≤ R.locals) (hRc : R.cells = tc o ∧ R.slots = ts6 o) (hn : As.length = n) (hst : (st.map fun v => v.category).sum ≤ 8) (hs0 : As.reverse ++ st = st0) (hd : decode cc pc = .ok (.invokestatic index, 3)) :
    VV p l e R s m args below meth c (vx_MQ below Qc (PostT Γ sk M' o s.heap.size) args s (tc o) (ts6 o) (Fr Γ sk s.heap.size)) nL Γ sk M 0 0 pc L st0 := by
  subst hs0
  cases h
  intro H locs ls hP hS hl hMr
  have hM' := hM H.size
  rw [h0.1, h0.2] at hM'
  exact V_outXV C (V_runXS C hM' hF hlink h0 hR hn hst (by rw [hRc.1, hRc.2]; exact ⟨Nat.le_refl 1, Nat.le_refl 6⟩) hd hP hS hl hMr) hS hex hlk (Nat.le_refl 1) (Nat.le_refl 6)
/-- .. and in a method that catches -/
theorem V_callXIc (C : CX p s m args c cc nL own Γ sk) {y : MethodName} {bytes : ByteArray} {maxL n index k ci j : Nat} {ret : FieldType} {rm : Room} {As st0 : List Value} {fs : List (Option Nat)} {q : vw_C} {M1 : Mem} {z : Int} {hh : List (Nat × Nat × Nat × Nat)}
    (hM : MetXI l y bytes maxL ret rm Γ sk (vr Γ k :: As) M M1 (j + 1, z)) (htab : c.exceptionTable.toList = tableOf hh) (pre : List ExceptionTableEntry) (x : ExceptionTableEntry) (suf : List ExceptionTableEntry) (hsplit : tableOf hh = pre ++ x :: suf) (hpass : ∀ z ∈ pre, z.catchType ≠ 0 ∧ ∃ nm : String, Cond.classLink own z.catchType nm ∈ wsA ∧ (exN (j + 1), nm) ∈ ncL) (hx : covers x pc = true) (hx0 : x.catchType ≠ 0) (hclk : Cond.classLink own x.catchType (exN (j + 1)) ∈ wsA) (hcast : exN (j + 1) ∈ castL)
    (hF : CalV y bytes maxL (some ret) n) (hlink : Cond.methodLink own index y ∈ wsA) (h0 : rm.cells = 1 ∧ rm.slots = 6) (hR : rm.frames + 1 ≤ R.frames ∧ 8 + (maxL + 11) + rm.locals ≤ R.locals) (hk : sk[k]? = some (.inr (ci, fs))) (hc : vwCl[ci]? = some q) (hcq : q.1 = y.cls) (hn : As.length = n) (hst : (st.map fun v => v.category).sum ≤ 8) (hf : cells + 1 ≤ R.cells ∧ slots + 6 ≤ R.slots) (hs0 : As.reverse ++ vr Γ k :: st = st0) (hd : decode cc pc = .ok (.invokevirtual index, 3))
    (kk : ∀ q9 : Nat, VV p l e R s m args below meth c Q nL Γ sk M1 (cells + 1) (slots + 6) x.handlerPc L [.ref q9]) : VV p l e R s m args below meth c Q nL Γ sk M cells slots pc L st0 := by
  subst hs0
  intro H locs ls hP hS hl hMr
  have hM' := hM H.size
  rw [h0.1, h0.2] at hM'
  refine vx_calli (V_runXV C hM' hF hlink h0 hR hk hc hcq hn hst hf hd hP hS hl hMr) hS (fun q _ h => Fr_mono hS.1 h) (fun q h => Fr_mono hS.1 h) (fun q _ h => Fr_mono hS.1 h) (fun E ce q9 u t H1 locs1 ht hvm hpx hBX hz1 hk1 hS1 hc9 hv9 hf9 => ?_) (fun r' u t H1 locs1 ht hvm hw hB hz1 hk1 hS1 => absurd hw.1 (Nat.succ_ne_zero j))
  obtain ⟨hE, hP1, hM1⟩ := hBX
  subst hE
  rw [ht] at hP1
  have hJ := C.2.2.2.2.2.2.2.2.2.2.2.2
  exact vx_catch C.2.2.2.1 pre x suf (htab.trans hsplit) (fun z hz => Or.inr ⟨(hpass z hz).1, by
      obtain ⟨nm, h1, h2⟩ := (hpass z hz).2
      exact ⟨nm, C.2.2.2.2.1 _ h1, hJ.2.2.2.2.2.1 _ h2⟩⟩) hx hx0 (C.2.2.2.2.1 _ hclk) (va_Nw.use rfl (hJ.2.2.2.2.1 _ hcast)) hc9 hv9 hf9 (kk q9 H1 locs1 ls (wP_moved hvm.symm hP1) hS1 hl hM1)
def exW : List String := ["java/lang/RuntimeException", "java/lang/Exception"]
/-- throw new E("text") -/
theorem V_throw (C : CX p s m args c cc nL own Γ sk) (hl9 : l.stackTraces = false) {ik is ic q j : Nat} {text : String} {M' : Mem} {o : Nat × Int} {Qc : Array Value → State → Outcome → State → Prop} (h : some (M, (j + 1, (0 : Int))) = some (M', o)) (hj : exN (j + 1) ∈ castL) (hlk9 : Cond.classLink own ik (exN (j + 1)) ∈ wsA) (hini : Cond.initialized (exN (j + 1)) ∈ wsA) (hstr : (own, is, text, q) ∈ strL)
    (hat : ∀ w ∈ (vx_atS own ic (exN (j + 1)) exW).filter goodWord, w ∈ wsA) (hbad : (vx_atS own ic (exN (j + 1)) exW).filter (fun w => !goodWord w) = [.castable (exN (j + 1)) (exN (j + 1))]) (hfit : Bundle.fit (exN (j + 1)) = true)
    (hex : ∀ x ∈ c.exceptionTable.toList, False) (hlk : meth.locks = false) (hR : 5 < R.frames ∧ 90 ≤ R.locals) (hRc : R.cells = tc o ∧ R.slots = ts6 o)
    (d0 : decode cc pc = .ok (.new ik, 3)) (d3 : decode cc (pc + 3) = .ok (.dup, 1)) (d4 : decode cc (pc + 4) = .ok (.ldc is, 2)) (d6 : decode cc (pc + 6) = .ok (.invokespecial ic, 3)) (d9 : decode cc (pc + 9) = .ok (.athrow, 1)) :
    VV p l e R s m args below meth c (vx_MQ below Qc (PostT Γ sk M' o s.heap.size) args s (tc o) (ts6 o) (Fr Γ sk s.heap.size)) nL Γ sk M 0 0 pc L [] := by
  cases h
  intro H locs ls hP hS hl hMr
  have hJ := C.2.2.2.2.2.2.2.2.2.2.2.2
  have hg1 : ∀ w ∈ wsA, vx_ot w = true := fun w hw => by
    unfold vx_ot
    rw [(List.mem_filter.mp hw).2, Bool.or_true]
  refine vx_throwS C.1 C.2.1 hl9 (names := exW) (A := Fr Γ sk s.heap.size) C.2.2.2.1 hfit (by decide +kernel) (C.2.2.2.2.1 _ hlk9) (C.2.2.2.2.1 _ hini) (C.2.2.2.2.2.2.2.2.2.2.2.1 _ hstr) (vx_hat (B := [.castable (exN (j + 1)) (exN (j + 1))]) (fun w hw => C.2.2.2.2.1 _ (hat w hw)) (fun w hw => by rw [hbad] at hw; exact hw) (vx_c (va_Nw.use rfl (hJ.2.2.2.2.1 _ hj)) vx_n)) ?_ hJ.2.2.1 hJ.2.2.2.1 hS (hl.1.1.trans C.2.2.1.symm) d0 d3 d4 d6 d9 (fun x hx => (hex x hx).elim) ?_ ?_ ?_ ?_ hlk (fun t hvm hz hk => ⟨(), Nat.succ_ne_zero j, ⟨rfl, ?_, hMr⟩, ?_⟩) hS.2.2 (Nat.le_refl 1) (Nat.le_refl 6)
  · intro w hw
    rcases List.mem_cons.mp hw with rfl | hw
    · exact hg1 _ hlk9
    · rcases List.mem_cons.mp hw with rfl | hw
      · exact hg1 _ hini
      · by_cases g : goodWord w = true
        · unfold vx_ot
          rw [g, Bool.or_true]
        · have : w ∈ (vx_atS own ic (exN (j + 1)) exW).filter (fun w => !goodWord w) := List.mem_filter.mpr ⟨hw, by
            show (!goodWord w) = true
            cases hgw : goodWord w
            · rfl
            · exact absurd hgw g⟩
          rw [hbad] at this
          cases List.mem_singleton.mp this
          rfl
  · exact hR.1
  · have := hR.2
    show (([] : List Value).map fun v => v.category).sum + (13 * (2 + 1) + 43) ≤ R.locals
    simp
    omega
  · rw [hRc.1]; exact Nat.le_refl 1
  · rw [hRc.2]; exact Nat.le_refl 6
  · exact wP_moved hvm (fun k d hk9 => cOK_kept (hP k d hk9) (hk _ (by
      have h9 := hP k d hk9
      cases d with
      | inl q =>
        obtain ⟨cell, h1, -⟩ := h9
        exact (Array.getElem?_eq_some_iff.mp h1).1
      | inr q =>
        obtain ⟨r, -, cell, h1, -⟩ := h9
        exact (Array.getElem?_eq_some_iff.mp h1).1)))
  · exact ⟨Nat.le_trans hS.1 hz, fun q hq hq2 => by rw [hk q (Nat.lt_of_lt_of_le hq hS.1)]; exact hS.2.1 q hq hq2⟩
/-- a number past the range, as the machine keeps it -/
theorem V_wrap {x : Int} (kk : VV p l e R s m args below meth c Q nL Γ sk M cells slots pc L (vi (w32 x) :: st)) : VV p l e R s m args below meth c Q nL Γ sk M cells slots pc L (vi x :: st) := by
  rw [vi_w32] at kk
  exact kk
end ThrowRules
