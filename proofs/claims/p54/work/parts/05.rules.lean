/-! the judgement over the world, and a rule an instruction -/
/-- the private methods that are asked of a builder -/
def lw_x2 : List Cond := [Cond.selects RJ4 yJ5_ensureCapacityInternal_d00df yJ5_ensureCapacityInternal_d00df, Cond.selects RJ4 yJ5_newCapacity_0f7a4 yJ5_newCapacity_0f7a4, Cond.selects RJ4 yJ5_putStringAt_47b60 yJ5_putStringAt_47b60, Cond.selects RJ4 yJ5_inflateIfNeededFor_a7421 yJ5_inflateIfNeededFor_a7421]
def wsA : List Cond := (lw_tbl ++ lw_x2).filter goodWord
theorem wsA_in {w : Cond} (h : w ∈ lw_tbl) (hg : goodWord w = true) : w ∈ wsA := List.mem_filter.mpr ⟨List.mem_append_left _ h, hg⟩
theorem wsA_x {w : Cond} (h : w ∈ lw_x2) (hg : goodWord w = true) : w ∈ wsA := List.mem_filter.mpr ⟨List.mem_append_right _ h, hg⟩
section VRules
variable {nest : List (String × Nat × MethodName × String)} {strs : List (String × Nat × String × Nat)} {lens : List Nat} {byts : List (List Int32)}
theorem Fr_mono {Γ : GG} {sk : List SD} {a b : Nat} (h : a ≤ b) {q : Nat} (hq : Fr Γ sk b q) : Fr Γ sk a q := hq.elim Or.inl (fun z => Or.inr (Nat.le_trans h z))
theorem EnvJ_go {A B : Nat → Prop} {u U : State} {H H1 : Heap} (h : EnvJ A u H) (hvm : u.vm.Alike U.vm) (hq : ∀ a : Nat, a < H.size → ¬ A a → H1[a]? = H[a]?) (hAB : ∀ q, B q → A q) : EnvJ B U H1 :=
  ⟨((h.1.moved hvm).kept hq).narrow hAB, ((h.2.1.moved hvm).kept hq).narrow hAB, ((h.2.2.1.moved hvm).kept hq).narrow hAB, ((h.2.2.2.1.moved hvm).kept hq).narrow hAB, fun q hz => va_tabs rfl (rfl : (u.setVm U.vm).vm = U.vm) (by rw [Cond.castable_setVm hvm]; exact h.2.2.2.2.1 q hz), fun q hz => va_Nc.moved hvm (h.2.2.2.2.2.1 q hz), va_tabs rfl (rfl : (u.setVm U.vm).vm = U.vm) (by rw [Cond.castable_setVm hvm]; exact h.2.2.2.2.2.2)⟩
theorem Env9_go {Γ : GG} {sk : List SD} {s U : State} {H : Heap} {locs : List Loc} (h : Env9 nest strs lens byts Γ sk s s.heap) (hS : va_S (Fr Γ sk s.heap.size) s.heap H locs) (hW : s.WarmedH U.vm) : Env9 nest strs lens byts Γ sk U H := by
  obtain ⟨h1, h2, h3, h4, h5, h6, h7, h8⟩ := h
  have hm : ∀ q, Fr Γ sk H.size q → Fr Γ sk s.heap.size q := fun q hq => Fr_mono hS.1 hq
  exact ⟨va_K.moved hW.alike h1, h2, fun q hq => va_Nw.warmM hW (h3 q hq), ((h4.moved hW.alike).kept hS.2.1).narrow hm, ⟨dgE_go h5.1 hW.alike hS.2.1 hm, dgE_go h5.2 hW.alike hS.2.1 hm⟩, ((h6.moved hW.alike).kept hS.2.1).narrow hm, fun q hq => vk_R.warm hW (h7 q hq), EnvJ_go h8 hW.alike hS.2.1 hm⟩
theorem cOK_moved {Γ : GG} {u U : State} {H : Heap} {d : SD} {a : Nat} {f : Nat → Int} (hvm : u.vm.Alike U.vm) (h : cOK Γ u H d a f) : cOK Γ U H d a f := by
  cases d with
  | inl q =>
    obtain ⟨cell, h1, h2, h3, h4, h6, h5⟩ := h
    exact ⟨cell, h1, State.isArrayOf_alike hvm h2, h3, h4, fun z => by rw [hvm.findClass]; exact h6 z, h5⟩
  | inr q => exact h
theorem wP_moved {Γ : GG} {sk : List SD} {u U : State} {H : Heap} {M : Mem} (hvm : u.vm.Alike U.vm) (h : wP Γ sk u H M) : wP Γ sk U H M := fun k d hk => cOK_moved hvm (h k d hk)
theorem cOK_kept {Γ : GG} {u : State} {H H1 : Heap} {d : SD} {a : Nat} {f : Nat → Int} (h : cOK Γ u H d a f) (hq : H1[a]? = H[a]?) : cOK Γ u H1 d a f := by
  cases d with
  | inl q =>
    obtain ⟨cell, h1, h2⟩ := h
    exact ⟨cell, by rw [hq]; exact h1, h2⟩
  | inr q =>
    obtain ⟨r, h1, h2⟩ := h
    exact ⟨r, h1, h2.kept hq⟩
/-- one cell written, the others as they were -/
theorem wP_set {Γ : GG} {sk : List SD} {u : State} {H H1 : Heap} {M M1 : Mem} {k : Nat} {d : SD} (h : wP Γ sk u H M) (inj : ∀ i j : Nat, i < sk.length → j < sk.length → gA Γ i = gA Γ j → i = j)
    (hk : sk[k]? = some d) (hd : cOK Γ u H1 d (gA Γ k) (M1 k)) (oq : ∀ q : Nat, q ≠ gA Γ k → H1[q]? = H[q]?) (oM : ∀ j, j ≠ k → M1 j = M j) : wP Γ sk u H1 M1 := by
  intro j e hj
  by_cases hjk : j = k
  · subst hjk
    cases hk.symm.trans hj
    exact hd
  · rw [oM j hjk]
    refine cOK_kept (h j e hj) (oq _ fun z => hjk (inj j k ?_ ?_ z))
    · exact (List.getElem?_eq_some_iff.mp hj).1
    · exact (List.getElem?_eq_some_iff.mp hk).1
variable {p : Program} {l : Launch} {e : Env} {R : Room} {s : State} {m : MethodId} {args : Array Value} {below : List Frame} {meth : Method} {c : Code} {Q : State → Prop}
def VV (p : Program) (l : Launch) (e : Env) (R : Room) (s : State) (m : MethodId) (args : Array Value) (below : List Frame) (meth : Method) (c : Code) (Q : State → Prop) (nL : Nat) (Γ : GG) (sk : List SD) (M : Mem) (cells slots pc : Nat) (L : List (Nat × Value)) (st : List Value) : Prop :=
  ∀ (H : Heap) (locs : List Loc) (ls : Array Slot), wP Γ sk s H M → va_S (Fr Γ sk s.heap.size) s.heap H locs → lvs ls nL L → mR M → W p l e R s m args below meth c H locs cells slots Q (F0 m pc ls st)
def CX9 (nest : List (String × Nat × MethodName × String)) (strs : List (String × Nat × String × Nat)) (lens : List Nat) (byts : List (List Int32)) (p : Program) (s : State) (m : MethodId) (args : Array Value) (c : Code) (cc : ByteArray) (nL : Nat) (own : String) (Γ : GG) (sk : List SD) : Prop :=
  p.tables.exec = Jvm.exec ∧ c.code = cc ∧ c.maxLocals = nL ∧ s.vm.findClass own = some m.cls ∧ (∀ w ∈ wsA, w.before args s = true) ∧ Env9 nest strs lens byts Γ sk s s.heap
variable {nL : Nat} {Γ : GG} {sk : List SD} {M : Mem} {cells slots pc : Nat} {L : List (Nat × Value)} {st : List Value} {cc : ByteArray} {own : String}
theorem V_sub {L' : List (Nat × Value)} (ks : List Nat) (hl : ks.filterMap (fun k => nth L k) = L') (hn : va_nd ks = true) (k : VV p l e R s m args below meth c Q nL Γ sk M cells slots pc L' st) : VV p l e R s m args below meth c Q nL Γ sk M cells slots pc L st := by
  intro H locs ls hP hS hl0 hM
  refine k H locs ls hP hS ?_ hM
  obtain ⟨⟨a1, a2, a3⟩, b, d⟩ := hl0
  have hmem : ∀ q ∈ L', q ∈ L := fun q hq => by
    rw [← hl] at hq
    obtain ⟨i, -, hi⟩ := List.mem_filterMap.mp hq
    exact nth_mem hi
  refine ⟨⟨a1, a2, fun q hq => a3 q (hmem q hq)⟩, ?_, fun q hq => d q (hmem q hq)⟩
  clear k hmem
  subst hl
  have nod_at : ∀ (L : List (Nat × Value)), nodL L → ∀ (i j : Nat) (x y : Nat × Value), nth L i = some x → nth L j = some y → x.1 = y.1 → i = j := by
    intro L
    induction L with
    | nil => intro _ i j x y h1; cases h1
    | cons z r ih =>
      intro hn i j x y h1 h2 h3
      match i, j, h1, h2 with
      | 0, 0, _, _ => rfl
      | 0, j + 1, h1, h2 => cases h1; exact absurd h3.symm (hn.1 y (nth_mem (l := r) h2))
      | i + 1, 0, h1, h2 => cases h2; exact absurd h3 (hn.1 x (nth_mem (l := r) h1))
      | i + 1, j + 1, h1, h2 => rw [ih hn.2 i j x y h1 h2 h3]
  induction ks with
  | nil => exact trivial
  | cons a r ih =>
    simp only [va_nd, Bool.and_eq_true, decide_eq_true_eq] at hn
    rw [List.filterMap_cons]
    cases h : nth L a with
    | none => exact ih hn.2
    | some x =>
      refine ⟨fun z hz => ?_, ih hn.2⟩
      obtain ⟨i, hi, hi2⟩ := List.mem_filterMap.mp hz
      intro e1
      exact hn.1 (by rw [← nod_at L b i a z x hi2 h e1]; exact hi)
theorem V_M {M' : Mem} (h : M = M') (k : VV p l e R s m args below meth c Q nL Γ sk M' cells slots pc L st) : VV p l e R s m args below meth c Q nL Γ sk M cells slots pc L st := h ▸ k
theorem V_rng (k : mR M → VV p l e R s m args below meth c Q nL Γ sk M cells slots pc L st) : VV p l e R s m args below meth c Q nL Γ sk M cells slots pc L st := fun H locs ls hP hS hl hM => k hM H locs ls hP hS hl hM
theorem V_iconst (C : CX9 nest strs lens byts p s m args c cc nL own Γ sk) {n : Int} (hd : decode cc pc = .ok (.iconst n, 1)) (k : VV p l e R s m args below meth c Q nL Γ sk M cells slots (pc + 1) L (vi n :: st)) : VV p l e R s m args below meth c Q nL Γ sk M cells slots pc L st :=
  fun H locs ls hP hS hl hM => lv_iconst C.1 C.2.1 hd rfl (k H locs ls hP hS hl hM)
theorem V_bipush (C : CX9 nest strs lens byts p s m args c cc nL own Γ sk) {n : Int} (hd : decode cc pc = .ok (.bipush n, 2)) (hv : (Int8.ofInt n).toInt32 = i32 n) (k : VV p l e R s m args below meth c Q nL Γ sk M cells slots (pc + 2) L (vi n :: st)) : VV p l e R s m args below meth c Q nL Γ sk M cells slots pc L st :=
  fun H locs ls hP hS hl hM => lv_bipush C.1 C.2.1 hd hv (k H locs ls hP hS hl hM)
theorem V_sipush (C : CX9 nest strs lens byts p s m args c cc nL own Γ sk) {n : Int} (hd : decode cc pc = .ok (.sipush n, 3)) (hv : (Int16.ofInt n).toInt32 = i32 n) (k : VV p l e R s m args below meth c Q nL Γ sk M cells slots (pc + 3) L (vi n :: st)) : VV p l e R s m args below meth c Q nL Γ sk M cells slots pc L st :=
  fun H locs ls hP hS hl hM => lv_sipush C.1 C.2.1 hd hv (k H locs ls hP hS hl hM)
theorem V_ldc (C : CX9 nest strs lens byts p s m args c cc nL own Γ sk) {n : Int} {index : Nat} {v : Int32} (hw : Cond.constant own index v ∈ wsA) (hv : v = i32 n) (hd : decode cc pc = .ok (.ldc index, 2)) (k : VV p l e R s m args below meth c Q nL Γ sk M cells slots (pc + 2) L (vi n :: st)) : VV p l e R s m args below meth c Q nL Γ sk M cells slots pc L st := by
  subst hv
  exact fun H locs ls hP hS hl hM => lv_ldc C.1 C.2.1 C.2.2.2.1 (C.2.2.2.2.1 _ hw) hd (k H locs ls hP hS hl hM)
theorem V_lconst (C : CX9 nest strs lens byts p s m args c cc nL own Γ sk) {n : Fin 2} {x : Int} (hd : decode cc pc = .ok (.lconst n, 1)) (hv : Int64.ofNat (n : Nat) = Int64.ofInt x) (k : VV p l e R s m args below meth c Q nL Γ sk M cells slots (pc + 1) L (vl x :: st)) : VV p l e R s m args below meth c Q nL Γ sk M cells slots pc L st :=
  fun H locs ls hP hS hl hM => lv_lconst C.1 C.2.1 hd hv (k H locs ls hP hS hl hM)
theorem V_ldc2 (C : CX9 nest strs lens byts p s m args c cc nL own Γ sk) {x : Int} {index : Nat} {v : Int64} (hw : Cond.constantLong own index v ∈ wsA) (hv : v = Int64.ofInt x) (hd : decode cc pc = .ok (.ldc2_w index, 3)) (k : VV p l e R s m args below meth c Q nL Γ sk M cells slots (pc + 3) L (vl x :: st)) : VV p l e R s m args below meth c Q nL Γ sk M cells slots pc L st := by
  subst hv
  exact fun H locs ls hP hS hl hM => lv_ldc2 C.1 C.2.1 C.2.2.2.1 (C.2.2.2.2.1 _ hw) hd (k H locs ls hP hS hl hM)
theorem V_iload_n (C : CX9 nest strs lens byts p s m args c cc nL own Γ sk) {i : Fin 4} {x : Int} (j : Nat) (hj : nth L j = some ((i : Nat), vi x)) (hd : decode cc pc = .ok (.iload_n i, 1)) (k : VV p l e R s m args below meth c Q nL Γ sk M cells slots (pc + 1) L (vi x :: st)) : VV p l e R s m args below meth c Q nL Γ sk M cells slots pc L st :=
  fun H locs ls hP hS hl hM => lv_iload_n C.1 C.2.1 hd rfl (lvs_at hl j hj) (k H locs ls hP hS hl hM)
theorem V_iload (C : CX9 nest strs lens byts p s m args c cc nL own Γ sk) {i : Nat} {x : Int} (j : Nat) (hj : nth L j = some (i, vi x)) (hd : decode cc pc = .ok (.iload i, 2)) (k : VV p l e R s m args below meth c Q nL Γ sk M cells slots (pc + 2) L (vi x :: st)) : VV p l e R s m args below meth c Q nL Γ sk M cells slots pc L st :=
  fun H locs ls hP hS hl hM => lv_iload C.1 C.2.1 hd (lvs_at hl j hj) (k H locs ls hP hS hl hM)
theorem V_aload_n (C : CX9 nest strs lens byts p s m args c cc nL own Γ sk) {i : Fin 4} {a : Nat} (j : Nat) (hj : nth L j = some ((i : Nat), .ref a)) (hd : decode cc pc = .ok (.aload_n i, 1)) (k : VV p l e R s m args below meth c Q nL Γ sk M cells slots (pc + 1) L (.ref a :: st)) : VV p l e R s m args below meth c Q nL Γ sk M cells slots pc L st :=
  fun H locs ls hP hS hl hM => lv_aload_n C.1 C.2.1 hd rfl (lvs_at hl j hj) (k H locs ls hP hS hl hM)
theorem V_aload (C : CX9 nest strs lens byts p s m args c cc nL own Γ sk) {i a : Nat} (j : Nat) (hj : nth L j = some (i, .ref a)) (hd : decode cc pc = .ok (.aload i, 2)) (k : VV p l e R s m args below meth c Q nL Γ sk M cells slots (pc + 2) L (.ref a :: st)) : VV p l e R s m args below meth c Q nL Γ sk M cells slots pc L st :=
  fun H locs ls hP hS hl hM => lv_aload C.1 C.2.1 hd (lvs_at hl j hj) (k H locs ls hP hS hl hM)
theorem V_istore_n (C : CX9 nest strs lens byts p s m args c cc nL own Γ sk) {i : Fin 4} {x : Int} {L' : List (Nat × Value)} (hL : stL (i : Nat) (vi x) L = L') (hn : (i : Nat) < nL) (hd : decode cc pc = .ok (.istore_n i, 1)) (k : VV p l e R s m args below meth c Q nL Γ sk M cells slots (pc + 1) L' st) : VV p l e R s m args below meth c Q nL Γ sk M cells slots pc L (vi x :: st) :=
  fun H locs ls hP hS hl hM => lv_istore_n C.1 C.2.1 hd rfl hl.1 hn rfl (fun ls' h' => k H locs ls' hP hS (hL ▸ lvs_st hl rfl h' rfl) hM)
theorem V_istore (C : CX9 nest strs lens byts p s m args c cc nL own Γ sk) {i : Nat} {x : Int} {L' : List (Nat × Value)} (hL : stL i (vi x) L = L') (hn : i < nL) (hd : decode cc pc = .ok (.istore i, 2)) (k : VV p l e R s m args below meth c Q nL Γ sk M cells slots (pc + 2) L' st) : VV p l e R s m args below meth c Q nL Γ sk M cells slots pc L (vi x :: st) :=
  fun H locs ls hP hS hl hM => lv_istore C.1 C.2.1 hd hl.1 hn rfl (fun ls' h' => k H locs ls' hP hS (hL ▸ lvs_st hl rfl h' rfl) hM)
theorem V_astore_n (C : CX9 nest strs lens byts p s m args c cc nL own Γ sk) {i : Fin 4} {a : Nat} {L' : List (Nat × Value)} (hL : stL (i : Nat) (.ref a) L = L') (hn : (i : Nat) < nL) (hd : decode cc pc = .ok (.astore_n i, 1)) (k : VV p l e R s m args below meth c Q nL Γ sk M cells slots (pc + 1) L' st) : VV p l e R s m args below meth c Q nL Γ sk M cells slots pc L (.ref a :: st) :=
  fun H locs ls hP hS hl hM => lv_astore_n C.1 C.2.1 hd rfl hl.1 hn rfl (fun ls' h' => k H locs ls' hP hS (hL ▸ lvs_st hl rfl h' rfl) hM)
theorem V_astore (C : CX9 nest strs lens byts p s m args c cc nL own Γ sk) {i a : Nat} {L' : List (Nat × Value)} (hL : stL i (.ref a) L = L') (hn : i < nL) (hd : decode cc pc = .ok (.astore i, 2)) (k : VV p l e R s m args below meth c Q nL Γ sk M cells slots (pc + 2) L' st) : VV p l e R s m args below meth c Q nL Γ sk M cells slots pc L (.ref a :: st) :=
  fun H locs ls hP hS hl hM => lv_astore C.1 C.2.1 hd hl.1 hn rfl (fun ls' h' => k H locs ls' hP hS (hL ▸ lvs_st hl rfl h' rfl) hM)
theorem V_iinc (C : CX9 nest strs lens byts p s m args c cc nL own Γ sk) {i : Nat} {n x : Int} {L' : List (Nat × Value)} (j : Nat) (hj : nth L j = some (i, vi x)) (hL : stL i (vi (x + n)) L = L') (hn : i < nL) (hd : decode cc pc = .ok (.iinc i n, 3)) (k : VV p l e R s m args below meth c Q nL Γ sk M cells slots (pc + 3) L' st) : VV p l e R s m args below meth c Q nL Γ sk M cells slots pc L st :=
  fun H locs ls hP hS hl hM => by
    obtain ⟨q, hq⟩ := List.getElem?_of_mem (nth_mem hj)
    exact lv_iinc (v := i32 (x + n)) C.1 C.2.1 hd hl.1 hq (i32_add x n) hn rfl (fun ls' h' => k H locs ls' hP hS (hL ▸ lvs_st hl rfl h' rfl) hM)
theorem V_iadd (C : CX9 nest strs lens byts p s m args c cc nL own Γ sk) {x y : Int} (hd : decode cc pc = .ok (.iadd, 1)) (k : VV p l e R s m args below meth c Q nL Γ sk M cells slots (pc + 1) L (vi (x + y) :: st)) : VV p l e R s m args below meth c Q nL Γ sk M cells slots pc L (vi y :: vi x :: st) :=
  fun H locs ls hP hS hl hM => lv_iadd C.1 C.2.1 hd (by rw [i32_add]; exact k H locs ls hP hS hl hM)
theorem V_isub (C : CX9 nest strs lens byts p s m args c cc nL own Γ sk) {x y : Int} (hd : decode cc pc = .ok (.isub, 1)) (k : VV p l e R s m args below meth c Q nL Γ sk M cells slots (pc + 1) L (vi (x - y) :: st)) : VV p l e R s m args below meth c Q nL Γ sk M cells slots pc L (vi y :: vi x :: st) :=
  fun H locs ls hP hS hl hM => lv_isub C.1 C.2.1 hd (by rw [i32_sub]; exact k H locs ls hP hS hl hM)
theorem V_imul (C : CX9 nest strs lens byts p s m args c cc nL own Γ sk) {x y : Int} (hd : decode cc pc = .ok (.imul, 1)) (k : VV p l e R s m args below meth c Q nL Γ sk M cells slots (pc + 1) L (vi (x * y) :: st)) : VV p l e R s m args below meth c Q nL Γ sk M cells slots pc L (vi y :: vi x :: st) :=
  fun H locs ls hP hS hl hM => lv_imul C.1 C.2.1 hd (by rw [i32_mul]; exact k H locs ls hP hS hl hM)
theorem V_ineg (C : CX9 nest strs lens byts p s m args c cc nL own Γ sk) {x : Int} (hd : decode cc pc = .ok (.ineg, 1)) (k : VV p l e R s m args below meth c Q nL Γ sk M cells slots (pc + 1) L (vi (-x) :: st)) : VV p l e R s m args below meth c Q nL Γ sk M cells slots pc L (vi x :: st) :=
  fun H locs ls hP hS hl hM => lv_ineg C.1 C.2.1 hd (by rw [i32_neg]; exact k H locs ls hP hS hl hM)
theorem V_idiv (C : CX9 nest strs lens byts p s m args c cc nL own Γ sk) {x y : Int} (h : (0 ≤ x ∧ x ≤ 2147483647) ∧ 0 < y ∧ y ≤ 2147483647) (hd : decode cc pc = .ok (.idiv, 1)) (k : VV p l e R s m args below meth c Q nL Γ sk M cells slots (pc + 1) L (vi (x / y) :: st)) : VV p l e R s m args below meth c Q nL Γ sk M cells slots pc L (vi y :: vi x :: st) :=
  fun H locs ls hP hS hl hM => lv_idiv C.1 C.2.1 hd (fun z => by
    have := (i32_eq (x := y) (y := 0) ⟨by omega, h.2.2⟩ (by decide)).mp z
    omega) (by rw [i32_div h.1.1 h.1.2 h.2.1 h.2.2]; exact k H locs ls hP hS hl hM)
theorem V_irem (C : CX9 nest strs lens byts p s m args c cc nL own Γ sk) {x y : Int} (h : (0 ≤ x ∧ x ≤ 2147483647) ∧ 0 < y ∧ y ≤ 2147483647) (hd : decode cc pc = .ok (.irem, 1)) (k : VV p l e R s m args below meth c Q nL Γ sk M cells slots (pc + 1) L (vi (x % y) :: st)) : VV p l e R s m args below meth c Q nL Γ sk M cells slots pc L (vi y :: vi x :: st) :=
  fun H locs ls hP hS hl hM => lv_irem C.1 C.2.1 hd (fun z => by
    have := (i32_eq (x := y) (y := 0) ⟨by omega, h.2.2⟩ (by decide)).mp z
    omega) (by rw [i32_rem h.1.1 h.1.2 h.2.1 h.2.2]; exact k H locs ls hP hS hl hM)
theorem V_dup (C : CX9 nest strs lens byts p s m args c cc nL own Γ sk) {v : Value} (hv : v.category = 1) (hd : decode cc pc = .ok (.dup, 1)) (k : VV p l e R s m args below meth c Q nL Γ sk M cells slots (pc + 1) L (v :: v :: st)) : VV p l e R s m args below meth c Q nL Γ sk M cells slots pc L (v :: st) :=
  fun H locs ls hP hS hl hM => lv_dup C.1 C.2.1 hd hv (k H locs ls hP hS hl hM)
theorem V_dup2 (C : CX9 nest strs lens byts p s m args c cc nL own Γ sk) {v w : Value} (hv : v.category = 1) (hw : w.category = 1) (hd : decode cc pc = .ok (.dup2, 1)) (k : VV p l e R s m args below meth c Q nL Γ sk M cells slots (pc + 1) L (v :: w :: v :: w :: st)) : VV p l e R s m args below meth c Q nL Γ sk M cells slots pc L (v :: w :: st) :=
  fun H locs ls hP hS hl hM => lv_dup2_11 C.1 C.2.1 hd hv hw (k H locs ls hP hS hl hM)
theorem V_pop (C : CX9 nest strs lens byts p s m args c cc nL own Γ sk) {v : Value} (hv : v.category = 1) (hd : decode cc pc = .ok (.pop, 1)) (k : VV p l e R s m args below meth c Q nL Γ sk M cells slots (pc + 1) L st) : VV p l e R s m args below meth c Q nL Γ sk M cells slots pc L (v :: st) :=
  fun H locs ls hP hS hl hM => lv_pop C.1 C.2.1 hd hv (k H locs ls hP hS hl hM)
theorem V_goto (C : CX9 nest strs lens byts p s m args c cc nL own Γ sk) {off : Int} (tgt : Nat) (hd : decode cc pc = .ok (.goto off, 3)) (ht : (pc : Int) + off = (tgt : Int)) (k : VV p l e R s m args below meth c Q nL Γ sk M cells slots tgt L st) : VV p l e R s m args below meth c Q nL Γ sk M cells slots pc L st :=
  fun H locs ls hP hS hl hM => lv_goto C.1 C.2.1 hd ht (k H locs ls hP hS hl hM)
theorem V_icmp_eq (C : CX9 nest strs lens byts p s m args c cc nL own Γ sk) {x y : Int} {off : Int} (tgt : Nat) (hx : rng x) (hy : rng y) (hd : decode cc pc = .ok (.if_icmp .eq off, 3)) (ht : (pc : Int) + off = (tgt : Int)) (kt : x = y → VV p l e R s m args below meth c Q nL Γ sk M cells slots tgt L st) (kf : ¬ x = y → VV p l e R s m args below meth c Q nL Γ sk M cells slots (pc + 3) L st) : VV p l e R s m args below meth c Q nL Γ sk M cells slots pc L (vi y :: vi x :: st) :=
  fun H locs ls hP hS hl hM => lv_icmp_eq C.1 C.2.1 hd ht (fun z => kt ((i32_eq hx hy).mp z) H locs ls hP hS hl hM) (fun z => kf (fun w => z ((i32_eq hx hy).mpr w)) H locs ls hP hS hl hM)
theorem V_if_eq (C : CX9 nest strs lens byts p s m args c cc nL own Γ sk) {x : Int} {off : Int} (tgt : Nat) (hx : rng x) (hd : decode cc pc = .ok (.ifCond .eq off, 3)) (ht : (pc : Int) + off = (tgt : Int)) (kt : x = 0 → VV p l e R s m args below meth c Q nL Γ sk M cells slots tgt L st) (kf : ¬ x = 0 → VV p l e R s m args below meth c Q nL Γ sk M cells slots (pc + 3) L st) : VV p l e R s m args below meth c Q nL Γ sk M cells slots pc L (vi x :: st) :=
  fun H locs ls hP hS hl hM => lv_if_eq C.1 C.2.1 hd ht (fun z => kt ((i32_eq hx (show rng 0 by decide)).mp z) H locs ls hP hS hl hM) (fun z => kf (fun w => z ((i32_eq hx (show rng 0 by decide)).mpr w)) H locs ls hP hS hl hM)
theorem V_icmp_ne (C : CX9 nest strs lens byts p s m args c cc nL own Γ sk) {x y : Int} {off : Int} (tgt : Nat) (hx : rng x) (hy : rng y) (hd : decode cc pc = .ok (.if_icmp .ne off, 3)) (ht : (pc : Int) + off = (tgt : Int)) (kt : ¬ x = y → VV p l e R s m args below meth c Q nL Γ sk M cells slots tgt L st) (kf : x = y → VV p l e R s m args below meth c Q nL Γ sk M cells slots (pc + 3) L st) : VV p l e R s m args below meth c Q nL Γ sk M cells slots pc L (vi y :: vi x :: st) :=
  fun H locs ls hP hS hl hM => lv_icmp_ne C.1 C.2.1 hd ht (fun z => kt (fun w => z ((i32_eq hx hy).mpr w)) H locs ls hP hS hl hM) (fun z => kf ((i32_eq hx hy).mp z) H locs ls hP hS hl hM)
theorem V_if_ne (C : CX9 nest strs lens byts p s m args c cc nL own Γ sk) {x : Int} {off : Int} (tgt : Nat) (hx : rng x) (hd : decode cc pc = .ok (.ifCond .ne off, 3)) (ht : (pc : Int) + off = (tgt : Int)) (kt : ¬ x = 0 → VV p l e R s m args below meth c Q nL Γ sk M cells slots tgt L st) (kf : x = 0 → VV p l e R s m args below meth c Q nL Γ sk M cells slots (pc + 3) L st) : VV p l e R s m args below meth c Q nL Γ sk M cells slots pc L (vi x :: st) :=
  fun H locs ls hP hS hl hM => lv_if_ne C.1 C.2.1 hd ht (fun z => kt (fun w => z ((i32_eq hx (show rng 0 by decide)).mpr w)) H locs ls hP hS hl hM) (fun z => kf ((i32_eq hx (show rng 0 by decide)).mp z) H locs ls hP hS hl hM)
theorem V_icmp_lt (C : CX9 nest strs lens byts p s m args c cc nL own Γ sk) {x y : Int} {off : Int} (tgt : Nat) (hx : rng x) (hy : rng y) (hd : decode cc pc = .ok (.if_icmp .lt off, 3)) (ht : (pc : Int) + off = (tgt : Int)) (kt : x < y → VV p l e R s m args below meth c Q nL Γ sk M cells slots tgt L st) (kf : ¬ x < y → VV p l e R s m args below meth c Q nL Γ sk M cells slots (pc + 3) L st) : VV p l e R s m args below meth c Q nL Γ sk M cells slots pc L (vi y :: vi x :: st) :=
  fun H locs ls hP hS hl hM => lv_icmp_lt C.1 C.2.1 hd ht (fun z => kt ((i32_lt hx hy).mp z) H locs ls hP hS hl hM) (fun z => kf (fun w => z ((i32_lt hx hy).mpr w)) H locs ls hP hS hl hM)
theorem V_if_lt (C : CX9 nest strs lens byts p s m args c cc nL own Γ sk) {x : Int} {off : Int} (tgt : Nat) (hx : rng x) (hd : decode cc pc = .ok (.ifCond .lt off, 3)) (ht : (pc : Int) + off = (tgt : Int)) (kt : x < 0 → VV p l e R s m args below meth c Q nL Γ sk M cells slots tgt L st) (kf : ¬ x < 0 → VV p l e R s m args below meth c Q nL Γ sk M cells slots (pc + 3) L st) : VV p l e R s m args below meth c Q nL Γ sk M cells slots pc L (vi x :: st) :=
  fun H locs ls hP hS hl hM => lv_if_lt C.1 C.2.1 hd ht (fun z => kt ((i32_lt hx (show rng 0 by decide)).mp z) H locs ls hP hS hl hM) (fun z => kf (fun w => z ((i32_lt hx (show rng 0 by decide)).mpr w)) H locs ls hP hS hl hM)
theorem V_icmp_ge (C : CX9 nest strs lens byts p s m args c cc nL own Γ sk) {x y : Int} {off : Int} (tgt : Nat) (hx : rng x) (hy : rng y) (hd : decode cc pc = .ok (.if_icmp .ge off, 3)) (ht : (pc : Int) + off = (tgt : Int)) (kt : y ≤ x → VV p l e R s m args below meth c Q nL Γ sk M cells slots tgt L st) (kf : ¬ y ≤ x → VV p l e R s m args below meth c Q nL Γ sk M cells slots (pc + 3) L st) : VV p l e R s m args below meth c Q nL Γ sk M cells slots pc L (vi y :: vi x :: st) :=
  fun H locs ls hP hS hl hM => lv_icmp_ge C.1 C.2.1 hd ht (fun z => kt ((i32_le hy hx).mp z) H locs ls hP hS hl hM) (fun z => kf (fun w => z ((i32_le hy hx).mpr w)) H locs ls hP hS hl hM)
theorem V_if_ge (C : CX9 nest strs lens byts p s m args c cc nL own Γ sk) {x : Int} {off : Int} (tgt : Nat) (hx : rng x) (hd : decode cc pc = .ok (.ifCond .ge off, 3)) (ht : (pc : Int) + off = (tgt : Int)) (kt : 0 ≤ x → VV p l e R s m args below meth c Q nL Γ sk M cells slots tgt L st) (kf : ¬ 0 ≤ x → VV p l e R s m args below meth c Q nL Γ sk M cells slots (pc + 3) L st) : VV p l e R s m args below meth c Q nL Γ sk M cells slots pc L (vi x :: st) :=
  fun H locs ls hP hS hl hM => lv_if_ge C.1 C.2.1 hd ht (fun z => kt ((i32_le (show rng 0 by decide) hx).mp z) H locs ls hP hS hl hM) (fun z => kf (fun w => z ((i32_le (show rng 0 by decide) hx).mpr w)) H locs ls hP hS hl hM)
theorem V_icmp_gt (C : CX9 nest strs lens byts p s m args c cc nL own Γ sk) {x y : Int} {off : Int} (tgt : Nat) (hx : rng x) (hy : rng y) (hd : decode cc pc = .ok (.if_icmp .gt off, 3)) (ht : (pc : Int) + off = (tgt : Int)) (kt : y < x → VV p l e R s m args below meth c Q nL Γ sk M cells slots tgt L st) (kf : ¬ y < x → VV p l e R s m args below meth c Q nL Γ sk M cells slots (pc + 3) L st) : VV p l e R s m args below meth c Q nL Γ sk M cells slots pc L (vi y :: vi x :: st) :=
  fun H locs ls hP hS hl hM => lv_icmp_gt C.1 C.2.1 hd ht (fun z => kt ((i32_lt hy hx).mp z) H locs ls hP hS hl hM) (fun z => kf (fun w => z ((i32_lt hy hx).mpr w)) H locs ls hP hS hl hM)
theorem V_if_gt (C : CX9 nest strs lens byts p s m args c cc nL own Γ sk) {x : Int} {off : Int} (tgt : Nat) (hx : rng x) (hd : decode cc pc = .ok (.ifCond .gt off, 3)) (ht : (pc : Int) + off = (tgt : Int)) (kt : 0 < x → VV p l e R s m args below meth c Q nL Γ sk M cells slots tgt L st) (kf : ¬ 0 < x → VV p l e R s m args below meth c Q nL Γ sk M cells slots (pc + 3) L st) : VV p l e R s m args below meth c Q nL Γ sk M cells slots pc L (vi x :: st) :=
  fun H locs ls hP hS hl hM => lv_if_gt C.1 C.2.1 hd ht (fun z => kt ((i32_lt (show rng 0 by decide) hx).mp z) H locs ls hP hS hl hM) (fun z => kf (fun w => z ((i32_lt (show rng 0 by decide) hx).mpr w)) H locs ls hP hS hl hM)
theorem V_icmp_le (C : CX9 nest strs lens byts p s m args c cc nL own Γ sk) {x y : Int} {off : Int} (tgt : Nat) (hx : rng x) (hy : rng y) (hd : decode cc pc = .ok (.if_icmp .le off, 3)) (ht : (pc : Int) + off = (tgt : Int)) (kt : x ≤ y → VV p l e R s m args below meth c Q nL Γ sk M cells slots tgt L st) (kf : ¬ x ≤ y → VV p l e R s m args below meth c Q nL Γ sk M cells slots (pc + 3) L st) : VV p l e R s m args below meth c Q nL Γ sk M cells slots pc L (vi y :: vi x :: st) :=
  fun H locs ls hP hS hl hM => lv_icmp_le C.1 C.2.1 hd ht (fun z => kt ((i32_le hx hy).mp z) H locs ls hP hS hl hM) (fun z => kf (fun w => z ((i32_le hx hy).mpr w)) H locs ls hP hS hl hM)
theorem V_if_le (C : CX9 nest strs lens byts p s m args c cc nL own Γ sk) {x : Int} {off : Int} (tgt : Nat) (hx : rng x) (hd : decode cc pc = .ok (.ifCond .le off, 3)) (ht : (pc : Int) + off = (tgt : Int)) (kt : x ≤ 0 → VV p l e R s m args below meth c Q nL Γ sk M cells slots tgt L st) (kf : ¬ x ≤ 0 → VV p l e R s m args below meth c Q nL Γ sk M cells slots (pc + 3) L st) : VV p l e R s m args below meth c Q nL Γ sk M cells slots pc L (vi x :: st) :=
  fun H locs ls hP hS hl hM => lv_if_le C.1 C.2.1 hd ht (fun z => kt ((i32_le hx (show rng 0 by decide)).mp z) H locs ls hP hS hl hM) (fun z => kf (fun w => z ((i32_le hx (show rng 0 by decide)).mpr w)) H locs ls hP hS hl hM)
end VRules
