/-! constructors: the cells that they make lie one behind another -/
abbrev PD : Type := (Nat × Nat) ⊕ (Nat × List Value)
/-- what stands at first in a row: nought, or (kinds from 4 on) a reference to the cell t + j -/
def elP (t j : Nat) : Value := match t with
  | 0 => vi 0
  | 1 => vi 0
  | 2 => vi 0
  | 3 => vl 0
  | b + 4 => .ref (b + j)
def pOK (D : va_G) (U : State) (H : Heap) (d : PD) (a : Nat) : Prop := match d with
  | .inl q => ∃ cell : Cell, H[a]? = some cell ∧ U.isArrayOf cell (tyOf q.1) ∧ cell.vm ≠ .unknown ∧ cell.slots.size = q.2 ∧ (q.1 = 2 → U.vm.findClass "[B" = some cell.cls) ∧ ∀ j : Nat, j < q.2 → cell.slots[j]? = some (elP q.1 j)
  | .inr q => ∃ r : vw_C, vwCl[q.1]? = some r ∧ t_OB a (D.1 q.1) r.2.2 (D.2 q.1) H (vp_V q.2)
def pP (D : va_G) (U : State) (H : Heap) (lo : Nat) (ps : List PD) : Prop := ∀ (k : Nat) (d : PD), nth ps k = some d → pOK D U H d (lo + k)
theorem pOK.kept {D : va_G} {U : State} {H H1 : Heap} {d : PD} {a : Nat} (h : pOK D U H d a) (e : H1[a]? = H[a]?) : pOK D U H1 d a := by
  cases d with
  | inl q =>
    obtain ⟨cell, h1, h2⟩ := h
    exact ⟨cell, by rw [e]; exact h1, h2⟩
  | inr q =>
    obtain ⟨r, h1, h2⟩ := h
    exact ⟨r, h1, t_OB.kept h2 e⟩
theorem pOK.moved {D : va_G} {u U : State} {H : Heap} {d : PD} {a : Nat} (hvm : u.vm.Alike U.vm) (h : pOK D u H d a) : pOK D U H d a := by
  cases d with
  | inl q =>
    obtain ⟨cell, h1, h2, h3, h4, h5, h6⟩ := h
    exact ⟨cell, h1, State.isArrayOf_alike hvm h2, h3, h4, fun z => by rw [hvm.findClass]; exact h5 z, h6⟩
  | inr q => exact h
theorem pOK.lt {D : va_G} {U : State} {H : Heap} {d : PD} {a : Nat} (h : pOK D U H d a) : a < H.size := by
  cases d with
  | inl q =>
    obtain ⟨cell, h1, h2⟩ := h
    exact (Array.getElem?_eq_some_iff.mp h1).1
  | inr q =>
    obtain ⟨r, h1, cell, h2, h3⟩ := h
    exact (Array.getElem?_eq_some_iff.mp h2).1
theorem nth_lt8 {α : Type} : ∀ {a : List α} {k : Nat} {x : α}, nth a k = some x → k < a.length
  | [], _, _, h => by cases h
  | _ :: _, 0, _, _ => Nat.succ_pos _
  | _ :: a, k + 1, _, h => Nat.succ_lt_succ (nth_lt8 (a := a) h)
theorem nth_snoc {α : Type} {d : α} : ∀ {a : List α} {k : Nat} {x : α}, nth (a ++ [d]) k = some x → nth a k = some x ∨ k = a.length ∧ x = d
  | [], 0, _, h => by cases h; exact Or.inr ⟨rfl, rfl⟩
  | [], k + 1, _, h => by cases h
  | _ :: _, 0, _, h => Or.inl h
  | _ :: a, k + 1, _, h => (nth_snoc (a := a) h).elim (fun z => Or.inl z) (fun z => Or.inr ⟨congrArg Nat.succ z.1, z.2⟩)
theorem nth_app2 {α : Type} {b : List α} : ∀ {a : List α} {k : Nat} {x : α}, nth (a ++ b) k = some x → (k < a.length ∧ nth a k = some x) ∨ ∃ j, k = a.length + j ∧ nth b j = some x
  | [], k, _, h => Or.inr ⟨k, by simp, h⟩
  | _ :: _, 0, _, h => Or.inl ⟨Nat.succ_pos _, h⟩
  | _ :: a, k + 1, _, h => (nth_app2 (a := a) h).elim (fun z => Or.inl ⟨Nat.succ_lt_succ z.1, z.2⟩) (fun ⟨j, z1, z2⟩ => Or.inr ⟨j, by simp only [List.length_cons]; omega, z2⟩)
theorem nth_set {α : Type} {d : α} {i : Nat} : ∀ {a : List α} {k : Nat} {x : α}, nth (a.set i d) k = some x → (k = i ∧ x = d) ∨ (k ≠ i ∧ nth a k = some x)
  | [], k, _, h => by cases h
  | _ :: a, k, x, h => by
    cases i with
    | zero =>
      cases k with
      | zero => cases h; exact Or.inl ⟨rfl, rfl⟩
      | succ k => exact Or.inr ⟨Nat.succ_ne_zero k, h⟩
    | succ i =>
      cases k with
      | zero => exact Or.inr ⟨(Nat.succ_ne_zero i).symm, h⟩
      | succ k =>
        rcases nth_set (a := a) (i := i) (k := k) h with z | z
        · exact Or.inl ⟨by rw [z.1], z.2⟩
        · exact Or.inr ⟨fun q => z.1 (Nat.succ.inj q), z.2⟩
theorem pP.moved {D : va_G} {u U : State} {H : Heap} {lo : Nat} {ps : List PD} (hvm : u.vm.Alike U.vm) (h : pP D u H lo ps) : pP D U H lo ps := fun k d hk => (h k d hk).moved hvm
theorem pP.push {D : va_G} {U : State} {H H1 : Heap} {lo : Nat} {ps : List PD} {d : PD} (h : pP D U H lo ps) (ho : ∀ q, q < H.size → H1[q]? = H[q]?) (hd : pOK D U H1 d (lo + ps.length)) : pP D U H1 lo (ps ++ [d]) := fun k x hk => by
  rcases nth_snoc hk with z | ⟨rfl, rfl⟩
  · exact (h k x z).kept (ho _ (h k x z).lt)
  · exact hd
theorem pP.set {D : va_G} {U : State} {H H1 : Heap} {lo i : Nat} {ps : List PD} {d : PD} (h : pP D U H lo ps) (ho : ∀ q, q ≠ lo + i → H1[q]? = H[q]?) (hd : pOK D U H1 d (lo + i)) : pP D U H1 lo (ps.set i d) := fun k x hk => by
  rcases nth_set hk with ⟨rfl, rfl⟩ | ⟨z1, z2⟩
  · exact hd
  · exact (h k x z2).kept (ho _ (by omega))
def CN (p : Program) (s : State) (m : MethodId) (args : Array Value) (c : Code) (cc : ByteArray) (nL : Nat) (own : String) (D : va_G) : Prop :=
  p.tables.exec = Jvm.exec ∧ c.code = cc ∧ c.maxLocals = nL ∧ s.vm.findClass own = some m.cls ∧ (∀ w ∈ wsA, w.before args s = true) ∧ va_K D vwCl [] s ∧ ∀ q ∈ nestL, va_Nw (nOK q) s
/-- the cells from lo on, and all else as it was -/
def NH (s : State) (D : va_G) (lo : Nat) (ps : List PD) (H : Heap) (locs : List Loc) : Prop := H.size = lo + ps.length ∧ pP D s H lo ps ∧ va_S (fun q => lo ≤ q) s.heap H locs
def NN (p : Program) (l : Launch) (e : Env) (R : Room) (s : State) (m : MethodId) (args : Array Value) (below : List Frame) (meth : Method) (c : Code) (Q : State → Prop) (nL : Nat) (D : va_G) (lo : Nat) (ps : List PD) (cells slots pc : Nat) (L : List (Nat × Value)) (st : List Value) : Prop :=
  ∀ (H : Heap) (locs : List Loc) (ls : Array Slot), NH s D lo ps H locs → lvs ls nL L → W p l e R s m args below meth c H locs cells slots Q (F0 m pc ls st)
def MetN (l : Launch) (y : MethodName) (bytes : ByteArray) (maxL : Nat) (rm : Room) (D : va_G) (av : List Value) (lo : Nat) (d0 : PD) (its : List PD) : Prop :=
  Met l y (Cond.code y bytes maxL none :: wsA) rm (fun a U => a = av.toArray ∧ U.heap.size = lo + 1 ∧ pP D U U.heap lo [d0] ∧ va_K D vwCl [] U ∧ ∀ q ∈ nestL, va_Nw (nOK q) U) (va_Qv (S := Unit) (fun _ => True) (fun _ t => t.heap.size = lo + its.length ∧ pP D t t.heap lo its) (fun q => lo ≤ q)) rm.cells rm.slots (fun q => lo ≤ q)
section Ctor
variable {p : Program} {l : Launch} {e : Env} {R : Room} {s : State} {m : MethodId} {args : Array Value} {below : List Frame} {meth : Method} {c : Code} {Q : State → Prop}
variable {nL lo : Nat} {D : va_G} {ps : List PD} {cells slots pc : Nat} {L : List (Nat × Value)} {st : List Value} {cc : ByteArray} {own : String}
theorem N_aload_n (C : CN p s m args c cc nL own D) {i : Fin 4} {a : Nat} (j : Nat) (hj : nth L j = some ((i : Nat), .ref a)) (hd : decode cc pc = .ok (.aload_n i, 1)) (k : NN p l e R s m args below meth c Q nL D lo ps cells slots (pc + 1) L (.ref a :: st)) : NN p l e R s m args below meth c Q nL D lo ps cells slots pc L st :=
  fun H locs ls h hl => lv_aload_n C.1 C.2.1 hd rfl (lvs_at hl j hj) (k H locs ls h hl)
theorem N_dup (C : CN p s m args c cc nL own D) {v : Value} (hv : v.category = 1) (hd : decode cc pc = .ok (.dup, 1)) (k : NN p l e R s m args below meth c Q nL D lo ps cells slots (pc + 1) L (v :: v :: st)) : NN p l e R s m args below meth c Q nL D lo ps cells slots pc L (v :: st) :=
  fun H locs ls h hl => lv_dup C.1 C.2.1 hd hv (k H locs ls h hl)
theorem N_iconst (C : CN p s m args c cc nL own D) {n : Int} (hd : decode cc pc = .ok (.iconst n, 1)) (k : NN p l e R s m args below meth c Q nL D lo ps cells slots (pc + 1) L (vi n :: st)) : NN p l e R s m args below meth c Q nL D lo ps cells slots pc L st :=
  fun H locs ls h hl => lv_iconst C.1 C.2.1 hd rfl (k H locs ls h hl)
theorem N_bipush (C : CN p s m args c cc nL own D) {n : Int} (hd : decode cc pc = .ok (.bipush n, 2)) (hv : (Int8.ofInt n).toInt32 = i32 n) (k : NN p l e R s m args below meth c Q nL D lo ps cells slots (pc + 2) L (vi n :: st)) : NN p l e R s m args below meth c Q nL D lo ps cells slots pc L st :=
  fun H locs ls h hl => lv_bipush C.1 C.2.1 hd hv (k H locs ls h hl)
theorem N_sipush (C : CN p s m args c cc nL own D) {n : Int} (hd : decode cc pc = .ok (.sipush n, 3)) (hv : (Int16.ofInt n).toInt32 = i32 n) (k : NN p l e R s m args below meth c Q nL D lo ps cells slots (pc + 3) L (vi n :: st)) : NN p l e R s m args below meth c Q nL D lo ps cells slots pc L st :=
  fun H locs ls h hl => lv_sipush C.1 C.2.1 hd hv (k H locs ls h hl)
theorem N_ldc (C : CN p s m args c cc nL own D) {n : Int} {index : Nat} {v : Int32} (hw : Cond.constant own index v ∈ wsA) (hv : v = i32 n) (hd : decode cc pc = .ok (.ldc index, 2)) (k : NN p l e R s m args below meth c Q nL D lo ps cells slots (pc + 2) L (vi n :: st)) : NN p l e R s m args below meth c Q nL D lo ps cells slots pc L st := by
  subst hv
  exact fun H locs ls h hl => lv_ldc C.1 C.2.1 C.2.2.2.1 (C.2.2.2.2.1 _ hw) hd (k H locs ls h hl)
/-- Object.<init> -/
theorem N_obj (C : CN p s m args c cc nL own D) {idx a : Nat} (hlink : Cond.methodLink own idx Lib.objectInit ∈ wsA) (hinst : Cond.instanceMethod Lib.objectInit ∈ wsA) (hcode : Cond.code Lib.objectInit ⟨#[0xb1]⟩ 1 none ∈ wsA) (hd : decode cc pc = .ok (.invokespecial idx, 3)) (hR : 1 ≤ R.frames ∧ (st.map fun v => v.category).sum + 12 ≤ R.locals) (k : NN p l e R s m args below meth c Q nL D lo ps cells slots (pc + 3) L st) : NN p l e R s m args below meth c Q nL D lo ps cells slots pc L (.ref a :: st) :=
  fun H locs ls h hl => W.objInit C.1 C.2.1 C.2.2.2.1 (C.2.2.2.2.1 _ hlink) (C.2.2.2.2.1 _ hinst) (C.2.2.2.2.1 _ hcode) rfl (hl.1.1.trans C.2.2.1.symm) rfl hd hR.1 (by show 2 * 0 + _ + 12 ≤ _; have := hR.2; omega) (k H locs ls h hl)
theorem N_room {k n : Nat} (h1 : cells ≤ k) (h2 : slots ≤ n) (kk : NN p l e R s m args below meth c Q nL D lo ps k n pc L st) : NN p l e R s m args below meth c Q nL D lo ps cells slots pc L st := fun H locs ls h hl T hT X => kk H locs ls h hl T hT (stand_widen X h1 h2)
/-- a new row of zeros -/
theorem N_newa (C : CN p s m args c cc nL own D) {atype : ArrayType} (t n : Nat) (hty : newarray.typeOf atype = tyOf t) (hdv : ∀ j, defaultValue (tyOf t) = elP t j) (harr : Cond.arrayClass (newarray.typeOf atype) ∈ wsA) (hn : n ≤ 40000) {q : Nat} (hq : ps.length = q) (hroom : cells + 1 ≤ R.cells ∧ slots + n ≤ R.slots) (hd : decode cc pc = .ok (.newarray atype, 2))
    (kk : NN p l e R s m args below meth c Q nL D lo (ps ++ [.inl (t, n)]) (cells + 1) (slots + n) (pc + 2) L (.ref (lo + q) :: st)) : NN p l e R s m args below meth c Q nL D lo ps cells slots pc L (vi (n : Int) :: st) := by
  subst hq
  intro H locs ls h hl
  obtain ⟨z, hP, hS⟩ := h
  have hr : rng (n : Int) := ⟨by omega, by omega⟩
  refine va_newaK C.1 C.2.1 (C.2.2.2.2.1 _ harr) rfl hd rfl (n := i32 (n : Int)) (N := n) ?_ ?_ ?_ hroom.1 hroom.2 z fun H1 cA e1 z1 o1 hAr hNm => ?_
  · rw [← i32_0, i32_lt hr (by decide)]; omega
  · rw [i32_clamp hr]; exact Int.toNat_natCast n
  · rw [hty]
    have : componentBytes (tyOf t) ≤ 8 := by
      match t with
      | 0 => decide
      | 1 => decide
      | 2 => decide
      | 3 => exact (by decide : componentBytes .long ≤ 8)
      | _ + 4 => exact (by decide : componentBytes (.array .int) ≤ 8)
    calc n * componentBytes (tyOf t) ≤ n * 8 := Nat.mul_le_mul_left _ this
      _ ≤ 536870912 := by omega
  · refine kk H1 locs ls ⟨by rw [z1]; simp only [List.length_append, List.length_cons, List.length_nil]; omega, hP.push (fun q hq => o1 q (by omega)) ⟨_, e1, ?_, ?_, ?_, fun hz => ?_, fun j hj => ?_⟩, ⟨Nat.le_trans hS.1 (by omega), fun x h1 h2 => (o1 x (by have := hS.1; omega)).trans (hS.2.1 x h1 h2), hS.2.2⟩⟩ hl
    · rw [← hty]; exact hAr _ _
    · intro hz; cases hz
    · exact arrV_size _ _ _
    · have hz2 : t = 2 := hz
      rw [hty, hz2] at hNm
      exact hNm
    · rw [hty, hdv j]
      simp [arrV, hj]
theorem nth_rep9 {α : Type} {x : α} : ∀ {n k : Nat} {y : α}, nth (List.replicate n x) k = some y → k < n ∧ y = x
  | 0, _, _, h => by cases h
  | n + 1, 0, _, h => by cases h; exact ⟨Nat.succ_pos _, rfl⟩
  | n + 1, k + 1, _, h => by
    obtain ⟨h1, h2⟩ := nth_rep9 (n := n) (k := k) h
    exact ⟨Nat.succ_lt_succ h1, h2⟩
/-- a new row of rows -/
theorem N_mna (C : CN p s m args c cc nL own D) (hover : (Cond.arrayOver (.array .int)).before args s = true) {index N K q : Nat} (hcl : Cond.classLink own index "[[I" ∈ wsA) (harr : Cond.arrayClass .int ∈ wsA) (hN : N ≤ 40000) (hK : K ≤ 40000) (hq : ps.length = q) (hroom : cells + (1 + N) ≤ R.cells ∧ slots + (N + N * K) ≤ R.slots) (hd : decode cc pc = .ok (.multianewarray index 2, 4))
    (kk : NN p l e R s m args below meth c Q nL D lo (ps ++ (.inl (lo + q + 1 + 4, N) :: List.replicate N (.inl (0, K)))) (cells + 1 + N) (slots + N + N * K) (pc + 4) L (.ref (lo + q) :: st)) : NN p l e R s m args below meth c Q nL D lo ps cells slots pc L (vi (K : Int) :: vi (N : Int) :: st) := by
  subst hq
  intro H locs ls h hl
  obtain ⟨z, hP, hS⟩ := h
  have hrN : rng (N : Int) := ⟨by omega, by omega⟩
  have hrK : rng (K : Int) := ⟨by omega, by omega⟩
  refine W_mna C.1 C.2.1 C.2.2.2.1 (C.2.2.2.2.1 _ hcl) hover (C.2.2.2.2.1 _ harr) (n := i32 (N : Int)) (k := i32 (K : Int)) (N := N) (K := K) ?_ ?_ ?_ ?_ (by omega) (by omega) hroom.1 hroom.2 hd z (fun H1 z1 o1 hout hrow => ?_)
  · rw [← i32_0, i32_lt hrN (by decide)]; omega
  · rw [← i32_0, i32_lt hrK (by decide)]; omega
  · rw [i32_clamp hrN]; exact Int.toNat_natCast N
  · rw [i32_clamp hrK]; exact Int.toNat_natCast K
  · refine kk H1 locs ls ⟨?_, fun k d hk => ?_, ⟨Nat.le_trans hS.1 (by omega), fun x h1 h2 => (o1 x (by have := hS.1; omega)).trans (hS.2.1 x h1 h2), hS.2.2⟩⟩ hl
    · rw [z1]
      simp only [List.length_append, List.length_cons, List.length_replicate]
      omega
    · rcases nth_app2 hk with ⟨k1, k2⟩ | ⟨j, rfl, k2⟩
      · exact (hP k d k2).kept (o1 _ (by omega))
      · cases j with
        | zero =>
          cases k2
          obtain ⟨cell, q1, q2, q3, q4, q5⟩ := hout
          refine ⟨cell, q1, q2, q3, q4, fun hz => ?_, q5⟩
          have hz9 : lo + ps.length + 1 + 4 = 2 := hz
          omega
        | succ j =>
          obtain ⟨j1, rfl⟩ := nth_rep9 (n := N) (k := j) k2
          obtain ⟨cell, q1, q2, q3, q4, q5⟩ := hrow j j1
          rw [show lo + (ps.length + (j + 1)) = lo + ps.length + 1 + j from by omega]
          exact ⟨cell, q1, q2, q3, q4, (fun hz => by cases hz), q5⟩
/-- a new object, its fields unset -/
theorem N_new (C : CN p s m args c cc nL own D) {K : String} {T : u_T} {N ci index : Nat} (hc : vwCl[ci]? = some (K, T, N)) (hin : ∀ w ∈ u_ws K T N, w ∈ wsA) (ty : Nat → FieldType) (hty : ∀ k, k < N → parseFieldDescriptor (T k).2.2.1 = some (ty k)) (hcl : Cond.classLink own index K ∈ wsA) (hinst : Cond.instantiable K N ∈ wsA) (hini : Cond.initialized K ∈ wsA) {fs : List Value} (hfs : ∀ j, j < N → defaultValue (ty j) = vp_V fs j) {q : Nat} (hq : ps.length = q) (hroom : cells + 1 ≤ R.cells ∧ slots + N ≤ R.slots) (hd : decode cc pc = .ok (.new index, 3))
    (kk : NN p l e R s m args below meth c Q nL D lo (ps ++ [.inr (ci, fs)]) (cells + 1) (slots + N) (pc + 3) L (.ref (lo + q) :: st)) : NN p l e R s m args below meth c Q nL D lo ps cells slots pc L st := by
  subst hq
  intro H locs ls h hl
  obtain ⟨z, hP, hS⟩ := h
  have hKn := C.2.2.2.2.2.1.1 ci _ hc
  refine W.newcK C.1 C.2.1 C.2.2.2.1 (C.2.2.2.2.1 _ hcl) (C.2.2.2.2.1 _ hinst) (C.2.2.2.2.1 _ hini) rfl hd hroom.1 hroom.2 hKn.2.1 z fun H1 kC hkC e1 z1 o1 => ?_
  exact kk H1 locs ls ⟨by rw [z1]; simp only [List.length_append, List.length_cons, List.length_nil]; omega, hP.push (fun q hq => o1 q (by omega)) ⟨_, hc, (u_born ty (C.2.2.2.2.1) hin hKn hkC e1 hty).to hfs⟩, ⟨Nat.le_trans hS.1 (by omega), fun x h1 h2 => (o1 x (by have := hS.1; omega)).trans (hS.2.1 x h1 h2), hS.2.2⟩⟩ hl
theorem N_get (C : CN p s m args c cc nL own D) {K : String} {T : u_T} {N ci index q : Nat} {fs : List Value} (he : nth ps q = some (.inr (ci, fs))) (hc : vwCl[ci]? = some (K, T, N)) (hin : ∀ w ∈ u_ws K T N, w ∈ wsA) (i : Nat) (hi : i < N) {ref : String} (href : ref = (T i).1) (hlink : Cond.fieldLink own index ref (T i).2.1 (T i).2.2.1 ∈ wsA) {v : Value} (hv : vp_V fs i = v) (hd : decode cc pc = .ok (.getfield index, 3))
    (kk : NN p l e R s m args below meth c Q nL D lo ps cells slots (pc + 3) L (v :: st)) : NN p l e R s m args below meth c Q nL D lo ps cells slots pc L (.ref (lo + q) :: st) := by
  subst href
  intro H locs ls h hl
  obtain ⟨r, h1, cell, q1, q2, q3, q4⟩ := h.2.1 q _ he
  cases Option.some.inj (h1.symm.trans hc)
  obtain ⟨hS, hfc, kC, hkC, hkind⟩ := C.2.2.2.2.2.1.1 ci _ hc
  obtain ⟨cf, kf, fi, f, hfi, hsl⟩ := hS i hi
  refine W.getf C.1 C.2.1 C.2.2.2.1 (C.2.2.2.2.1 _ hlink) hfi (u_facts hfc hkC (u_lays (C.2.2.2.2.1) hin hi) hfi).1 q1 (by rw [q3]; exact fun h => by cases h) (v := v) ?_ rfl rfl hd (kk H locs ls h hl)
  rw [hsl, q4 i hi, hv]
theorem N_put (C : CN p s m args c cc nL own D) (hinit : meth.name = "<init>") {K : String} {T : u_T} {N ci index q : Nat} {fs : List Value} (he : nth ps q = some (.inr (ci, fs))) (hc : vwCl[ci]? = some (K, T, N)) (hin : ∀ w ∈ u_ws K T N, w ∈ wsA) (ty0 : Nat → FieldType) (hty : ∀ k, k < N → parseFieldDescriptor (T k).2.2.1 = some (ty0 k)) (hnm : ∀ a, a < N → ∀ b, b < N → a ≠ b → (T a).2.1 ≠ (T b).2.1) (i : Nat) (hi : i < N) {ref : String} (href : ref = (T i).1) (hlink : Cond.fieldLink own index ref (T i).2.1 (T i).2.2.1 ∈ wsA) (hdecl : (T i).1 = own) {ty : FieldType} {v : Value} (hpd : parseFieldDescriptor (T i).2.2.1 = some ty) (hn : narrow ty v = v) (hfit : fits ty v = true) (hlen : i < fs.length) {ps' : List PD} (hps : ps.set q (.inr (ci, fs.set i v)) = ps') (hd : decode cc pc = .ok (.putfield index, 3))
    (kk : NN p l e R s m args below meth c Q nL D lo ps' cells slots (pc + 3) L st) : NN p l e R s m args below meth c Q nL D lo ps cells slots pc L (v :: .ref (lo + q) :: st) := by
  subst href
  subst hps
  intro H locs ls h hl
  obtain ⟨z, hP, hS⟩ := h
  have hap := va_apart (own := own) (D := D) (C.2.2.2.2.1) hin ty0 hty hnm C.2.2.2.2.2.1 hc
  obtain ⟨r, h1, cell, q1, q2, q3, q4⟩ := hP q _ he
  cases Option.some.inj (h1.symm.trans hc)
  obtain ⟨hSl, hfc, kC, hkC, hkind⟩ := C.2.2.2.2.2.1.1 ci _ hc
  obtain ⟨cf, kf, fi, fd, hfi, hsl⟩ := hSl i hi
  have hlay := C.2.2.2.2.1 _ (hin _ (u_in_lay hi))
  have hst := (u_facts hfc hkC (u_lays (C.2.2.2.2.1) hin hi) hfi).1
  have fin : ∀ (H1 : Heap) (locs1 : List Loc), H1[lo + q]? = some (cell.setSlot (D.2 ci i) v) → H1.size = H.size → (∀ x, x ≠ lo + q → H1[x]? = H[x]?) → va_S (fun x => lo ≤ x) s.heap H1 locs1 → W p l e R s m args below meth c H1 locs1 cells slots Q (F0 m (pc + 3) ls st) := fun H1 locs1 e1 e2 e3 hS1 =>
    kk H1 locs1 ls ⟨by rw [e2, z, List.length_set], hP.set e3 ⟨_, hc, t_OB.to (V := updV (vp_V fs) i v) ⟨_, e1, q2, q3, t_set q4 hap hi v⟩ (fun j _ => vp_updV_set hlen v j)⟩, hS1⟩ hl
  by_cases hfin : (T i).2.2.2 = true
  · unfold u_lay at hlay
    rw [if_pos hfin] at hlay
    have hcf : m.cls = cf := by
      obtain ⟨_, _, c', _, _, _, -, -, hf', -, -, -, hown2, -⟩ := Cond.laysFinal_spec hlay
      have e1 : c' = cf := by have := hfi.symm.trans hf'; simp at this; exact this.1.symm
      rw [hdecl] at hown2
      rw [← e1]; exact Option.some.inj (C.2.2.2.1.symm.trans hown2)
    have h6 := u_fits hfc hkC hkind (Or.inr hlay) hfi hpd hn hfit
    refine W.putFinK C.1 C.2.1 C.2.2.2.1 (C.2.2.2.2.1 _ hlink) hfi hst hcf hinit (by rw [q2]; exact h6) q1 q3 (by rw [hsl]; exact k2_hasslot (q4 i hi)) rfl rfl hd fun H1 e1 e2 e3 => ?_
    rw [hsl] at e1 ⊢
    exact fin H1 _ e1 e2 e3 (hS.put e2 e3 (Nat.le_add_right _ _))
  · unfold u_lay at hlay
    rw [if_neg hfin] at hlay
    have h6 := u_store hfc hkC hkind hlay hfi hpd hn hfit
    refine W.putK C.1 C.2.1 (f := fd) ⟨C.2.2.2.1, C.2.2.2.2.1 _ hlink, ⟨_, _, _, hfi⟩, hst⟩ (by rw [q2]; exact h6) q1 q3 (by rw [hsl]; exact k2_hasslot (q4 i hi)) rfl rfl hd fun H1 e1 e2 e3 => ?_
    rw [hsl] at e1 ⊢
    exact fin H1 _ e1 e2 e3 (hS.put e2 e3 (Nat.le_add_right _ _))
/-- a constructor's call -/
def CalI (y : MethodName) (bytes : ByteArray) (maxL n : Nat) : Prop :=
  Cond.instanceMethod y ∈ wsA ∧ Cond.initialized y.cls ∈ wsA ∧ Cond.code y bytes maxL none ∈ wsA ∧ y.name = "<init>" ∧ (y.cls ≠ "java/lang/invoke/MethodHandle" ∧ y.cls ≠ "java/lang/invoke/VarHandle" ∧ (parseMethodDescriptor y.desc).map (fun d => d.parameters.length) = some n)
theorem N_pre (C : CN p s m args c cc nL own D) {H : Heap} {As : List Value} {d0 : PD} {ps0 : List PD} (z : H.size = lo + (ps0 ++ [d0]).length) (hP : pP D s H lo (ps0 ++ [d0])) : PreS s H (fun a U => a = (Value.ref (lo + ps0.length) :: As).toArray ∧ U.heap.size = lo + ps0.length + 1 ∧ pP D U U.heap (lo + ps0.length) [d0] ∧ va_K D vwCl [] U ∧ ∀ q ∈ nestL, va_Nw (nOK q) U) (.ref (lo + ps0.length) :: As) := by
  have hz : H.size = lo + ps0.length + 1 := by rw [z]; simp only [List.length_append, List.length_cons, List.length_nil]; omega
  have hd0 : pOK D s H d0 (lo + ps0.length) := by
    refine hP ps0.length d0 ?_
    clear hP z hz
    induction ps0 with
    | nil => rfl
    | cons x r ih => exact ih
  refine ⟨fun a U g mk hp => ⟨hp.1, hp.2.1, hp.2.2.1, va_K.moved (u := U) (U := U.calling g mk a) (Vm.Alike.refl U.vm) hp.2.2.2.1, fun q hq => va_Nw.same rfl rfl (hp.2.2.2.2 q hq)⟩, fun U hU hW => ⟨rfl, by rw [hU]; exact hz, fun k d hk => ?_, va_K.moved hW.alike C.2.2.2.2.2.1, fun q hq => va_Nw.warmM hW (C.2.2.2.2.2.2 q hq)⟩⟩
  rw [hU]
  cases k with
  | zero => cases hk; exact hd0.moved hW.alike
  | succ k => cases hk
theorem N_back {d0 : PD} {its ps0 : List PD} {mc ms : Nat} {a : Array Value} {H : Heap} {locs : List Loc} {ls : Array Slot} {st0 : List Value} (h : NH s D lo (ps0 ++ [d0]) H locs) (hl : lvs ls nL L) (hits : 1 ≤ its.length)
    (hrun : va_Run p l e R s m args below meth c H locs cells slots mc ms (F0 m pc ls st0) st (va_Qv (S := Unit) (fun _ => True) (fun _ t => t.heap.size = lo + ps0.length + its.length ∧ pP D t t.heap (lo + ps0.length) its) (fun q => lo + ps0.length ≤ q) a) (fun q => lo + ps0.length ≤ q))
    (kk : NN p l e R s m args below meth c Q nL D lo (ps0 ++ its) (cells + mc) (slots + ms) (pc + 3) L st) : W p l e R s m args below meth c H locs cells slots Q (F0 m pc ls st0) := by
  obtain ⟨z, hP, hS⟩ := h
  have hP0 : ∀ (k : Nat) (d : PD), nth ps0 k = some d → pOK D s H d (lo + k) := fun k d hk => hP k d (nth_app hk)
  refine va_callv hrun hS (fun q _ hq => Nat.le_trans (Nat.le_add_right _ _) hq) (fun q hq => Nat.le_trans (Nat.le_add_right _ _) hq) (fun u t H1 locs1 ht hvm hw hB hz1 hk1 hS1 => ?_)
  obtain ⟨b1, b2⟩ := hB
  rw [ht] at b1 b2
  refine kk H1 locs1 ls ⟨by rw [b1, List.length_append]; omega, fun k d hk => ?_, hS1⟩ hl
  rcases nth_app2 hk with ⟨k1, k2⟩ | ⟨j, k1, k2⟩
  · exact (hP0 k d k2).kept (hk1 _ (hP0 k d k2).lt (by omega))
  · rw [k1, ← Nat.add_assoc]
    exact (b2 j d k2).moved hvm.symm
theorem N_call (C : CN p s m args c cc nL own D) {y : MethodName} {bytes : ByteArray} {maxL n index q : Nat} {rm : Room} {As st0 : List Value} {d0 : PD} {its ps0 ps' : List PD}
    (hM : MetN l y bytes maxL rm D (.ref (lo + q) :: As) (lo + q) d0 its) (hps : ps = ps0 ++ [d0]) (hq : ps0.length = q) (hps' : ps0 ++ its = ps') (hits : 1 ≤ its.length) (hF : CalI y bytes maxL n) (hlink : Cond.methodLink own index y ∈ wsA) (hR : rm.frames + 1 ≤ R.frames ∧ 8 + (maxL + 11) + rm.locals ≤ R.locals) (hn : As.length = n) (hst : (st.map fun v => v.category).sum ≤ 8) (hf : cells + rm.cells ≤ R.cells ∧ slots + rm.slots ≤ R.slots) (hs0 : As.reverse ++ .ref (lo + q) :: st = st0) (hd : decode cc pc = .ok (.invokespecial index, 3))
    (kk : NN p l e R s m args below meth c Q nL D lo ps' (cells + rm.cells) (slots + rm.slots) (pc + 3) L st) : NN p l e R s m args below meth c Q nL D lo ps cells slots pc L st0 := by
  subst hs0
  subst hps
  subst hq
  subst hps'
  intro H locs ls h hl
  obtain ⟨f1, f2, f3, f4, f5⟩ := hF
  exact N_back h hl hits (va_runI (g := F0 m pc ls (As.reverse ++ .ref (lo + ps0.length) :: st)) (n := n) (nL := nL) (Ts := wsA) ⟨C.1, C.2.1, C.2.2.1, C.2.2.2.1, C.2.2.2.2.1⟩ hM (cwI n C.2.2.2.2.1 (goodA f3) rfl rfl rfl (C.2.2.2.2.1 _ f2) (C.2.2.2.2.1 _ hlink) (C.2.2.2.2.1 _ f1) f4 f5 hR) (N_pre C h.1 h.2.1) rfl hn hl.1.1 rfl (lv_room hst) hd hf) kk
theorem N_callN (C : CN p s m args c cc nL own D) {y : MethodName} {bytes : ByteArray} {maxL n index q : Nat} {host : String} {rm : Room} {As st0 : List Value} {d0 : PD} {its ps0 ps' : List PD}
    (hM : MetN l y bytes maxL rm D (.ref (lo + q) :: As) (lo + q) d0 its) (hps : ps = ps0 ++ [d0]) (hq : ps0.length = q) (hps' : ps0 ++ its = ps') (hits : 1 ≤ its.length) (hF : CalI y bytes maxL n) (hlink : (own, index, y, host) ∈ nestL) (hR : rm.frames + 1 ≤ R.frames ∧ 8 + (maxL + 11) + rm.locals ≤ R.locals) (hn : As.length = n) (hst : (st.map fun v => v.category).sum ≤ 8) (hf : cells + rm.cells ≤ R.cells ∧ slots + rm.slots ≤ R.slots) (hs0 : As.reverse ++ .ref (lo + q) :: st = st0) (hd : decode cc pc = .ok (.invokespecial index, 3))
    (kk : NN p l e R s m args below meth c Q nL D lo ps' (cells + rm.cells) (slots + rm.slots) (pc + 3) L st) : NN p l e R s m args below meth c Q nL D lo ps cells slots pc L st0 := by
  subst hs0
  subst hps
  subst hq
  subst hps'
  intro H locs ls h hl
  obtain ⟨f1, f2, f3, f4, f5⟩ := hF
  exact N_back h hl hits (va_runIN (g := F0 m pc ls (As.reverse ++ .ref (lo + ps0.length) :: st)) (n := n) (nL := nL) (Ts := wsA) ⟨C.1, C.2.1, C.2.2.1, C.2.2.2.1, C.2.2.2.2.1⟩ hM ⟨va_cnB n C.2.2.2.2.1 (goodA f3) rfl rfl rfl (C.2.2.2.2.2.2 _ hlink) (C.2.2.2.2.1 _ f2) f5 hR, f4, C.2.2.2.2.1 _ f1⟩ (N_pre C h.1 h.2.1) rfl hn hl.1.1 rfl (lv_room hst) hd hf) kk
theorem N_ret (C : CN p s m args c cc nL own D) {its : List PD} {mc ms : Nat} (hr : meth.sig.returnType = none) (hlk : meth.locks = false) (hps : ps = its) (hd : decode cc pc = .ok (.return_, 1)) : NN p l e R s m args below meth c (MQ below (va_Qv (S := Unit) (fun _ => True) (fun _ t => t.heap.size = lo + its.length ∧ pP D t t.heap lo its) (fun q => lo ≤ q)) args s mc ms (fun q => lo ≤ q)) nL D lo ps mc ms pc L [] := by
  subst hps
  intro H locs ls h hl
  exact W.vret C.1 C.2.1 hr (fun t ht hW => ⟨⟨(), rfl, trivial, by rw [ht]; exact h.1, by rw [ht]; exact h.2.1.moved hW.alike⟩, h.2.2.F ht⟩) h.2.2.2.2 hd hlk
end Ctor
theorem MetN_of {l : Launch} {y : MethodName} {bytes : ByteArray} {maxL : Nat} {rm : Room} {D : va_G} {av : List Value} {lo : Nat} {d0 : PD} {its : List PD} {L0 : List (Nat × Value)} (own : String) (hown : own = y.cls) (hyn : y.name = "<init>") (hy : plainName y.cls = true) (hcat : av.all (fun v => v.category == 1) = true) (hlen : (lg_sl av).length ≤ maxL) (hL : lv_args 0 av = L0)
    (kk : ∀ (p : Program) (e : Env) (s : State) (m : MethodId) (args : Array Value) (below : List Frame) (meth : Method) (c : Code), CN p s m args c bytes maxL own D → meth.sig.returnType = none → meth.locks = false → meth.name = "<init>" → NN p l e rm s m args below meth c (MQ below (va_Qv (S := Unit) (fun _ => True) (fun _ t => t.heap.size = lo + its.length ∧ pP D t t.heap lo its) (fun q => lo ≤ q)) args s rm.cells rm.slots (fun q => lo ≤ q)) maxL D lo [d0] 0 0 0 L0 []) : MetN l y bytes maxL rm D av lo d0 its := by
  refine Met.ofW (cc := bytes) (maxL := maxL) (ret := none) hy rfl ?_
  intro p e s m args below meth c s₁ B hml hp
  obtain ⟨rfl, h1, h2, h3⟩ := hp
  subst hL
  have hts0 := atoms_spec (ws := Cond.code y bytes maxL none :: wsA) B.pre
  have hts : ∀ w ∈ wsA, w.before av.toArray s = true := fun w hw => hts0 w (List.mem_cons_of_mem _ hw)
  have hc : s.vm.findClass y.cls = some m.cls := findClass_of_methodNamed B.named
  have hl := lv_entry av (n := maxL) hlen
  rw [lg_entry_eq]
  exact kk p e s m av.toArray below meth c ⟨B.exec, B.bytes, hml, by rw [hown]; exact hc, hts, h3⟩ B.returns B.notSynchronized ((name_of_methodNamed B.named B.method).1.trans hyn) s.heap [] _ ⟨h1, h2, va_S.rf⟩ ⟨hl, (nod_args av 0 hcat).1, fun q hq => ((nod_args av 0 hcat).2 q hq).2⟩
