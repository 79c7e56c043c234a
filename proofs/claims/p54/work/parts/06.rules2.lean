/-! memory, arithmetic of bits, returns, calls -/
section VRules2
variable {nest : List (String × Nat × MethodName × String)} {strs : List (String × Nat × String × Nat)} {lens : List Nat} {byts : List (List Int32)}
variable {p : Program} {l : Launch} {e : Env} {R : Room} {s : State} {m : MethodId} {args : Array Value} {below : List Frame} {meth : Method} {c : Code} {Q : State → Prop}
variable {nL : Nat} {Γ : GG} {sk : List SD} {M : Mem} {cells slots pc : Nat} {L : List (Nat × Value)} {st : List Value} {cc : ByteArray} {own : String}
/-- the arrays -/
theorem V_alen (C : CX9 nest strs lens byts p s m args c cc nL own Γ sk) {k t n : Nat} (hk : sk[k]? = some (.inl (t, n))) (hd : decode cc pc = .ok (.arraylength, 1)) (kk : VV p l e R s m args below meth c Q nL Γ sk M cells slots (pc + 1) L (vi n :: st)) : VV p l e R s m args below meth c Q nL Γ sk M cells slots pc L (vr Γ k :: st) :=
  fun H locs ls hP hS hl hM => by
    obtain ⟨cell, h1, h2, h3, h4, h6, h5⟩ := hP k _ hk
    exact W.alen C.1 C.2.1 h1 h2 (n := i32 n) (by rw [h4]; rfl) rfl rfl hd (kk H locs ls hP hS hl hM)
theorem V_iald (C : CX9 nest strs lens byts p s m args c cc nL own Γ sk) {k n : Nat} {i : Int} (hk : sk[k]? = some (.inl (0, n))) (hi : 0 ≤ i ∧ i < n) (hr : rng i) (hd : decode cc pc = .ok (.iaload, 1)) (kk : VV p l e R s m args below meth c Q nL Γ sk M cells slots (pc + 1) L (vi (M k i.toNat) :: st)) : VV p l e R s m args below meth c Q nL Γ sk M cells slots pc L (vi i :: vr Γ k :: st) :=
  fun H locs ls hP hS hl hM => by
    obtain ⟨cell, h1, h2, h3, h4, h6, h5⟩ := hP k _ hk
    exact W.iald C.1 C.2.1 h1 h2 h3 (v := vi (M k i.toNat)) (by rw [h4]; exact i32_in hi.1 hi.2 hr) (by rw [i32_clamp hr]; exact h5 _ (by omega)) rfl rfl hd (kk H locs ls hP hS hl hM)
theorem V_zald (C : CX9 nest strs lens byts p s m args c cc nL own Γ sk) {k n : Nat} {i : Int} (hk : sk[k]? = some (.inl (1, n))) (hi : 0 ≤ i ∧ i < n) (hr : rng i) (hd : decode cc pc = .ok (.baload, 1)) (kk : VV p l e R s m args below meth c Q nL Γ sk M cells slots (pc + 1) L (vi (M k i.toNat) :: st)) : VV p l e R s m args below meth c Q nL Γ sk M cells slots pc L (vi i :: vr Γ k :: st) :=
  fun H locs ls hP hS hl hM => by
    obtain ⟨cell, h1, h2, h3, h4, h6, h5⟩ := hP k _ hk
    exact W.zald C.1 C.2.1 h1 h2 h3 (v := vi (M k i.toNat)) (by rw [h4]; exact i32_in hi.1 hi.2 hr) (by rw [i32_clamp hr]; exact h5 _ (by omega)) rfl rfl hd (kk H locs ls hP hS hl hM)
theorem V_bald (C : CX9 nest strs lens byts p s m args c cc nL own Γ sk) {k n : Nat} {i : Int} (hk : sk[k]? = some (.inl (2, n))) (hi : 0 ≤ i ∧ i < n) (hr : rng i) (hd : decode cc pc = .ok (.baload, 1)) (kk : VV p l e R s m args below meth c Q nL Γ sk M cells slots (pc + 1) L (vi (M k i.toNat) :: st)) : VV p l e R s m args below meth c Q nL Γ sk M cells slots pc L (vi i :: vr Γ k :: st) :=
  fun H locs ls hP hS hl hM => by
    obtain ⟨cell, h1, h2, h3, h4, h6, h5⟩ := hP k _ hk
    exact W.bald C.1 C.2.1 h1 h2 h3 (v := vi (M k i.toNat)) (by rw [h4]; exact i32_in hi.1 hi.2 hr) (by rw [i32_clamp hr]; exact h5 _ (by omega)) rfl rfl hd (kk H locs ls hP hS hl hM)
theorem V_aald (C : CX9 nest strs lens byts p s m args c cc nL own Γ sk) {k b n : Nat} {i : Int} (hk : sk[k]? = some (.inl (b + 4, n))) (hi : 0 ≤ i ∧ i < n) (hr : rng i) (hd : decode cc pc = .ok (.aaload, 1)) (kk : VV p l e R s m args below meth c Q nL Γ sk M cells slots (pc + 1) L (vr Γ (b + i.toNat) :: st)) : VV p l e R s m args below meth c Q nL Γ sk M cells slots pc L (vi i :: vr Γ k :: st) :=
  fun H locs ls hP hS hl hM => by
    obtain ⟨cell, h1, h2, h3, h4, h6, h5⟩ := hP k _ hk
    exact W.aald C.1 C.2.1 (ty := .array .int) h1 h2 rfl h3 (v := vr Γ (b + i.toNat)) (by rw [h4]; exact i32_in hi.1 hi.2 hr) (by rw [i32_clamp hr]; exact h5 _ (by omega)) rfl rfl hd (kk H locs ls hP hS hl hM)
/-- a store's new world -/
theorem V_stored (C : CX9 nest strs lens byts p s m args c cc nL own Γ sk) {k t n j : Nat} {x : Int} {cell : Cell} {H H1 : Heap} {locs : List Loc} (hk2 : 3 ≤ k) (hk : sk[k]? = some (.inl (t, n))) (hP : wP Γ sk s H M) (hS : va_S (Fr Γ sk s.heap.size) s.heap H locs)
    (h2 : s.isArrayOf cell (tyOf t)) (h3 : cell.vm ≠ .unknown) (h4 : cell.slots.size = n) (h6 : t = 2 → s.vm.findClass "[B" = some cell.cls) (h5 : ∀ j : Nat, j < n → cell.slots[j]? = some (elG Γ t j (M k j))) (hj : j < n)
    (e1 : H1[gA Γ k]? = some (cell.setSlot j (elG Γ t j x))) (z : H1.size = H.size) (oq : ∀ q, q ≠ gA Γ k → H1[q]? = H[q]?) : wP Γ sk s H1 (up M k j x) ∧ va_S (Fr Γ sk s.heap.size) s.heap H1 (locs ++ [⟨gA Γ k, j⟩]) := by
  refine ⟨wP_set hP C.2.2.2.2.2.2.1 hk ⟨_, e1, ?_, h3, ?_, h6, fun i hi => ?_⟩ oq (fun i hi => up_cell _ _ hi), hS.put z oq (Or.inl ⟨k, (List.getElem?_eq_some_iff.mp hk).1, hk2, rfl⟩)⟩
  · exact h2
  · show (cell.slots.setIfInBounds j (elG Γ t j x)).size = n
    rw [Array.size_setIfInBounds, h4]
  · show (cell.slots.setIfInBounds j (elG Γ t j x))[i]? = _
    rw [Array.getElem?_setIfInBounds]
    by_cases hij : j = i
    · subst hij
      rw [if_pos rfl, if_pos (by rw [h4]; exact hj), up_same]
    · rw [if_neg hij, h5 i hi, up_at (Or.inr (fun e => hij e.symm))]
theorem V_iast (C : CX9 nest strs lens byts p s m args c cc nL own Γ sk) {k n : Nat} {i x : Int} (hk2 : 3 ≤ k) (hk : sk[k]? = some (.inl (0, n))) (hi : 0 ≤ i ∧ i < n) (hr : rng i) (hx : rng x) (hd : decode cc pc = .ok (.iastore, 1)) (kk : VV p l e R s m args below meth c Q nL Γ sk (up M k i.toNat x) cells slots (pc + 1) L st) : VV p l e R s m args below meth c Q nL Γ sk M cells slots pc L (vi x :: vi i :: vr Γ k :: st) :=
  fun H locs ls hP hS hl hM => by
    obtain ⟨cell, h1, h2, h3, h4, h6, h5⟩ := hP k _ hk
    refine W.iast C.1 C.2.1 h1 h2 h3 (by rw [h4]; exact i32_in hi.1 hi.2 hr) rfl rfl hd fun H1 e1 z oq => ?_
    rw [i32_clamp hr] at e1 ⊢
    obtain ⟨a1, a2⟩ := V_stored C hk2 hk hP hS h2 h3 h4 h6 h5 (by omega) e1 z oq
    exact kk H1 _ ls a1 a2 hl (up_mR hM hx)
theorem V_bast (C : CX9 nest strs lens byts p s m args c cc nL own Γ sk) {k n : Nat} {i x : Int} (hk2 : 3 ≤ k) (hk : sk[k]? = some (.inl (2, n))) (hi : 0 ≤ i ∧ i < n) (hr : rng i) (hx : -128 ≤ x ∧ x ≤ 127) (hd : decode cc pc = .ok (.bastore, 1)) (kk : VV p l e R s m args below meth c Q nL Γ sk (up M k i.toNat x) cells slots (pc + 1) L st) : VV p l e R s m args below meth c Q nL Γ sk M cells slots pc L (vi x :: vi i :: vr Γ k :: st) :=
  fun H locs ls hP hS hl hM => by
    obtain ⟨cell, h1, h2, h3, h4, h6, h5⟩ := hP k _ hk
    have hx9 : rng x := ⟨by omega, by omega⟩
    refine W.bast C.1 C.2.1 h1 h2 h3 (by rw [h4]; exact i32_in hi.1 hi.2 hr) rfl rfl hd fun H1 e1 z oq => ?_
    have en : narrow .byte (.int (i32 x)) = vi x := by
      show Value.int (i32 x).toInt8.toInt32 = vi x
      have e9 : (i32 x).toInt8.toInt32 = i32 x := by
        apply Int32.toInt_inj.mp
        rw [Int8.toInt_toInt32, Int32.toInt_toInt8, i32_toInt hx9]
        have e2 : (2 ^ 8 : Nat) = 256 := rfl
        rw [e2, Int.bmod_def]
        split <;> omega
      rw [e9]
      rfl
    rw [i32_clamp hr, en] at e1
    rw [i32_clamp hr]
    obtain ⟨a1, a2⟩ := V_stored C hk2 hk hP hS h2 h3 h4 h6 h5 (by omega) e1 z oq
    exact kk H1 _ ls a1 a2 hl (up_mR hM hx9)
theorem V_zast (C : CX9 nest strs lens byts p s m args c cc nL own Γ sk) {k n : Nat} {i x : Int} (hk2 : 3 ≤ k) (hk : sk[k]? = some (.inl (1, n))) (hi : 0 ≤ i ∧ i < n) (hr : rng i) (hx : 0 ≤ x ∧ x ≤ 1) (hd : decode cc pc = .ok (.bastore, 1)) (kk : VV p l e R s m args below meth c Q nL Γ sk (up M k i.toNat x) cells slots (pc + 1) L st) : VV p l e R s m args below meth c Q nL Γ sk M cells slots pc L (vi x :: vi i :: vr Γ k :: st) :=
  fun H locs ls hP hS hl hM => by
    obtain ⟨cell, h1, h2, h3, h4, h6, h5⟩ := hP k _ hk
    have hx9 : rng x := ⟨by omega, by omega⟩
    refine W.zast C.1 C.2.1 h1 h2 h3 (by rw [h4]; exact i32_in hi.1 hi.2 hr) rfl rfl hd fun H1 e1 z oq => ?_
    have en : narrow .boolean (.int (i32 x)) = vi x := by
      rcases (show x = 0 ∨ x = 1 by omega) with rfl | rfl <;> rfl
    rw [i32_clamp hr, en] at e1
    rw [i32_clamp hr]
    obtain ⟨a1, a2⟩ := V_stored C hk2 hk hP hS h2 h3 h4 h6 h5 (by omega) e1 z oq
    exact kk H1 _ ls a1 a2 hl (up_mR hM hx9)
theorem V_last (C : CX9 nest strs lens byts p s m args c cc nL own Γ sk) {k n : Nat} {i x : Int} (hk2 : 3 ≤ k) (hk : sk[k]? = some (.inl (3, n))) (hi : 0 ≤ i ∧ i < n) (hr : rng i) (hx : rng x) (hd : decode cc pc = .ok (.lastore, 1)) (kk : VV p l e R s m args below meth c Q nL Γ sk (up M k i.toNat x) cells slots (pc + 1) L st) : VV p l e R s m args below meth c Q nL Γ sk M cells slots pc L (vl x :: vi i :: vr Γ k :: st) :=
  fun H locs ls hP hS hl hM => by
    obtain ⟨cell, h1, h2, h3, h4, h6, h5⟩ := hP k _ hk
    refine W.last C.1 C.2.1 h1 h2 h3 (by rw [h4]; exact i32_in hi.1 hi.2 hr) rfl rfl hd fun H1 e1 z oq => ?_
    rw [i32_clamp hr] at e1 ⊢
    obtain ⟨a1, a2⟩ := V_stored C hk2 hk hP hS h2 h3 h4 h6 h5 (by omega) e1 z oq
    exact kk H1 _ ls a1 a2 hl (up_mR hM hx)
/-- fields -/
theorem V_getf (C : CX9 nest strs lens byts p s m args c cc nL own Γ sk) {k ci N index : Nat} {fs : List (Option Nat)} {K ref : String} {T : u_T} (hk : sk[k]? = some (.inr (ci, fs))) (hc : vwCl[ci]? = some (K, T, N)) (hin : ∀ w ∈ u_ws K T N, w ∈ wsA) (i : Nat) (hi : i < N) (href : ref = (T i).1) (hlink : Cond.fieldLink own index ref (T i).2.1 (T i).2.2.1 ∈ wsA) {f : Nat → Int} {v : Value} (hv : fv Γ (M k) fs i = v) (hd : decode cc pc = .ok (.getfield index, 3))
    (kk : VV p l e R s m args below meth c Q nL Γ sk M cells slots (pc + 3) L (v :: st)) : VV p l e R s m args below meth c Q nL Γ sk M cells slots pc L (vr Γ k :: st) :=
  fun H locs ls hP hS hl hM => by
    subst href
    obtain ⟨r, h1, cell, q1, q2, q3, q4⟩ := hP k _ hk
    have hr : r = (K, T, N) := Option.some.inj (h1.symm.trans hc)
    subst hr
    obtain ⟨hSl, hfc, kC, hkC, hkind⟩ := C.2.2.2.2.2.1.1 ci _ hc
    obtain ⟨cf, kf, fi, fd, hfi, hsl⟩ := hSl i hi
    refine W.getf C.1 C.2.1 C.2.2.2.1 (C.2.2.2.2.1 _ hlink) hfi (u_facts hfc hkC (u_lays (C.2.2.2.2.1) hin hi) hfi).1 q1 (by rw [q3]; exact fun h => by cases h) (v := v) ?_ rfl rfl hd (kk H locs ls hP hS hl hM)
    rw [hsl, q4 i hi, hv]
theorem V_putf (C : CX9 nest strs lens byts p s m args c cc nL own Γ sk) {k ci N index : Nat} {fs : List (Option Nat)} {K ref : String} {T : u_T} {x : Int} {ty : FieldType} (hk2 : 3 ≤ k) (hk : sk[k]? = some (.inr (ci, fs))) (hc : vwCl[ci]? = some (K, T, N)) (hin : ∀ w ∈ u_ws K T N, w ∈ wsA) (ty0 : Nat → FieldType) (hty : ∀ k, k < N → parseFieldDescriptor (T k).2.2.1 = some (ty0 k)) (hnm : ∀ a, a < N → ∀ b, b < N → a ≠ b → (T a).2.1 ≠ (T b).2.1) (i : Nat) (hi : i < N) (hfs : fs[i]? = some none) (href : ref = (T i).1) (hlink : Cond.fieldLink own index ref (T i).2.1 (T i).2.2.1 ∈ wsA) (hfin : (T i).2.2.2 = false) (hx : rng x) (hpd : parseFieldDescriptor (T i).2.2.1 = some ty) (hn : narrow ty (vi x) = vi x) (hfit : fits ty (vi x) = true) (hd : decode cc pc = .ok (.putfield index, 3))
    (kk : VV p l e R s m args below meth c Q nL Γ sk (up M k i x) cells slots (pc + 3) L st) : VV p l e R s m args below meth c Q nL Γ sk M cells slots pc L (vi x :: vr Γ k :: st) :=
  fun H locs ls hP hS hl hM => by
    subst href
    have hap := va_apart (own := own) (D := Γ.1) (C.2.2.2.2.1) hin ty0 hty hnm C.2.2.2.2.2.1 hc
    obtain ⟨r, h1, cell, q1, q2, q3, q4⟩ := hP k _ hk
    have hr : r = (K, T, N) := Option.some.inj (h1.symm.trans hc)
    subst hr
    obtain ⟨hSl, hfc, kC, hkC, hkind⟩ := C.2.2.2.2.2.1.1 ci _ hc
    obtain ⟨cf, kf, fi, fd, hfi, hsl⟩ := hSl i hi
    have hlay := C.2.2.2.2.1 _ (hin _ (u_in_lay hi))
    unfold u_lay at hlay
    rw [if_neg (by rw [hfin]; decide)] at hlay
    have hst := (u_facts hfc hkC (u_lays (C.2.2.2.2.1) hin hi) hfi).1
    have h6 := u_store hfc hkC hkind hlay hfi hpd hn hfit
    refine W.putK C.1 C.2.1 (f := fd) ⟨C.2.2.2.1, C.2.2.2.2.1 _ hlink, ⟨_, _, _, hfi⟩, hst⟩ (by rw [q2]; exact h6) q1 q3 (by rw [hsl]; exact k2_hasslot (q4 i hi)) rfl rfl hd fun H1 e1 z oq => ?_
    rw [hsl] at e1 ⊢
    refine kk H1 _ ls (wP_set hP C.2.2.2.2.2.2.1 hk ⟨_, hc, t_OB.to (V := updV (fv Γ (M k) fs) i (vi x)) ⟨_, e1, q2, q3, t_set q4 hap hi (vi x)⟩ (fun j _ => ?_)⟩ oq (fun j hj => up_cell _ _ hj)) (hS.put z oq (Or.inl ⟨k, (List.getElem?_eq_some_iff.mp hk).1, hk2, rfl⟩)) hl (up_mR hM hx)
    cases fs with
    | nil => simp at hfs
    | cons o r =>
      simp only [updV, fv]
      by_cases hji : j = i
      · subst hji
        rw [if_pos rfl, hfs]
        simp [up_same]
      · rw [if_neg hji]
        simp [up_at (Or.inr hji)]
/-- the ends -/
def PreW9 (nest : List (String × Nat × MethodName × String)) (strs : List (String × Nat × String × Nat)) (lens : List Nat) (byts : List (List Int32)) (Γ : GG) (sk : List SD) (av : List Value) (M : Mem) (sz : Nat) : Array Value → State → Prop := va_Pc av (fun U => U.heap.size = sz ∧ wP Γ sk U U.heap M ∧ mR M ∧ Env9 nest strs lens byts Γ sk U U.heap)
def PostI (Γ : GG) (sk : List SD) (M : Mem) (r : Int) (sz : Nat) : Array Value → State → Outcome → State → Prop := va_Qi (S := Unit) (fun r' _ => r' = i32 r ∧ rng r) (fun _ t => wP Γ sk t t.heap M ∧ mR M) (Fr Γ sk sz)
def PostV (Γ : GG) (sk : List SD) (M : Mem) (sz : Nat) : Array Value → State → Outcome → State → Prop := va_Qv (S := Unit) (fun _ => True) (fun _ t => wP Γ sk t t.heap M ∧ mR M) (Fr Γ sk sz)
theorem V_iret (C : CX9 nest strs lens byts p s m args c cc nL own Γ sk) {M' : Mem} {x r : Int} {mc ms : Nat} (hr : meth.sig.returnType = some .int) (hlk : meth.locks = false) (hx : rng x) (h : some (M, x) = some (M', r)) (hd : decode cc pc = .ok (.ireturn, 1)) : VV p l e R s m args below meth c (MQ below (PostI Γ sk M' r s.heap.size) args s mc ms (Fr Γ sk s.heap.size)) nL Γ sk M mc ms pc L [vi x] := by
  cases h
  intro H locs ls hP hS hl hM
  exact W.iret C.1 C.2.1 hr (fun t ht hW => ⟨⟨_, (), rfl, ⟨rfl, hx⟩, by rw [ht]; exact wP_moved hW.alike hP, hM⟩, hS.F ht⟩) hS.2.2 hd hlk
theorem V_zret (C : CX9 nest strs lens byts p s m args c cc nL own Γ sk) {M' : Mem} {x r : Int} {mc ms : Nat} (hr : meth.sig.returnType = some .boolean) (hlk : meth.locks = false) (hx : 0 ≤ x ∧ x ≤ 1) (h : some (M, x) = some (M', r)) (hd : decode cc pc = .ok (.ireturn, 1)) : VV p l e R s m args below meth c (MQ below (PostI Γ sk M' r s.heap.size) args s mc ms (Fr Γ sk s.heap.size)) nL Γ sk M mc ms pc L [vi x] := by
  cases h
  intro H locs ls hP hS hl hM
  exact W.zret C.1 C.2.1 hr (by rcases (show x = 0 ∨ x = 1 by omega) with rfl | rfl <;> rfl) (fun t ht hW => ⟨⟨_, (), rfl, ⟨rfl, by omega, by omega⟩, by rw [ht]; exact wP_moved hW.alike hP, hM⟩, hS.F ht⟩) hS.2.2 hd hlk
theorem V_vret (C : CX9 nest strs lens byts p s m args c cc nL own Γ sk) {M' : Mem} {r : Int} {mc ms : Nat} (hr : meth.sig.returnType = none) (hlk : meth.locks = false) (h : some (M, (0 : Int)) = some (M', r)) (hd : decode cc pc = .ok (.return_, 1)) : VV p l e R s m args below meth c (MQ below (PostV Γ sk M' s.heap.size) args s mc ms (Fr Γ sk s.heap.size)) nL Γ sk M mc ms pc L [] := by
  cases h
  intro H locs ls hP hS hl hM
  exact W.vret C.1 C.2.1 hr (fun t ht hW => ⟨⟨(), rfl, trivial, by rw [ht]; exact wP_moved hW.alike hP, hM⟩, hS.F ht⟩) hS.2.2 hd hlk
end VRules2
