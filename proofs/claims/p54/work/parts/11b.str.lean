/-! texts: the JDK's own length() and charAt() over the claim's literals; isWithin -/
section Str9
variable {p : Program} {l : Launch} {e : Env} {R : Room} {s : State} {m : MethodId} {args : Array Value} {below : List Frame} {meth : Method} {c : Code} {Q : State → Prop}
variable {nL : Nat} {Γ : GG} {sk : List SD} {M : Mem} {cells slots pc : Nat} {L : List (Nat × Value)} {st : List Value} {cc : ByteArray} {own : String}
theorem V_ldcS (C : CX p s m args c cc nL own Γ sk) {index q : Nat} {tx : String} (hZ : vk_R own index tx (Γ.2.2.1 q) s) (hd : decode cc pc = .ok (.ldc index, 2)) (k : VV p l e R s m args below meth c Q nL Γ sk M cells slots (pc + 2) L (vs Γ q :: st)) : VV p l e R s m args below meth c Q nL Γ sk M cells slots pc L st :=
  fun H locs ls hP hS hl hM => va_ldcS C.1 C.2.1 C.2.2.2.1 hZ hd (k H locs ls hP hS hl hM)
theorem V_ldcSw (C : CX p s m args c cc nL own Γ sk) {index q : Nat} {tx : String} (hZ : vk_R own index tx (Γ.2.2.1 q) s) (hd : decode cc pc = .ok (.ldc_w index, 3)) (k : VV p l e R s m args below meth c Q nL Γ sk M cells slots (pc + 3) L (vs Γ q :: st)) : VV p l e R s m args below meth c Q nL Γ sk M cells slots pc L st :=
  fun H locs ls hP hS hl hM => by
    intro T hT X
    obtain ⟨t, a1, b1⟩ := k H locs ls hP hS hl hM T hT X
    exact ⟨t, X.ldcStringW C.1 C.2.2.2.1 (text := tx) (a := Γ.2.2.1 q) hZ.1 hZ.2 (g := F0 m pc ls st) rfl (by rw [C.2.1]; exact hd) t a1, b1⟩
theorem V_getsV (C : CX p s m args c cc nL own Γ sk) {K n d : String} {v : Value} {index : Nat} (hZ : va_Z K n d v (Fr Γ sk s.heap.size) s s.heap) (hlink : Cond.fieldLink own index K n d ∈ wsA) (hd : decode cc pc = .ok (.getstatic index, 3)) (kk : VV p l e R s m args below meth c Q nL Γ sk M cells slots (pc + 3) L (v :: st)) : VV p l e R s m args below meth c Q nL Γ sk M cells slots pc L st :=
  fun H locs ls hP hS hl hM => va_gets C.1 C.2.1 hZ hS C.2.2.2.1 (C.2.2.2.2.1 _ hlink) (fun x h => h) hd (kk H locs ls hP hS hl hM)
def vb (Γ : GG) (q : Nat) : Value := .ref (Γ.2.2.2 q)
theorem V_S (C : CX p s m args c cc nL own Γ sk) : vk_S lensL.length lensL bytL Γ.2.2.1 Γ.2.2.2 (Fr Γ sk s.heap.size) s s.heap := C.2.2.2.2.2.2.2.2.2.2.1
theorem V_sval (C : CX p s m args c cc nL own Γ sk) {q index : Nat} (hq : q < lensL.length) (hlink : Cond.fieldLink own index "java/lang/String" "value" "[B" ∈ wsA) (hd : decode cc pc = .ok (.getfield index, 3)) (kk : VV p l e R s m args below meth c Q nL Γ sk M cells slots (pc + 3) L (vb Γ q :: st)) : VV p l e R s m args below meth c Q nL Γ sk M cells slots pc L (vs Γ q :: st) :=
  fun H locs ls hP hS hl hM => vk_getf C.1 C.2.1 ((V_S C).1 q hq).2.2.1 hS C.2.2.2.1 (C.2.2.2.2.1 _ hlink) (fun x h => h) hd (kk H locs ls hP hS hl hM)
theorem V_scod (C : CX p s m args c cc nL own Γ sk) {q index : Nat} (hq : q < lensL.length) (hlink : Cond.fieldLink own index "java/lang/String" "coder" "B" ∈ wsA) (hd : decode cc pc = .ok (.getfield index, 3)) (kk : VV p l e R s m args below meth c Q nL Γ sk M cells slots (pc + 3) L (vi 0 :: st)) : VV p l e R s m args below meth c Q nL Γ sk M cells slots pc L (vs Γ q :: st) :=
  fun H locs ls hP hS hl hM => vk_getf C.1 C.2.1 ((V_S C).1 q hq).2.1 hS C.2.2.2.1 (C.2.2.2.2.1 _ hlink) (fun x h => h) hd (kk H locs ls hP hS hl hM)
theorem V_sblen (C : CX p s m args c cc nL own Γ sk) {q : Nat} (hq : q < lensL.length) (hd : decode cc pc = .ok (.arraylength, 1)) (kk : VV p l e R s m args below meth c Q nL Γ sk M cells slots (pc + 1) L (vi (slen q) :: st)) : VV p l e R s m args below meth c Q nL Γ sk M cells slots pc L (vb Γ q :: st) :=
  fun H locs ls hP hS hl hM => va_tlen C.1 C.2.1 ((V_S C).1 q hq).2.2.2 hS (v := i32 (slen q)) rfl hd (kk H locs ls hP hS hl hM)
theorem V_sbald (C : CX p s m args c cc nL own Γ sk) {q : Nat} {j : Int} (hq : q < lensL.length) (hj : 0 ≤ j ∧ j < slen q) (hr : rng j) (hd : decode cc pc = .ok (.baload, 1)) (kk : VV p l e R s m args below meth c Q nL Γ sk M cells slots (pc + 1) L (vi (schar q j.toNat) :: st)) : VV p l e R s m args below meth c Q nL Γ sk M cells slots pc L (vi j :: vb Γ q :: st) :=
  fun H locs ls hP hS hl hM => va_tb C.1 C.2.1 ((V_S C).1 q hq).2.2.2 hS (v := vi (schar q j.toNat)) (i32_in hj.1 hj.2 hr) (by
    show Value.int _ = Value.int (Int32.ofInt _)
    unfold schar
    rw [Int32.ofInt_toInt, i32_clamp hr]) hd (kk H locs ls hP hS hl hM)
theorem V_i2c (C : CX p s m args c cc nL own Γ sk) {x : Int} (hx : 0 ≤ x ∧ x < 65536) (hd : decode cc pc = .ok (.i2c, 1)) (k : VV p l e R s m args below meth c Q nL Γ sk M cells slots (pc + 1) L (vi x :: st)) : VV p l e R s m args below meth c Q nL Γ sk M cells slots pc L (vi x :: st) := by
  have ev : ((i32 x).toUInt32 % 65536).toInt32 = i32 x := by
    rw [pk_char, i32_tn]
    have h1 : x % 4294967296 = x := by omega
    rw [h1, Nat.mod_eq_of_lt (by omega)]
    show Int32.ofNat x.toNat = Int32.ofInt x
    have e2 : Int32.ofInt ((x.toNat : Nat) : Int) = Int32.ofNat x.toNat := Int32.ofInt_eq_ofNat
    rw [← e2, Int.toNat_of_nonneg hx.1]
  exact fun H locs ls hP hS hl hM => lv_i2c C.1 C.2.1 hd ev (k H locs ls hP hS hl hM)
theorem V_ret (C : CX p s m args c cc nL own Γ sk) {x : Int} {ty : FieldType} (hr : meth.sig.returnType = some ty) (hlk : meth.locks = false) (hn : narrow ty (vi x) = vi x) (hx : rng x) {mc ms : Nat} (hd : decode cc pc = .ok (.ireturn, 1)) : VV p l e R s m args below meth c (MQ below (PostI Γ sk M x s.heap.size) args s mc ms (Fr Γ sk s.heap.size)) nL Γ sk M mc ms pc L [vi x] := by
  intro H locs ls hP hS hl hM
  exact W.zret C.1 C.2.1 hr hn (fun t ht hW => ⟨⟨_, (), rfl, ⟨rfl, hx⟩, by rw [ht]; exact wP_moved hW.alike hP, hM⟩, hS.F ht⟩) hS.2.2 hd hlk
theorem V_callVIs (C : CX p s m args c cc nL own Γ sk) {y : MethodName} {bytes : ByteArray} {maxL n index q : Nat} {ret : FieldType} {rm : Room} {As st0 : List Value} {M1 : Mem} {r : Int}
    (hM : MetI l y bytes maxL ret rm Γ sk (vs Γ q :: As) M M1 r) (hF : CalV y bytes maxL (some ret) n) (hlink : Cond.methodLink own index y ∈ wsA) (h0 : rm.cells = 0 ∧ rm.slots = 0) (hR : rm.frames + 1 ≤ R.frames ∧ 8 + (maxL + 11) + rm.locals ≤ R.locals) (hq : q < lensL.length) (hcq : y.cls = "java/lang/String") (hn : As.length = n) (hst : (st.map fun v => v.category).sum ≤ 8) (hf : cells ≤ R.cells ∧ slots ≤ R.slots) (hs0 : As.reverse ++ vs Γ q :: st = st0) (hd : decode cc pc = .ok (.invokevirtual index, 3))
    (kk : rng r → VV p l e R s m args below meth c Q nL Γ sk M1 cells slots (pc + 3) L (vi r :: st)) : VV p l e R s m args below meth c Q nL Γ sk M cells slots pc L st0 := by
  subst hs0
  intro H locs ls hP hS hl hMr
  have hM' := hM H.size
  rw [h0.1, h0.2] at hM'
  refine V_backI (mc := 0) (ms := 0) (a := (vs Γ q :: As).toArray) C ?_ hS hl kk
  obtain ⟨f1, f2, f3, f4, f5⟩ := hF
  refine va_runV ⟨C.1, C.2.1, C.2.2.1, C.2.2.2.1, C.2.2.2.2.1⟩ hM' (cwV (C := y.cls) n C.2.2.2.2.1 (goodIn_app (a := [.methodLink own index y, .instanceMethod y, .selects y.cls y y, .initialized y.cls]) ?_ (goodA f4)) rfl h0.1 h0.2 ⟨rfl, f5⟩ hR) ⟨PreW_blind, ?_, V_pre C hP hS hMr⟩ rfl hn hl.1.1 rfl (lv_room hst) hd hf
  · intro w hw
    have h2 : w ∈ wsA := by
      simp only [List.mem_cons, List.not_mem_nil, or_false] at hw
      rcases hw with rfl | rfl | rfl | rfl
      · exact hlink
      · exact f1
      · exact f2
      · exact f3
    exact ⟨h2, good_of_word (List.mem_filter.mp h2).2⟩
  · rw [hcq]
    exact vk_recv (V_S C) hq hS
end Str9
