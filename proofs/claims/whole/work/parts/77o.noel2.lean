/-! throw new NoSuchElementException("text") -/
def rx13 : ByteArray := ⟨#[0x2a, 0x2b, 0xb7, 0x00, 0x0d, 0xb1]⟩
theorem rx13_0 : decode rx13 0 = .ok (.aload_n 0, 1) := by decide +kernel
theorem rx13_1 : decode rx13 1 = .ok (.aload_n 1, 1) := by decide +kernel
theorem rx13_2 : decode rx13 2 = .ok (.invokespecial 13, 3) := by decide +kernel
theorem rx13_5 : decode rx13 5 = .ok (.return_, 1) := by decide +kernel
abbrev vxe_at (own : String) (ic : Nat) : List Cond := (vxe_own own ic "java/util/NoSuchElementException" 13 rx13 "java/lang/RuntimeException" ["java/lang/Exception"]).filter vx_no
section NoEl3
variable {p : Program} {l : Launch} {e : Env} {R : Room} {s : State} {m : MethodId} {args : Array Value} {below : List Frame} {meth : Method} {c : Code} {Q : State → Prop}
variable {nL : Nat} {Γ : GG} {sk : List SD} {M : Mem} {cells slots pc : Nat} {L : List (Nat × Value)} {st : List Value} {cc : ByteArray} {own : String}
theorem V_throwN (C : CX p s m args c cc nL own Γ sk) (hl9 : l.stackTraces = false) {ik is ic q : Nat} {text : String} {M' : Mem} {o : Nat × Int} {Qc : Array Value → State → Outcome → State → Prop} (h : some (M, (4, (0 : Int))) = some (M', o)) (hlk9 : Cond.classLink own ik (exN 4) ∈ wsA) (hini : Cond.initialized (exN 4) ∈ wsA) (hstr : (own, is, text, q) ∈ strL)
    (hat : ∀ w ∈ (vxe_at own ic).filter goodWord, w ∈ wsA) (hbad : ∀ w ∈ (vxe_at own ic).filter (fun w => !goodWord w), w ∈ vx_bad (exN 4)) (hdec : ∀ w ∈ vx_decW, w ∈ wsA)
    (hex : ∀ x ∈ c.exceptionTable.toList, False) (hlk : meth.locks = false) (hR : 5 < R.frames ∧ 90 ≤ R.locals) (hRc : R.cells = tc o ∧ R.slots = ts6 o)
    (d0 : decode cc pc = .ok (.new ik, 3)) (d3 : decode cc (pc + 3) = .ok (.dup, 1)) (d4 : decode cc (pc + 4) = .ok (.ldc_w is, 3)) (d7 : decode cc (pc + 7) = .ok (.invokespecial ic, 3)) (d10 : decode cc (pc + 10) = .ok (.athrow, 1)) :
    VV p l e R s m args below meth c (vx_MQ below Qc (PostT Γ sk M' o s.heap.size) args s (tc o) (ts6 o) (Fr Γ sk s.heap.size)) nL Γ sk M 0 0 pc L [] := by
  cases h
  intro H locs ls hP hS hl hMr
  have hJ := C.2.2.2.2.2.2.2.2.2.2.2.2
  have hg1 : ∀ w ∈ wsA, vx_ot w = true := fun w hw => by
    unfold vx_ot
    rw [(List.mem_filter.mp hw).2, Bool.or_true]
  refine vx_throwX C.1 C.2.1 hl9 rx13_0 rx13_1 rx13_2 rx13_5 (names := ["java/lang/Exception"]) (A := Fr Γ sk s.heap.size) C.2.2.2.1 (by decide +kernel) (by decide +kernel) (by decide +kernel) (C.2.2.2.2.1 _ hlk9) (C.2.2.2.2.1 _ hini) (C.2.2.2.2.2.2.2.2.2.2.2.1 _ hstr) (vx_hat (B := vx_bad (exN 4)) (fun w hw => C.2.2.2.2.1 _ (hat w hw)) hbad (vx_badOK C hdec (hJ.2.2.2.2.1 _ (by decide +kernel)))) ?_ hJ.2.2.1 hJ.2.2.2.1 hS (hl.1.1.trans C.2.2.1.symm) d0 d3 d4 d7 ?_ ?_ ?_ ?_ (fun q9 H1 ce hq hv hcl hz hk hS1 => ?_)
  · intro w hw
    rcases List.mem_cons.mp hw with rfl | hw
    · exact hg1 _ hlk9
    · rcases List.mem_cons.mp hw with rfl | hw
      · exact hg1 _ hini
      · by_cases g : goodWord w = true
        · unfold vx_ot
          rw [g, Bool.or_true]
        · exact vx_badT _ _ (hbad w (List.mem_filter.mpr ⟨hw, by
            show (!goodWord w) = true
            cases hgw : goodWord w
            · rfl
            · exact absurd hgw g⟩))
  · exact hR.1
  · have := hR.2
    show (([] : List Value).map fun v => v.category).sum + (13 * (1 + 2) + 43) ≤ R.locals
    simp
    omega
  · rw [hRc.1]; exact Nat.le_refl 1
  · rw [hRc.2]; exact Nat.le_refl 6
  · refine vx_athrow C.1 C.2.1 d10 ?_
    refine vx_out (fun x hx => (hex x hx).elim) hlk hq hv hcl (fun t ht hvm => ⟨(), Nat.succ_ne_zero 3, ⟨rfl, ?_, hMr⟩, hS1.F ht⟩) hS1.2.2 (Nat.le_refl 1) (Nat.le_refl 6)
    rw [ht]
    exact wP_moved hvm (fun k d hk9 => cOK_kept (hP k d hk9) (hk _ (by
      have h9 := hP k d hk9
      cases d with
      | inl q =>
        obtain ⟨cell, h1, -⟩ := h9
        exact (Array.getElem?_eq_some_iff.mp h1).1
      | inr q =>
        obtain ⟨r, -, cell, h1, -⟩ := h9
        exact (Array.getElem?_eq_some_iff.mp h1).1)))
end NoEl3
