/-! a method with handlers that answers a truth value -/
section Throw3
variable {p : Program} {l : Launch} {e : Env} {R : Room} {s : State} {m : MethodId} {args : Array Value} {below : List Frame} {meth : Method} {c : Code} {Q : State → Prop}
variable {nL : Nat} {Γ : GG} {sk : List SD} {M : Mem} {cells slots pc : Nat} {L : List (Nat × Value)} {st : List Value} {cc : ByteArray} {own : String}
theorem V_hzret (C : CX p s m args c cc nL own Γ sk) {M' : Mem} {x r : Int} {mc ms : Nat} {XC : String → State → State → Prop} (hr : meth.sig.returnType = some .boolean) (hlk : meth.locks = false) (hx : 0 ≤ x ∧ x ≤ 1) (h : some (M, x) = some (M', r)) (hd : decode cc pc = .ok (.ireturn, 1)) : VV p l e R s m args below meth c (vx_MQ below (PostI Γ sk M' r s.heap.size) XC args s mc ms (Fr Γ sk s.heap.size)) nL Γ sk M mc ms pc L [vi x] := by
  cases h
  intro H locs ls hP hS hl hM
  exact vx_ret (W.zret C.1 C.2.1 hr (by rcases (show x = 0 ∨ x = 1 by omega) with rfl | rfl <;> rfl) (fun t ht hW => ⟨⟨_, (), rfl, ⟨rfl, by omega, by omega⟩, by rw [ht]; exact wP_moved hW.alike hP, hM⟩, hS.F ht⟩) hS.2.2 hd hlk)
end Throw3
