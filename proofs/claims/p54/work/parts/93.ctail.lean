/-! the constructors' ends: behind the making of the cells -/
theorem lf_X11_83 : Cond.fieldLink RX11 83 "VectorVersions" "FIRST_ELEMENTS" "[I" ∈ wsA := tb_2 (List.mem_of_getElem? (i := 49) (by decide +kernel)) (by decide +kernel)
def f_X11_tail (fu : Nat) (M : Mem) : Option (Mem × Int) := cal (f_X8_begin fu M 0 10 10) fun M1 r2 => some (M1, 0)
set_option maxRecDepth 100000 in
set_option maxHeartbeats 4000000 in
theorem c_X11_tail (l : Launch) (Γ : GG) (sk : List SD) (hsk : Ext sk) (fu : Nat) {M M' : Mem} {r : Int} (hM : mR M) (h : f_X11_tail fu M = some (M', r)) {p : Program} {e : Env} {s : State} {m : MethodId} {args : Array Value} {below : List Frame} {meth : Method} {c : Code} {Q : State → Prop} {cells slots : Nat} (hft : cells ≤ 48 ∧ slots ≤ 5507) (C : CX p s m args c cX11_init 1 RX11 Γ sk) (fin : VV p l e ({ frames := 60, cells := 48, slots := 5507, locals := 3000 } : Room) s m args below meth c Q 1 Γ sk M' cells slots 152 [] []) : VV p l e ({ frames := 60, cells := 48, slots := 5507, locals := 3000 } : Room) s m args below meth c Q 1 Γ sk M cells slots 138 [(0, vr Γ 3)] [] := by
  unfold f_X11_tail at h
  have e0 := hsk 0 _ (by decide) rfl
  have e3 := hsk 3 _ (by decide) rfl
  have e4 := hsk 4 _ (by decide) rfl
  refine V_aload_n (pc := 138) C 0 rfl dX11_init_138 ?_
  refine V_getR (pc := 139) C e3 rfl inX11 0 (by decide) rfl lf_X11_10 rfl dX11_init_139 ?_
  refine V_gets (pc := 142) C C.2.2.2.2.2.2.2.2.1 lf_X11_83 dX11_init_142 ?_
  refine V_gets (pc := 145) C C.2.2.2.2.2.2.2.2.1 lf_X11_83 dX11_init_145 ?_
  refine V_alen (pc := 148) C e0 dX11_init_148 ?_
  obtain ⟨M1, r2, hc3, h⟩ := cal_of h
  refine V_callVV (pc := 149) C (c_X8_begin l Γ sk hsk fu e0 (by decide) (by decide) hc3) cf_X8_begin lk_X11_87 ⟨rfl, rfl⟩ ⟨Nat.le_of_ble_eq_true rfl, Nat.le_of_ble_eq_true rfl⟩ e4 rfl rfl rfl (Nat.le_of_ble_eq_true rfl) hft rfl dX11_init_149 ?_
  refine V_sub (L' := []) [] rfl (by decide) ?_
  cases h
  exact fin
