/-! fields of numbers and truth values; switches; small helps -/
theorem ite_t {α : Type} {c : Prop} [Decidable c] {a b : Option α} {x : α} (h : (if c then a else b) = some x) (hc : c) : a = some x := by
  rw [if_pos hc] at h
  exact h
theorem ite_f {α : Type} {c : Prop} [Decidable c] {a b : Option α} {x : α} (h : (if c then a else b) = some x) (hc : ¬ c) : b = some x := by
  rw [if_neg hc] at h
  exact h
theorem rb1 {x : Int} (h : 0 ≤ x ∧ x ≤ 1) : rng x := ⟨by omega, by omega⟩
section Puts
variable {p : Program} {l : Launch} {e : Env} {R : Room} {s : State} {m : MethodId} {args : Array Value} {below : List Frame} {meth : Method} {c : Code} {Q : State → Prop}
variable {nL : Nat} {Γ : GG} {sk : List SD} {M : Mem} {cells slots pc : Nat} {L : List (Nat × Value)} {st : List Value} {cc : ByteArray} {own : String}
theorem V_getI (C : CX p s m args c cc nL own Γ sk) {k ci N index : Nat} {fs : List (Option Nat)} {K ref : String} {T : u_T} (hk : sk[k]? = some (.inr (ci, fs))) (hc : vwCl[ci]? = some (K, T, N)) (hin : ∀ w ∈ u_ws K T N, w ∈ wsA) (i : Nat) (hi : i < N) (href : ref = (T i).1) (hlink : Cond.fieldLink own index ref (T i).2.1 (T i).2.2.1 ∈ wsA) (hv : fs[i]? = some none) (hd : decode cc pc = .ok (.getfield index, 3))
    (kk : VV p l e R s m args below meth c Q nL Γ sk M cells slots (pc + 3) L (vi (M k i) :: st)) : VV p l e R s m args below meth c Q nL Γ sk M cells slots pc L (vr Γ k :: st) :=
  V_getf C (f := M k) hk hc hin i hi href hlink (fv_n hv) hd kk
theorem V_getR (C : CX p s m args c cc nL own Γ sk) {k ci N index q : Nat} {fs : List (Option Nat)} {K ref : String} {T : u_T} (hk : sk[k]? = some (.inr (ci, fs))) (hc : vwCl[ci]? = some (K, T, N)) (hin : ∀ w ∈ u_ws K T N, w ∈ wsA) (i : Nat) (hi : i < N) (href : ref = (T i).1) (hlink : Cond.fieldLink own index ref (T i).2.1 (T i).2.2.1 ∈ wsA) (hv : fs[i]? = some (some q)) (hd : decode cc pc = .ok (.getfield index, 3))
    (kk : VV p l e R s m args below meth c Q nL Γ sk M cells slots (pc + 3) L (vr Γ q :: st)) : VV p l e R s m args below meth c Q nL Γ sk M cells slots pc L (vr Γ k :: st) :=
  V_getf C (f := M k) hk hc hin i hi href hlink (fv_r hv) hd kk
theorem V_putI (C : CX p s m args c cc nL own Γ sk) {k ci N index : Nat} {fs : List (Option Nat)} {K ref : String} {T : u_T} {x : Int} (hk2 : 3 ≤ k) (hk : sk[k]? = some (.inr (ci, fs))) (hc : vwCl[ci]? = some (K, T, N)) (hin : ∀ w ∈ u_ws K T N, w ∈ wsA) (ty0 : Nat → FieldType) (hty : ∀ k, k < N → parseFieldDescriptor (T k).2.2.1 = some (ty0 k)) (hnm : ∀ a, a < N → ∀ b, b < N → a ≠ b → (T a).2.1 ≠ (T b).2.1) (i : Nat) (hi : i < N) (hfs : fs[i]? = some none) (href : ref = (T i).1) (hlink : Cond.fieldLink own index ref (T i).2.1 (T i).2.2.1 ∈ wsA) (hfin : (T i).2.2.2 = false) (hx : rng x) (ht : ty0 i = .int) (hd : decode cc pc = .ok (.putfield index, 3))
    (kk : VV p l e R s m args below meth c Q nL Γ sk (up M k i x) cells slots (pc + 3) L st) : VV p l e R s m args below meth c Q nL Γ sk M cells slots pc L (vi x :: vr Γ k :: st) :=
  V_putf C hk2 hk hc hin ty0 hty hnm i hi hfs href hlink hfin hx ((hty i hi).trans (congrArg some ht)) rfl rfl hd kk
theorem V_putZ (C : CX p s m args c cc nL own Γ sk) {k ci N index : Nat} {fs : List (Option Nat)} {K ref : String} {T : u_T} {x : Int} (hk2 : 3 ≤ k) (hk : sk[k]? = some (.inr (ci, fs))) (hc : vwCl[ci]? = some (K, T, N)) (hin : ∀ w ∈ u_ws K T N, w ∈ wsA) (ty0 : Nat → FieldType) (hty : ∀ k, k < N → parseFieldDescriptor (T k).2.2.1 = some (ty0 k)) (hnm : ∀ a, a < N → ∀ b, b < N → a ≠ b → (T a).2.1 ≠ (T b).2.1) (i : Nat) (hi : i < N) (hfs : fs[i]? = some none) (href : ref = (T i).1) (hlink : Cond.fieldLink own index ref (T i).2.1 (T i).2.2.1 ∈ wsA) (hfin : (T i).2.2.2 = false) (hx : 0 ≤ x ∧ x ≤ 1) (ht : ty0 i = .boolean) (hd : decode cc pc = .ok (.putfield index, 3))
    (kk : VV p l e R s m args below meth c Q nL Γ sk (up M k i x) cells slots (pc + 3) L st) : VV p l e R s m args below meth c Q nL Γ sk M cells slots pc L (vi x :: vr Γ k :: st) :=
  V_putf C hk2 hk hc hin ty0 hty hnm i hi hfs href hlink hfin (rb1 hx) ((hty i hi).trans (congrArg some ht)) (by rcases (show x = 0 ∨ x = 1 by omega) with rfl | rfl <;> rfl) (by rcases (show x = 0 ∨ x = 1 by omega) with rfl | rfl <;> rfl) hd kk
theorem V_tabIn (C : CX p s m args c cc nL own Γ sk) {dflt lo hi : Int} {offs : Array Int} {len : Nat} {x : Int} {off : Int} (tgt : Nat) (v : Int) (hv : x = v) (hr : rng x) (hd : decode cc pc = .ok (.tableswitch dflt lo hi offs, len)) (h1 : ¬ v < lo) (h2 : ¬ hi < v) (ho : offs[(v - lo).toNat]? = some off) (ht : (pc : Int) + off = (tgt : Int))
    (kk : VV p l e R s m args below meth c Q nL Γ sk M cells slots tgt L st) : VV p l e R s m args below meth c Q nL Γ sk M cells slots pc L (vi x :: st) := by
  subst hv
  exact fun H locs ls hP hS hl hM => lv_tableIn C.1 C.2.1 hd (by rw [i32_toInt hr]; exact h1) (by rw [i32_toInt hr]; exact h2) (by rw [i32_toInt hr]; exact ho) ht (kk H locs ls hP hS hl hM)
theorem V_tabOut (C : CX p s m args c cc nL own Γ sk) {dflt lo hi : Int} {offs : Array Int} {len : Nat} {x : Int} (tgt : Nat) (hr : rng x) (hd : decode cc pc = .ok (.tableswitch dflt lo hi offs, len)) (h : x < lo ∨ hi < x) (ht : (pc : Int) + dflt = (tgt : Int))
    (kk : VV p l e R s m args below meth c Q nL Γ sk M cells slots tgt L st) : VV p l e R s m args below meth c Q nL Γ sk M cells slots pc L (vi x :: st) :=
  fun H locs ls hP hS hl hM => lv_tableOut C.1 C.2.1 hd (by rw [i32_toInt hr]; exact h) ht (kk H locs ls hP hS hl hM)
end Puts
