/-! worlds that grow: what a method makes anew is laid behind the cells that were there -/
def Grw (Γ Γ' : GG) (sk sk' : List SD) (sz : Nat) : Prop := Γ'.1 = Γ.1 ∧ Γ'.2.2 = Γ.2.2 ∧ sk.length ≤ sk'.length ∧ (∀ k : Nat, k < sk.length → gA Γ' k = gA Γ k) ∧ (∀ k : Nat, sk.length ≤ k → k < sk'.length → sz ≤ gA Γ' k) ∧ ∀ i j : Nat, i < sk'.length → j < sk'.length → gA Γ' i = gA Γ' j → i = j
theorem Grw.rf {Γ : GG} {sk sk' : List SD} {sz : Nat} (inj : ∀ i j : Nat, i < sk.length → j < sk.length → gA Γ i = gA Γ j → i = j) (hl : sk'.length = sk.length) : Grw Γ Γ sk sk' sz :=
  ⟨rfl, rfl, Nat.le_of_eq hl.symm, fun _ _ => rfl, fun k h1 h2 => absurd h2 (Nat.not_lt.mpr (by rw [hl]; exact h1)), fun i j hi hj => inj i j (by rw [← hl]; exact hi) (by rw [← hl]; exact hj)⟩
theorem Grw.trans {Γ Γ1 Γ2 : GG} {sk sk1 sk2 : List SD} {sz sz1 : Nat} (h : Grw Γ Γ1 sk sk1 sz) (h1 : Grw Γ1 Γ2 sk1 sk2 sz1) (hz : sz ≤ sz1) : Grw Γ Γ2 sk sk2 sz :=
  ⟨h1.1.trans h.1, h1.2.1.trans h.2.1, Nat.le_trans h.2.2.1 h1.2.2.1, fun k hk => by rw [h1.2.2.2.1 k (Nat.lt_of_lt_of_le hk h.2.2.1), h.2.2.2.1 k hk], fun k k1 k2 => by
    by_cases hk : k < sk1.length
    · rw [h1.2.2.2.1 k hk]; exact h.2.2.2.2.1 k k1 hk
    · exact Nat.le_trans hz (h1.2.2.2.2.1 k (Nat.not_lt.mp hk) k2), h1.2.2.2.2.2⟩
theorem Grw.less {Γ Γ1 : GG} {sk sk1 : List SD} {sz sz1 : Nat} (h : Grw Γ Γ1 sk sk1 sz1) (hz : sz ≤ sz1) : Grw Γ Γ1 sk sk1 sz := ⟨h.1, h.2.1, h.2.2.1, h.2.2.2.1, fun k k1 k2 => Nat.le_trans hz (h.2.2.2.2.1 k k1 k2), h.2.2.2.2.2⟩
theorem Grw.vr {Γ Γ' : GG} {sk sk' : List SD} {sz k : Nat} (h : Grw Γ Γ' sk sk' sz) (hk : k < sk.length) : vr Γ k = vr Γ' k := by
  show Value.ref (gA Γ k) = Value.ref (gA Γ' k)
  rw [h.2.2.2.1 k hk]
theorem Fr_down {Γ Γ' : GG} {sk sk' : List SD} {sz q : Nat} (h : Grw Γ Γ' sk sk' sz) (hq : Fr Γ' sk' sz q) : Fr Γ sk sz q := by
  rcases hq with ⟨k, k1, k2, rfl⟩ | hq
  · by_cases hk : k < sk.length
    · exact Or.inl ⟨k, hk, k2, h.2.2.2.1 k hk⟩
    · exact Or.inr (h.2.2.2.2.1 k (Nat.not_lt.mp hk) k1)
  · exact Or.inr hq
theorem Fr_up {Γ Γ' : GG} {sk sk' : List SD} {sz q : Nat} (h : Grw Γ Γ' sk sk' sz) (hq : Fr Γ sk sz q) : Fr Γ' sk' sz q := by
  rcases hq with ⟨k, k1, k2, rfl⟩ | hq
  · exact Or.inl ⟨k, Nat.lt_of_lt_of_le k1 h.2.2.1, k2, (h.2.2.2.1 k k1).symm⟩
  · exact Or.inr hq
theorem S_up {Γ Γ' : GG} {sk sk' : List SD} {sz : Nat} {H0 H : Heap} {locs : List Loc} (h : Grw Γ Γ' sk sk' sz) (hS : va_S (Fr Γ sk sz) H0 H locs) : va_S (Fr Γ' sk' sz) H0 H locs := ⟨hS.1, fun q h1 h2 => hS.2.1 q h1 (fun z => h2 (Fr_up h z)), fun q hq => Fr_up h (hS.2.2 q hq)⟩
theorem S_down {Γ Γ' : GG} {sk sk' : List SD} {sz : Nat} {H0 H : Heap} {locs : List Loc} (h : Grw Γ Γ' sk sk' sz) (hS : va_S (Fr Γ' sk' sz) H0 H locs) : va_S (Fr Γ sk sz) H0 H locs := ⟨hS.1, fun q h1 h2 => hS.2.1 q h1 (fun z => h2 (Fr_down h z)), fun q hq => Fr_down h (hS.2.2 q hq)⟩
theorem EnvJ_narrow {A B : Nat → Prop} {U : State} {H : Heap} (h : EnvJ A U H) (hAB : ∀ q, B q → A q) : EnvJ B U H := ⟨h.1.narrow hAB, h.2.1.narrow hAB, h.2.2.1.narrow hAB, h.2.2.2.1.narrow hAB, h.2.2.2.2⟩
theorem Env9_grow {Γ Γ' : GG} {sk sk' : List SD} {U : State} {H : Heap} (h : Grw Γ Γ' sk sk' H.size) (h300 : 298 ≤ sk.length) (hE : Env9 nestL strL lensL bytL Γ sk U H) : Env9 nestL strL lensL bytL Γ' sk' U H := by
  obtain ⟨h1, h2, h3, h4, h5, h6, h7, h8⟩ := hE
  have hm : ∀ q, Fr Γ' sk' H.size q → Fr Γ sk H.size q := fun q hq => Fr_down h hq
  refine ⟨by rw [h.1]; exact h1, h.2.2.2.2.2, h3, ?_, ⟨?_, ?_⟩, ?_, fun q hq => ?_, EnvJ_narrow h8 hm⟩
  · rw [← h.vr (k := 0) (by omega)]; exact h4.narrow hm
  · exact dgE_narrow h5.1 hm
  · exact dgE_narrow h5.2 hm
  · rw [h.2.1]; exact h6.narrow hm
  · rw [h.2.1]; exact h7 q hq
theorem CX_grow {p : Program} {s : State} {m : MethodId} {args : Array Value} {c : Code} {cc : ByteArray} {nL : Nat} {own : String} {Γ Γ' : GG} {sk sk' : List SD} (C : CX p s m args c cc nL own Γ sk) (h : Grw Γ Γ' sk sk' s.heap.size) (h300 : 298 ≤ sk.length) : CX p s m args c cc nL own Γ' sk' := ⟨C.1, C.2.1, C.2.2.1, C.2.2.2.1, C.2.2.2.2.1, Env9_grow h h300 C.2.2.2.2.2⟩
/-- no cell speaks of one that isn't there -/
def ClD (N : Nat) : SD → Prop
  | .inl q => q.1 < 4 ∨ q.1 - 4 + q.2 ≤ N
  | .inr q => ∀ k : Nat, some k ∈ q.2 → k < N
def ClS (sk : List SD) : Prop := ∀ (k : Nat) (d : SD), sk[k]? = some d → ClD sk.length d
theorem ClD.mono {N N' : Nat} (h : N ≤ N') {d : SD} (hd : ClD N d) : ClD N' d := by
  cases d with
  | inl q =>
    rcases hd with z | z
    · exact Or.inl z
    · exact Or.inr (Nat.le_trans z h)
  | inr q => exact fun k hk => Nat.lt_of_lt_of_le (hd k hk) h
theorem elG_grow {Γ Γ' : GG} {N t j : Nat} {x : Int} (hd : t < 4 ∨ t - 4 + (j + 1) ≤ N) (ha : ∀ k : Nat, k < N → gA Γ' k = gA Γ k) : elG Γ t j x = elG Γ' t j x := by
  match t, hd with
  | 0, _ => rfl
  | 1, _ => rfl
  | 2, _ => rfl
  | 3, _ => rfl
  | b + 4, hd =>
    show Value.ref (gA Γ (b + j)) = Value.ref (gA Γ' (b + j))
    rw [ha (b + j) (by omega)]
theorem fv_grow {Γ Γ' : GG} {N : Nat} {fs : List (Option Nat)} (hd : ∀ k : Nat, some k ∈ fs → k < N) (ha : ∀ k : Nat, k < N → gA Γ' k = gA Γ k) (f : Nat → Int) (j : Nat) : fv Γ f fs j = fv Γ' f fs j := by
  cases fs with
  | nil => rfl
  | cons o r =>
    cases hj : (o :: r)[j]? with
    | none => simp only [fv, hj]
    | some x =>
      cases x with
      | none => simp only [fv, hj]
      | some k =>
        simp only [fv, hj]
        show Value.ref (gA Γ k) = Value.ref (gA Γ' k)
        rw [ha k (hd k (List.mem_of_getElem? hj))]
theorem cOK_grow {Γ Γ' : GG} {N : Nat} {d : SD} {U : State} {H : Heap} {a : Nat} {f : Nat → Int} (h1 : Γ'.1 = Γ.1) (hd : ClD N d) (ha : ∀ k : Nat, k < N → gA Γ' k = gA Γ k) (h : cOK Γ U H d a f) : cOK Γ' U H d a f := by
  cases d with
  | inl q =>
    obtain ⟨cell, c1, c2, c3, c4, c6, c5⟩ := h
    refine ⟨cell, c1, c2, c3, c4, c6, fun j hj => ?_⟩
    rw [c5 j hj, elG_grow (hd.imp id (fun z => by omega)) ha]
  | inr q =>
    obtain ⟨r, r1, r2⟩ := h
    refine ⟨r, r1, ?_⟩
    rw [h1]
    exact t_OB.to r2 (fun j _ => fv_grow hd ha f j)
theorem cOK_lt {Γ : GG} {U : State} {H : Heap} {d : SD} {a : Nat} {f : Nat → Int} (h : cOK Γ U H d a f) : a < H.size := by
  cases d with
  | inl q =>
    obtain ⟨cell, h1, h2⟩ := h
    exact (Array.getElem?_eq_some_iff.mp h1).1
  | inr q =>
    obtain ⟨r, h1, cell, h2, h3⟩ := h
    exact (Array.getElem?_eq_some_iff.mp h2).1
theorem wP_lt {Γ : GG} {sk : List SD} {U : State} {H : Heap} {M : Mem} {k : Nat} (h : wP Γ sk U H M) (hk : k < sk.length) : gA Γ k < H.size := cOK_lt (h k sk[k] (List.getElem?_eq_getElem hk))
def gP (Γ : GG) (n a : Nat) : GG := (Γ.1, (fun k => if k = n then a else gA Γ k, Γ.2.2))
theorem gP_n (Γ : GG) (n a : Nat) : gA (gP Γ n a) n = a := if_pos rfl
theorem gP_o {Γ : GG} {n a k : Nat} (h : k ≠ n) : gA (gP Γ n a) k = gA Γ k := if_neg h
theorem Grw_push {Γ : GG} {sk : List SD} {U : State} {H : Heap} {M : Mem} {sz : Nat} (hw : wP Γ sk U H M) (inj : ∀ i j : Nat, i < sk.length → j < sk.length → gA Γ i = gA Γ j → i = j) (hz : sz ≤ H.size) (d : SD) : Grw Γ (gP Γ sk.length H.size) sk (sk ++ [d]) sz := by
  have hlen : (sk ++ [d]).length = sk.length + 1 := by simp
  refine ⟨rfl, rfl, by omega, fun k hk => gP_o (by omega), fun k k1 k2 => ?_, fun i j hi hj hij => ?_⟩
  · have : k = sk.length := by omega
    rw [this, gP_n]
    exact hz
  · by_cases h1 : i = sk.length
    · by_cases h2 : j = sk.length
      · rw [h1, h2]
      · rw [h1, gP_n, gP_o h2] at hij
        have := wP_lt hw (k := j) (by omega)
        omega
    · by_cases h2 : j = sk.length
      · rw [h2, gP_n, gP_o h1] at hij
        have := wP_lt hw (k := i) (by omega)
        omega
      · rw [gP_o h1, gP_o h2] at hij
        exact inj i j (by omega) (by omega) hij
theorem ClS_push {sk : List SD} (h : ClS sk) {d : SD} (hd : ClD (sk.length + 1) d) : ClS (sk ++ [d]) := by
  intro k e hk
  have hlen : (sk ++ [d]).length = sk.length + 1 := by simp
  rw [hlen]
  by_cases h1 : k < sk.length
  · rw [List.getElem?_append_left h1] at hk
    exact ClD.mono (Nat.le_succ _) (h k e hk)
  · rw [List.getElem?_append_right (Nat.not_lt.mp h1)] at hk
    have h2 := List.mem_of_getElem? hk
    rw [List.mem_singleton.mp h2]
    exact hd
def up0 (M : Mem) (n : Nat) : Mem := fun q i => if q = n then 0 else M q i
theorem up0_mR {M : Mem} {n : Nat} (h : mR M) : mR (up0 M n) := fun q i => by
  simp only [up0]
  split
  · decide
  · exact h q i
theorem up0_o {M : Mem} {n q : Nat} (h : q ≠ n) : up0 M n q = M q := by
  funext i
  simp [up0, h]
theorem up0_n (M : Mem) (n i : Nat) : up0 M n n i = 0 := if_pos rfl
theorem wP_push {Γ : GG} {sk : List SD} {U : State} {H H1 : Heap} {M : Mem} (hw : wP Γ sk U H M) (hc : ClS sk) (ho : ∀ q, q < H.size → H1[q]? = H[q]?) {d : SD} (hd : cOK (gP Γ sk.length H.size) U H1 d H.size (fun _ => 0)) : wP (gP Γ sk.length H.size) (sk ++ [d]) U H1 (up0 M sk.length) := by
  intro k e hk
  by_cases h1 : k < sk.length
  · rw [List.getElem?_append_left h1] at hk
    rw [gP_o (by omega), up0_o (by omega)]
    exact cOK_grow (Γ := Γ) (N := sk.length) rfl (hc k e hk) (fun j (hj : j < sk.length) => gP_o (Nat.ne_of_lt hj)) (cOK_kept (hw k e hk) (ho _ (wP_lt hw h1)))
  · have h2 : k < (sk ++ [d]).length := (List.getElem?_eq_some_iff.mp hk).1
    have h3 : k = sk.length := by
      simp at h2
      omega
    subst h3
    rw [List.getElem?_append_right (Nat.le_refl _), Nat.sub_self] at hk
    cases hk
    rw [gP_n, show (up0 M sk.length sk.length) = fun _ => 0 from funext fun i => up0_n M _ i]
    exact hd
section Grow
variable {p : Program} {l : Launch} {e : Env} {R : Room} {s : State} {m : MethodId} {args : Array Value} {below : List Frame} {meth : Method} {c : Code} {Q : State → Prop}
variable {nL : Nat} {Γ : GG} {sk : List SD} {M : Mem} {cells slots pc : Nat} {L : List (Nat × Value)} {st : List Value} {cc : ByteArray} {own : String}
/-- a new row of zeros -/
theorem V_newA (C : CX p s m args c cc nL own Γ sk) (hc : ClS sk) (h300 : 298 ≤ sk.length) {atype : ArrayType} (t : Nat) (ht : t < 3) (hty : newarray.typeOf atype = tyOf t) (hdv : defaultValue (tyOf t) = vi 0) (harr : Cond.arrayClass (newarray.typeOf atype) ∈ wsA) {x : Int} {n : Nat} (hx : x = n) (hn : n ≤ 40000) (hroom : cells + 1 ≤ R.cells ∧ slots + n ≤ R.slots) (hd : decode cc pc = .ok (.newarray atype, 2))
    (kk : ∀ Γ' : GG, Grw Γ Γ' sk (sk ++ [.inl (t, n)]) s.heap.size → CX p s m args c cc nL own Γ' (sk ++ [.inl (t, n)]) → ClS (sk ++ [.inl (t, n)]) → VV p l e R s m args below meth c Q nL Γ' (sk ++ [.inl (t, n)]) (up0 M sk.length) (cells + 1) (slots + n) (pc + 2) L (vr Γ' sk.length :: st)) : VV p l e R s m args below meth c Q nL Γ sk M cells slots pc L (vi x :: st) := by
  subst hx
  intro H locs ls hP hS hl hM
  have hr : rng (n : Int) := ⟨by omega, by omega⟩
  refine va_newaK C.1 C.2.1 (C.2.2.2.2.1 _ harr) rfl hd rfl (n := i32 (n : Int)) (N := n) ?_ ?_ ?_ hroom.1 hroom.2 rfl fun H1 cA e1 z1 o1 hAr hNm => ?_
  · rw [← i32_0, i32_lt hr (by decide)]; omega
  · rw [i32_clamp hr]; exact Int.toNat_natCast n
  · rw [hty]
    have : componentBytes (tyOf t) ≤ 8 := by
      match t, ht with
      | 0, _ => decide
      | 1, _ => decide
      | 2, _ => decide
    calc n * componentBytes (tyOf t) ≤ n * 8 := Nat.mul_le_mul_left _ this
      _ ≤ 536870912 := by omega
  · have hG := Grw_push hP C.2.2.2.2.2.2.1 hS.1 (.inl (t, n))
    have hS1 : va_S (Fr Γ sk s.heap.size) s.heap H1 locs := ⟨Nat.le_trans hS.1 (by omega), fun x h1 h2 => (o1 x (by have := hS.1; omega)).trans (hS.2.1 x h1 h2), hS.2.2⟩
    have hw := wP_push hP hc o1 (d := .inl (t, n)) (by
      refine ⟨_, e1, ?_, ?_, ?_, fun hz => ?_, fun j hj => ?_⟩
      · rw [← hty]; exact hAr _ _
      · intro hz; cases hz
      · exact arrV_size _ _ _
      · have hz2 : t = 2 := hz
        rw [hty, hz2] at hNm
        exact hNm
      · rw [hty, hdv]
        have ez : elG (gP Γ sk.length H.size) t j 0 = vi 0 := by
          match t, ht with
          | 0, _ => rfl
          | 1, _ => rfl
          | 2, _ => rfl
        rw [ez]
        simp [arrV, hj])
    have hk := kk _ hG (CX_grow C hG h300) (ClS_push hc (Or.inl (by show t < 4; omega))) H1 locs ls hw (S_up hG hS1) hl (up0_mR hM)
    rw [show vr (gP Γ sk.length H.size) sk.length = .ref H.size from congrArg Value.ref (gP_n Γ _ _)] at hk
    exact hk
/-- a new object of a class of the JDK's with four fields (a text, a builder), blank -/
theorem V_newO (C : CX p s m args c cc nL own Γ sk) (hcl : ClS sk) (h300 : 298 ≤ sk.length) {K : String} {T : u_T} {ci index : Nat} (hc : vwCl[ci]? = some (K, T, 4)) (hin : ∀ w ∈ u_ws K T 4, w ∈ wsA) (ty : Nat → FieldType) (hty : ∀ k, k < 4 → parseFieldDescriptor (T k).2.2.1 = some (ty k)) (hlk : Cond.classLink own index K ∈ wsA) (hinst : Cond.instantiable K 4 ∈ wsA) (hini : Cond.initialized K ∈ wsA) (hfs : ∀ j, j < 4 → defaultValue (ty j) = vp_V [.null, vi 0, vi 0, vi 0] j) (hroom : cells + 1 ≤ R.cells ∧ slots + 4 ≤ R.slots) (hd : decode cc pc = .ok (.new index, 3))
    (kk : ∀ Γ' : GG, Grw Γ Γ' sk (sk ++ [.inr (ci, [])]) s.heap.size → CX p s m args c cc nL own Γ' (sk ++ [.inr (ci, [])]) → ClS (sk ++ [.inr (ci, [])]) → VV p l e R s m args below meth c Q nL Γ' (sk ++ [.inr (ci, [])]) (up0 M sk.length) (cells + 1) (slots + 4) (pc + 3) L (vr Γ' sk.length :: st)) : VV p l e R s m args below meth c Q nL Γ sk M cells slots pc L st := by
  intro H locs ls hP hS hl hM
  have hKn := C.2.2.2.2.2.1.1 ci _ hc
  refine W.newcK C.1 C.2.1 C.2.2.2.1 (C.2.2.2.2.1 _ hlk) (C.2.2.2.2.1 _ hinst) (C.2.2.2.2.1 _ hini) rfl hd hroom.1 hroom.2 hKn.2.1 rfl fun H1 kC hkC e1 z1 o1 => ?_
  have hG := Grw_push hP C.2.2.2.2.2.2.1 hS.1 (.inr (ci, []))
  have hS1 : va_S (Fr Γ sk s.heap.size) s.heap H1 locs := ⟨Nat.le_trans hS.1 (by omega), fun x h1 h2 => (o1 x (by have := hS.1; omega)).trans (hS.2.1 x h1 h2), hS.2.2⟩
  have hw := wP_push hP hcl o1 (d := .inr (ci, [])) ⟨_, hc, (u_born ty (C.2.2.2.2.1) hin hKn hkC e1 hty).to hfs⟩
  have hk := kk _ hG (CX_grow C hG h300) (ClS_push hcl (fun k hk => absurd hk List.not_mem_nil)) H1 locs ls hw (S_up hG hS1) hl (up0_mR hM)
  rw [show vr (gP Γ sk.length H.size) sk.length = .ref H.size from congrArg Value.ref (gP_n Γ _ _)] at hk
  exact hk
/-- one field of one object laid anew -/
theorem put_core (C : CX p s m args c cc nL own Γ sk) {k ci N index : Nat} {fs : List (Option Nat)} {K ref : String} {T : u_T} {v : Value} {ty : FieldType} (hk2 : 3 ≤ k) (hk : sk[k]? = some (.inr (ci, fs))) (hc : vwCl[ci]? = some (K, T, N)) (hin : ∀ w ∈ u_ws K T N, w ∈ wsA) (ty0 : Nat → FieldType) (hty : ∀ k, k < N → parseFieldDescriptor (T k).2.2.1 = some (ty0 k)) (hnm : ∀ a, a < N → ∀ b, b < N → a ≠ b → (T a).2.1 ≠ (T b).2.1) (i : Nat) (hi : i < N) (href : ref = (T i).1) (hlink : Cond.fieldLink own index ref (T i).2.1 (T i).2.2.1 ∈ wsA) (hinit : (T i).2.2.2 = true → meth.name = "<init>" ∧ (T i).1 = own) (hpd : parseFieldDescriptor (T i).2.2.1 = some ty) (hn : narrow ty v = v) (hfit : fits ty v = true) (hd : decode cc pc = .ok (.putfield index, 3))
    {H : Heap} {locs : List Loc} {ls : Array Slot} (hP : wP Γ sk s H M) (hS : va_S (Fr Γ sk s.heap.size) s.heap H locs)
    (kk : ∀ (H1 : Heap) (locs1 : List Loc), t_OB (gA Γ k) (Γ.1.1 ci) N (Γ.1.2 ci) H1 (updV (fv Γ (M k) fs) i v) → H1.size = H.size → (∀ x, x ≠ gA Γ k → H1[x]? = H[x]?) → va_S (Fr Γ sk s.heap.size) s.heap H1 locs1 → W p l e R s m args below meth c H1 locs1 cells slots Q (F0 m (pc + 3) ls st)) : W p l e R s m args below meth c H locs cells slots Q (F0 m pc ls (v :: vr Γ k :: st)) := by
  subst href
  have hap := va_apart (own := own) (D := Γ.1) (C.2.2.2.2.1) hin ty0 hty hnm C.2.2.2.2.2.1 hc
  obtain ⟨r, h1, cell, q1, q2, q3, q4⟩ := hP k _ hk
  have hr : r = (K, T, N) := Option.some.inj (h1.symm.trans hc)
  subst hr
  obtain ⟨hSl, hfc, kC, hkC, hkind⟩ := C.2.2.2.2.2.1.1 ci _ hc
  obtain ⟨cf, kf, fi, fd, hfi, hsl⟩ := hSl i hi
  have hlay := C.2.2.2.2.1 _ (hin _ (u_in_lay hi))
  have hst := (u_facts hfc hkC (u_lays (C.2.2.2.2.1) hin hi) hfi).1
  have hA : Fr Γ sk s.heap.size (gA Γ k) := Or.inl ⟨k, (List.getElem?_eq_some_iff.mp hk).1, hk2, rfl⟩
  have fin : ∀ (H1 : Heap) (locs1 : List Loc), H1[gA Γ k]? = some (cell.setSlot (Γ.1.2 ci i) v) → H1.size = H.size → (∀ x, x ≠ gA Γ k → H1[x]? = H[x]?) → va_S (Fr Γ sk s.heap.size) s.heap H1 locs1 → W p l e R s m args below meth c H1 locs1 cells slots Q (F0 m (pc + 3) ls st) := fun H1 locs1 e1 e2 e3 hS1 =>
    kk H1 locs1 ⟨_, e1, q2, q3, t_set q4 hap hi v⟩ e2 e3 hS1
  by_cases hfin : (T i).2.2.2 = true
  · obtain ⟨hini, hdecl⟩ := hinit hfin
    unfold u_lay at hlay
    rw [if_pos hfin] at hlay
    have hcf : m.cls = cf := by
      obtain ⟨_, _, c', _, _, _, -, -, hf', -, -, -, hown2, -⟩ := Cond.laysFinal_spec hlay
      have e1 : c' = cf := by have := hfi.symm.trans hf'; simp at this; exact this.1.symm
      rw [hdecl] at hown2
      rw [← e1]; exact Option.some.inj (C.2.2.2.1.symm.trans hown2)
    have h6 := u_fits hfc hkC hkind (Or.inr hlay) hfi hpd hn hfit
    refine W.putFinK C.1 C.2.1 C.2.2.2.1 (C.2.2.2.2.1 _ hlink) hfi hst hcf hini (by rw [q2]; exact h6) q1 q3 (by rw [hsl]; exact k2_hasslot (q4 i hi)) rfl rfl hd fun H1 e1 e2 e3 => ?_
    rw [hsl] at e1 ⊢
    exact fin H1 _ e1 e2 e3 (hS.put e2 e3 hA)
  · unfold u_lay at hlay
    rw [if_neg hfin] at hlay
    have h6 := u_store hfc hkC hkind hlay hfi hpd hn hfit
    refine W.putK C.1 C.2.1 (f := fd) ⟨C.2.2.2.1, C.2.2.2.2.1 _ hlink, ⟨_, _, _, hfi⟩, hst⟩ (by rw [q2]; exact h6) q1 q3 (by rw [hsl]; exact k2_hasslot (q4 i hi)) rfl rfl hd fun H1 e1 e2 e3 => ?_
    rw [hsl] at e1 ⊢
    exact fin H1 _ e1 e2 e3 (hS.put e2 e3 hA)
theorem getElem?_set9 {α : Type} {a : List α} {i k : Nat} {d x : α} (h : (a.set i d)[k]? = some x) : (k = i ∧ x = d) ∨ (k ≠ i ∧ a[k]? = some x) := by
  by_cases hk : k = i
  · subst hk
    rw [List.getElem?_set] at h
    split at h
    · split at h
      · exact Or.inl ⟨rfl, (Option.some.inj h).symm⟩
      · cases h
    · exact absurd rfl ‹¬ _›
  · rw [List.getElem?_set_ne (fun z => hk z.symm)] at h
    exact Or.inr ⟨hk, h⟩
theorem wP_setS {U : State} {H H1 : Heap} (hP : wP Γ sk U H M) (inj : ∀ i j : Nat, i < sk.length → j < sk.length → gA Γ i = gA Γ j → i = j) {k : Nat} {d : SD} (hk : k < sk.length) (hd : cOK Γ U H1 d (gA Γ k) (M k)) (oq : ∀ q : Nat, q ≠ gA Γ k → H1[q]? = H[q]?) : wP Γ (sk.set k d) U H1 M := by
  intro j e hj
  rcases getElem?_set9 hj with ⟨rfl, rfl⟩ | ⟨h1, h2⟩
  · exact hd
  · exact cOK_kept (hP j e h2) (oq _ (fun z => h1 (inj j k (List.getElem?_eq_some_iff.mp h2).1 hk z)))
theorem ClS_set (h : ClS sk) {k : Nat} {d : SD} (hd : ClD sk.length d) : ClS (sk.set k d) := by
  intro j e hj
  rw [List.length_set]
  rcases getElem?_set9 hj with ⟨rfl, rfl⟩ | ⟨h1, h2⟩
  · exact hd
  · exact h j e h2
/-- the row of a text or a builder -/
theorem V_putB (C : CX p s m args c cc nL own Γ sk) (hcl : ClS sk) (h300 : 298 ≤ sk.length) {k ci index j : Nat} {fs : List (Option Nat)} {K ref : String} {T : u_T} (hk2 : 3 ≤ k) (hk : sk[k]? = some (.inr (ci, fs))) (hc : vwCl[ci]? = some (K, T, 4)) (hin : ∀ w ∈ u_ws K T 4, w ∈ wsA) (ty0 : Nat → FieldType) (hty : ∀ k, k < 4 → parseFieldDescriptor (T k).2.2.1 = some (ty0 k)) (hnm : ∀ a, a < 4 → ∀ b, b < 4 → a ≠ b → (T a).2.1 ≠ (T b).2.1) (href : ref = (T 0).1) (hlink : Cond.fieldLink own index ref (T 0).2.1 (T 0).2.2.1 ∈ wsA) (hinit : (T 0).2.2.2 = true → meth.name = "<init>" ∧ (T 0).1 = own) (hpd : parseFieldDescriptor (T 0).2.2.1 = some (.array .byte)) (hfs : (fs = [] ∧ M k 1 = 0 ∧ M k 2 = 0 ∧ M k 3 = 0) ∨ ∃ j0, fs = [some j0, none, none, none]) (hj : j < sk.length) (hd : decode cc pc = .ok (.putfield index, 3))
    (kk : CX p s m args c cc nL own Γ (sk.set k (.inr (ci, [some j, none, none, none]))) → ClS (sk.set k (.inr (ci, [some j, none, none, none]))) → VV p l e R s m args below meth c Q nL Γ (sk.set k (.inr (ci, [some j, none, none, none]))) M cells slots (pc + 3) L st) : VV p l e R s m args below meth c Q nL Γ sk M cells slots pc L (vr Γ j :: vr Γ k :: st) := by
  intro H locs ls hP hS hl hM
  have hG : Grw Γ Γ sk (sk.set k (.inr (ci, [some j, none, none, none]))) s.heap.size := Grw.rf C.2.2.2.2.2.2.1 (List.length_set ..)
  refine put_core C hk2 hk hc hin ty0 hty hnm 0 (by decide) href hlink hinit hpd rfl rfl hd hP hS fun H1 locs1 e1 e2 e3 hS1 => ?_
  refine kk (CX_grow C hG h300) (ClS_set hcl ?_) H1 locs1 ls (wP_setS hP C.2.2.2.2.2.2.1 (List.getElem?_eq_some_iff.mp hk).1 ⟨_, hc, e1.to (fun q hq => ?_)⟩ e3) (S_up hG hS1) hl hM
  · intro q hq
    simp only [List.mem_cons, List.not_mem_nil, or_false, reduceCtorEq, Option.some.injEq] at hq
    subst hq
    exact hj
  · rcases hfs with ⟨rfl, z1, z2, z3⟩ | ⟨j0, rfl⟩
    · match q, hq with
      | 0, _ => rfl
      | 1, _ => show vi 0 = vi (M k 1); rw [z1]
      | 2, _ => show vi 0 = vi (M k 2); rw [z2]
      | 3, _ => show vi 0 = vi (M k 3); rw [z3]
    · match q, hq with
      | 0, _ => rfl
      | 1, _ => rfl
      | 2, _ => rfl
      | 3, _ => rfl
/-- nought into the coder of a blank one -/
theorem V_putC (C : CX p s m args c cc nL own Γ sk) {k ci index : Nat} {K ref : String} {T : u_T} (hk2 : 3 ≤ k) (hk : sk[k]? = some (.inr (ci, []))) (hc : vwCl[ci]? = some (K, T, 4)) (hin : ∀ w ∈ u_ws K T 4, w ∈ wsA) (ty0 : Nat → FieldType) (hty : ∀ k, k < 4 → parseFieldDescriptor (T k).2.2.1 = some (ty0 k)) (hnm : ∀ a, a < 4 → ∀ b, b < 4 → a ≠ b → (T a).2.1 ≠ (T b).2.1) (href : ref = (T 1).1) (hlink : Cond.fieldLink own index ref (T 1).2.1 (T 1).2.2.1 ∈ wsA) (hinit : (T 1).2.2.2 = true → meth.name = "<init>" ∧ (T 1).1 = own) (hpd : parseFieldDescriptor (T 1).2.2.1 = some .byte) (hd : decode cc pc = .ok (.putfield index, 3))
    (kk : VV p l e R s m args below meth c Q nL Γ sk M cells slots (pc + 3) L st) : VV p l e R s m args below meth c Q nL Γ sk M cells slots pc L (vi 0 :: vr Γ k :: st) := by
  intro H locs ls hP hS hl hM
  refine put_core C hk2 hk hc hin ty0 hty hnm 1 (by decide) href hlink hinit hpd rfl rfl hd hP hS fun H1 locs1 e1 e2 e3 hS1 => ?_
  refine kk H1 locs1 ls (wP_set hP C.2.2.2.2.2.2.1 hk ⟨_, hc, e1.to (fun q hq => ?_)⟩ e3 (fun j _ => rfl)) hS1 hl hM
  match q, hq with
  | 0, _ => rfl
  | 1, _ => rfl
  | 2, _ => rfl
  | 3, _ => rfl
end Grow
