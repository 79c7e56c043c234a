/-! the world at the law's entry -/
theorem Term_len_lt {args : Array Value} {s : State} {t : Term} {v : Value} (h : (Term.length t).eval args s none [] s = some v) : ∃ (a : Nat) (cell : Cell), t.eval args s none [] s = some (.ref a) ∧ s.arrayAt? a = some cell ∧ v = .int cell.slots.size.toInt32 ∧ cell.slots.size < 2147483648 := by
  simp only [Term.eval, Option.bind_eq_bind] at h
  cases ht : t.eval args s none [] s with
  | none => simp [ht] at h
  | some x =>
    cases x <;> simp [ht] at h
    case ref a =>
      obtain ⟨cell, hcell, h⟩ := Option.bind_eq_some_iff.mp h
      by_cases hn : cell.slots.size < 2147483648
      · rw [if_pos hn] at h; cases h; exact ⟨a, cell, rfl, hcell, rfl, hn⟩
      · rw [if_neg hn] at h; cases h
/-- a static array of known numbers, its length exact -/
theorem arr_at {args : Array Value} {s : State} {tm : Term} {N : Nat} (t0 : Nat) {f : Nat → Int} (hN : N < 2 ^ 31) (harr : (Cond.arrayOf tm (tyOf t0)).before args s = true) (hlen : (Term.length tm).eval args s none [] s = some (.int (Int32.ofNat N))) (hel : ∀ j : Nat, j < N → (Term.elem tm (.int (Int32.ofNat j))).eval args s none [] s = some (vi (f j))) : ∃ t : Nat, tm.eval args s none [] s = some (.ref t) ∧ t < s.heap.size ∧ ∃ cell : Cell, s.heap[t]? = some cell ∧ s.isArrayOf cell (tyOf t0) ∧ cell.vm ≠ .unknown ∧ cell.slots.size = N ∧ ∀ j : Nat, j < N → cell.slots[j]? = some (vi (f j)) := by
  obtain ⟨t, ht, cell, h1, h2, h3, h4, h5, h6, -⟩ := va_Tof (A := fun q => s.heap.size ≤ q) (f := fun j => vi (f j)) hN harr hlen hel (fun a h z => absurd h (Nat.not_lt.mpr z))
  obtain ⟨t2, cell2, k1, k2, k3, k4⟩ := Term_len_lt hlen
  cases ht.symm.trans k1
  have hc : s.heap[t]? = some cell2 := (State.arrayAt?_spec k2).1
  cases h1.symm.trans hc
  have hs : cell.slots.size = N := by
    have e := congrArg Int32.toInt h5
    have a1 : cell.slots.size.toInt32.toInt = (cell.slots.size : Int) := by
      show (Int32.ofNat cell.slots.size).toInt = _
      exact Int32.toInt_ofNat_of_lt (by omega)
    rw [a1, Int32.toInt_ofNat_of_lt (by omega)] at e
    omega
  exact ⟨t, ht, (Array.getElem?_eq_some_iff.mp h1).1, cell, h1, h2, h3, hs, h6⟩
theorem adr_val (a0 a1 b lo i : Nat) : (i = 0 ∧ adr a0 a1 b lo i = a0) ∨ (i = 1 ∧ adr a0 a1 b lo i = a1) ∨ (i = 2 ∧ adr a0 a1 b lo i = b) ∨ (3 ≤ i ∧ i < 52 ∧ adr a0 a1 b lo i = lo + (i - 3)) ∨ (i = 52 ∧ adr a0 a1 b lo i = lo + 49) ∨ (53 ≤ i ∧ i < 57 ∧ adr a0 a1 b lo i = lo + 49 + (i - 11)) ∨ (i = 57 ∧ adr a0 a1 b lo i = lo + 49 + 246) ∨ (58 ≤ i ∧ i < 98 ∧ adr a0 a1 b lo i = lo + 49 + (i - 56)) ∨ (98 ≤ i ∧ adr a0 a1 b lo i = lo + 49 + (i - 52)) := by
  unfold adr
  split
  · omega
  split
  · omega
  split
  · omega
  split
  · omega
  split
  · omega
  split
  · omega
  split
  · omega
  split
  · omega
  · omega
set_option maxHeartbeats 4000000 in
theorem adr_inj {a0 a1 b lo i j : Nat} (h0 : a0 < lo) (h1 : a1 < lo ∨ a1 = lo + 49 + 1) (h2 : b < lo) (d1 : a0 ≠ a1) (d2 : b ≠ a0) (d3 : b ≠ a1) (hi : i < 298) (hj : j < 298) (e : adr a0 a1 b lo i = adr a0 a1 b lo j) : i = j := by
  have hI := adr_val a0 a1 b lo i
  have hJ := adr_val a0 a1 b lo j
  rw [e] at hI
  generalize adr a0 a1 b lo j = z at hI hJ
  rcases hI with h | h | h | h | h | h | h | h | h <;> rcases hJ with g | g | g | g | g | g | g | g | g <;> omega
theorem known_all {s : State} {args : Array Value} (hts : ∀ w ∈ wsA, w.before args s = true) : ∃ D : va_G, va_K D vwCl [] s := by
  have h : ∀ c : Nat, ∃ q : ClassId × (Nat → Nat), ∀ r : vw_C, vwCl[c]? = some r → u_Kn s r.1 r.2.1 r.2.2 q.1 q.2 := by
    intro c
    have mk : ∀ {K : String} {T : u_T} {N : Nat}, (∃ (cC : ClassId) (iS : Nat → Nat), u_Kn s K T N cC iS) → vwCl[c]? = some (K, T, N) → ∃ q : ClassId × (Nat → Nat), ∀ r : vw_C, vwCl[c]? = some r → u_Kn s r.1 r.2.1 r.2.2 q.1 q.2 := by
      intro K T N hk he
      obtain ⟨cC, iS, h1⟩ := hk
      refine ⟨(cC, iS), fun r hr => ?_⟩
      cases Option.some.inj (he.symm.trans hr)
      exact h1
    match c with
    | 0 => exact mk (u_known hts inJ0 (hts _ kl_J4_18.2.1)) rfl
    | 1 => exact mk (u_known hts inJ4 (hts _ kl_L_159.2.1)) rfl
    | 2 => exact mk (u_known hts inX0 (hts _ ci_X0)) rfl
    | 3 => exact mk (u_known hts inX1 (hts _ ci_X1)) rfl
    | 4 => exact mk (u_known hts inX2 (hts _ ci_X2)) rfl
    | 5 => exact mk (u_known hts inX3 (hts _ ci_X3)) rfl
    | 6 => exact mk (u_known hts inX4 (hts _ ci_X4)) rfl
    | 7 => exact mk (u_known hts inX5 (hts _ ci_X5)) rfl
    | 8 => exact mk (u_known hts inX6 (hts _ ci_X6)) rfl
    | 9 => exact mk (u_known hts inX7 (hts _ ci_X7)) rfl
    | 10 => exact mk (u_known hts inX8 (hts _ ci_X8)) rfl
    | 11 => exact mk (u_known hts inX9 (hts _ ci_X9)) rfl
    | 12 => exact mk (u_known hts inX10 (hts _ ci_X10)) rfl
    | 13 => exact mk (u_known hts inX11 (hts _ ci_X11)) rfl
    | 14 => exact mk (u_known hts inL (hts _ ci_L)) rfl
    | c + 15 => exact ⟨(0, fun _ => 0), fun r hr => (by cases hr)⟩
  obtain ⟨ad, had⟩ := Classical.axiomOfChoice h
  exact ⟨(fun c => (ad c).1, fun c => (ad c).2), fun c q hq => had c q hq, fun k q h => (by cases h)⟩
def m0E (i : Nat) : Int := v10L.getD i 0
theorem v10_r : ∀ n : Nat, n < 10 → rng (v10L.getD n 0) := by decide
theorem m0E_r (i : Nat) : rng (m0E i) := by
  by_cases h : i < 10
  · exact v10_r i h
  · have : v10L.getD i 0 = 0 := by
      rw [List.getD_eq_getElem?_getD, List.getElem?_eq_none (show v10L.length ≤ i from (show 10 ≤ i by omega))]
      rfl
    show rng (v10L.getD i 0)
    rw [this]; decide
def m1E (i : Nat) : Int := if i < 100 then dgO i else 0
theorem m1E_r (i : Nat) : rng (m1E i) := by
  unfold m1E dgO
  split
  · constructor <;> omega
  · decide
theorem mC_r {xs : Nat → Int} (hx : ∀ i, rng (xs i)) : mR (mC m0E m1E xs) := by
  intro k i
  unfold mC
  split
  · exact m0E_r i
  · split
    · exact m1E_r i
    · split
      · exact hx i
      · split <;> decide
theorem arr_ne {s : State} {a b : Nat} {c c' : Cell} {t t' : FieldType} (h1 : s.heap[a]? = some c) (h2 : s.isArrayOf c t) (g1 : s.heap[b]? = some c') (g2 : s.isArrayOf c' t') (ht : t ≠ t') : a ≠ b := by
  intro z
  subst z
  cases h1.symm.trans g1
  obtain ⟨-, k, hk, comp, hkind⟩ := h2
  obtain ⟨-, k', hk', comp', hkind'⟩ := g2
  cases hk.symm.trans hk'
  have := hkind.symm.trans hkind'
  cases this
  exact ht rfl
/-- selection of a private method of a superclass, on an object of the subclass -/
theorem sel_priv {args : Array Value} {s : State} {K : String} {x0 y0 y : MethodName} (h0 : (Cond.selects K x0 y0).before args s = true) (hc : y0.cls = y.cls) (hy : y.cls ≠ "java/lang/invoke/MethodHandle" ∧ y.cls ≠ "java/lang/invoke/VarHandle") (hpriv : (Cond.privateMethod y).before args s = true) (hinst : (Cond.instanceMethod y).before args s = true) : (Cond.selects K y y).before args s = true := by
  obtain ⟨c2, r2, m2, q1, -, q3, -, kP, hkP, hkPi⟩ := Cond.selects_spec h0
  obtain ⟨mk, methM, hnamed, hmethM, -, -⟩ := Cond.instanceMethod_spec hinst
  have hfound : s.methodFound? y.cls y.name y.desc = some mk := State.methodFound?_of_named hnamed hy
  have hcls : mk.cls = m2.cls := Option.some.inj ((findClass_of_methodNamed hnamed).symm.trans (hc ▸ findClass_of_methodNamed q3))
  have hsel : selectMethod {} s.vm c2 mk = .method mk := selectMethod_private hmethM (Cond.privateMethod_at hpriv mk methM hnamed hmethM)
  simp only [Cond.before, Cond.holds, Cond.value, q1, hfound, hnamed, hsel, hcls, hkP]
  simp
  exact hkPi
theorem hts_A {args : Array Value} {s : State} (hts : ∀ w ∈ lw_tbl, w.before args s = true) : ∀ w ∈ wsA, w.before args s = true := by
  intro w hw
  rcases List.mem_append.mp (List.mem_filter.mp hw).1 with h | h
  · exact hts w h
  · simp only [lw_x2, List.mem_cons, List.not_mem_nil, or_false] at h
    rcases h with rfl | rfl | rfl | rfl
    · exact sel_priv (hts _ tc_lat) rfl (by decide +kernel) (hts _ tp_ens.1) (hts _ tp_ens.2)
    · exact sel_priv (hts _ tc_lat) rfl (by decide +kernel) (hts _ tp_newCap.1) (hts _ tp_newCap.2)
    · exact sel_priv (hts _ tc_lat) rfl (by decide +kernel) (hts _ tp_putS.1) (hts _ tp_putS.2)
    · exact sel_priv (hts _ tc_lat) rfl (by decide +kernel) (hts _ tp_infl.1) (hts _ tp_infl.2)
theorem law_env {p : Program} {s : State} {m : MethodId} {c : Code} {b L : Nat} {xs : Nat → Int32} (hx : p.tables.exec = Jvm.exec) (hb : c.code = cL_law) (hml : c.maxLocals = 7) (hown : s.vm.findClass RL = some m.cls) (hts : ∀ w ∈ lw_tbl, w.before #[Value.ref b] s = true) (hX : va_X b L xs s s.heap) (hbl : b < s.heap.size) (hgv : (Jvm.Cond.and given_1 narrow_1).before #[Value.ref b] s = true) :
    ∃ (D : va_G) (S : (Nat → Nat) × (Nat → Nat)) (a0 a1 : Nat) (ys : Nat → Int), (a0 < s.heap.size ∧ a1 < s.heap.size ∧ b < s.heap.size) ∧ (∀ i, rng (ys i)) ∧ CN p s m #[Value.ref b] c cL_law 7 RL D ∧ va_AO9 s ∧
      (∀ (z1 : Nat) (sk : List SD), z1 = a1 ∨ z1 = s.heap.size + 49 + 1 → sk.length ≤ 298 → Env9 nestL strL lensL bytL (mkG D S a0 z1 b s.heap.size) sk s s.heap) ∧
      wP (mkG D S a0 a1 b s.heap.size) (sk3 L) s s.heap (mC m0E m1E ys) := by
  have htA := hts_A hts
  obtain ⟨D, hK⟩ := known_all htA
  have hnest : ∀ q ∈ nestL, va_Nw (nOK q) s := fun q hq => va_Nw.of rfl (hts _ (nest_in q hq))
  obtain ⟨a0, e0, l0, cell0, p01, p02, p03, p04, p05⟩ := arr_at 0 (tm := .static "VectorVersions" "FIRST_ELEMENTS" "[I") (N := 10) (f := fun j => v10L.getD j 0) (by decide) (nw_at hgv _ ar_first) (va_eqt (nw_at hgv _ le_first)) (fun j hj => va_eqt (nw_at hgv _ (el_first j hj)))
  obtain ⟨a1, e1, l1, cell1, p11, p12, p13, p14, p15⟩ := arr_at 2 (tm := .static "java/lang/Integer" "DigitOnes" "[B") (N := 100) (f := dgO) (by decide) (nw_at hgv _ ar_ones) (va_eqt (nw_at hgv _ le_ones)) (fun j hj => va_eqt (nw_at hgv _ (el_ones j hj)))
  have hA : ∀ a : Nat, a < s.heap.size → ¬ (fun q : Nat => s.heap.size ≤ q) a := fun a h z => absurd h (Nat.not_lt.mpr z)
  obtain ⟨cb, o1, o2, o3, -⟩ := va_Oof (nw_at hgv _ ex_ones) e1 hA
  cases o1.symm.trans p11
  obtain ⟨t1, f1, T1⟩ := va_Tof (A := fun q => s.heap.size ≤ q) (tm := .static "java/lang/Integer" "DigitOnes" "[B") (ty := .byte) (N := 100) (f := fun j => vi (dgO j)) (by decide) (nw_at hgv _ ar_ones) (va_eqt (nw_at hgv _ le_ones)) (fun j hj => va_eqt (nw_at hgv _ (el_ones j hj))) hA
  obtain ⟨t2, f2, T2⟩ := va_Tof (A := fun q => s.heap.size ≤ q) (tm := .static "java/lang/Integer" "DigitTens" "[B") (ty := .byte) (N := 100) (f := fun j => vi (dgT j)) (by decide) (nw_at hgv _ ar_tens) (va_eqt (nw_at hgv _ le_tens)) (fun j hj => va_eqt (nw_at hgv _ (el_tens j hj))) hA
  obtain ⟨scr, x1, x2, x3, x4, x5⟩ := id hX
  have d1 : a0 ≠ a1 := arr_ne p01 p02 p11 p12 (by decide)
  have d2 : b ≠ a0 := va_neR (nw_at hgv _ nb_first) (show (Term.arg 0).eval #[Value.ref b] s none [] s = some (.ref b) from rfl) e0
  have d3 : b ≠ a1 := arr_ne x1 x2 p11 p12 (by decide)
  obtain ⟨adK, adV, hS, hT⟩ := vk_Sof (A := fun q => s.heap.size ≤ q) (N := 12) (tm := tmS) (len := lensL) (byt := bytL) (by decide) (fun i hi => nw_at hgv _ (str_ex i hi)) (fun i hi => nw_at hgv _ (str_co i hi)) (fun i hi => nw_at hgv _ (str_ar i hi)) (fun i hi => nw_at hgv _ (str_le i hi)) (fun i hi j hj => nw_at hgv _ (str_el i hi j hj)) (fun i j hi hj hij => (str_ne i hi j hj hij).imp (fun z => nw_at hgv _ z) (fun z => nw_at hgv _ z)) hA
  have z0 := va_Zref (hts _ ls_first) (hts _ iz_first) e0 hA
  have z1 := va_Zref (hts _ ls_ones) (hts _ iz_ones) f1 hA
  have z9 := va_Zref (hts _ ls_tens) (hts _ iz_tens) f2 hA
  have z2 := va_Zof (hts _ ls_comp) (hts _ iz_comp) (va_eqt (nw_at hgv _ cs_one)) hA
  have z3 := va_Zqof (hts _ ls_sio) (hts _ iz_sio) (nw_at hgv _ rf_sio) hA
  have z4 := vx_Zqof (hts _ ls_ste) (hts _ iz_ste) (nw_at hgv _ rf_ste) hA
  have z5 := vx_Zqof (hts _ ls_sup) (hts _ iz_sup) (nw_at hgv _ rf_sup) hA
  have hstr : ∀ q ∈ strL, vk_R q.1 q.2.1 q.2.2.1 (adK q.2.2.2) s := fun q hq => vk_R.of (hts _ (str_in q hq)) (str_at hgv hT q hq)
  refine ⟨D, (adK, adV), a0, a1, fun i => (xs i).toInt, ⟨l0, l1, hbl⟩, fun i => ⟨Int32.le_toInt (xs i), Int.lt_add_one_iff.mp (Int32.toInt_lt (xs i))⟩, ⟨hx, hb, hml, hown, htA, hK, hnest⟩, fun a U' hal => ao_alike hal (hts _ tc_over), fun w1 sk hw1 hsk => ?_, fun k d hk => ?_⟩
  · have hFr : ∀ q, Fr (mkG D (adK, adV) a0 w1 b s.heap.size) sk s.heap.size q → s.heap.size ≤ q := fun q hq => by
      rcases hq with ⟨k, k1, k2, rfl⟩ | hq
      · exact gA_hi k2
      · exact hq
    have i1 : w1 < s.heap.size ∨ w1 = s.heap.size + 49 + 1 := by omega
    have i2 : a0 ≠ w1 := by omega
    have i3 : b ≠ w1 := by omega
    exact ⟨hK, fun i j hi hj e => adr_inj l0 i1 hbl i2 d2 i3 (by omega) (by omega) e, hnest, z0.narrow hFr, ⟨⟨t1, z1.narrow hFr, T1.narrow hFr⟩, ⟨t2, z9.narrow hFr, T2.narrow hFr⟩⟩, hS.narrow hFr, hstr, z2.narrow hFr, z3.narrow hFr, z4.narrow hFr, z5.narrow hFr, fun q hq => va_Nw.of rfl (hts _ (cast_in q hq)), fun q hq => va_Nc.of (flat_of_before _ hgv _ (nc_in q hq)), va_Nw.of rfl (hts _ tc_clone)⟩
  · match k, hk with
    | 0, hk =>
      cases hk
      exact ⟨cell0, p01, p02, p03, p04, (fun hz => by cases hz), p05⟩
    | 1, hk =>
      cases hk
      refine ⟨cell1, p11, p12, p13, p14, fun _ => o3, fun j hj => (p15 j hj).trans ?_⟩
      have hj9 : j < 100 := hj
      show some (vi (dgO j)) = some (vi (m1E j))
      unfold m1E
      rw [if_pos hj9]
    | 2, hk =>
      cases hk
      refine ⟨scr, x1, x2, x3, x4, (fun hz => by cases hz), fun j hj => ?_⟩
      rw [x5 j hj]
      show some (Value.int (xs j)) = some (Value.int (Int32.ofInt (xs j).toInt))
      rw [Int32.ofInt_toInt]
    | k + 3, hk => cases hk
