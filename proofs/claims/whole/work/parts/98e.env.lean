/-! the world at the law's entry -/
theorem Term_len_lt {args : Array Value} {s : State} {t : Term} {v : Value} (h : (Term.length t).eval args s none [] s = some v) : ∃ (a : Nat) (cell : Cell), t.eval args s none [] s = some (.ref a) ∧ s.arrayAt? a = some cell ∧ v = .int cell.slots.size.toInt32 ∧ cell.slots.size < 2147483648 := by
  simp only [Term.eval, Option.bind_eq_bind] at h
  cases ht : t.eval args s none [] s with
  | none => simp [ht] at h
  | some x =>
    cases x <;> simp [ht] at h
    case ref a =>
      obtain ⟨cell, hcell, h⟩ := Option.bind_eq_some_iff.mp h
      by_cases hn : cell.slots.size < 2147483648
      · rw [if_pos hn] at h; cases h; exact ⟨a, cell, rfl, hcell, rfl, hn⟩
      · rw [if_neg hn] at h; cases h
/-- a static array of known numbers, its length exact -/
theorem arr_at {args : Array Value} {s : State} {tm : Term} {N : Nat} {f : Nat → Int} (hN : N < 2 ^ 31) (harr : (Cond.arrayOf tm .int).before args s = true) (hlen : (Term.length tm).eval args s none [] s = some (.int (Int32.ofNat N))) (hel : ∀ j : Nat, j < N → (Term.elem tm (.int (Int32.ofNat j))).eval args s none [] s = some (vi (f j))) : ∃ t : Nat, tm.eval args s none [] s = some (.ref t) ∧ t < s.heap.size ∧ ∃ cell : Cell, s.heap[t]? = some cell ∧ s.isArrayOf cell (tyOf 0) ∧ cell.vm ≠ .unknown ∧ cell.slots.size = N ∧ ∀ j : Nat, j < N → cell.slots[j]? = some (elV 0 (f j)) := by
  obtain ⟨t, ht, cell, h1, h2, h3, h4, h5, h6, -⟩ := va_Tof (A := fun q => s.heap.size ≤ q) (f := fun j => vi (f j)) hN harr hlen hel (fun a h z => absurd h (Nat.not_lt.mpr z))
  obtain ⟨t2, cell2, k1, k2, k3, k4⟩ := Term_len_lt hlen
  cases ht.symm.trans k1
  have hc : s.heap[t]? = some cell2 := (State.arrayAt?_spec k2).1
  cases h1.symm.trans hc
  have hs : cell.slots.size = N := by
    have e := congrArg Int32.toInt h5
    have a1 : cell.slots.size.toInt32.toInt = (cell.slots.size : Int) := by
      show (Int32.ofNat cell.slots.size).toInt = _
      exact Int32.toInt_ofNat_of_lt (by omega)
    rw [a1, Int32.toInt_ofNat_of_lt (by omega)] at e
    omega
  exact ⟨t, ht, (Array.getElem?_eq_some_iff.mp h1).1, cell, h1, h2, h3, hs, h6⟩
theorem adr_inj {a0 a1 b lo n1 a65 i j : Nat} (h0 : a0 < lo) (h1 : a1 < lo) (h2 : b < lo) (d1 : a0 ≠ a1) (d2 : b ≠ a0) (d3 : b ≠ a1) (hn : lo + 49 ≤ n1) (ha : n1 + 13 ≤ a65) (e : adr a0 a1 b lo n1 a65 i = adr a0 a1 b lo n1 a65 j) : i = j := by
  unfold adr at e
  by_cases i0 : i = 0
  · subst i0
    by_cases j0 : j = 0
    · exact j0.symm
    rw [if_pos rfl, if_neg j0] at e
    split at e
    · omega
    · split at e
      · omega
      · split at e
        · omega
        · split at e <;> omega
  rw [if_neg i0] at e
  by_cases j0 : j = 0
  · subst j0
    rw [if_pos rfl] at e
    split at e
    · omega
    · split at e
      · omega
      · split at e
        · omega
        · split at e <;> omega
  rw [if_neg j0] at e
  by_cases i1 : i = 1
  · subst i1
    by_cases j1 : j = 1
    · exact j1.symm
    rw [if_pos rfl, if_neg j1] at e
    split at e
    · omega
    · split at e
      · omega
      · split at e <;> omega
  rw [if_neg i1] at e
  by_cases j1 : j = 1
  · subst j1
    rw [if_pos rfl] at e
    split at e
    · omega
    · split at e
      · omega
      · split at e <;> omega
  rw [if_neg j1] at e
  by_cases i2 : i = 2
  · subst i2
    by_cases j2 : j = 2
    · exact j2.symm
    rw [if_pos rfl, if_neg j2] at e
    split at e
    · omega
    · split at e <;> omega
  rw [if_neg i2] at e
  by_cases j2 : j = 2
  · subst j2
    rw [if_pos rfl] at e
    split at e
    · omega
    · split at e <;> omega
  rw [if_neg j2] at e
  by_cases i3 : i < 52
  · rw [if_pos i3] at e
    by_cases j3 : j < 52
    · rw [if_pos j3] at e
      omega
    rw [if_neg j3] at e
    split at e <;> omega
  rw [if_neg i3] at e
  by_cases j3 : j < 52
  · rw [if_pos j3] at e
    split at e <;> omega
  rw [if_neg j3] at e
  by_cases i4 : i < 65
  · rw [if_pos i4] at e
    by_cases j4 : j < 65
    · rw [if_pos j4] at e
      omega
    rw [if_neg j4] at e
    omega
  rw [if_neg i4] at e
  by_cases j4 : j < 65
  · rw [if_pos j4] at e
    omega
  rw [if_neg j4] at e
  omega
theorem known_all {s : State} {args : Array Value} (hts : ∀ w ∈ wsA, w.before args s = true) : ∃ D : va_G, va_K D vwCl [] s := by
  have h : ∀ c : Nat, ∃ q : ClassId × (Nat → Nat), ∀ r : vw_C, vwCl[c]? = some r → u_Kn s r.1 r.2.1 r.2.2 q.1 q.2 := by
    intro c
    have mk : ∀ {K : String} {T : u_T} {N : Nat}, (∃ (cC : ClassId) (iS : Nat → Nat), u_Kn s K T N cC iS) → vwCl[c]? = some (K, T, N) → ∃ q : ClassId × (Nat → Nat), ∀ r : vw_C, vwCl[c]? = some r → u_Kn s r.1 r.2.1 r.2.2 q.1 q.2 := by
      intro K T N hk he
      obtain ⟨cC, iS, h1⟩ := hk
      refine ⟨(cC, iS), fun r hr => ?_⟩
      cases Option.some.inj (he.symm.trans hr)
      exact h1
    match c with
    | 0 => exact mk (u_known hts inX0 (hts _ ci_X0)) rfl
    | 1 => exact mk (u_known hts inX1 (hts _ ci_X1)) rfl
    | 2 => exact mk (u_known hts inX2 (hts _ ci_X2)) rfl
    | 3 => exact mk (u_known hts inX3 (hts _ ci_X3)) rfl
    | 4 => exact mk (u_known hts inX4 (hts _ ci_X4)) rfl
    | 5 => exact mk (u_known hts inX5 (hts _ ci_X5)) rfl
    | 6 => exact mk (u_known hts inX6 (hts _ ci_X6)) rfl
    | 7 => exact mk (u_known hts inX7 (hts _ ci_X7)) rfl
    | 8 => exact mk (u_known hts inX8 (hts _ ci_X8)) rfl
    | 9 => exact mk (u_known hts inX9 (hts _ ci_X9)) rfl
    | 10 => exact mk (u_known hts inX10 (hts _ ci_X10)) rfl
    | 11 => exact mk (u_known hts inX11 (hts _ ci_X11)) rfl
    | 12 => exact mk (u_known hts inX12 (hts _ ci_X12)) rfl
    | c + 13 => exact ⟨(0, fun _ => 0), fun r hr => (by cases hr)⟩
  obtain ⟨ad, had⟩ := Classical.axiomOfChoice h
  exact ⟨(fun c => (ad c).1, fun c => (ad c).2), fun c q hq => had c q hq, fun k q h => (by cases h)⟩
def m0E (i : Nat) : Int := v10L.getD i 0
def m1E (i : Nat) : Int := gtL.getD i 0
theorem v10_r : ∀ n : Nat, n < 10 → rng (v10L.getD n 0) := by decide
theorem gt_r : ∀ n : Nat, n < 15 → rng (gtL.getD n 0) := by decide
theorem m0E_r (i : Nat) : rng (m0E i) := by
  by_cases h : i < 10
  · exact v10_r i h
  · have : v10L.getD i 0 = 0 := by
      rw [List.getD_eq_getElem?_getD, List.getElem?_eq_none (show v10L.length ≤ i from (show 10 ≤ i by omega))]
      rfl
    show rng (v10L.getD i 0)
    rw [this]; decide
theorem m1E_r (i : Nat) : rng (m1E i) := by
  by_cases h : i < 15
  · exact gt_r i h
  · have : gtL.getD i 0 = 0 := by
      rw [List.getD_eq_getElem?_getD, List.getElem?_eq_none (show gtL.length ≤ i from (show 15 ≤ i by omega))]
      rfl
    show rng (gtL.getD i 0)
    rw [this]; decide
theorem mC_r {xs : Nat → Int} (hx : ∀ i, rng (xs i)) : mR (mC m0E m1E xs) := by
  intro k i
  unfold mC
  split
  · exact m0E_r i
  · split
    · exact m1E_r i
    · split
      · exact hx i
      · split <;> decide
theorem mC_z (xs : Nat → Int) : zC (mC m0E m1E xs) := by
  refine ⟨fun i h0 h1 => rfl, fun i h0 h1 => rfl, fun q q1 q2 i hq => ?_, rfl⟩
  show (if q = 0 then m0E i else if q = 1 then m1E i else if q = 2 then xs i else if q = 45 ∧ i = 7 then -1 else 0) = 0
  rw [if_neg (by omega), if_neg (by omega), if_neg (by omega), if_neg hq]
theorem law_env {p : Program} {s : State} {m : MethodId} {c : Code} {b L : Nat} {xs : Nat → Int32} (hx : p.tables.exec = Jvm.exec) (hb : c.code = cL_law) (hml : c.maxLocals = 9) (hown : s.vm.findClass RL = some m.cls) (hts : ∀ w ∈ lw_tbl, w.before #[Value.ref b] s = true) (hX : va_X b L xs s s.heap) (hbl : b < s.heap.size) (hgv : (Jvm.Cond.and given_1 narrow_1).before #[Value.ref b] s = true) :
    ∃ (D : va_G) (S : (Nat → Nat) × (Nat → Nat)) (a0 a1 : Nat) (ys : Nat → Int), (a0 < s.heap.size ∧ a1 < s.heap.size ∧ b < s.heap.size) ∧ (∀ i, rng (ys i)) ∧ CN p s m #[Value.ref b] c cL_law 9 RL D ∧
      (∀ (a65 : Nat) (sk : List SD), s.heap.size + 62 ≤ a65 → sk.length ≤ 67 → Env9 nestL strL lensL bytL (mkG D S a0 a1 b s.heap.size (s.heap.size + 49) a65) sk s s.heap) ∧
      wP (mkG D S a0 a1 b s.heap.size (s.heap.size + 49) (s.heap.size + 63)) (sk3 L) s s.heap (mC m0E m1E ys) := by
  have htA : ∀ w ∈ wsA, w.before #[Value.ref b] s = true := fun w hw => hts w (List.mem_filter.mp hw).1
  obtain ⟨D, hK⟩ := known_all htA
  have hnest : ∀ q ∈ nestL, va_Nw (nOK q) s := fun q hq => va_Nw.of rfl (hts _ (nest_in q hq))
  obtain ⟨a0, e0, l0, cell0, p01, p02, p03, p04, p05⟩ := arr_at (tm := .static "VectorVersions" "FIRST_ELEMENTS" "[I") (N := 10) (f := fun j => v10L.getD j 0) (by decide) (nw_at hgv _ ar_first) (va_eqt (nw_at hgv _ le_first)) (fun j hj => va_eqt (nw_at hgv _ (el_first j hj)))
  obtain ⟨a1, e1, l1, cell1, p11, p12, p13, p14, p15⟩ := arr_at (tm := .static "VectorVersions$Script" "GREATEST" "[I") (N := 15) (f := fun j => gtL.getD j 0) (by decide) (nw_at hgv _ ar_great) (va_eqt (nw_at hgv _ le_great)) (fun j hj => va_eqt (nw_at hgv _ (el_great j hj)))
  have d1 : a0 ≠ a1 := by
    intro z
    subst z
    cases p01.symm.trans p11
    omega
  have d2 : b ≠ a0 := va_neR (nw_at hgv _ nb_first) (show (Term.arg 0).eval #[Value.ref b] s none [] s = some (.ref b) from rfl) e0
  have d3 : b ≠ a1 := va_neR (nw_at hgv _ nb_great) (show (Term.arg 0).eval #[Value.ref b] s none [] s = some (.ref b) from rfl) e1
  have hA : ∀ a : Nat, a < s.heap.size → ¬ (fun q : Nat => s.heap.size ≤ q) a := fun a h z => absurd h (Nat.not_lt.mpr z)
  obtain ⟨adK, adV, hS, hT⟩ := vk_Sof (A := fun q => s.heap.size ≤ q) (N := 12) (tm := tmS) (len := lensL) (byt := bytL) (by decide) (fun i hi => nw_at hgv _ (str_ex i hi)) (fun i hi => nw_at hgv _ (str_co i hi)) (fun i hi => nw_at hgv _ (str_ar i hi)) (fun i hi => nw_at hgv _ (str_le i hi)) (fun i hi j hj => nw_at hgv _ (str_el i hi j hj)) (fun i j hi hj hij => (str_ne i hi j hj hij).imp (fun z => nw_at hgv _ z) (fun z => nw_at hgv _ z)) hA
  have z0 := va_Zref (hts _ ls_first) (hts _ iz_first) e0 hA
  have z1 := va_Zref (hts _ ls_great) (hts _ iz_great) e1 hA
  have z2 := va_Zof (hts _ ls_comp) (hts _ iz_comp) (va_eqt (nw_at hgv _ cs_one)) hA
  have z3 := va_Zqof (hts _ ls_sio) (hts _ iz_sio) (nw_at hgv _ rf_sio) hA
  have z4 := vx_Zqof (hts _ ls_ste) (hts _ iz_ste) (nw_at hgv _ rf_ste) hA
  have z5 := vx_Zqof (hts _ ls_sup) (hts _ iz_sup) (nw_at hgv _ rf_sup) hA
  have hstr : ∀ q ∈ strL, vk_R q.1 q.2.1 q.2.2.1 (adK q.2.2.2) s := fun q hq => vk_R.of (hts _ (str_in q hq)) (str_at hgv hT q hq)
  obtain ⟨scr, x1, x2, x3, x4, x5⟩ := hX
  refine ⟨D, (adK, adV), a0, a1, fun i => (xs i).toInt, ⟨l0, l1, hbl⟩, fun i => ⟨Int32.le_toInt (xs i), Int.lt_add_one_iff.mp (Int32.toInt_lt (xs i))⟩, ⟨hx, hb, hml, hown, htA, hK, hnest⟩, fun a65 sk ha hsk => ?_, fun k d hk => ?_⟩
  · have hFr : ∀ q, Fr (mkG D (adK, adV) a0 a1 b s.heap.size (s.heap.size + 49) a65) sk s.heap.size q → s.heap.size ≤ q := fun q hq => by
      rcases hq with ⟨k, k1, k2, rfl⟩ | hq
      · exact gA_hi k2 (by omega) (by omega)
      · exact hq
    exact ⟨hK, fun i j _ _ e => adr_inj l0 l1 hbl d1 d2 d3 (Nat.le_refl _) (by omega) e, hnest, z0.narrow hFr, z1.narrow hFr, hS.narrow hFr, hstr, z2.narrow hFr, z3.narrow hFr, z4.narrow hFr, z5.narrow hFr, fun q hq => va_Nw.of rfl (hts _ (cast_in q hq)), fun q hq => va_Nc.of (flat_of_before _ hgv _ (nc_in q hq))⟩
  · match k, hk with
    | 0, hk =>
      cases hk
      exact ⟨cell0, p01, p02, p03, p04, p05⟩
    | 1, hk =>
      cases hk
      exact ⟨cell1, p11, p12, p13, p14, p15⟩
    | 2, hk =>
      cases hk
      refine ⟨scr, x1, x2, x3, x4, fun j hj => ?_⟩
      rw [x5 j hj]
      show some (Value.int (xs j)) = some (Value.int (Int32.ofInt (xs j).toInt))
      rw [Int32.ofInt_toInt]
    | k + 3, hk => cases hk
