/-! bits, Math, longs, statics; calls; a method's start -/
def bmodB (x : Int) : Int := x.bmod 256
section VRules3
variable {nest : List (String × Nat × MethodName × String)} {strs : List (String × Nat × String × Nat)} {lens : List Nat} {byts : List (List Int32)}
variable {p : Program} {l : Launch} {e : Env} {R : Room} {s : State} {m : MethodId} {args : Array Value} {below : List Frame} {meth : Method} {c : Code} {Q : State → Prop}
variable {nL : Nat} {Γ : GG} {sk : List SD} {M : Mem} {cells slots pc : Nat} {L : List (Nat × Value)} {st : List Value} {cc : ByteArray} {own : String}
theorem i32_tn (x : Int) : (i32 x).toBitVec.toNat = (x % 4294967296).toNat := by
  show (BitVec.ofInt 32 x).toNat = _
  rw [BitVec.toNat_ofInt]
  rfl
theorem i32_ofTn {a : Int32} {x : Int} (h : (a.toBitVec.toNat : Int) = x % 4294967296) : a = i32 x := by
  apply Int32.toBitVec_inj.mp
  apply BitVec.eq_of_toNat_eq
  rw [i32_tn]
  omega
theorem i32_and (x : Int) {y : Int} (n : Nat) (hn : n ≤ 31) (hy : i32 y = Int32.ofNat (2 ^ n - 1)) : i32 x &&& i32 y = i32 (x % (2 ^ n : Nat)) := by
  have hlt : 2 ^ n - 1 < 4294967296 := by
    have : 2 ^ n ≤ 2 ^ 31 := Nat.pow_le_pow_right (by decide) hn
    omega
  have hm : (i32 y).toBitVec.toNat = 2 ^ n - 1 := by
    rw [hy]
    show (BitVec.ofNat 32 (2 ^ n - 1)).toNat = _
    rw [BitVec.toNat_ofNat]
    exact Nat.mod_eq_of_lt hlt
  rw [pk_and (i32 x) n hm]
  apply i32_ofTn
  show ((BitVec.ofNat 32 ((i32 x).toBitVec.toNat % 2 ^ n)).toNat : Int) = _
  rw [BitVec.toNat_ofNat, i32_tn]
  have hp : (0 : Nat) < 2 ^ n := Nat.pow_pos (by decide)
  have e32 : n + (32 - n) = 32 := by omega
  have h32 : 2 ^ n * 2 ^ (32 - n) = 4294967296 := by rw [← Nat.pow_add, e32]
  have h1 : (x % 4294967296).toNat % 2 ^ n < 2 ^ 32 := Nat.lt_of_lt_of_le (Nat.mod_lt _ hp) (Nat.pow_le_pow_right (by decide) (by omega))
  rw [Nat.mod_eq_of_lt h1]
  have h0 : 0 ≤ x % 4294967296 := Int.emod_nonneg _ (by decide)
  have h2 : (((x % 4294967296).toNat % 2 ^ n : Nat) : Int) = (x % 4294967296) % ((2 ^ n : Nat) : Int) := by
    rw [Int.natCast_emod, Int.toNat_of_nonneg h0]
  rw [h2]
  have h3 : (x % 4294967296) % ((2 ^ n : Nat) : Int) = x % ((2 ^ n : Nat) : Int) := by
    apply Int.emod_emod_of_dvd
    exact ⟨((2 ^ (32 - n) : Nat) : Int), by rw [← Int.natCast_mul, h32]; rfl⟩
  rw [h3]
  have h4 : 0 ≤ x % ((2 ^ n : Nat) : Int) := Int.emod_nonneg _ (by omega)
  have h5 : x % ((2 ^ n : Nat) : Int) < ((2 ^ n : Nat) : Int) := Int.emod_lt_of_pos _ (by omega)
  have h6 : ((2 ^ n : Nat) : Int) ≤ 4294967296 := by
    have : 2 ^ n ≤ 2 ^ 31 := Nat.pow_le_pow_right (by decide) hn
    omega
  rw [Int.emod_eq_of_lt h4 (by omega)]
theorem V_iand (C : CX9 nest strs lens byts p s m args c cc nL own Γ sk) {x y z : Int} (n : Nat) (hn : n ≤ 31) (hy : i32 y = Int32.ofNat (2 ^ n - 1)) (hz : x % (2 ^ n : Nat) = z) (hd : decode cc pc = .ok (.iand, 1)) (k : VV p l e R s m args below meth c Q nL Γ sk M cells slots (pc + 1) L (vi z :: st)) : VV p l e R s m args below meth c Q nL Γ sk M cells slots pc L (vi y :: vi x :: st) := by
  subst hz
  exact fun H locs ls hP hS hl hM => lv_iand C.1 C.2.1 hd (by rw [i32_and x n hn hy]; exact k H locs ls hP hS hl hM)
theorem i32_sm {y : Int} (h : 0 ≤ y ∧ y ≤ 31) : ((i32 y &&& 31).toBitVec.smod 32).toNat = y.toNat := by
  have e : ∀ n : Nat, n < 32 → ((i32 (n : Int) &&& 31).toBitVec.smod 32).toNat = n := by decide +kernel
  have := e y.toNat (by omega)
  rw [Int.toNat_of_nonneg h.1] at this
  exact this
theorem i32_um {y : Int} (h : 0 ≤ y ∧ y ≤ 31) : (((i32 y).toUInt32 &&& Int32.toUInt32 31).toBitVec % 32).toNat = y.toNat := by
  have e : ∀ n : Nat, n < 32 → (((i32 (n : Int)).toUInt32 &&& Int32.toUInt32 31).toBitVec % 32).toNat = n := by decide +kernel
  have := e y.toNat (by omega)
  rw [Int.toNat_of_nonneg h.1] at this
  exact this
theorem V_ishl (C : CX9 nest strs lens byts p s m args c cc nL own Γ sk) {x y : Int} (h : 0 ≤ x ∧ (0 ≤ y ∧ y ≤ 31) ∧ x * (2 ^ y.toNat : Nat) ≤ 2147483647) (hd : decode cc pc = .ok (.ishl, 1)) (k : VV p l e R s m args below meth c Q nL Γ sk M cells slots (pc + 1) L (vi (x * (2 ^ y.toNat : Nat)) :: st)) : VV p l e R s m args below meth c Q nL Γ sk M cells slots pc L (vi y :: vi x :: st) := by
  have hx : x ≤ 2147483647 := by
    have h1 : (1 : Int) ≤ ((2 ^ y.toNat : Nat) : Int) := by
      have : 0 < 2 ^ y.toNat := Nat.pow_pos (by decide)
      omega
    have h2 : x * 1 ≤ x * ((2 ^ y.toNat : Nat) : Int) := Int.mul_le_mul_of_nonneg_left h1 h.1
    omega
  have ev : i32 x <<< (i32 y &&& 31) = i32 (x * (2 ^ y.toNat : Nat)) := by
    apply i32_ofTn
    rw [pk_shl (i32 x) (i32 y &&& 31) y.toNat (i32_sm h.2.1), i32_tn]
    have h0 : 0 ≤ x * ((2 ^ y.toNat : Nat) : Int) := Int.mul_nonneg h.1 (Int.natCast_nonneg _)
    have hx0 : x % 4294967296 = x := Int.emod_eq_of_lt h.1 (by omega)
    rw [hx0, Int.emod_eq_of_lt h0 (by omega)]
    have h3 : ((x.toNat * 2 ^ y.toNat : Nat) : Int) = x * ((2 ^ y.toNat : Nat) : Int) := by rw [Int.natCast_mul, Int.toNat_of_nonneg h.1]
    rw [Nat.mod_eq_of_lt (by omega), h3]
  exact fun H locs ls hP hS hl hM => lv_ishl C.1 C.2.1 hd (by rw [ev]; exact k H locs ls hP hS hl hM)
theorem V_ishr (C : CX9 nest strs lens byts p s m args c cc nL own Γ sk) {x y : Int} (hx : rng x) (h : 0 ≤ y ∧ y ≤ 31) (hd : decode cc pc = .ok (.ishr, 1)) (k : VV p l e R s m args below meth c Q nL Γ sk M cells slots (pc + 1) L (vi (x / (2 ^ y.toNat : Nat)) :: st)) : VV p l e R s m args below meth c Q nL Γ sk M cells slots pc L (vi y :: vi x :: st) := by
  have h1 : (1 : Int) ≤ ((2 ^ y.toNat : Nat) : Int) := by
    have : 0 < 2 ^ y.toNat := Nat.pow_pos (by decide)
    omega
  have ev : i32 x >>> (i32 y &&& 31) = i32 (x / (2 ^ y.toNat : Nat)) := by
    apply Int32.toInt_inj.mp
    rw [pk_shr (i32 x) (i32 y &&& 31) y.toNat (i32_sm h), i32_toInt hx, Int.shiftRight_eq_div_pow]
    rw [i32_toInt]
    constructor
    · have := Int.le_ediv_of_mul_le (a := -2147483648) (b := x) (c := ((2 ^ y.toNat : Nat) : Int)) (by omega) (by
        generalize ((2 ^ y.toNat : Nat) : Int) = P at h1 ⊢
        have := hx.1
        omega)
      exact this
    · have h2 : x / ((2 ^ y.toNat : Nat) : Int) ≤ 2147483647 / ((2 ^ y.toNat : Nat) : Int) := Int.ediv_le_ediv (by omega) hx.2
      have h3 : (2147483647 : Int) / ((2 ^ y.toNat : Nat) : Int) ≤ 2147483647 := Int.ediv_le_self _ (by decide)
      omega
  exact fun H locs ls hP hS hl hM => lv_ishr C.1 C.2.1 hd (by rw [ev]; exact k H locs ls hP hS hl hM)
theorem V_iushr (C : CX9 nest strs lens byts p s m args c cc nL own Γ sk) {x y : Int} (hx : rng x) (h : 0 ≤ y ∧ y ≤ 31) (hd : decode cc pc = .ok (.iushr, 1)) (k : VV p l e R s m args below meth c Q nL Γ sk M cells slots (pc + 1) L (vi (x % 4294967296 / (2 ^ y.toNat : Nat)) :: st)) : VV p l e R s m args below meth c Q nL Γ sk M cells slots pc L (vi y :: vi x :: st) := by
  have ev : ((i32 x).toUInt32 >>> ((i32 y).toUInt32 &&& Int32.toUInt32 31)).toInt32 = i32 (x % 4294967296 / (2 ^ y.toNat : Nat)) := by
    apply i32_ofTn
    rw [pk_ushr (i32 x) (i32 y) y.toNat (i32_um h), i32_tn]
    have h0 : 0 ≤ x % 4294967296 := Int.emod_nonneg _ (by decide)
    have h9 : x % 4294967296 < 4294967296 := Int.emod_lt_of_pos _ (by decide)
    have h1 : 0 ≤ x % 4294967296 / ((2 ^ y.toNat : Nat) : Int) := Int.ediv_nonneg h0 (Int.natCast_nonneg _)
    have h2 : x % 4294967296 / ((2 ^ y.toNat : Nat) : Int) ≤ x % 4294967296 := Int.ediv_le_self _ h0
    rw [Int.emod_eq_of_lt h1 (by omega), Int.natCast_ediv, Int.toNat_of_nonneg h0]
  exact fun H locs ls hP hS hl hM => lv_iushr C.1 C.2.1 hd ev (k H locs ls hP hS hl hM)
theorem bmodB_rng (x : Int) : -128 ≤ bmodB x ∧ bmodB x ≤ 127 := by
  unfold bmodB
  rw [Int.bmod_def]
  split <;> omega
theorem V_i2b (C : CX9 nest strs lens byts p s m args c cc nL own Γ sk) {x : Int} (hx : rng x) (hd : decode cc pc = .ok (.i2b, 1)) (k : VV p l e R s m args below meth c Q nL Γ sk M cells slots (pc + 1) L (vi (bmodB x) :: st)) : VV p l e R s m args below meth c Q nL Γ sk M cells slots pc L (vi x :: st) := by
  have ev : (i32 x).toInt8.toInt32 = i32 (bmodB x) := by
    apply Int32.toInt_inj.mp
    rw [Int8.toInt_toInt32, Int32.toInt_toInt8, i32_toInt hx, i32_toInt ⟨by have := (bmodB_rng x).1; omega, by have := (bmodB_rng x).2; omega⟩]
    rfl
  exact fun H locs ls hP hS hl hM => lv_i2b C.1 C.2.1 hd ev (k H locs ls hP hS hl hM)
theorem V_i2l (C : CX9 nest strs lens byts p s m args c cc nL own Γ sk) {x : Int} (hx : rng x) (hd : decode cc pc = .ok (.i2l, 1)) (k : VV p l e R s m args below meth c Q nL Γ sk M cells slots (pc + 1) L (vl x :: st)) : VV p l e R s m args below meth c Q nL Γ sk M cells slots pc L (vi x :: st) := by
  have ev : (i32 x).toInt64 = Int64.ofInt x := by
    apply Int64.toInt_inj.mp
    rw [Int32.toInt_toInt64, i32_toInt hx, Int64.toInt_ofInt_of_le (by have := hx.1; omega) (by have := hx.2; omega)]
  exact fun H locs ls hP hS hl hM => lv_i2l C.1 C.2.1 hd ev (k H locs ls hP hS hl hM)
theorem i64_toInt {x : Int} (h : rng x) : (Int64.ofInt x).toInt = x := Int64.toInt_ofInt_of_le (by have := h.1; omega) (by have := h.2; omega)
def lcmpI (x y : Int) : Int := if y < x then 1 else if x = y then 0 else -1
theorem V_lcmp (C : CX9 nest strs lens byts p s m args c cc nL own Γ sk) {x y : Int} (hx : rng x) (hy : rng y) (hd : decode cc pc = .ok (.lcmp, 1)) (k : VV p l e R s m args below meth c Q nL Γ sk M cells slots (pc + 1) L (vi (lcmpI x y) :: st)) : VV p l e R s m args below meth c Q nL Γ sk M cells slots pc L (vl y :: vl x :: st) := by
  have ev : lg_cmp (Int64.ofInt x) (Int64.ofInt y) = i32 (lcmpI x y) := by
    unfold lg_cmp lcmpI
    have e1 : Int64.ofInt x > Int64.ofInt y ↔ y < x := by
      rw [show (Int64.ofInt x > Int64.ofInt y) = (Int64.ofInt y < Int64.ofInt x) from rfl, Int64.lt_iff_toInt_lt, i64_toInt hx, i64_toInt hy]
    have e2 : Int64.ofInt x = Int64.ofInt y ↔ x = y := by rw [← Int64.toInt_inj, i64_toInt hx, i64_toInt hy]
    simp only [e1, e2]
    split
    · rfl
    · split <;> rfl
  exact fun H locs ls hP hS hl hM => W.lcmp C.1 C.2.1 hd (by rw [ev]; exact k H locs ls hP hS hl hM)
theorem V_lald (C : CX9 nest strs lens byts p s m args c cc nL own Γ sk) {k n : Nat} {i : Int} (hk : sk[k]? = some (.inl (3, n))) (hi : 0 ≤ i ∧ i < n) (hr : rng i) (hd : decode cc pc = .ok (.laload, 1)) (kk : VV p l e R s m args below meth c Q nL Γ sk M cells slots (pc + 1) L (vl (M k i.toNat) :: st)) : VV p l e R s m args below meth c Q nL Γ sk M cells slots pc L (vi i :: vr Γ k :: st) :=
  fun H locs ls hP hS hl hM => by
    obtain ⟨cell, h1, h2, h3, h4, h6, h5⟩ := hP k _ hk
    exact W.lald C.1 C.2.1 h1 h2 h3 (v := vl (M k i.toNat)) (by rw [h4]; exact i32_in hi.1 hi.2 hr) (by rw [i32_clamp hr]; exact h5 _ (by omega)) rfl rfl hd (kk H locs ls hP hS hl hM)
theorem V_gets (C : CX9 nest strs lens byts p s m args c cc nL own Γ sk) {K n d : String} {k index : Nat} (hZ : va_Z K n d (vr Γ k) (Fr Γ sk s.heap.size) s s.heap) (hlink : Cond.fieldLink own index K n d ∈ wsA) (hd : decode cc pc = .ok (.getstatic index, 3)) (kk : VV p l e R s m args below meth c Q nL Γ sk M cells slots (pc + 3) L (vr Γ k :: st)) : VV p l e R s m args below meth c Q nL Γ sk M cells slots pc L st :=
  fun H locs ls hP hS hl hM => va_gets C.1 C.2.1 hZ hS C.2.2.2.1 (C.2.2.2.2.1 _ hlink) (fun x h => h) hd (kk H locs ls hP hS hl hM)
def imax (x y : Int) : Int := if x < y then y else x
def imin (x y : Int) : Int := if y < x then y else x
def iabs (x : Int) : Int := if 0 ≤ x then x else -x
theorem V_max (C : CX9 nest strs lens byts p s m args c cc nL own Γ sk) {x y : Int} {index : Nat} (hlink : Cond.methodLink own index Lib.Math.max.name ∈ wsA) (hF : Cond.static Lib.Math.max.name ∈ wsA ∧ Cond.initialized "java/lang/Math" ∈ wsA ∧ Cond.code Lib.Math.max.name Lib.Math.max.code 2 (some .int) ∈ wsA) (hx : rng x) (hy : rng y) (hR : 1 ≤ R.frames ∧ 30 ≤ R.locals) (hcs : cells ≤ R.cells ∧ slots ≤ R.slots) (hst : (st.map fun v => v.category).sum ≤ 8) (hd : decode cc pc = .ok (.invokestatic index, 3)) (kk : VV p l e R s m args below meth c Q nL Γ sk M cells slots (pc + 3) L (vi (imax x y) :: st)) : VV p l e R s m args below meth c Q nL Γ sk M cells slots pc L (vi y :: vi x :: st) :=
  fun H locs ls hP hS hl hM => va_mmax C.1 C.2.1 (C.2.2.1.trans hl.1.1.symm) C.2.2.2.1 (C.2.2.2.2.1 _ hlink) (C.2.2.2.2.1 _ hF.1) (C.2.2.2.2.1 _ hF.2.1) (C.2.2.2.2.1 _ hF.2.2) hR.1 (by omega) hcs.1 hcs.2 hd (by
    have e : (if i32 x < i32 y then i32 y else i32 x) = i32 (imax x y) := by
      unfold imax
      simp only [i32_lt hx hy]
      split <;> rfl
    rw [e]
    exact kk H locs ls hP hS hl hM)
theorem V_min (C : CX9 nest strs lens byts p s m args c cc nL own Γ sk) {x y : Int} {index : Nat} (hlink : Cond.methodLink own index Lib.Math.min.name ∈ wsA) (hF : Cond.static Lib.Math.min.name ∈ wsA ∧ Cond.initialized "java/lang/Math" ∈ wsA ∧ Cond.code Lib.Math.min.name Lib.Math.min.code 2 (some .int) ∈ wsA) (hx : rng x) (hy : rng y) (hR : 1 ≤ R.frames ∧ 30 ≤ R.locals) (hcs : cells ≤ R.cells ∧ slots ≤ R.slots) (hst : (st.map fun v => v.category).sum ≤ 8) (hd : decode cc pc = .ok (.invokestatic index, 3)) (kk : VV p l e R s m args below meth c Q nL Γ sk M cells slots (pc + 3) L (vi (imin x y) :: st)) : VV p l e R s m args below meth c Q nL Γ sk M cells slots pc L (vi y :: vi x :: st) :=
  fun H locs ls hP hS hl hM => va_mmin C.1 C.2.1 (C.2.2.1.trans hl.1.1.symm) C.2.2.2.1 (C.2.2.2.2.1 _ hlink) (C.2.2.2.2.1 _ hF.1) (C.2.2.2.2.1 _ hF.2.1) (C.2.2.2.2.1 _ hF.2.2) hR.1 (by omega) hcs.1 hcs.2 hd (by
    have e : (if i32 y < i32 x then i32 y else i32 x) = i32 (imin x y) := by
      unfold imin
      simp only [i32_lt hy hx]
      split <;> rfl
    rw [e]
    exact kk H locs ls hP hS hl hM)
theorem V_abs (C : CX9 nest strs lens byts p s m args c cc nL own Γ sk) {x : Int} {index : Nat} (hlink : Cond.methodLink own index Lib.Math.abs.name ∈ wsA) (hF : Cond.static Lib.Math.abs.name ∈ wsA ∧ Cond.initialized "java/lang/Math" ∈ wsA ∧ Cond.code Lib.Math.abs.name Lib.Math.abs.code 1 (some .int) ∈ wsA) (hx : rng x) (hR : 1 ≤ R.frames ∧ 30 ≤ R.locals) (hcs : cells ≤ R.cells ∧ slots ≤ R.slots) (hst : (st.map fun v => v.category).sum ≤ 8) (hd : decode cc pc = .ok (.invokestatic index, 3)) (kk : VV p l e R s m args below meth c Q nL Γ sk M cells slots (pc + 3) L (vi (iabs x) :: st)) : VV p l e R s m args below meth c Q nL Γ sk M cells slots pc L (vi x :: st) :=
  fun H locs ls hP hS hl hM => va_mabs C.1 C.2.1 (C.2.2.1.trans hl.1.1.symm) C.2.2.2.1 (C.2.2.2.2.1 _ hlink) (C.2.2.2.2.1 _ hF.1) (C.2.2.2.2.1 _ hF.2.1) (C.2.2.2.2.1 _ hF.2.2) hR.1 (by omega) hcs.1 hcs.2 hd (by
    have e : (if (0 : Int32) ≤ i32 x then i32 x else 0 - i32 x) = i32 (iabs x) := by
      unfold iabs
      rw [← i32_0]
      simp only [i32_le (show rng 0 by decide) hx, i32_sub]
      split
      · rfl
      · congr 1; omega
    rw [e]
    exact kk H locs ls hP hS hl hM)
end VRules3
