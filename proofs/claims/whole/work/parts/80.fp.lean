/-! quotients of small whole numbers, in floating point: never a NaN -/
theorem fp_t64 : Jvm.FP.Core.Fmt.tails Jvm.FP.Core.b64 = 4503599627370496 := by decide +kernel
theorem fp_e64 : Jvm.FP.Core.Fmt.exps Jvm.FP.Core.b64 = 2048 := by decide +kernel
theorem fp_min64 : Jvm.FP.Core.Fmt.qmin Jvm.FP.Core.b64 = -1074 := by decide +kernel
theorem fp_max64 : Jvm.FP.Core.Fmt.qmax Jvm.FP.Core.b64 = 971 := by decide +kernel
theorem fp_t32 : Jvm.FP.Core.Fmt.tails Jvm.FP.Core.b32 = 8388608 := by decide +kernel
theorem fp_e32 : Jvm.FP.Core.Fmt.exps Jvm.FP.Core.b32 = 256 := by decide +kernel
theorem fp_min32 : Jvm.FP.Core.Fmt.qmin Jvm.FP.Core.b32 = -149 := by decide +kernel
theorem fp_max32 : Jvm.FP.Core.Fmt.qmax Jvm.FP.Core.b32 = 104 := by decide +kernel
/-- bits that are no NaN's -/
def ok64 (n : Nat) : Prop := n < 18446744073709551616 ∧ n % 9223372036854775808 ≤ 9218868437227405312
def ok32 (n : Nat) : Prop := n < 4294967296 ∧ n % 2147483648 ≤ 2139095040
theorem fp_as64 (s : Bool) {e t : Nat} (he : e < 2047 ∧ t < 4503599627370496 ∨ e = 2047 ∧ t = 0) : ok64 (Jvm.FP.Core.assemble Jvm.FP.Core.b64 s e t) := by
  unfold Jvm.FP.Core.assemble ok64
  rw [fp_t64, fp_e64]
  cases s
  · show (0 * 2048 + e) * 4503599627370496 + t < _ ∧ _
    simp only [Bool.toNat_false]
    omega
  · simp only [Bool.toNat_true]
    omega
theorem fp_as32 (s : Bool) {e t : Nat} (he : e < 255 ∧ t < 8388608 ∨ e = 255 ∧ t = 0) : ok32 (Jvm.FP.Core.assemble Jvm.FP.Core.b32 s e t) := by
  unfold Jvm.FP.Core.assemble ok32
  rw [fp_t32, fp_e32]
  cases s
  · simp only [Bool.toNat_false]
    omega
  · simp only [Bool.toNat_true]
    omega
theorem fp_bd64 (s : Bool) {c : Nat} (q : Int) (hc : c < 9007199254740992) : ok64 (Jvm.FP.Core.encode Jvm.FP.Core.b64 (Jvm.FP.Core.bound Jvm.FP.Core.b64 s c q)) := by
  unfold Jvm.FP.Core.bound
  rw [fp_max64]
  by_cases h : q ≤ 971
  · rw [if_pos h]
    unfold Jvm.FP.Core.encode
    rw [fp_t64]
    by_cases h2 : c < 4503599627370496
    · simp only [if_pos h2]
      exact fp_as64 s (Or.inl ⟨by omega, h2⟩)
    · simp only [if_neg h2]
      rw [fp_min64]
      exact fp_as64 s (Or.inl ⟨by omega, by omega⟩)
  · rw [if_neg h]
    unfold Jvm.FP.Core.encode
    rw [fp_e64]
    exact fp_as64 s (Or.inr ⟨rfl, rfl⟩)
theorem fp_bd32 (s : Bool) {c : Nat} (q : Int) (hc : c < 16777216) : ok32 (Jvm.FP.Core.encode Jvm.FP.Core.b32 (Jvm.FP.Core.bound Jvm.FP.Core.b32 s c q)) := by
  unfold Jvm.FP.Core.bound
  rw [fp_max32]
  by_cases h : q ≤ 104
  · rw [if_pos h]
    unfold Jvm.FP.Core.encode
    rw [fp_t32]
    by_cases h2 : c < 8388608
    · simp only [if_pos h2]
      exact fp_as32 s (Or.inl ⟨by omega, h2⟩)
    · simp only [if_neg h2]
      rw [fp_min32]
      exact fp_as32 s (Or.inl ⟨by omega, by omega⟩)
  · rw [if_neg h]
    unfold Jvm.FP.Core.encode
    rw [fp_e32]
    exact fp_as32 s (Or.inr ⟨rfl, rfl⟩)
theorem fp_rr64 (s : Bool) (A B : Nat) (e : Int) : ok64 (Jvm.FP.Core.encode Jvm.FP.Core.b64 (Jvm.FP.Core.roundRatio Jvm.FP.Core.b64 s A B e)) := by
  unfold Jvm.FP.Core.roundRatio
  by_cases h : A = 0
  · rw [if_pos h]
    unfold Jvm.FP.Core.encode
    rw [fp_t64]
    simp only [if_pos (show (0 : Nat) < 4503599627370496 by decide)]
    exact fp_as64 s (Or.inl ⟨by decide, by decide⟩)
  · rw [if_neg h]
    unfold Jvm.FP.Core.roundAt Jvm.FP.Core.settle
    rw [show 2 ^ Jvm.FP.Core.Fmt.p Jvm.FP.Core.b64 = 9007199254740992 by decide +kernel]
    split
    · exact fp_bd64 s _ (by assumption)
    · rw [fp_t64]
      exact fp_bd64 s _ (by decide)
theorem fp_rr32 (s : Bool) (A B : Nat) (e : Int) : ok32 (Jvm.FP.Core.encode Jvm.FP.Core.b32 (Jvm.FP.Core.roundRatio Jvm.FP.Core.b32 s A B e)) := by
  unfold Jvm.FP.Core.roundRatio
  by_cases h : A = 0
  · rw [if_pos h]
    unfold Jvm.FP.Core.encode
    rw [fp_t32]
    simp only [if_pos (show (0 : Nat) < 8388608 by decide)]
    exact fp_as32 s (Or.inl ⟨by decide, by decide⟩)
  · rw [if_neg h]
    unfold Jvm.FP.Core.roundAt Jvm.FP.Core.settle
    rw [show 2 ^ Jvm.FP.Core.Fmt.p Jvm.FP.Core.b32 = 16777216 by decide +kernel]
    split
    · exact fp_bd32 s _ (by assumption)
    · rw [fp_t32]
      exact fp_bd32 s _ (by decide)
theorem fp_n64 {n : Nat} (h : ok64 n) : vf_n64 (UInt64.ofNat n) := by
  unfold vf_n64
  rw [UInt64.le_iff_toNat_le, UInt64.toNat_and, UInt64.toNat_ofNat', Nat.mod_eq_of_lt h.1]
  show n &&& 9223372036854775807 ≤ 9218868437227405312
  rw [show (9223372036854775807 : Nat) = 2 ^ 63 - 1 by decide, Nat.and_two_pow_sub_one_eq_mod]
  exact h.2
theorem fp_n32 {n : Nat} (h : ok32 n) : vf_n32 (UInt32.ofNat n) := by
  unfold vf_n32
  rw [UInt32.le_iff_toNat_le, UInt32.toNat_and, UInt32.toNat_ofNat', Nat.mod_eq_of_lt h.1]
  show n &&& 2147483647 ≤ 2139095040
  rw [show (2147483647 : Nat) = 2 ^ 31 - 1 by decide, Nat.and_two_pow_sub_one_eq_mod]
  exact h.2
/-- a number's datum: its significand -/
def fp_sig : Jvm.FP.Core.Datum → Option Nat
  | .fin _ c _ => some c
  | _ => none
def fp_whole64 (n : Nat) : Bool := match fp_sig (Jvm.FP.Core.decode Jvm.FP.Core.b64 (Jvm.FP.Core.i2d (Int32.ofNat n)).toNat) with
  | some c => n == 0 || c != 0
  | none => false
def fp_whole32 (n : Nat) : Bool := match fp_sig (Jvm.FP.Core.decode Jvm.FP.Core.b32 (Jvm.FP.Core.i2f (Int32.ofNat n)).toNat) with
  | some c => n == 0 || c != 0
  | none => false
theorem fp_all64 : (List.range 8192).all fp_whole64 = true := by decide +kernel
theorem fp_all32 : (List.range 8192).all fp_whole32 = true := by decide +kernel
theorem fp_i2d {n : Nat} (h : n < 8192) : ∃ (s : Bool) (c : Nat) (q : Int), Jvm.FP.Core.decode Jvm.FP.Core.b64 (Jvm.FP.Core.i2d (Int32.ofNat n)).toNat = .fin s c q ∧ (n ≠ 0 → c ≠ 0) := by
  have h1 := List.all_eq_true.mp fp_all64 n (List.mem_range.mpr h)
  unfold fp_whole64 at h1
  cases hd : Jvm.FP.Core.decode Jvm.FP.Core.b64 (Jvm.FP.Core.i2d (Int32.ofNat n)).toNat with
  | nan => rw [hd] at h1; cases h1
  | inf s => rw [hd] at h1; cases h1
  | fin s c q =>
    rw [hd] at h1
    refine ⟨s, c, q, rfl, fun hn => ?_⟩
    simp only [fp_sig, Bool.or_eq_true, beq_iff_eq, bne_iff_ne] at h1
    exact h1.resolve_left hn
theorem fp_i2f {n : Nat} (h : n < 8192) : ∃ (s : Bool) (c : Nat) (q : Int), Jvm.FP.Core.decode Jvm.FP.Core.b32 (Jvm.FP.Core.i2f (Int32.ofNat n)).toNat = .fin s c q ∧ (n ≠ 0 → c ≠ 0) := by
  have h1 := List.all_eq_true.mp fp_all32 n (List.mem_range.mpr h)
  unfold fp_whole32 at h1
  cases hd : Jvm.FP.Core.decode Jvm.FP.Core.b32 (Jvm.FP.Core.i2f (Int32.ofNat n)).toNat with
  | nan => rw [hd] at h1; cases h1
  | inf s => rw [hd] at h1; cases h1
  | fin s c q =>
    rw [hd] at h1
    refine ⟨s, c, q, rfl, fun hn => ?_⟩
    simp only [fp_sig, Bool.or_eq_true, beq_iff_eq, bne_iff_ne] at h1
    exact h1.resolve_left hn
theorem fp_i32 {x : Int} (h : 0 ≤ x) : i32 x = Int32.ofNat x.toNat := by
  unfold i32
  conv => lhs; rw [← Int.toNat_of_nonneg h]
  rfl
theorem fp_ddiv {a b : Int} (ha : 0 ≤ a ∧ a < 8192) (hb : 0 < b ∧ b < 8192) : vf_n64 (FP.ddiv (FP.i2d (i32 a)) (FP.i2d (i32 b))) := by
  rw [fp_i32 ha.1, fp_i32 (show 0 ≤ b by omega)]
  obtain ⟨s1, c1, q1, e1, -⟩ := fp_i2d (show a.toNat < 8192 by omega)
  obtain ⟨s2, c2, q2, e2, n2⟩ := fp_i2d (show b.toNat < 8192 by omega)
  show vf_n64 (UInt64.ofNat (Jvm.FP.Core.encode Jvm.FP.Core.b64 (Jvm.FP.Core.quotient Jvm.FP.Core.b64 (Jvm.FP.Core.decode Jvm.FP.Core.b64 (Jvm.FP.Core.i2d (Int32.ofNat a.toNat)).toNat) (Jvm.FP.Core.decode Jvm.FP.Core.b64 (Jvm.FP.Core.i2d (Int32.ofNat b.toNat)).toNat))))
  rw [e1, e2]
  unfold Jvm.FP.Core.quotient
  simp only [if_neg (n2 (show b.toNat ≠ 0 by omega))]
  exact fp_n64 (fp_rr64 _ _ _ _)
theorem fp_ok32 {a b : Int} (ha : 0 ≤ a ∧ a < 8192) (hb : 0 < b ∧ b < 8192) : ∃ n : Nat, FP.fdiv (FP.i2f (i32 a)) (FP.i2f (i32 b)) = UInt32.ofNat n ∧ ok32 n := by
  rw [fp_i32 ha.1, fp_i32 (show 0 ≤ b by omega)]
  obtain ⟨s1, c1, q1, e1, -⟩ := fp_i2f (show a.toNat < 8192 by omega)
  obtain ⟨s2, c2, q2, e2, n2⟩ := fp_i2f (show b.toNat < 8192 by omega)
  refine ⟨Jvm.FP.Core.encode Jvm.FP.Core.b32 (Jvm.FP.Core.quotient Jvm.FP.Core.b32 (Jvm.FP.Core.decode Jvm.FP.Core.b32 (Jvm.FP.Core.i2f (Int32.ofNat a.toNat)).toNat) (Jvm.FP.Core.decode Jvm.FP.Core.b32 (Jvm.FP.Core.i2f (Int32.ofNat b.toNat)).toNat)), rfl, ?_⟩
  rw [e1, e2]
  unfold Jvm.FP.Core.quotient
  simp only [if_neg (n2 (show b.toNat ≠ 0 by omega))]
  exact fp_rr32 _ _ _ _
theorem fp_nn32 {n : Nat} (h : ok32 n) : Jvm.FP.Core.decode Jvm.FP.Core.b32 n ≠ .nan := by
  have h2 := h.2
  intro hd
  unfold Jvm.FP.Core.decode Jvm.FP.Core.fieldE Jvm.FP.Core.fieldT at hd
  rw [fp_t32, fp_e32] at hd
  split at hd
  · split at hd
    · cases hd
    · omega
  · split at hd <;> cases hd
theorem fp_f2d {n : Nat} (h : ok32 n) : vf_n64 (FP.f2d (UInt32.ofNat n)) := by
  have e : (UInt32.ofNat n).toNat = n := by rw [UInt32.toNat_ofNat', Nat.mod_eq_of_lt h.1]
  have h1 : Jvm.FP.Core.fIsNaN (UInt32.ofNat n) = false := by
    show decide (Jvm.FP.Core.decode Jvm.FP.Core.b32 (UInt32.ofNat n).toNat = .nan) = false
    rw [e]
    exact decide_eq_false (fp_nn32 h)
  unfold FP.f2d
  rw [h1]
  show vf_n64 (UInt64.ofNat (Jvm.FP.Core.encode Jvm.FP.Core.b64 (Jvm.FP.Core.round Jvm.FP.Core.b64 (Jvm.FP.Core.decode Jvm.FP.Core.b32 (UInt32.ofNat n).toNat))))
  rw [e]
  cases hd : Jvm.FP.Core.decode Jvm.FP.Core.b32 n with
  | nan => exact absurd hd (fp_nn32 h)
  | inf s =>
    show vf_n64 (UInt64.ofNat (Jvm.FP.Core.encode Jvm.FP.Core.b64 (.inf s)))
    unfold Jvm.FP.Core.encode
    rw [fp_e64]
    exact fp_n64 (fp_as64 s (Or.inr ⟨rfl, rfl⟩))
  | fin s c q => exact fp_n64 (fp_rr64 _ _ _ _)
/-- the quotients that the class and the model answer; 0 where the second is 0 -/
def dq (o : Int × Int) : UInt64 := if o.2 = 0 then FP.dconst0 else FP.ddiv (FP.i2d (i32 o.1)) (FP.i2d (i32 o.2))
def fq (o : Int × Int) : UInt32 := if o.2 = 0 then FP.fconst0 else FP.fdiv (FP.i2f (i32 o.1)) (FP.i2f (i32 o.2))
theorem fp_f2dq {o : Int × Int} (h : o.2 = 0 ∨ (0 ≤ o.1 ∧ o.1 < 8192) ∧ 0 < o.2 ∧ o.2 < 8192) : vf_n64 (FP.f2d (fq o)) := by
  unfold fq
  rcases h with h | h
  · rw [if_pos h]
    exact fp_f2d (n := 0) ⟨by decide, by decide⟩
  · rw [if_neg (by omega)]
    obtain ⟨n, e, hn⟩ := fp_ok32 h.1 h.2
    rw [e]
    exact fp_f2d hn
theorem fp_fdiv {a b : Int} (ha : 0 ≤ a ∧ a < 8192) (hb : 0 < b ∧ b < 8192) : vf_n32 (FP.fdiv (FP.i2f (i32 a)) (FP.i2f (i32 b))) := by
  obtain ⟨n, e, hn⟩ := fp_ok32 ha hb
  rw [e]
  exact fp_n32 hn
