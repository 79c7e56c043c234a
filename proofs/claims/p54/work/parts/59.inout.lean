/-! bytes: the output and the input -/
abbrev TX : Type := Int × (Int → Int)
def pB (T : TX) (x : Int) : TX := (T.1 + 1, fun i => if i = T.1 then x else T.2 i)
def nT1 (T : TX) (d : Int) : TX := pB T (48 + d % 10)
def nT2 (T : TX) (d : Int) : TX := if d < 10 then nT1 T d else nT1 (pB T (48 + d / 10 % 10)) d
def nT3 (T : TX) (d : Int) : TX := if d < 100 then nT2 T d else nT2 (pB T (48 + d / 100)) d
def nT (T : TX) (x : Int) : TX := nT3 (if 0 ≤ x then T else pB T 45) (iabs x)
def vT (A : AS) (v : Int) : Nat → Int → TX → TX
  | 0, _, T => pB T 93
  | n + 1, i, T => vT A v n (i + 1) (nT (if i ≤ 0 then T else pB T (if i % 4 = 0 then 124 else 44)) (ev A v i))
def oC (M : Mem) (T : TX) : Prop := M 50 0 = T.1 ∧ 0 ≤ T.1 ∧ T.1 ≤ 321 ∧ ∀ i, 0 ≤ i → i < T.1 → M 51 i.toNat = T.2 i
def oM (M : Mem) (T : TX) : Prop := M 52 27 = T.1 ∧ 0 ≤ T.1 ∧ T.1 ≤ 321 ∧ ∀ i, 0 ≤ i → i < T.1 → M 64 i.toNat = T.2 i
section InOut
variable {fu : Nat}
def frO (M M' : Mem) : Prop := ∀ q, q ≠ 50 → q ≠ 51 → M' q = M q
theorem frO_trans {M M' M2 : Mem} (h : frO M M') (h2 : frO M' M2) : frO M M2 := fun q h3 h4 => by rw [h2 q h3 h4, h q h3 h4]
theorem bmodB_id {x : Int} (h : -128 ≤ x ∧ x ≤ 127) : bmodB x = x := by
  unfold bmodB
  rw [Int.bmod_def]
  split <;> omega
def frW (M M' : Mem) : Prop := (∀ q, q ≠ 52 → q ≠ 64 → M' q = M q) ∧ ∀ i, i ≠ 27 → M' 52 i = M 52 i
theorem frW_refl (M : Mem) : frW M M := ⟨fun _ _ _ => rfl, fun _ _ => rfl⟩
theorem frW_trans {M M' M2 : Mem} (h : frW M M') (h2 : frW M' M2) : frW M M2 := ⟨fun q h3 h4 => by rw [h2.1 q h3 h4, h.1 q h3 h4], fun i hi => by rw [h2.2 i hi, h.2 i hi]⟩
theorem nT_len (T : TX) (x : Int) : T.1 + 1 ≤ (nT T x).1 ∧ (nT T x).1 ≤ T.1 + 4 := by
  have h1 : ∀ (T : TX) d, (nT1 T d).1 = T.1 + 1 := fun _ _ => rfl
  have h2 : ∀ (T : TX) d, (nT2 T d).1 = if d < 10 then T.1 + 1 else T.1 + 2 := fun T d => by
    unfold nT2
    split
    · exact h1 T d
    · rw [h1]; show T.1 + 1 + 1 = _; omega
  have h3 : ∀ (T : TX) d, T.1 + 1 ≤ (nT3 T d).1 ∧ (nT3 T d).1 ≤ T.1 + 3 := fun T d => by
    unfold nT3
    split
    · rw [h2]; split <;> omega
    · rw [h2]
      show T.1 + 1 ≤ (if d < 10 then T.1 + 1 + 1 else T.1 + 1 + 2) ∧ (if d < 10 then T.1 + 1 + 1 else T.1 + 1 + 2) ≤ T.1 + 3
      split <;> omega
  unfold nT
  by_cases hx : 0 ≤ x
  · rw [if_pos hx]
    have := h3 T (iabs x)
    omega
  · rw [if_neg hx]
    have := h3 (pB T 45) (iabs x)
    have e : (pB T 45).1 = T.1 + 1 := rfl
    rw [e] at this
    omega
theorem vT_len (A : AS) (v : Int) : ∀ (n : Nat) (i : Int) (T : TX), (vT A v n i T).1 ≤ T.1 + 5 * n + 1
  | 0, i, T => by show T.1 + 1 ≤ _; omega
  | n + 1, i, T => by
    have := vT_len A v n (i + 1) (nT (if i ≤ 0 then T else pB T (if i % 4 = 0 then 124 else 44)) (ev A v i))
    have h2 := (nT_len (if i ≤ 0 then T else pB T (if i % 4 = 0 then 124 else 44)) (ev A v i)).2
    have h3 : (if i ≤ 0 then T else pB T (if i % 4 = 0 then 124 else 44)).1 ≤ T.1 + 1 := by
      split
      · omega
      · exact Int.le_refl _
    simp only [vT]
    omega
def vText (A : AS) (v : Int) : TX := vT A v (szA A v).toNat 0 (pB (0, fun _ => 0) 91)
def sb (x : Int) : Int := if x < 128 then x else x - 256
def iC (M : Mem) (T : TX) : Prop := M 43 0 = T.1 ∧ 0 ≤ T.1 ∧ T.1 ≤ 600 ∧ ∀ i, 0 ≤ i → i < T.1 → M 44 i.toNat = T.2 i ∧ 0 ≤ T.2 i ∧ T.2 i ≤ 255
def iM (M : Mem) (T : TX) : Prop := M 52 13 = T.1 ∧ 0 ≤ T.1 ∧ T.1 ≤ 600 ∧ ∀ i, 0 ≤ i → i < T.1 → M 61 i.toNat = sb (T.2 i) ∧ 0 ≤ T.2 i ∧ T.2 i ≤ 255
def wB (T : TX) (w : Int) : TX := pB (pB (pB (pB T (w % 4294967296 / 16777216)) (w % 4294967296 / 65536 % 256)) (w % 4294967296 / 256 % 256)) (w % 256)
def frI (M M' : Mem) : Prop := ∀ q, q ≠ 43 → q ≠ 44 → M' q = M q
theorem addIn_C {M : Mem} {T : TX} (h : iC M T) (hT : T.1 < 600) {x : Int} (hx : 0 ≤ x ∧ x ≤ 255) : ∃ M', f_X2_addByte fu M x = some (M', 0) ∧ iC M' (pB T x) ∧ frI M M' := by
  obtain ⟨h1, h2, h3, h4⟩ := h
  have e : up M 44 T.1.toNat x 43 0 = T.1 := by rw [up_cell _ _ (by decide)]; exact h1
  refine ⟨up (up M 44 T.1.toNat x) 43 0 (T.1 + 1), ?_, ⟨up_same _ _ _ _, by show 0 ≤ T.1 + 1; omega, by show T.1 + 1 ≤ 600; omega, fun i i0 i1 => ?_⟩, fun q q1 q2 => by rw [up_cell _ _ q1, up_cell _ _ q2]⟩
  · unfold f_X2_addByte
    rw [h1, put_in h2 (by omega), cal_some, e, grd_pos (by omega)]
  · have i1' : i < T.1 + 1 := i1
    rw [up_cell _ _ (by decide), up_toNat h2 i0]
    show _ = (if i = T.1 then x else T.2 i) ∧ 0 ≤ (if i = T.1 then x else T.2 i) ∧ (if i = T.1 then x else T.2 i) ≤ 255
    by_cases hi : i = T.1
    · rw [if_pos hi, if_pos hi]; exact ⟨rfl, hx⟩
    · rw [if_neg hi, if_neg hi]; exact h4 i i0 (by omega)
theorem addWord_C {M : Mem} {T : TX} (h : iC M T) (hT : T.1 + 4 ≤ 600) (w : Int) : ∃ M', f_X2_addWord fu M w = some (M', 0) ∧ iC M' (wB T w) ∧ frI M M' := by
  have p24 : ((2 ^ ((24 : Int) : Int).toNat : Nat) : Int) = 16777216 := rfl
  have p16 : ((2 ^ ((16 : Int) : Int).toNat : Nat) : Int) = 65536 := rfl
  have p8 : ((2 ^ ((8 : Int) : Int).toNat : Nat) : Int) = 256 := rfl
  obtain ⟨M1, e1, o1, f1⟩ := addIn_C (fu := fu) h (by omega) (x := w % 4294967296 / 16777216) (by omega)
  obtain ⟨M2, e2, o2, f2⟩ := addIn_C (fu := fu) o1 (by show T.1 + 1 < 600; omega) (x := w % 4294967296 / 65536 % 256) (by omega)
  obtain ⟨M3, e3, o3, f3⟩ := addIn_C (fu := fu) o2 (by show T.1 + 1 + 1 < 600; omega) (x := w % 4294967296 / 256 % 256) (by omega)
  obtain ⟨M4, e4, o4, f4⟩ := addIn_C (fu := fu) o3 (by show T.1 + 1 + 1 + 1 < 600; omega) (x := w % 256) (by omega)
  refine ⟨M4, ?_, o4, fun q q1 q2 => by rw [f4 q q1 q2, f3 q q1 q2, f2 q q1 q2, f1 q q1 q2]⟩
  unfold f_X2_addWord
  rw [p24, p16, p8, grd_pos (by omega), e1, cal_some, grd_pos (by omega), e2, cal_some, grd_pos (by omega), e3, cal_some, grd_pos (by omega), e4, cal_some]
theorem appendInput_C {M : Mem} {T : TX} (h : iC M T) (a b c d e : Int) :
    (580 < T.1 → f_X11_appendInput fu M a b c d e = some (M, -1)) ∧ (T.1 ≤ 580 → ∃ M', f_X11_appendInput fu M a b c d e = some (M', T.1 + 20) ∧ iC M' (wB (wB (wB (wB (wB T a) b) c) d) e) ∧ frI M M') := by
  have hh := h
  obtain ⟨h1, h2, h3, h4⟩ := h
  unfold f_X11_appendInput f_X2_hasRoomForBlock
  rw [h1, grd_pos (by omega)]
  refine ⟨fun hT => by rw [if_pos (by omega), cal_some, if_pos rfl], fun hT => ?_⟩
  rw [if_neg (by omega), cal_some, if_neg (by decide)]
  have l : ∀ (T : TX) w, (wB T w).1 = T.1 + 4 := fun T w => by show T.1 + 1 + 1 + 1 + 1 = _; omega
  obtain ⟨M1, e1, o1, f1⟩ := addWord_C (fu := fu) hh (by omega) a
  obtain ⟨M2, e2, o2, f2⟩ := addWord_C (fu := fu) o1 (by rw [l]; omega) b
  obtain ⟨M3, e3, o3, f3⟩ := addWord_C (fu := fu) o2 (by rw [l, l]; omega) c
  obtain ⟨M4, e4, o4, f4⟩ := addWord_C (fu := fu) o3 (by rw [l, l, l]; omega) d
  obtain ⟨M5, e5, o5, f5⟩ := addWord_C (fu := fu) o4 (by rw [l, l, l, l]; omega) e
  refine ⟨M5, ?_, o5, fun q q1 q2 => by rw [f5 q q1 q2, f4 q q1 q2, f3 q q1 q2, f2 q q1 q2, f1 q q1 q2]⟩
  rw [e1, cal_some, e2, cal_some, e3, cal_some, e4, cal_some, e5, cal_some, o5.1, l, l, l, l, l]
  have : T.1 + 4 + 4 + 4 + 4 + 4 = T.1 + 20 := by omega
  rw [this]
def frJ (M M' : Mem) : Prop := (∀ q, q ≠ 52 → q ≠ 61 → M' q = M q) ∧ ∀ i, i ≠ 13 → M' 52 i = M 52 i
theorem frJ_trans {M M' M2 : Mem} (h : frJ M M') (h2 : frJ M' M2) : frJ M M2 := ⟨fun q h3 h4 => by rw [h2.1 q h3 h4, h.1 q h3 h4], fun i hi => by rw [h2.2 i hi, h.2 i hi]⟩
theorem bmodB_sb (x : Int) : bmodB x = sb (x % 256) := by
  unfold bmodB sb
  rw [Int.bmod_def]
  split <;> split <;> omega
theorem putIn_M {M : Mem} {T : TX} (h : iM M T) (hT : T.1 < 600) {x : Int} (hx : 0 ≤ x ∧ x ≤ 255) : iM (up (up M 61 T.1.toNat (sb x)) 52 13 (T.1 + 1)) (pB T x) ∧ frJ M (up (up M 61 T.1.toNat (sb x)) 52 13 (T.1 + 1)) := by
  obtain ⟨h1, h2, h3, h4⟩ := h
  refine ⟨⟨up_same _ _ _ _, by show 0 ≤ T.1 + 1; omega, by show T.1 + 1 ≤ 600; omega, fun i i0 i1 => ?_⟩, fun q q1 q2 => by rw [up_cell _ _ q1, up_cell _ _ q2], fun i hi => by rw [up_at (Or.inr hi), up_cell _ _ (by decide)]⟩
  have i1' : i < T.1 + 1 := i1
  rw [up_cell _ _ (by decide), up_toNat h2 i0]
  show _ = sb (if i = T.1 then x else T.2 i) ∧ 0 ≤ (if i = T.1 then x else T.2 i) ∧ (if i = T.1 then x else T.2 i) ≤ 255
  by_cases hi : i = T.1
  · rw [if_pos hi, if_pos hi]; exact ⟨rfl, hx⟩
  · rw [if_neg hi, if_neg hi]; exact h4 i i0 (by omega)
theorem truncateInput_C {M : Mem} {T : TX} (h : iC M T) (n : Int) : f_X11_truncateInput fu M n = (if 0 ≤ n ∧ n ≤ T.1 then some (up M 43 0 n, 1) else some (M, 0)) ∧ (0 ≤ n ∧ n ≤ T.1 → iC (up M 43 0 n) (n, T.2)) := by
  obtain ⟨h1, h2, h3, h4⟩ := h
  refine ⟨?_, fun hn => ⟨up_same _ _ _ _, hn.1, by show n ≤ 600; omega, fun i i0 i1 => by have i1' : i < n := i1; rw [up_cell _ _ (by decide)]; exact h4 i i0 (by omega)⟩⟩
  unfold f_X11_truncateInput
  rw [h1]
  by_cases hn : n < 0
  · rw [if_pos hn, if_neg (by omega)]
  · rw [if_neg hn]
    by_cases hl : n ≤ T.1
    · rw [if_pos hl, if_pos (by omega)]
    · rw [if_neg hl, if_neg (by omega)]
end InOut
