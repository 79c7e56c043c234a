/-! The machine read over whole numbers: one world of cells for the class and the model; every value is an Int in the range of int. -/
abbrev Mem : Type := Nat → Nat → Int
abbrev rng (x : Int) : Prop := -2147483648 ≤ x ∧ x ≤ 2147483647
def i32 (x : Int) : Int32 := Int32.ofInt x
def vi (x : Int) : Value := .int (i32 x)
def vl (x : Int) : Value := .long (Int64.ofInt x)
/-- a cell's plan: an array (kind of its elements, length), or an object (class, its fields: none a number, some k the cell k) -/
abbrev SD : Type := (Nat × Nat) ⊕ (Nat × List (Option Nat))
def tyOf : Nat → FieldType
  | 0 => .int
  | 1 => .boolean
  | 2 => .byte
  | 3 => .long
  | _ => .array .int
abbrev GG : Type := va_G × ((Nat → Nat) × ((Nat → Nat) × (Nat → Nat)))
def gA (Γ : GG) (k : Nat) : Nat := Γ.2.1 k
def vr (Γ : GG) (k : Nat) : Value := .ref (gA Γ k)
/-- what stands in an array: a number, or (kinds from 4 on) a reference to the row b + j -/
def elG (Γ : GG) (t j : Nat) (x : Int) : Value := match t with
  | 0 => vi x
  | 1 => vi x
  | 2 => vi x
  | 3 => vl x
  | b + 4 => vr Γ (b + j)
/-- a field's value; no plan at all: a blank text or builder (null, 0, 0, 0) -/
def fv (Γ : GG) (f : Nat → Int) (fs : List (Option Nat)) (i : Nat) : Value := match fs with
  | [] => vp_V [.null, vi 0, vi 0, vi 0] i
  | o :: r => match (o :: r)[i]? with
    | some (some k) => vr Γ k
    | _ => vi (f i)
theorem fv_n {Γ : GG} {f : Nat → Int} {fs : List (Option Nat)} {i : Nat} (h : fs[i]? = some none) : fv Γ f fs i = vi (f i) := by
  cases fs with
  | nil => simp at h
  | cons o r => simp only [fv, h]
theorem fv_r {Γ : GG} {f : Nat → Int} {fs : List (Option Nat)} {i k : Nat} (h : fs[i]? = some (some k)) : fv Γ f fs i = vr Γ k := by
  cases fs with
  | nil => simp at h
  | cons o r => simp only [fv, h]
def cOK (Γ : GG) (U : State) (H : Heap) (d : SD) (a : Nat) (f : Nat → Int) : Prop := match d with
  | .inl q => ∃ cell : Cell, H[a]? = some cell ∧ U.isArrayOf cell (tyOf q.1) ∧ cell.vm ≠ .unknown ∧ cell.slots.size = q.2 ∧ (q.1 = 2 → U.vm.findClass "[B" = some cell.cls) ∧ ∀ j : Nat, j < q.2 → cell.slots[j]? = some (elG Γ q.1 j (f j))
  | .inr q => ∃ r : vw_C, vwCl[q.1]? = some r ∧ t_OB a (Γ.1.1 q.1) r.2.2 (Γ.1.2 q.1) H (fv Γ f q.2)
def wP (Γ : GG) (sk : List SD) (U : State) (H : Heap) (M : Mem) : Prop := ∀ (k : Nat) (d : SD), sk[k]? = some d → cOK Γ U H d (gA Γ k) (M k)
def mR (M : Mem) : Prop := ∀ k i : Nat, rng (M k i)
/-- what a method may change: the cells but the rows that nobody writes (0, 1, 2), and what is new -/
def Fr (Γ : GG) (sk : List SD) (sz : Nat) : Nat → Prop := fun q => (∃ k : Nat, k < sk.length ∧ 3 ≤ k ∧ q = gA Γ k) ∨ sz ≤ q
def nOK (q : String × Nat × MethodName × String) : Cond := .methodLinkNest q.1 q.2.1 q.2.2.1 q.2.2.2
/-- the exceptions that the class throws -/
def castL : List String := ["java/lang/IndexOutOfBoundsException", "java/lang/IllegalArgumentException", "java/lang/IllegalStateException"]
def ncL : List (String × String) := [("java/lang/IndexOutOfBoundsException", "java/lang/IllegalStateException"), ("java/lang/IllegalArgumentException", "java/lang/IllegalStateException")]
/-- what the machine's own classes hold in their statics -/
def EnvJ (A : Nat → Prop) (U : State) (H : Heap) : Prop :=
  va_Z "java/lang/String" "COMPACT_STRINGS" "Z" (vi 1) A U H ∧ va_Zq "jdk/internal/util/Preconditions" "SIOOBE_FORMATTER" "Ljava/util/function/BiFunction;" A U H ∧ vx_Zq Bundle.tN "UNASSIGNED_STACK" Bundle.steD A U H ∧ vx_Zq Bundle.tN "SUPPRESSED_SENTINEL" Bundle.listD A U H ∧ (∀ q ∈ castL, va_Nw (.castable q q) U) ∧ (∀ q ∈ ncL, va_Nc q.1 q.2 U) ∧ va_Nw (.castable "[B" "java/lang/Cloneable") U
/-- the rows of digits of java.lang.Integer -/
def dgO (j : Nat) : Int := ((48 + j % 10 : Nat) : Int)
def dgT (j : Nat) : Int := ((48 + j / 10 : Nat) : Int)
def dgE (nm : String) (f : Nat → Int) (A : Nat → Prop) (U : State) (H : Heap) : Prop := ∃ a : Nat, va_Z "java/lang/Integer" nm "[B" (.ref a) A U H ∧ va_T .byte a 100 (fun j => vi (f j)) A U H
theorem dgE_go {nm : String} {f : Nat → Int} {A B : Nat → Prop} {u U : State} {H H1 : Heap} (h : dgE nm f A u H) (hvm : u.vm.Alike U.vm) (hk : ∀ a : Nat, a < H.size → ¬ A a → H1[a]? = H[a]?) (hm : ∀ q, B q → A q) : dgE nm f B U H1 := by
  obtain ⟨a, z, t⟩ := h
  exact ⟨a, ((z.moved hvm).kept hk).narrow hm, ((t.moved hvm).kept hk).narrow hm⟩
theorem dgE_narrow {nm : String} {f : Nat → Int} {A B : Nat → Prop} {U : State} {H : Heap} (h : dgE nm f A U H) (hm : ∀ q, B q → A q) : dgE nm f B U H := by
  obtain ⟨a, z, t⟩ := h
  exact ⟨a, z.narrow hm, t.narrow hm⟩
def Env9 (nest : List (String × Nat × MethodName × String)) (strs : List (String × Nat × String × Nat)) (lens : List Nat) (byts : List (List Int32)) (Γ : GG) (sk : List SD) (U : State) (H : Heap) : Prop :=
  va_K Γ.1 vwCl [] U ∧ (∀ i j : Nat, i < sk.length → j < sk.length → gA Γ i = gA Γ j → i = j) ∧ (∀ q ∈ nest, va_Nw (nOK q) U) ∧
  va_Z "VectorVersions" "FIRST_ELEMENTS" "[I" (vr Γ 0) (Fr Γ sk H.size) U H ∧ (dgE "DigitOnes" dgO (Fr Γ sk H.size) U H ∧ dgE "DigitTens" dgT (Fr Γ sk H.size) U H) ∧
  vk_S lens.length lens byts Γ.2.2.1 Γ.2.2.2 (Fr Γ sk H.size) U H ∧ (∀ q ∈ strs, vk_R q.1 q.2.1 q.2.2.1 (Γ.2.2.1 q.2.2.2) U) ∧ EnvJ (Fr Γ sk H.size) U H
/-! numbers -/
theorem i32_add (x y : Int) : i32 x + i32 y = i32 (x + y) := (Int32.ofInt_add x y).symm
theorem i32_sub (x y : Int) : i32 x - i32 y = i32 (x - y) := (Int32.ofInt_sub x y).symm
theorem i32_mul (x y : Int) : i32 x * i32 y = i32 (x * y) := (Int32.ofInt_mul x y).symm
theorem i32_neg (x : Int) : -i32 x = i32 (-x) := (Int32.ofInt_neg x).symm
theorem i32_toInt {x : Int} (h : rng x) : (i32 x).toInt = x := Int32.toInt_ofInt_of_le (by have := h.1; omega) (by have := h.2; omega)
theorem i32_lt {x y : Int} (hx : rng x) (hy : rng y) : i32 x < i32 y ↔ x < y := by rw [Int32.lt_iff_toInt_lt, i32_toInt hx, i32_toInt hy]
theorem i32_le {x y : Int} (hx : rng x) (hy : rng y) : i32 x ≤ i32 y ↔ x ≤ y := by rw [Int32.le_iff_toInt_le, i32_toInt hx, i32_toInt hy]
theorem i32_eq {x y : Int} (hx : rng x) (hy : rng y) : i32 x = i32 y ↔ x = y := by rw [← Int32.toInt_inj, i32_toInt hx, i32_toInt hy]
theorem i32_clamp {x : Int} (h : rng x) : (i32 x).toNatClampNeg = x.toNat := by
  show (i32 x).toInt.toNat = _
  rw [i32_toInt h]
theorem i32_0 : i32 0 = 0 := rfl
theorem i32_in {x : Int} {n : Nat} (h0 : 0 ≤ x) (h1 : x < n) (hr : rng x) : ¬ (i32 x < 0 ∨ n ≤ (i32 x).toNatClampNeg) := by
  rw [i32_clamp hr, ← i32_0, i32_lt hr (by decide)]
  omega
theorem i32_div {x y : Int} (h0 : 0 ≤ x) (hx : x ≤ 2147483647) (hy : 0 < y) (hy2 : y ≤ 2147483647) : i32 x / i32 y = i32 (x / y) := by
  have e1 : (i32 x).toInt = x := i32_toInt ⟨by omega, hx⟩
  have e2 : (i32 y).toInt = y := i32_toInt ⟨by omega, hy2⟩
  have hz : x / y ≤ x := Int.ediv_le_self y h0
  have hz0 : 0 ≤ x / y := Int.ediv_nonneg h0 (by omega)
  apply Int32.toInt_inj.mp
  rw [Int32.toInt_div_of_ne_right _ _ (fun h => by rw [h] at e2; have : ((-1 : Int32)).toInt = -1 := by decide
                                                   omega), e1, e2, i32_toInt ⟨by omega, by omega⟩, Int.tdiv_eq_ediv_of_nonneg h0]
theorem i32_rem {x y : Int} (h0 : 0 ≤ x) (hx : x ≤ 2147483647) (hy : 0 < y) (hy2 : y ≤ 2147483647) : i32 x - i32 x / i32 y * i32 y = i32 (x % y) := by
  rw [i32_div h0 hx hy hy2, i32_mul, i32_sub, Int.emod_def, Int.mul_comm]
def up (M : Mem) (k i : Nat) (x : Int) : Mem := fun k' i' => if k' = k ∧ i' = i then x else M k' i'
theorem up_same (M : Mem) (k i : Nat) (x : Int) : up M k i x k i = x := by simp [up]
theorem up_cell {M : Mem} {k k' : Nat} (i : Nat) (x : Int) (h : k' ≠ k) : up M k i x k' = M k' := by funext j; simp [up, h]
theorem up_at {M : Mem} {k i k' i' : Nat} {x : Int} (h : k' ≠ k ∨ i' ≠ i) : up M k i x k' i' = M k' i' := by
  simp only [up]
  rw [if_neg]
  rintro ⟨rfl, rfl⟩
  rcases h with h | h <;> exact h rfl
theorem up_mR {M : Mem} {k i : Nat} {x : Int} (h : mR M) (hx : rng x) : mR (up M k i x) := by
  intro k' i'
  simp only [up]
  split
  · exact hx
  · exact h k' i'
/-! small forms of the functions -/
def grd {α : Type} (c : Prop) [Decidable c] (k : Option α) : Option α := if c then k else none
theorem grd_of {α : Type} {c : Prop} [Decidable c] {k : Option α} {x : α} (h : grd c k = some x) : c ∧ k = some x := by
  unfold grd at h
  split at h
  · exact ⟨by assumption, h⟩
  · cases h
theorem grd_pos {α : Type} {c : Prop} [Decidable c] {k : Option α} (h : c) : grd c k = k := if_pos h
theorem ite_of {α : Type} {c : Prop} [Decidable c] {a b : Option α} {x : α} (h : (if c then a else b) = some x) : (c ∧ a = some x) ∨ (¬ c ∧ b = some x) := by
  split at h
  · exact Or.inl ⟨by assumption, h⟩
  · exact Or.inr ⟨by assumption, h⟩
/-- a call, then the rest -/
def cal {β : Type} (o : Option (Mem × Int)) (k : Mem → Int → Option β) : Option β := match o with
  | some q => k q.1 q.2
  | none => none
theorem cal_of {β : Type} {o : Option (Mem × Int)} {k : Mem → Int → Option β} {x : β} (h : cal o k = some x) : ∃ (M : Mem) (r : Int), o = some (M, r) ∧ k M r = some x := by
  cases o with
  | none => cases h
  | some q => exact ⟨q.1, q.2, rfl, h⟩
theorem cal_some {β : Type} (M : Mem) (r : Int) (k : Mem → Int → Option β) : cal (some (M, r)) k = k M r := rfl
/-! locals: a list of places and values of one word each -/
def nth {α : Type} : List α → Nat → Option α
  | [], _ => none
  | a :: _, 0 => some a
  | _ :: r, n + 1 => nth r n
theorem nth_mem {α : Type} : ∀ {l : List α} {n : Nat} {a : α}, nth l n = some a → a ∈ l
  | [], _, _, h => by cases h
  | b :: r, 0, a, h => by cases h; exact List.mem_cons_self
  | b :: r, n + 1, a, h => List.mem_cons_of_mem _ (nth_mem (l := r) h)
def stL (i : Nat) (v : Value) : List (Nat × Value) → List (Nat × Value)
  | [] => [(i, v)]
  | q :: r => if q.1 = i then (i, v) :: r else q :: stL i v r
def nodL : List (Nat × Value) → Prop
  | [] => True
  | q :: r => (∀ z ∈ r, z.1 ≠ q.1) ∧ nodL r
theorem stL_mem {i : Nat} {v : Value} : ∀ {l : List (Nat × Value)} {q : Nat × Value}, q ∈ stL i v l → q = (i, v) ∨ (q ∈ l)
  | [], q, h => Or.inl (List.mem_singleton.mp h)
  | z :: r, q, h => by
    simp only [stL] at h
    split at h
    · rcases List.mem_cons.mp h with h | h
      · exact Or.inl h
      · exact Or.inr (List.mem_cons_of_mem _ h)
    · rcases List.mem_cons.mp h with h | h
      · exact Or.inr (h ▸ List.mem_cons_self)
      · rcases stL_mem h with h | h
        · exact Or.inl h
        · exact Or.inr (List.mem_cons_of_mem _ h)
/-- the locals: known, each place at most once, one word each -/
def lvs (ls : Array Slot) (nL : Nat) (L : List (Nat × Value)) : Prop := lv_has ls nL L ∧ nodL L ∧ ∀ q ∈ L, q.2.category = 1
theorem stL_ne {i : Nat} {v : Value} : ∀ {l : List (Nat × Value)} {q : Nat × Value}, nodL l → q ∈ stL i v l → q = (i, v) ∨ (q ∈ l ∧ q.1 ≠ i)
  | [], q, _, h => Or.inl (List.mem_singleton.mp h)
  | z :: r, q, hn, h => by
    simp only [stL] at h
    split at h
    · rename_i hz
      rcases List.mem_cons.mp h with h | h
      · exact Or.inl h
      · exact Or.inr ⟨List.mem_cons_of_mem _ h, by rw [← hz]; exact hn.1 q h⟩
    · rename_i hz
      rcases List.mem_cons.mp h with h | h
      · subst h
        exact Or.inr ⟨List.mem_cons_self, hz⟩
      · rcases stL_ne hn.2 h with h | h
        · exact Or.inl h
        · exact Or.inr ⟨List.mem_cons_of_mem _ h.1, h.2⟩
theorem stL_nod {i : Nat} {v : Value} : ∀ {l : List (Nat × Value)}, nodL l → nodL (stL i v l)
  | [], _ => (⟨fun _ h => absurd h List.not_mem_nil, trivial⟩ : (∀ z ∈ ([] : List (Nat × Value)), z.1 ≠ i) ∧ True)
  | z :: r, hn => by
    simp only [stL]
    split
    · rename_i hz
      exact ⟨fun q h => by rw [← hz]; exact hn.1 q h, hn.2⟩
    · rename_i hz
      refine ⟨fun q h => ?_, stL_nod hn.2⟩
      rcases stL_mem h with h | h
      · rw [h]; exact fun e => hz e.symm
      · exact hn.1 q h
theorem lvs_at {ls : Array Slot} {nL : Nat} {L : List (Nat × Value)} (h : lvs ls nL L) (j : Nat) {i : Nat} {v : Value} (hk : nth L j = some (i, v)) : ls[i]? = some (.val v) := h.1.2.2 (i, v) (nth_mem hk)
theorem lvs_st {ls ls' : Array Slot} {nL i : Nat} {v : Value} {L L0 : List (Nat × Value)} (h : lvs ls nL L) (hv : v.category = 1) (h1 : lv_has ls' nL L0) (h0 : L0 = (i, v) :: L.filter (fun q => !(q.1 == i) && !(q.1 + 1 == i && q.2.category == 2))) : lvs ls' nL (stL i v L) := by
  subst h0
  refine ⟨⟨h1.1, h1.2.1, fun q hq => ?_⟩, stL_nod h.2.1, fun q hq => ?_⟩
  · rcases stL_ne h.2.1 hq with hq | ⟨hq, hne⟩
    · subst hq
      exact h1.2.2 _ List.mem_cons_self
    · refine h1.2.2 q (List.mem_cons_of_mem _ (List.mem_filter.mpr ⟨hq, ?_⟩))
      have hc := h.2.2 q hq
      simp [hne, hc]
  · rcases stL_mem hq with hq | hq
    · subst hq
      exact hv
    · exact h.2.2 q hq
