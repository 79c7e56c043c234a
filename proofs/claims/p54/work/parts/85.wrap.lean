/-! the class's methods that throw, and the law's wrappers, as values -/
def rf (x : Int) : Nat := if x = 1 then 1 else if x = 2 then 2 else if x = 3 then 3 else 0
section WrapX
variable {fu : Nat} {M : Mem} {A : AS}
theorem refuse_X (x : Int) : f_X11_refuse fu M x = some (M, (rf x, (0 : Int))) := by
  unfold f_X11_refuse rf
  by_cases h1 : x = 1
  · rw [if_pos h1, if_pos h1]
  · rw [if_neg h1, if_neg h1]
    by_cases h2 : x = 2
    · rw [if_pos h2, if_pos h2]
    · rw [if_neg h2, if_neg h2]
      by_cases h3 : x = 3
      · rw [if_pos h3, if_pos h3]
      · rw [if_neg h3, if_neg h3]
theorem cax_rf {β : Type} (x : Int) (M : Mem) (z : Int) (k : Mem → Int → Option β) (kx : Mem → Nat → Option β) : cax (some (M, (rf x, z))) k kx = if x = 1 then kx M 0 else if x = 2 then kx M 1 else if x = 3 then kx M 2 else k M z := by
  unfold rf
  by_cases h1 : x = 1
  · rw [if_pos h1, if_pos h1]; rfl
  · rw [if_neg h1, if_neg h1]
    by_cases h2 : x = 2
    · rw [if_pos h2, if_pos h2]; rfl
    · rw [if_neg h2, if_neg h2]
      by_cases h3 : x = 3
      · rw [if_pos h3, if_pos h3]; rfl
      · rw [if_neg h3, if_neg h3]; rfl
/-- a check that lets pass (x = 0), or throws on -/
theorem cax_thru {x : Int} (hx : x = 0 ∨ x = 1 ∨ x = 2 ∨ x = 3) (M : Mem) (z : Int) (k : Mem → Int → Option (Mem × (Nat × Int))) : cax (some (M, (rf x, z))) k (fun M1 n => some (M1, (n + 1, (0 : Int)))) = if x = 0 then k M z else some (M, (rf x, (0 : Int))) := by
  rcases hx with rfl | rfl | rfl | rfl <;> rfl
theorem rf_self {x : Int} (hx : x = 0 ∨ x = 1 ∨ x = 2 ∨ x = 3) (M : Mem) (z : Int) : cax (some (M, (rf x, z))) (fun M1 _ => some (M1, ((0 : Nat), (0 : Int)))) (fun M1 n => some (M1, (n + 1, (0 : Int)))) = some (M, (rf x, (0 : Int))) := by
  rcases hx with rfl | rfl | rfl | rfl <;> rfl
/-- 0 if it holds, 1 if not -/
def xI (p : Prop) [Decidable p] : Int := if p then 0 else 1
theorem xI_rng (p : Prop) [Decidable p] : xI p = 0 ∨ xI p = 1 ∨ xI p = 2 ∨ xI p = 3 := by
  unfold xI
  split
  · exact Or.inl rfl
  · exact Or.inr (Or.inl rfl)
theorem xI_0 {p : Prop} [Decidable p] (h : xI p = 0) : p := by
  unfold xI at h
  split at h
  · assumption
  · cases h
theorem xI_ind (p : Prop) [Decidable p] : 1 - ind p = xI p := by
  unfold xI ind
  split <;> rfl
theorem requireVersion_X (h : CM M A) (v : Int) : f_X11_requireVersion fu M v = some (M, (rf (xI (0 ≤ v ∧ v < aV A)), (0 : Int))) := by
  unfold f_X11_requireVersion
  rw [has_C h, cal_some]
  by_cases hv : 0 ≤ v ∧ v < aV A
  · rw [show ind (0 ≤ v ∧ v < aV A) = 1 from if_pos hv, if_neg (by decide), refuse_X, show xI (0 ≤ v ∧ v < aV A) = 0 from if_pos hv]
    exact rf_self (Or.inl rfl) M 0
  · rw [show ind (0 ≤ v ∧ v < aV A) = 0 from if_neg hv, if_pos rfl, refuse_X, show xI (0 ≤ v ∧ v < aV A) = 1 from if_neg hv]
    exact rf_self (Or.inr (Or.inl rfl)) M 0
theorem requireNode_X (h : CM M A) (v : Int) : f_X11_requireNode fu M v = some (M, (rf (xI (0 ≤ v ∧ v < aN A ∧ coA A v = 0)), (0 : Int))) := by
  unfold f_X11_requireNode
  rw [isStored_C h, cal_some]
  by_cases hv : 0 ≤ v ∧ v < aN A ∧ coA A v = 0
  · rw [show ind (0 ≤ v ∧ v < aN A ∧ coA A v = 0) = 1 from if_pos hv, if_neg (by decide), refuse_X, show xI (0 ≤ v ∧ v < aN A ∧ coA A v = 0) = 0 from if_pos hv]
    exact rf_self (Or.inl rfl) M 0
  · rw [show ind (0 ≤ v ∧ v < aN A ∧ coA A v = 0) = 0 from if_neg hv, if_pos rfl, refuse_X, show xI (0 ≤ v ∧ v < aN A ∧ coA A v = 0) = 1 from if_neg hv]
    exact rf_self (Or.inr (Or.inl rfl)) M 0
theorem r013 {x : Int} (h : x = 0 ∨ x = 1 ∨ x = 3) : x = 0 ∨ x = 1 ∨ x = 2 ∨ x = 3 := by
  rcases h with h | h | h
  · exact Or.inl h
  · exact Or.inr (Or.inl h)
  · exact Or.inr (Or.inr (Or.inr h))
theorem requireReadable_X (h : CM M A) (v : Int) : f_X11_requireReadable fu M v = some (M, (rf (fltR A v), (0 : Int))) := by
  unfold f_X11_requireReadable
  rw [faultOfReading_C h, cal_some, refuse_X]
  exact rf_self (r013 (fltR_rng v)) M 0
/-- a method's outcome: a fault, or an answer -/
abbrev ox (f r : Int) : Nat × Int := if f = 0 then ((0 : Nat), r) else (rf f, (0 : Int))
theorem ox_0 {f r : Int} (h : f = 0) : ox f r = ((0 : Nat), r) := if_pos h
theorem ox_1 {f r : Int} (h : ¬ f = 0) : ox f r = (rf f, (0 : Int)) := if_neg h
/-- what a wrapper makes of an outcome -/
def wrp (w : Nat → Option Int) (o : Option (Mem × (Nat × Int))) : Option (Mem × Int) := cax o (fun M1 r => some (up M1 65 0 r, (0 : Int))) (fun M1 n => (w n).map (fun k => (M1, k)))
def w1 (n : Nat) : Option Int := if n = 0 then some 1 else none
def w2 (n : Nat) : Option Int := if n = 0 then some 1 else if n = 2 then some 2 else none
def w3 (n : Nat) : Option Int := if n = 0 then some 1 else if n = 1 then some 2 else if n = 2 then some 3 else none
def w4 (n : Nat) : Option Int := if n = 3 then some 1 else none
theorem wrp_1 (o : Option (Mem × (Nat × Int))) : cax o (fun M1 r2 => some (up M1 65 ((0 : Int) : Int).toNat r2, (0 : Int))) (fun M1 n4 => if n4 = 0 then (some (M1, (1 : Int))) else (none)) = wrp w1 o := by
  rcases o with _ | ⟨M, _ | n, z⟩
  · rfl
  · rfl
  · show (if n = 0 then some (M, (1 : Int)) else none) = (w1 n).map (fun k => (M, k))
    unfold w1
    split <;> rfl
theorem wrp_2 (o : Option (Mem × (Nat × Int))) : cax o (fun M1 r2 => some (up M1 65 ((0 : Int) : Int).toNat r2, (0 : Int))) (fun M1 n4 => if n4 = 0 then (some (M1, (1 : Int))) else (if n4 = 2 then (some (M1, (2 : Int))) else (none))) = wrp w2 o := by
  rcases o with _ | ⟨M, _ | n, z⟩
  · rfl
  · rfl
  · show (if n = 0 then some (M, (1 : Int)) else if n = 2 then some (M, (2 : Int)) else none) = (w2 n).map (fun k => (M, k))
    unfold w2
    split
    · rfl
    · split <;> rfl
theorem wrp_3 (o : Option (Mem × (Nat × Int))) : cax o (fun M1 r2 => some (up M1 65 ((0 : Int) : Int).toNat r2, (0 : Int))) (fun M1 n4 => if n4 = 0 then (some (M1, (1 : Int))) else (if n4 = 1 then (some (M1, (2 : Int))) else (if n4 = 2 then (some (M1, (3 : Int))) else (none)))) = wrp w3 o := by
  rcases o with _ | ⟨M, _ | n, z⟩
  · rfl
  · rfl
  · show (if n = 0 then some (M, (1 : Int)) else if n = 1 then some (M, (2 : Int)) else if n = 2 then some (M, (3 : Int)) else none) = (w3 n).map (fun k => (M, k))
    unfold w3
    split
    · rfl
    · split
      · rfl
      · split <;> rfl
theorem wrp_4 (o : Option (Mem × (Nat × Int))) : cax o (fun M1 r2 => some (up M1 65 ((0 : Int) : Int).toNat r2, (0 : Int))) (fun M1 n4 => if n4 = 3 then (some (M1, (1 : Int))) else (none)) = wrp w4 o := by
  rcases o with _ | ⟨M, _ | n, z⟩
  · rfl
  · rfl
  · show (if n = 3 then some (M, (1 : Int)) else none) = (w4 n).map (fun k => (M, k))
    unfold w4
    split <;> rfl
theorem wrp_b {o : Option (Mem × (Nat × Int))} {M1 : Mem} {f r : Int} (h : o = some (M1, ox f r)) (hr : r = 0 ∨ r = 1) : cax o (fun M1 r2 => if r2 = (0 : Int) then (some (up M1 65 ((0 : Int) : Int).toNat (0 : Int), (0 : Int))) else (some (up M1 65 ((0 : Int) : Int).toNat (1 : Int), (0 : Int)))) (fun M1 n4 => if n4 = 0 then (some (M1, (1 : Int))) else (none)) = wrp w1 o := by
  rw [← wrp_1, h]
  by_cases hf : f = 0
  · rw [ox_0 hf]
    rcases hr with rfl | rfl <;> rfl
  · rw [ox_1 hf]
    unfold rf
    split
    · rfl
    · split
      · rfl
      · split
        · rfl
        · rfl
end WrapX
section WrapI
variable {fu : Nat} {M : Mem} {A B : AS} {H : Int → AS} {c : Int} {T TO : TX} {e o s : Int}
theorem w1_ok {p : Prop} [Decidable p] (hf : xI p ≠ 0) : w1 (xI p - 1).toNat = some (xI p) ∧ xI p ≠ 0 := by
  refine ⟨?_, hf⟩
  unfold xI at hf ⊢
  split
  · rename_i hp
    rw [if_pos hp] at hf
    exact absurd rfl hf
  · rfl
theorem w2_ok {f : Int} (hf : f = 0 ∨ f = 1 ∨ f = 3) (h0 : f ≠ 0) : w2 (f - 1).toNat = some (thR f) ∧ thR f ≠ 0 := by
  rcases hf with rfl | rfl | rfl
  · exact absurd rfl h0
  · exact ⟨rfl, by decide⟩
  · exact ⟨rfl, by decide⟩
theorem w3_ok {f : Int} (hf : f = 0 ∨ f = 1 ∨ f = 2 ∨ f = 3) (h0 : f ≠ 0) : w3 (f - 1).toNat = some f ∧ f ≠ 0 := by
  rcases hf with rfl | rfl | rfl | rfl
  · exact absurd rfl h0
  · exact ⟨rfl, by decide⟩
  · exact ⟨rfl, by decide⟩
  · exact ⟨rfl, by decide⟩
end WrapI
