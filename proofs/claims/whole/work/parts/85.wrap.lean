/-! the class's methods that throw, and the law's wrappers, as values -/
def rf (x : Int) : Nat := if x = 1 then 1 else if x = 2 then 2 else if x = 3 then 3 else 0
section WrapX
variable {fu : Nat} {M : Mem} {A : AS}
theorem refuse_X (x : Int) : f_X11_refuse fu M x = some (M, (rf x, (0 : Int))) := by
  unfold f_X11_refuse rf
  by_cases h1 : x = 1
  · rw [if_pos h1, if_pos h1]
  · rw [if_neg h1, if_neg h1]
    by_cases h2 : x = 2
    · rw [if_pos h2, if_pos h2]
    · rw [if_neg h2, if_neg h2]
      by_cases h3 : x = 3
      · rw [if_pos h3, if_pos h3]
      · rw [if_neg h3, if_neg h3]
theorem cax_rf {β : Type} (x : Int) (M : Mem) (z : Int) (k : Mem → Int → Option β) (kx : Mem → Nat → Option β) : cax (some (M, (rf x, z))) k kx = if x = 1 then kx M 0 else if x = 2 then kx M 1 else if x = 3 then kx M 2 else k M z := by
  unfold rf
  by_cases h1 : x = 1
  · rw [if_pos h1, if_pos h1]; rfl
  · rw [if_neg h1, if_neg h1]
    by_cases h2 : x = 2
    · rw [if_pos h2, if_pos h2]; rfl
    · rw [if_neg h2, if_neg h2]
      by_cases h3 : x = 3
      · rw [if_pos h3, if_pos h3]; rfl
      · rw [if_neg h3, if_neg h3]; rfl
/-- a check that lets pass (x = 0), or throws on -/
theorem cax_thru {x : Int} (hx : x = 0 ∨ x = 1 ∨ x = 2 ∨ x = 3) (M : Mem) (z : Int) (k : Mem → Int → Option (Mem × (Nat × Int))) : cax (some (M, (rf x, z))) k (fun M1 n => some (M1, (n + 1, (0 : Int)))) = if x = 0 then k M z else some (M, (rf x, (0 : Int))) := by
  rcases hx with rfl | rfl | rfl | rfl <;> rfl
theorem rf_self {x : Int} (hx : x = 0 ∨ x = 1 ∨ x = 2 ∨ x = 3) (M : Mem) (z : Int) : cax (some (M, (rf x, z))) (fun M1 _ => some (M1, ((0 : Nat), (0 : Int)))) (fun M1 n => some (M1, (n + 1, (0 : Int)))) = some (M, (rf x, (0 : Int))) := by
  rcases hx with rfl | rfl | rfl | rfl <;> rfl
/-- 0 if it holds, 1 if not -/
def xI (p : Prop) [Decidable p] : Int := if p then 0 else 1
theorem xI_rng (p : Prop) [Decidable p] : xI p = 0 ∨ xI p = 1 ∨ xI p = 2 ∨ xI p = 3 := by
  unfold xI
  split
  · exact Or.inl rfl
  · exact Or.inr (Or.inl rfl)
theorem xI_0 {p : Prop} [Decidable p] (h : xI p = 0) : p := by
  unfold xI at h
  split at h
  · assumption
  · cases h
theorem xI_ind (p : Prop) [Decidable p] : 1 - ind p = xI p := by
  unfold xI ind
  split <;> rfl
theorem requireVersion_X (h : CM M A) (v : Int) : f_X11_requireVersion fu M v = some (M, (rf (xI (0 ≤ v ∧ v < aV A)), (0 : Int))) := by
  unfold f_X11_requireVersion
  rw [has_C h, cal_some]
  by_cases hv : 0 ≤ v ∧ v < aV A
  · rw [show ind (0 ≤ v ∧ v < aV A) = 1 from if_pos hv, if_neg (by decide), refuse_X, show xI (0 ≤ v ∧ v < aV A) = 0 from if_pos hv]
    exact rf_self (Or.inl rfl) M 0
  · rw [show ind (0 ≤ v ∧ v < aV A) = 0 from if_neg hv, if_pos rfl, refuse_X, show xI (0 ≤ v ∧ v < aV A) = 1 from if_neg hv]
    exact rf_self (Or.inr (Or.inl rfl)) M 0
theorem requireNode_X (h : CM M A) (v : Int) : f_X11_requireNode fu M v = some (M, (rf (xI (0 ≤ v ∧ v < aN A ∧ coA A v = 0)), (0 : Int))) := by
  unfold f_X11_requireNode
  rw [isStored_C h, cal_some]
  by_cases hv : 0 ≤ v ∧ v < aN A ∧ coA A v = 0
  · rw [show ind (0 ≤ v ∧ v < aN A ∧ coA A v = 0) = 1 from if_pos hv, if_neg (by decide), refuse_X, show xI (0 ≤ v ∧ v < aN A ∧ coA A v = 0) = 0 from if_pos hv]
    exact rf_self (Or.inl rfl) M 0
  · rw [show ind (0 ≤ v ∧ v < aN A ∧ coA A v = 0) = 0 from if_neg hv, if_pos rfl, refuse_X, show xI (0 ≤ v ∧ v < aN A ∧ coA A v = 0) = 1 from if_neg hv]
    exact rf_self (Or.inr (Or.inl rfl)) M 0
theorem r013 {x : Int} (h : x = 0 ∨ x = 1 ∨ x = 3) : x = 0 ∨ x = 1 ∨ x = 2 ∨ x = 3 := by
  rcases h with h | h | h
  · exact Or.inl h
  · exact Or.inr (Or.inl h)
  · exact Or.inr (Or.inr (Or.inr h))
theorem requireReadable_X (h : CM M A) (v : Int) : f_X11_requireReadable fu M v = some (M, (rf (fltR A v), (0 : Int))) := by
  unfold f_X11_requireReadable
  rw [faultOfReading_C h, cal_some, refuse_X]
  exact rf_self (r013 (fltR_rng v)) M 0
theorem requireBoth_X (h : CM M A) (v w : Int) : f_X11_requireBothReadable fu M v w = some (M, (rf (fltRB A v w), (0 : Int))) := by
  unfold f_X11_requireBothReadable
  rw [faultOfReadingBoth_C h, cal_some, refuse_X]
  exact rf_self (r013 (fltRB_rng v w)) M 0
/-- a method's outcome: a fault, or an answer -/
abbrev ox (f r : Int) : Nat × Int := if f = 0 then ((0 : Nat), r) else (rf f, (0 : Int))
theorem ox_0 {f r : Int} (h : f = 0) : ox f r = ((0 : Nat), r) := if_pos h
theorem ox_1 {f r : Int} (h : ¬ f = 0) : ox f r = (rf f, (0 : Int)) := if_neg h
/-- what a wrapper makes of an outcome -/
def wrp (w : Nat → Option Int) (o : Option (Mem × (Nat × Int))) : Option (Mem × Int) := cax o (fun M1 r => some (up M1 65 0 r, (0 : Int))) (fun M1 n => (w n).map (fun k => (M1, k)))
def w1 (n : Nat) : Option Int := if n = 0 then some 1 else none
def w2 (n : Nat) : Option Int := if n = 0 then some 1 else if n = 2 then some 2 else none
def w3 (n : Nat) : Option Int := if n = 0 then some 1 else if n = 1 then some 2 else if n = 2 then some 3 else none
def w4 (n : Nat) : Option Int := if n = 3 then some 1 else none
theorem wrp_1 (o : Option (Mem × (Nat × Int))) : cax o (fun M1 r2 => some (up M1 65 ((0 : Int) : Int).toNat r2, (0 : Int))) (fun M1 n4 => if n4 = 0 then (some (M1, (1 : Int))) else (none)) = wrp w1 o := by
  rcases o with _ | ⟨M, _ | n, z⟩
  · rfl
  · rfl
  · show (if n = 0 then some (M, (1 : Int)) else none) = (w1 n).map (fun k => (M, k))
    unfold w1
    split <;> rfl
theorem wrp_2 (o : Option (Mem × (Nat × Int))) : cax o (fun M1 r2 => some (up M1 65 ((0 : Int) : Int).toNat r2, (0 : Int))) (fun M1 n4 => if n4 = 0 then (some (M1, (1 : Int))) else (if n4 = 2 then (some (M1, (2 : Int))) else (none))) = wrp w2 o := by
  rcases o with _ | ⟨M, _ | n, z⟩
  · rfl
  · rfl
  · show (if n = 0 then some (M, (1 : Int)) else if n = 2 then some (M, (2 : Int)) else none) = (w2 n).map (fun k => (M, k))
    unfold w2
    split
    · rfl
    · split <;> rfl
theorem wrp_3 (o : Option (Mem × (Nat × Int))) : cax o (fun M1 r2 => some (up M1 65 ((0 : Int) : Int).toNat r2, (0 : Int))) (fun M1 n4 => if n4 = 0 then (some (M1, (1 : Int))) else (if n4 = 1 then (some (M1, (2 : Int))) else (if n4 = 2 then (some (M1, (3 : Int))) else (none)))) = wrp w3 o := by
  rcases o with _ | ⟨M, _ | n, z⟩
  · rfl
  · rfl
  · show (if n = 0 then some (M, (1 : Int)) else if n = 1 then some (M, (2 : Int)) else if n = 2 then some (M, (3 : Int)) else none) = (w3 n).map (fun k => (M, k))
    unfold w3
    split
    · rfl
    · split
      · rfl
      · split <;> rfl
theorem wrp_4 (o : Option (Mem × (Nat × Int))) : cax o (fun M1 r2 => some (up M1 65 ((0 : Int) : Int).toNat r2, (0 : Int))) (fun M1 n4 => if n4 = 3 then (some (M1, (1 : Int))) else (none)) = wrp w4 o := by
  rcases o with _ | ⟨M, _ | n, z⟩
  · rfl
  · rfl
  · show (if n = 3 then some (M, (1 : Int)) else none) = (w4 n).map (fun k => (M, k))
    unfold w4
    split <;> rfl
theorem wrp_b {o : Option (Mem × (Nat × Int))} {M1 : Mem} {f r : Int} (h : o = some (M1, ox f r)) (hr : r = 0 ∨ r = 1) : cax o (fun M1 r2 => if r2 = (0 : Int) then (some (up M1 65 ((0 : Int) : Int).toNat (0 : Int), (0 : Int))) else (some (up M1 65 ((0 : Int) : Int).toNat (1 : Int), (0 : Int)))) (fun M1 n4 => if n4 = 0 then (some (M1, (1 : Int))) else (none)) = wrp w1 o := by
  rw [← wrp_1, h]
  by_cases hf : f = 0
  · rw [ox_0 hf]
    rcases hr with rfl | rfl <;> rfl
  · rw [ox_1 hf]
    unfold rf
    split
    · rfl
    · split
      · rfl
      · split
        · rfl
        · rfl
end WrapX
/-- both sides hold the same -/
def INV (M : Mem) (A : AS) (H : Int → AS) (c : Int) (T TO : TX) (e o s : Int) (B : AS) : Prop := RC1 M A H c T TO e o s B ∧ RM1 M A H c T TO e o s B ∧ RG A H c s B
def LOK (M M' : Mem) : Prop := M' 2 = M 2 ∧ ∃ (A : AS) (H : Int → AS) (c : Int) (T TO : TX) (e o s : Int) (B : AS), INV M' A H c T TO e o s B
section WrapI
variable {fu : Nat} {M : Mem} {A B : AS} {H : Int → AS} {c : Int} {T TO : TX} {e o s : Int}
theorem RM1_o {M' : Mem} (h : RM1 M A H c T TO e o s B) (f : ∀ q, 52 ≤ q → q ≤ 64 → M' q = M q) : RM1 M' A H c T TO e o s B := by
  obtain ⟨h1, h2, h3, h4, h5, h6, h7, h8⟩ := h
  have e52 := f 52 (by decide) (by decide)
  exact ⟨MM_congr h1 (f 53 (by decide) (by decide)), HM_congr h2 (by rw [e52]) (f 56 (by decide) (by decide)), iM_cg h3 (by rw [e52]) (f 61 (by decide) (by decide)), oM_cg h4 (by rw [e52]) (f 64 (by decide) (by decide)), by rw [e52]; exact h5, by rw [e52]; exact h6, by rw [e52]; exact h7, fun hs => by rw [f 55 (by decide) (by decide)]; exact h8 hs⟩
theorem RC1_lo {M' : Mem} (h : RC1 M A H c T TO e o s B) (f : ∀ q, q < 52 → M' q = M q) : RC1 M' A H c T TO e o s B := by
  obtain ⟨h1, h2, h3, h4, h5, h6, h7, h8, h9⟩ := h
  exact ⟨CM_cg h1 (fun q _ q1 => f q (by omega)), HC_congr h2 (fun q _ q1 => f q (by omega)), iC_cg h3 (f 43 (by decide)) (f 44 (by decide)), oC_cg h4 (f 50 (by decide)) (f 51 (by decide)), by rw [f 45 (by decide)]; exact h5, by rw [f 45 (by decide)]; exact h6, fun i i0 i1 => by rw [f 1 (by decide)]; exact h7 i i0 i1, by rw [f 3 (by decide)]; exact h8, fun hs => RS_cg (h9 hs) (fun q _ q1 => f q (by omega))⟩
theorem INV_65 {M' : Mem} (h : INV M A H c T TO e o s B) (f : ∀ q, q ≠ 65 → M' q = M q) : INV M' A H c T TO e o s B :=
  ⟨RC1_lo h.1 (fun q hq => f q (by omega)), RM1_o h.2.1 (fun q q1 q2 => f q (by omega)), h.2.2⟩
/-- a reader of the class behind its wrapper -/
theorem wrp_rd {w : Nat → Option Int} {oC : Option (Mem × (Nat × Int))} {M1 : Mem} {f r k : Int} (hI : INV M A H c T TO e o s B) (eC : oC = some (M1, ox f r)) (f1 : ∀ q, q < 34 ∨ 37 < q → M1 q = M q) (hf : f = 0 ∨ f = 1 ∨ f = 2 ∨ f = 3) (hk0 : f = 0 → k = 0) (hk : f ≠ 0 → w (f - 1).toNat = some k ∧ k ≠ 0) :
    ∃ M3, wrp w oC = some (M3, k) ∧ INV M3 A H c T TO e o s B ∧ M3 2 = M 2 ∧ (k = 0 → M3 65 0 = r) := by
  obtain ⟨g1, g2⟩ := RC1_scr hI.1 f1
  have hI1 : INV M1 A H c T TO e o s B := ⟨g1, RM1_cg hI.2.1 g2, hI.2.2⟩
  by_cases h0 : f = 0
  · rw [eC, ox_0 h0, hk0 h0]
    exact ⟨up M1 65 0 r, rfl, INV_65 hI1 (fun q hq => up_cell _ _ hq), by rw [up_cell _ _ (by decide), f1 2 (by decide)], fun _ => up_same _ _ _ _⟩
  · obtain ⟨k1, k2⟩ := hk h0
    rw [eC, ox_1 h0]
    refine ⟨M1, ?_, hI1, f1 2 (by decide), fun hz => absurd hz k2⟩
    unfold wrp
    rcases hf with rfl | rfl | rfl | rfl
    · exact absurd rfl h0
    · show (w 0).map _ = _
      rw [show w 0 = some k from k1]; rfl
    · show (w 1).map _ = _
      rw [show w 1 = some k from k1]; rfl
    · show (w 2).map _ = _
      rw [show w 2 = some k from k1]; rfl
theorem w1_ok {p : Prop} [Decidable p] (hf : xI p ≠ 0) : w1 (xI p - 1).toNat = some (xI p) ∧ xI p ≠ 0 := by
  refine ⟨?_, hf⟩
  unfold xI at hf ⊢
  split
  · rename_i hp
    rw [if_pos hp] at hf
    exact absurd rfl hf
  · rfl
theorem w2_ok {f : Int} (hf : f = 0 ∨ f = 1 ∨ f = 3) (h0 : f ≠ 0) : w2 (f - 1).toNat = some (thR f) ∧ thR f ≠ 0 := by
  rcases hf with rfl | rfl | rfl
  · exact absurd rfl h0
  · exact ⟨rfl, by decide⟩
  · exact ⟨rfl, by decide⟩
theorem w3_ok {f : Int} (hf : f = 0 ∨ f = 1 ∨ f = 2 ∨ f = 3) (h0 : f ≠ 0) : w3 (f - 1).toNat = some f ∧ f ≠ 0 := by
  rcases hf with rfl | rfl | rfl | rfl
  · exact absurd rfl h0
  · exact ⟨rfl, by decide⟩
  · exact ⟨rfl, by decide⟩
  · exact ⟨rfl, by decide⟩
/-- a reader of the model -/
theorem md_rd {M9 : Mem} (hI : INV M A H c T TO e o s B) (f : ∀ q, q ≠ 52 → q ≠ 57 → q ≠ 59 → q ≠ 60 → q ≠ 63 → M9 q = M q) (f2 : ∀ i, i ≠ 6 → i < 24 ∨ 26 < i → M9 52 i = M 52 i) : INV M9 A H c T TO e o s B ∧ M9 2 = M 2 ∧ M9 65 = M 65 := by
  obtain ⟨g1, g2⟩ := RM1_scr hI.2.1 f f2
  exact ⟨⟨RC1_cg hI.1 g2, g1, hI.2.2⟩, f 2 (by decide) (by decide) (by decide) (by decide) (by decide), f 65 (by decide) (by decide) (by decide) (by decide) (by decide)⟩
theorem md_6 (hI : INV M A H c T TO e o s B) (x : Int) : INV (up M 52 6 x) A H c T TO e o s B ∧ (up M 52 6 x) 2 = M 2 ∧ (up M 52 6 x) 65 = M 65 :=
  ⟨⟨RC1_lo hI.1 (fun q hq => up_cell _ _ (by omega)), RM1_6 hI.2.1 x, hI.2.2⟩, up_cell _ _ (by decide), up_cell _ _ (by decide)⟩
theorem md_60 {M9 : Mem} {x : Int} (hI : INV M A H c T TO e o s B) (f : only 60 (up M 52 6 x) M9) : INV M9 A H c T TO e o s B ∧ M9 2 = M 2 ∧ M9 65 = M 65 ∧ M9 52 6 = x := by
  obtain ⟨h1, h2, h3⟩ := md_rd (M9 := M9) hI (fun q q1 q2 q3 q4 q5 => by rw [f q q4, up_cell _ _ q1]) (fun i i1 i2 => by rw [f 52 (by decide), up_at (Or.inr i1)])
  exact ⟨h1, h2, h3, by rw [f 52 (by decide), up_same]⟩
theorem thrown_M (M : Mem) : f_X12_thrown fu M = some (M, M 52 6) := by
  unfold f_X12_thrown
  rfl
/-- the law's own end of a case -/
theorem tail_ok {M9 : Mem} {r4 r10 : Int} (h6 : M9 52 6 = r4) (h65 : r4 = 0 → M9 65 0 = r10) : (cal (f_X12_thrown fu M9) fun M12 r13 => if r13 = r4 then (if r4 = (0 : Int) then (if lcmpI (M12 65 ((0 : Int) : Int).toNat) r10 = (0 : Int) then (some (M12, (0 : Int))) else (none)) else (some (M12, 0))) else (none)) = some (M9, (0 : Int)) := by
  rw [thrown_M, cal_some, if_pos h6]
  by_cases h0 : r4 = 0
  · rw [if_pos h0, if_pos]
    show lcmpI (M9 65 0) r10 = 0
    rw [h65 h0]
    unfold lcmpI
    rw [if_neg (Int.lt_irrefl r10), if_pos rfl]
  · rw [if_neg h0]
end WrapI
