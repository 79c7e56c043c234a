/-! the model's memory holds a state -/
section MRep
variable {M : Mem} {A : AS} {fu : Nat}
def thR (f : Int) : Int := if f = 3 then 2 else f
theorem fltE_rng (v i : Int) : fltE A v i = 0 ∨ fltE A v i = 1 ∨ fltE A v i = 3 := by
  unfold fltE
  split
  · omega
  · exact fltR_rng v
theorem fltE_v {v i : Int} (h : fltE A v i ≠ 1) : 0 ≤ v ∧ v < aV A ∧ fltE A v i = fltR A v ∧ (fltE A v i = 0 → rlA A v = 0 ∧ 0 ≤ i ∧ i < szA A v) ∧ (fltE A v i ≠ 0 → rlA A v ≠ 0) := by
  unfold fltE at h ⊢
  by_cases hc : fltR A v = 0 ∧ ¬ (0 ≤ i ∧ i < szA A v)
  · rw [if_pos hc] at h; exact absurd rfl h
  · rw [if_neg hc] at h ⊢
    unfold fltR at h hc ⊢
    by_cases h0 : 0 ≤ v ∧ v < aV A
    · rw [if_pos h0] at h hc ⊢
      by_cases hr : rlA A v = 0
      · rw [if_pos hr] at h hc ⊢
        refine ⟨h0.1, h0.2, rfl, fun _ => ⟨hr, ?_⟩, fun q => absurd rfl q⟩
        by_cases hi : 0 ≤ i ∧ i < szA A v
        · exact hi
        · exact absurd ⟨rfl, hi⟩ hc
      · rw [if_neg hr]
        exact ⟨h0.1, h0.2, rfl, fun q => by omega, fun _ => hr⟩
    · rw [if_neg h0] at h; exact absurd rfl h
end MRep
