/-! the model's questions -/
section MQry
variable {M : Mem} {A : AS} {fu : Nat}
theorem fltE_0 {v i : Int} (h : fltE A v i = 0) : 0 ≤ v ∧ v < aV A ∧ rlA A v = 0 ∧ 0 ≤ i ∧ i < szA A v := by
  have := fltE_v (A := A) (v := v) (i := i) (by omega)
  have q := this.2.2.2.1 h
  exact ⟨this.1, this.2.1, q.1, q.2.1, q.2.2⟩
/-- the code of a refused replacement -/
theorem fltP_0 {v i x : Int} (h : fltP A v i x = 0) : fltE A v i = 0 ∧ -999 ≤ x ∧ x ≤ 999 := by
  unfold fltP at h
  split at h
  · omega
  · rename_i hn
    refine ⟨h, ?_⟩
    by_cases hx : -999 ≤ x ∧ x ≤ 999
    · exact hx
    · exact absurd ⟨by omega, hx⟩ hn
end MQry
