/-! what the class holds when it is made -/
def v10L : List Int := [5, -2, 7, 7, 0, 12, 3, 1, 9, 4]
def v10 (i : Int) : Int := v10L.getD i.toNat 0
theorem v10_nat : ∀ n : Nat, n < 10 → -999 ≤ v10L.getD n 0 ∧ v10L.getD n 0 ≤ 999 := by decide
theorem v10_rng {i : Int} (h0 : 0 ≤ i) (h1 : i < 10) : -999 ≤ v10 i ∧ v10 i ≤ 999 := v10_nat i.toNat (by omega)
abbrev tx0 : TX := (0, fun _ => 0)
theorem init_C {fu : Nat} {M : Mem} (h1 : ∀ i : Int, 0 ≤ i → i < 10 → M 0 i.toNat = v10 i) (hfu : 40000 ≤ fu) : ∃ M1, f_X11_tail fu M = some (M1, 0) ∧ ∀ q, q < 5 ∨ 18 < q → M1 q = M q := by
  obtain ⟨M1, e1, c1, f1⟩ := begin_C (fu := fu) (M := M) (k1 := 0) (n1 := 10) (s := 10) (Or.inl (by decide)) ⟨by decide, by decide⟩ (by decide) (by omega) (fun i i0 i1 => by rw [h1 i i0 i1]; exact v10_rng i0 i1)
  refine ⟨M1, ?_, f1⟩
  unfold f_X11_tail
  rw [e1, cal_some]
