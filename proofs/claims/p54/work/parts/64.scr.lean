/-! script texts -/
theorem fset_o {S : Int → Int} {i x j : Int} (h : j ≠ i) : fset S i x j = S j := if_neg h
theorem fset_s {S : Int → Int} {i x : Int} : fset S i x i = x := if_pos rfl
section Scr
variable {fu : Nat}
end Scr
