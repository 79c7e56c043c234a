/-! what both memories hold: the class's cells (below 52) and the model's (from 52) -/
def RC1 (M : Mem) (A : AS) (H : Int → AS) (c : Int) (T TO : TX) (e o s : Int) (B : AS) : Prop := CM M A ∧ HC M H c ∧ iC M T ∧ oC M TO ∧ M 45 6 = e ∧ M 45 7 = o ∧ gC M ∧ M 3 2 = s ∧ (s = 1 → RS M B)
def RM1 (M : Mem) (A : AS) (H : Int → AS) (c : Int) (T TO : TX) (e o s : Int) (B : AS) : Prop := MM M A ∧ HM M H c ∧ iM M T ∧ oM M TO ∧ M 52 14 = e ∧ M 52 15 = o ∧ M 52 5 = s ∧ (s = 1 → repM (M 55) B)
def RG (A : AS) (H : Int → AS) (c s : Int) (B : AS) : Prop := HI A H c ∧ (s = 0 ∨ s = 1) ∧ (s = 1 → Good B)
def frLo (M M' : Mem) : Prop := ∀ q, 52 ≤ q ∨ q < 3 → M' q = M q
def frHi (M M' : Mem) : Prop := ∀ q, q < 52 ∨ 64 < q → M' q = M q
theorem oC_cg {M M' : Mem} {T : TX} (h : oC M T) (f : M' 50 = M 50) (f2 : M' 51 = M 51) : oC M' T := by
  unfold oC at h ⊢
  rw [f, f2]; exact h
theorem oM_cg {M M' : Mem} {T : TX} (h : oM M T) (f : M' 52 27 = M 52 27) (f2 : M' 64 = M 64) : oM M' T := by
  unfold oM at h ⊢
  rw [f, f2]; exact h
theorem iC_cg {M M' : Mem} {T : TX} (h : iC M T) (f : M' 43 = M 43) (f2 : M' 44 = M 44) : iC M' T := by
  unfold iC at h ⊢
  rw [f, f2]; exact h
theorem iM_cg {M M' : Mem} {T : TX} (h : iM M T) (f : M' 52 13 = M 52 13) (f2 : M' 61 = M 61) : iM M' T := by
  unfold iM at h ⊢
  rw [f, f2]; exact h
theorem RS_cg {M M' : Mem} {A : AS} (h : RS M A) (f : ∀ q, 20 ≤ q → q ≤ 33 → M' q = M q) : RS M' A := by
  obtain ⟨h1, h2, h3, h4, h5⟩ := h
  have e : ∀ j, j ≤ 13 → M' (20 + j) = M (20 + j) := fun j hj => f _ (by omega) (by omega)
  have r : repR (fun j => M' (20 + j)) A := by
    unfold repR at h3 ⊢
    show (∀ k, 0 ≤ k → k < aN A → M' 21 k.toNat = lvA A k ∧ M' 22 k.toNat = flA A k ∧ ∀ j, 0 ≤ j → j < flA A k → M' 23 (k * 4 + j).toNat = enA A k j) ∧ (∀ v, 0 ≤ v → v < aV A → M' 26 v.toNat = paA A v ∧ M' 27 v.toNat = rtA A v ∧ M' 28 v.toNat = szA A v ∧ M' 29 v.toNat = crA A v) ∧ (M' 30 0 = -1 ∧ ∀ i, 0 ≤ i → i < szA A 0 → M' 32 i.toNat = ev A 0 i) ∧ ∀ v, 0 < v → v < aV A → ∀ i, 0 ≤ i → i < szA A v → (M' 30 v.toNat = i ∧ M' 31 v.toNat = ev A v i) ∨ (M' 30 v.toNat ≠ i ∧ i < szA A (paA A v) ∧ ev A v i = ev A (paA A v) i)
    rw [f 21 (by decide) (by decide), f 22 (by decide) (by decide), f 23 (by decide) (by decide), f 26 (by decide) (by decide), f 27 (by decide) (by decide), f 28 (by decide) (by decide), f 29 (by decide) (by decide), f 30 (by decide) (by decide), f 31 (by decide) (by decide), f 32 (by decide) (by decide)]
    exact h3
  exact ⟨by rw [f 20 (by decide) (by decide)]; exact h1, by rw [f 25 (by decide) (by decide)]; exact h2, r, fun k k0 k1 => by rw [f 24 (by decide) (by decide)]; exact h4 k k0 k1, fun k k0 k1 => by rw [f 33 (by decide) (by decide)]; exact h5 k k0 k1⟩
theorem RC1_cg {M M' : Mem} {A : AS} {H : Int → AS} {c : Int} {T TO : TX} {e o s : Int} {B : AS} (h : RC1 M A H c T TO e o s B) (f : frHi M M') : RC1 M' A H c T TO e o s B := by
  obtain ⟨h1, h2, h3, h4, h5, h6, h7, h8, h9⟩ := h
  exact ⟨CM_cg h1 (fun q _ q1 => f q (by omega)), HC_congr h2 (fun q _ q1 => f q (by omega)), iC_cg h3 (f 43 (by decide)) (f 44 (by decide)), oC_cg h4 (f 50 (by decide)) (f 51 (by decide)), by rw [f 45 (by decide)]; exact h5, by rw [f 45 (by decide)]; exact h6, fun i i0 i1 => by rw [f 1 (by decide)]; exact h7 i i0 i1, by rw [f 3 (by decide)]; exact h8, fun hs => RS_cg (h9 hs) (fun q _ q1 => f q (by omega))⟩
theorem RM1_cg {M M' : Mem} {A : AS} {H : Int → AS} {c : Int} {T TO : TX} {e o s : Int} {B : AS} (h : RM1 M A H c T TO e o s B) (f : frLo M M') : RM1 M' A H c T TO e o s B := by
  obtain ⟨h1, h2, h3, h4, h5, h6, h7, h8⟩ := h
  have e52 := f 52 (by decide)
  exact ⟨MM_congr h1 (f 53 (by decide)), HM_congr h2 (by rw [e52]) (f 56 (by decide)), iM_cg h3 (by rw [e52]) (f 61 (by decide)), oM_cg h4 (by rw [e52]) (f 64 (by decide)), by rw [e52]; exact h5, by rw [e52]; exact h6, by rw [e52]; exact h7, fun hs => by rw [f 55 (by decide)]; exact h8 hs⟩
section Rel
variable {fu : Nat} {M : Mem} {A B : AS} {H : Int → AS} {c : Int} {T TO : TX} {e o s : Int}
theorem loadSetup_RC {r : PRes} {m : Nat} {v : Int → Int} (h : RC1 M A H c T TO e o s B) (hP : PS T m 0 0 0 v r) (hfu : 2000 ≤ fu) :
    (r.1 ≠ 0 → ∃ M', f_X11_loadSetup fu M = some (M', -1) ∧ RC1 M' A H c (0, T.2) TO r.1 r.2.1 s B ∧ frLo M M') ∧
    (r.1 = 0 → ∃ M', f_X11_loadSetup fu M = some (M', r.2.2.1) ∧ 0 ≤ r.2.2.1 ∧ r.2.2.1 ≤ 64 ∧ (∃ vals, (∀ i, 0 ≤ i → i < r.2.2.1 → vals i = r.2.2.2 i) ∧ RC1 M' (mk0 r.2.2.1 vals) H 0 (0, T.2) TO 0 r.2.1 0 B) ∧ frLo M M') := by
  obtain ⟨h1, h2, h3, h4, h5, h6, h7, h8, h9⟩ := h
  obtain ⟨x1, x2⟩ := loadSetup_C (fu := fu) h3 h2 hP hfu
  refine ⟨fun h0 => ?_, fun h0 => ?_⟩
  · obtain ⟨M', e1, i1, n1, n2, f⟩ := x1 h0
    have g : ∀ q, q < 43 ∨ 47 < q ∨ q = 44 → M' q = M q := fun q hq => f q (by omega) (by omega) (by omega) (by omega)
    exact ⟨M', e1, ⟨CM_cg h1 (fun q _ q1 => g q (by omega)), HC_congr h2 (fun q _ q1 => g q (by omega)), i1, oC_cg h4 (g 50 (by decide)) (g 51 (by decide)), n1, n2, fun i i0 i1 => by rw [g 1 (by decide)]; exact h7 i i0 i1, by rw [g 3 (by decide)]; exact h8, fun hs => RS_cg (h9 hs) (fun q _ q1 => g q (by omega))⟩, fun q hq => g q (by omega)⟩
  · obtain ⟨M', e1, c0, c1, i1, n1, n2, ⟨vals, hv, r1⟩, hh, k2, k3, f⟩ := x2 h0
    exact ⟨M', e1, c0, c1, ⟨vals, hv, ⟨r1, hh H, i1, oC_cg h4 (f 50 (by decide) (by decide) (by decide) (by decide) (by decide) (by decide) (by decide)) (f 51 (by decide) (by decide) (by decide) (by decide) (by decide) (by decide) (by decide)), n1, n2, fun i i0 i1 => by rw [f 1 (by decide) (by decide) (by decide) (by decide) (by decide) (by decide) (by decide)]; exact h7 i i0 i1, k2, fun hs => absurd hs (by decide)⟩⟩, fun q hq => f q (by omega) (by omega) (by omega) (by omega) (by omega) (by omega) (by omega)⟩
theorem loadSetup_RM {r : PRes} {m : Nat} {v vals : Int → Int} (h : RM1 M A H c T TO e o s B) (hP : PS T m 0 0 0 v r) (hv : ∀ i, 0 ≤ i → i < r.2.2.1 → vals i = r.2.2.2 i) (hfu : 10000 ≤ fu) :
    (r.1 ≠ 0 → ∃ M', f_X12_loadSetup fu M = some (M', -1) ∧ RM1 M' A H c (0, T.2) TO r.1 r.2.1 s B ∧ M' 52 6 = 0 ∧ frHi M M') ∧
    (r.1 = 0 → ∃ M', f_X12_loadSetup fu M = some (M', r.2.2.1) ∧ RM1 M' (mk0 r.2.2.1 vals) H 0 (0, T.2) TO 0 r.2.1 0 B ∧ M' 52 6 = 0 ∧ frHi M M') := by
  obtain ⟨h1, h2, h3, h4, h5, h6, h7, h8⟩ := h
  obtain ⟨x1, x2⟩ := loadSetup_M (fu := fu) h3 hP hv hfu
  refine ⟨fun h0 => ?_, fun h0 => ?_⟩
  · obtain ⟨M', e1, i1, n1, n2, z6, f, f2⟩ := x1 h0
    exact ⟨M', e1, ⟨MM_congr h1 (f 53 (by decide) (by decide) (by decide)), HM_congr h2 (f2 4 (by decide) (by decide) (by decide)) (f 56 (by decide) (by decide) (by decide)), i1, oM_cg h4 (f2 27 (by decide) (by decide) (by decide)) (f 64 (by decide) (by decide) (by decide)), n1, n2, by rw [f2 5 (by decide) (by decide) (by decide)]; exact h7, fun hs => by rw [f 55 (by decide) (by decide) (by decide)]; exact h8 hs⟩, z6, fun q hq => f q (by omega) (by omega) (by omega)⟩
  · obtain ⟨M', e1, i1, n1, n2, z6, m1, hh, k5, f, f2⟩ := x2 h0
    exact ⟨M', e1, ⟨m1, hh H, i1, oM_cg h4 (f2 27 (by decide) (by decide) (by decide) (by decide) (by decide)) (f 64 (by decide) (by decide) (by decide) (by decide) (by decide) (by decide)), n1, n2, k5, fun hs => absurd hs (by decide)⟩, z6, fun q hq => f q (by omega) (by omega) (by omega) (by omega) (by omega) (by omega)⟩
theorem loadSetup_RG (h : RG A H c s B) (A' : AS) : RG A' H 0 0 B := ⟨fun j j0 j1 => absurd j1 (Int.not_lt.mpr j0), Or.inl rfl, fun hs => absurd hs (by decide)⟩
theorem runScript_RC {r : PRes} {m : Nat} {S : Int → Int} (h : RC1 M A H c T TO e o s B) (hg : RG A H c s B) (hP : PR T m 0 0 0 0 0 S r) (hfu : 2000 ≤ fu) :
    (r.1 ≠ 0 → ∃ M', f_X11_runScript fu M = some (M', -1) ∧ RC1 M' A H c (0, T.2) TO r.1 r.2.1 s B ∧ frLo M M') ∧
    (r.1 = 0 → ∃ M', f_X11_runScript fu M = some (M', (rnA r.2.2.2 r.2.2.1 31 0 A).1) ∧ RC1 M' (rnA r.2.2.2 r.2.2.1 31 0 A).2 (hPush H c A) (imin (c + 1) 8) (0, T.2) TO 0 r.2.1 s B ∧ frLo M M') := by
  obtain ⟨h1, h2, h3, h4, h5, h6, h7, h8, h9⟩ := h
  obtain ⟨x1, x2⟩ := runScript_C (fu := fu) h3 h7 h1 h2 hg.1 hP hfu
  refine ⟨fun h0 => ?_, fun h0 => ?_⟩
  · obtain ⟨M', e1, i1, n1, n2, f⟩ := x1 h0
    have g : ∀ q, q < 43 ∨ 49 < q ∨ q = 44 → M' q = M q := fun q hq => f q (by omega) (by omega) (by omega) (by omega)
    exact ⟨M', e1, ⟨CM_cg h1 (fun q _ q1 => g q (by omega)), HC_congr h2 (fun q _ q1 => g q (by omega)), i1, oC_cg h4 (g 50 (by decide)) (g 51 (by decide)), n1, n2, fun i i0 i1 => by rw [g 1 (by decide)]; exact h7 i i0 i1, by rw [g 3 (by decide)]; exact h8, fun hs => RS_cg (h9 hs) (fun q _ q1 => g q (by omega))⟩, fun q hq => g q (by omega)⟩
  · obtain ⟨M', e1, i1, n1, n2, r1, hh, f⟩ := x2 h0
    have g : ∀ q, q < 5 ∨ (18 < q ∧ q < 35) ∨ 49 < q → M' q = M q := fun q hq => f q (by omega) (by omega) (by omega) (by omega) (by omega) (by omega) (by omega)
    exact ⟨M', e1, ⟨r1, hh, i1, oC_cg h4 (g 50 (by decide)) (g 51 (by decide)), n1, n2, fun i i0 i1 => by rw [g 1 (by decide)]; exact h7 i i0 i1, by rw [g 3 (by decide)]; exact h8, fun hs => RS_cg (h9 hs) (fun q _ q1 => g q (by omega))⟩, fun q hq => g q (by omega)⟩
theorem runScript_RM {r : PRes} {m : Nat} {S : Int → Int} (h : RM1 M A H c T TO e o s B) (hg : RG A H c s B) (hP : PR T m 0 0 0 0 0 S r) (hfu : 40000 ≤ fu) :
    (r.1 ≠ 0 → ∃ M', f_X12_runScript fu M = some (M', -1) ∧ RM1 M' A H c (0, T.2) TO r.1 r.2.1 s B ∧ M' 52 6 = 0 ∧ frHi M M') ∧
    (r.1 = 0 → ∃ M', f_X12_runScript fu M = some (M', (rnA r.2.2.2 r.2.2.1 31 0 A).1) ∧ RM1 M' (rnA r.2.2.2 r.2.2.1 31 0 A).2 (hPush H c A) (imin (c + 1) 8) (0, T.2) TO 0 r.2.1 s B ∧ M' 52 6 = 0 ∧ frHi M M') := by
  obtain ⟨h1, h2, h3, h4, h5, h6, h7, h8⟩ := h
  obtain ⟨x1, x2⟩ := runScript_M (fu := fu) h3 h1 h2 hg.1 hP hfu
  refine ⟨fun h0 => ?_, fun h0 => ?_⟩
  · obtain ⟨M', e1, i1, n1, n2, z6, f, f2⟩ := x1 h0
    exact ⟨M', e1, ⟨MM_congr h1 (f 53 (by decide) (by decide) (by decide)), HM_congr h2 (f2 4 (by decide) (by decide) (by decide)) (f 56 (by decide) (by decide) (by decide)), i1, oM_cg h4 (f2 27 (by decide) (by decide) (by decide)) (f 64 (by decide) (by decide) (by decide)), n1, n2, by rw [f2 5 (by decide) (by decide) (by decide)]; exact h7, fun hs => by rw [f 55 (by decide) (by decide) (by decide)]; exact h8 hs⟩, z6, fun q hq => f q (by omega) (by omega) (by omega)⟩
  · obtain ⟨M', e1, i1, n1, n2, z6, m1, hh, f, f2⟩ := x2 h0
    exact ⟨M', e1, ⟨m1, hh, i1, oM_cg h4 (f2 27 (by decide) (by decide) (by decide) (by decide)) (f 64 (by decide) (by decide) (by decide) (by decide) (by decide) (by decide) (by decide)), n1, n2, by rw [f2 5 (by decide) (by decide) (by decide) (by decide)]; exact h7, fun hs => by rw [f 55 (by decide) (by decide) (by decide) (by decide) (by decide) (by decide) (by decide)]; exact h8 hs⟩, z6, fun q hq => f q (by omega) (by omega) (by omega) (by omega) (by omega) (by omega) (by omega)⟩
theorem runScript_RG (hA : Good A) (h : RG A H c s B) (hc : 0 ≤ c ∧ c ≤ 8) (S : Int → Int) (n : Int) : RG (rnA S n 31 0 A).2 (hPush H c A) (imin (c + 1) 8) s B := ⟨HI_sub (HI_push hA h.1 hc) (rnA_sub 31 0 A hA).1, h.2⟩
end Rel
