/-! the constructors' ends: behind the making of the cells -/
theorem lf_X11_83 : Cond.fieldLink RX11 83 "VectorVersions" "FIRST_ELEMENTS" "[I" ∈ wsA := tb_2 (List.mem_of_getElem? (i := 60) (by decide +kernel)) (by decide +kernel)
def f_X11_tail (fu : Nat) (M : Mem) : Option (Mem × Int) := cal (f_X8_begin fu M 0 10 10) fun M1 r2 => some (M1, 0)
def f_X12_tail_L166 (fu : Nat) : Nat → Int → Mem → Option (Mem × Int)
  | 0, _, _ => none
  | n + 1, x2, M => if (10 : Int) ≤ x2 then (cal (f_X12_begin fu (up M 52 9 (10 : Int))) fun M12 r13 => some (M12, 0)) else (grd (0 ≤ x2 ∧ x2 < 10) (grd (0 ≤ x2 ∧ x2 < 64) (grd (rng (x2 + (1 : Int))) (f_X12_tail_L166 fu n (x2 + (1 : Int)) (up M 58 (x2 : Int).toNat (M 65 (x2 : Int).toNat))))))
def f_X12_tail (fu : Nat) (M : Mem) : Option (Mem × Int) := grd (0 ≤ (0 : Int) ∧ (0 : Int) < 10) (grd (0 ≤ (1 : Int) ∧ (1 : Int) < 10) (grd (0 ≤ (2 : Int) ∧ (2 : Int) < 10) (grd (0 ≤ (3 : Int) ∧ (3 : Int) < 10) (grd (0 ≤ (4 : Int) ∧ (4 : Int) < 10) (grd (0 ≤ (5 : Int) ∧ (5 : Int) < 10) (grd (0 ≤ (6 : Int) ∧ (6 : Int) < 10) (grd (0 ≤ (7 : Int) ∧ (7 : Int) < 10) (grd (0 ≤ (8 : Int) ∧ (8 : Int) < 10) (grd (0 ≤ (9 : Int) ∧ (9 : Int) < 10) (f_X12_tail_L166 fu fu (0 : Int) (up (up (up (up (up (up (up (up (up (up M 65 ((0 : Int) : Int).toNat (5 : Int)) 65 ((1 : Int) : Int).toNat (-2 : Int)) 65 ((2 : Int) : Int).toNat (7 : Int)) 65 ((3 : Int) : Int).toNat (7 : Int)) 65 ((4 : Int) : Int).toNat (0 : Int)) 65 ((5 : Int) : Int).toNat (12 : Int)) 65 ((6 : Int) : Int).toNat (3 : Int)) 65 ((7 : Int) : Int).toNat (1 : Int)) 65 ((8 : Int) : Int).toNat (9 : Int)) 65 ((9 : Int) : Int).toNat (4 : Int))))))))))))
set_option maxRecDepth 100000 in
set_option maxHeartbeats 4000000 in
theorem c_X11_tail (l : Launch) (Γ : GG) (sk : List SD) (hsk : Ext sk) (fu : Nat) {M M' : Mem} {r : Int} (hM : mR M) (h : f_X11_tail fu M = some (M', r)) {p : Program} {e : Env} {s : State} {m : MethodId} {args : Array Value} {below : List Frame} {meth : Method} {c : Code} {Q : State → Prop} {cells slots : Nat} (hft : cells ≤ 48 ∧ slots ≤ 5507) (C : CX p s m args c cX11_init 1 RX11 Γ sk) (fin : VV p l e ({ frames := 60, cells := 48, slots := 5507, locals := 3000 } : Room) s m args below meth c Q 1 Γ sk M' cells slots 152 [] []) : VV p l e ({ frames := 60, cells := 48, slots := 5507, locals := 3000 } : Room) s m args below meth c Q 1 Γ sk M cells slots 138 [(0, vr Γ 3)] [] := by
  unfold f_X11_tail at h
  have e0 := hsk 0 _ (by decide) rfl
  have e3 := hsk 3 _ (by decide) rfl
  have e4 := hsk 4 _ (by decide) rfl
  refine V_aload_n (pc := 138) C 0 rfl dX11_init_138 ?_
  refine V_getR (pc := 139) C e3 rfl inX11 0 (by decide) rfl lf_X11_10 rfl dX11_init_139 ?_
  refine V_gets (pc := 142) C C.2.2.2.2.2.2.2.2.1 lf_X11_83 dX11_init_142 ?_
  refine V_gets (pc := 145) C C.2.2.2.2.2.2.2.2.1 lf_X11_83 dX11_init_145 ?_
  refine V_alen (pc := 148) C e0 dX11_init_148 ?_
  obtain ⟨M1, r2, hc3, h⟩ := cal_of h
  refine V_callVV (pc := 149) C (c_X8_begin l Γ sk hsk fu e0 (by decide) (by decide) hc3) cf_X8_begin lk_X11_87 ⟨rfl, rfl⟩ ⟨Nat.le_of_ble_eq_true rfl, Nat.le_of_ble_eq_true rfl⟩ e4 rfl rfl rfl (Nat.le_of_ble_eq_true rfl) hft rfl dX11_init_149 ?_
  refine V_sub (L' := []) [] rfl (by decide) ?_
  cases h
  exact fin
set_option maxRecDepth 100000 in
set_option maxHeartbeats 4000000 in
theorem c_X12_tail (l : Launch) (Γ : GG) (sk : List SD) (hsk : ExtM sk) (e65t : sk[65]? = some (.inl (0, 10))) (fu : Nat) {M M' : Mem} {r : Int} (hM : mR M) (h : f_X12_tail fu M = some (M', r)) {p : Program} {e : Env} {s : State} {m : MethodId} {args : Array Value} {below : List Frame} {meth : Method} {c : Code} {Q : State → Prop} {cells slots : Nat} (hft : cells ≤ 14 ∧ slots ≤ 47758) (C : CX p s m args c cX12_init 3 RX12 Γ sk) (fin : VV p l e ({ frames := 60, cells := 14, slots := 47758, locals := 3000 } : Room) s m args below meth c Q 3 Γ sk M' cells slots 197 [] []) : VV p l e ({ frames := 60, cells := 14, slots := 47758, locals := 3000 } : Room) s m args below meth c Q 3 Γ sk M cells slots 114 [(0, vr Γ 52)] [vr Γ 65] := by
  unfold f_X12_tail at h
  have e52 := hsk 52 _ (by decide) rfl
  have e58 := hsk 58 _ (by decide) rfl
  have LP166 : ∀ (n : Nat) {x2 : Int} {M : Mem}, rng x2 → f_X12_tail_L166 fu n x2 M = some (M', r) → VV p l e ({ frames := 60, cells := 14, slots := 47758, locals := 3000 } : Room) s m args below meth c Q 3 Γ sk M cells slots 166 [(0, vr Γ 52), (1, vr Γ 65), (2, vi x2)] [] := by
    intro n
    induction n with
    | zero =>
      intro x2 M hx2 h
      cases h
    | succ n ih =>
      intro x2 M hx2 h
      rw [f_X12_tail_L166] at h
      refine V_iload_n (pc := 166) C 2 rfl dX12_init_166 ?_
      refine V_aload_n (pc := 167) C 1 rfl dX12_init_167 ?_
      refine V_alen (pc := 168) C e65t dX12_init_168 ?_
      refine V_icmp_ge (pc := 169) C 187 hx2 (nat_rng (by decide)) dX12_init_169 (by decide) (fun c169_11 => ?_) (fun c169_11 => ?_)
      · have h := ite_t h c169_11
        refine V_aload_n (pc := 187) C 0 rfl dX12_init_187 ?_
        refine V_aload_n (pc := 188) C 1 rfl dX12_init_188 ?_
        refine V_alen (pc := 189) C e65t dX12_init_189 ?_
        refine V_putI (pc := 190) C (by decide) e52 rfl inX12 tyX12 tyX12_ok nmX12 9 (by decide) rfl rfl lf_X12_52 rfl (nat_rng (by decide)) rfl dX12_init_190 ?_
        refine V_aload_n (pc := 193) C 0 rfl dX12_init_193 ?_
        obtain ⟨M12, r13, hc14, h⟩ := cal_of h
        refine V_callVV (pc := 194) C (c_X12_begin l Γ sk hsk fu hc14) cf_X12_begin lk_X12_55 ⟨rfl, rfl⟩ ⟨Nat.le_of_ble_eq_true rfl, Nat.le_of_ble_eq_true rfl⟩ e52 rfl rfl rfl (Nat.le_of_ble_eq_true rfl) hft rfl dX12_init_194 ?_
        refine V_sub (L' := []) [] rfl (by decide) ?_
        cases h
        exact fin
      · have h := ite_f h c169_11
        refine V_aload_n (pc := 172) C 0 rfl dX12_init_172 ?_
        refine V_getR (pc := 173) C e52 rfl inX12 8 (by decide) rfl lf_X12_26 rfl dX12_init_173 ?_
        refine V_iload_n (pc := 176) C 2 rfl dX12_init_176 ?_
        refine V_aload_n (pc := 177) C 1 rfl dX12_init_177 ?_
        refine V_iload_n (pc := 178) C 2 rfl dX12_init_178 ?_
        refine V_rng fun hM15 => ?_
        obtain ⟨g16, h⟩ := grd_of h
        refine V_iald (pc := 179) C e65t g16 hx2 dX12_init_179 ?_
        obtain ⟨g17, h⟩ := grd_of h
        refine V_iast (pc := 180) C (by decide) e58 g17 hx2 (hM15 _ _) dX12_init_180 ?_
        refine V_iinc (pc := 181) C (L' := [(0, vr Γ 52), (1, vr Γ 65), (2, vi (x2 + (1 : Int)))]) 2 rfl rfl (by decide) dX12_init_181 ?_
        refine V_goto (pc := 184) C 166 dX12_init_184 (by decide) ?_
        obtain ⟨g18, h⟩ := grd_of h
        refine V_sub (L' := [(0, vr Γ 52), (1, vr Γ 65), (2, vi (x2 + (1 : Int)))]) [0, 1, 2] rfl (by decide) ?_
        exact ih g18 h
  refine V_dup (pc := 114) C rfl dX12_init_114 ?_
  refine V_iconst (pc := 115) C dX12_init_115 ?_
  refine V_iconst (pc := 116) C dX12_init_116 ?_
  obtain ⟨g1, h⟩ := grd_of h
  refine V_iast (pc := 117) C (by decide) e65t g1 (by decide) (by decide) dX12_init_117 ?_
  refine V_dup (pc := 118) C rfl dX12_init_118 ?_
  refine V_iconst (pc := 119) C dX12_init_119 ?_
  refine V_bipush (pc := 120) C dX12_init_120 rfl ?_
  obtain ⟨g2, h⟩ := grd_of h
  refine V_iast (pc := 122) C (by decide) e65t g2 (by decide) (by decide) dX12_init_122 ?_
  refine V_dup (pc := 123) C rfl dX12_init_123 ?_
  refine V_iconst (pc := 124) C dX12_init_124 ?_
  refine V_bipush (pc := 125) C dX12_init_125 rfl ?_
  obtain ⟨g3, h⟩ := grd_of h
  refine V_iast (pc := 127) C (by decide) e65t g3 (by decide) (by decide) dX12_init_127 ?_
  refine V_dup (pc := 128) C rfl dX12_init_128 ?_
  refine V_iconst (pc := 129) C dX12_init_129 ?_
  refine V_bipush (pc := 130) C dX12_init_130 rfl ?_
  obtain ⟨g4, h⟩ := grd_of h
  refine V_iast (pc := 132) C (by decide) e65t g4 (by decide) (by decide) dX12_init_132 ?_
  refine V_dup (pc := 133) C rfl dX12_init_133 ?_
  refine V_iconst (pc := 134) C dX12_init_134 ?_
  refine V_iconst (pc := 135) C dX12_init_135 ?_
  obtain ⟨g5, h⟩ := grd_of h
  refine V_iast (pc := 136) C (by decide) e65t g5 (by decide) (by decide) dX12_init_136 ?_
  refine V_dup (pc := 137) C rfl dX12_init_137 ?_
  refine V_iconst (pc := 138) C dX12_init_138 ?_
  refine V_bipush (pc := 139) C dX12_init_139 rfl ?_
  obtain ⟨g6, h⟩ := grd_of h
  refine V_iast (pc := 141) C (by decide) e65t g6 (by decide) (by decide) dX12_init_141 ?_
  refine V_dup (pc := 142) C rfl dX12_init_142 ?_
  refine V_bipush (pc := 143) C dX12_init_143 rfl ?_
  refine V_iconst (pc := 145) C dX12_init_145 ?_
  obtain ⟨g7, h⟩ := grd_of h
  refine V_iast (pc := 146) C (by decide) e65t g7 (by decide) (by decide) dX12_init_146 ?_
  refine V_dup (pc := 147) C rfl dX12_init_147 ?_
  refine V_bipush (pc := 148) C dX12_init_148 rfl ?_
  refine V_iconst (pc := 150) C dX12_init_150 ?_
  obtain ⟨g8, h⟩ := grd_of h
  refine V_iast (pc := 151) C (by decide) e65t g8 (by decide) (by decide) dX12_init_151 ?_
  refine V_dup (pc := 152) C rfl dX12_init_152 ?_
  refine V_bipush (pc := 153) C dX12_init_153 rfl ?_
  refine V_bipush (pc := 155) C dX12_init_155 rfl ?_
  obtain ⟨g9, h⟩ := grd_of h
  refine V_iast (pc := 157) C (by decide) e65t g9 (by decide) (by decide) dX12_init_157 ?_
  refine V_dup (pc := 158) C rfl dX12_init_158 ?_
  refine V_bipush (pc := 159) C dX12_init_159 rfl ?_
  refine V_iconst (pc := 161) C dX12_init_161 ?_
  obtain ⟨g10, h⟩ := grd_of h
  refine V_iast (pc := 162) C (by decide) e65t g10 (by decide) (by decide) dX12_init_162 ?_
  refine V_astore_n (pc := 163) C (L' := [(0, vr Γ 52), (1, vr Γ 65)]) rfl (by decide) dX12_init_163 ?_
  refine V_iconst (pc := 164) C dX12_init_164 ?_
  refine V_istore_n (pc := 165) C (L' := [(0, vr Γ 52), (1, vr Γ 65), (2, vi (0 : Int))]) rfl (by decide) dX12_init_165 ?_
  refine V_sub (L' := [(0, vr Γ 52), (1, vr Γ 65), (2, vi (0 : Int))]) [0, 1, 2] rfl (by decide) ?_
  exact LP166 fu  (by decide) h
