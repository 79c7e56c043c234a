/-! the law's loop -/
theorem tabout_law {x : Int} (h0 : ¬ x = 0) (h1 : ¬ x = 1) (h2 : ¬ x = 2) (h3 : ¬ x = 3) (h4 : ¬ x = 4) (h5 : ¬ x = 5) (h6 : ¬ x = 6) (h7 : ¬ x = 7) (h8 : ¬ x = 8) (h9 : ¬ x = 9) (h10 : ¬ x = 10) (h11 : ¬ x = 11) (h12 : ¬ x = 12) (h13 : ¬ x = 13) (h14 : ¬ x = 14) (h15 : ¬ x = 15) (h16 : ¬ x = 16) (h17 : ¬ x = 17) (h18 : ¬ x = 18) (h19 : ¬ x = 19) (h20 : ¬ x = 20) (h21 : ¬ x = 21) (h22 : ¬ x = 22) (h23 : ¬ x = 23) (h24 : ¬ x = 24) (h25 : ¬ x = 25) (h26 : ¬ x = 26) (h27 : ¬ x = 27) (h28 : ¬ x = 28) (h29 : ¬ x = 29) (h30 : ¬ x = 30) (h31 : ¬ x = 31) (h32 : ¬ x = 32) (h33 : ¬ x = 33) (h34 : ¬ x = 34) (h35 : ¬ x = 35) (h36 : ¬ x = 36) (h37 : ¬ x = 37) (h38 : ¬ x = 38) (h39 : ¬ x = 39) (h40 : ¬ x = 40) (h41 : ¬ x = 41) (h42 : ¬ x = 42) (h43 : ¬ x = 43) (h44 : ¬ x = 44) (h45 : ¬ x = 45) (h46 : ¬ x = 46) (h47 : ¬ x = 47) (h48 : ¬ x = 48) (h49 : ¬ x = 49) (h50 : ¬ x = 50) : x < 0 ∨ 50 < x := by omega
section LawLoop
variable {p : Program} {l : Launch} {e : Env} {s : State} {m : MethodId} {args : Array Value} {below : List Frame} {meth : Method} {c : Code} {Q : State → Prop} {Γ : GG} {sk : List SD}
def LIv (M : Mem) : Prop := ∃ (A : AS) (H : Int → AS) (c : Int) (T TO : TX) (e o s : Int) (B : AS), INV M A H c T TO e o s B
set_option maxRecDepth 100000 in
set_option maxHeartbeats 4000000 in
theorem law_turn (hsk : ExtL sk) (hl9 : l.stackTraces = false) {nS : Nat} (hs2 : sk[2]? = some (.inl (0, nS))) (hnS : nS ≤ 3072) (C : CX p s m args c cL_law 9 RL Γ sk) {x4 : Int} (hx : 0 ≤ x4) (hn : x4 + 6 ≤ nS) {M : Mem} (hM : mR M) (hI : LIv M) {cells slots : Nat} (hf1 : cells + 1 ≤ room_1.cells ∧ slots + 6 ≤ room_1.slots) {z : Int} (hz : rng z) (kk : ∀ M' : Mem, LIv M' → VV p l e room_1 s m args below meth c Q 9 Γ sk M' (cells + 1) (slots + 6) 2654 [(0, vr Γ 2), (1, vr Γ 3), (2, vr Γ 52), (3, vr Γ 65), (4, vi x4)] []) : VV p l e room_1 s m args below meth c Q 9 Γ sk M cells slots 40 [(0, vr Γ 2), (1, vr Γ 3), (2, vr Γ 52), (3, vr Γ 65), (4, vi x4)] [vi z] := by
  have hx4 : rng x4 := ⟨by omega, by omega⟩
  have hnS2 : nS ≤ 2147483647 := by omega
  obtain ⟨A, H, cc, T, TO, ee, oo, ss, B, hI⟩ := hI
  by_cases k0 : z = 0
  · refine V_tabIn (pc := 40) C 260 (0 : Int) k0 hz dL_law_40 (by decide) (by decide) rfl (by decide) ?_
    obtain ⟨M9, e9, l9⟩ := case0_ok (fu := 40000) hM hI (by decide) hx hn hnS
    exact c_L_case0 l Γ sk hsk hl9 40000 hs2 hnS2 hx4 hM e9 hf1 C (kk M9 l9.2)
  by_cases k1 : z = 1
  · refine V_tabIn (pc := 40) C 333 (1 : Int) k1 hz dL_law_40 (by decide) (by decide) rfl (by decide) ?_
    obtain ⟨M9, e9, l9⟩ := case1_ok (fu := 40000) hI hx hn hnS
    exact c_L_case1 l Γ sk hsk hl9 40000 hs2 hnS2 hx4 hM e9 hf1 C (kk M9 l9.2)
  by_cases k2 : z = 2
  · refine V_tabIn (pc := 40) C 358 (2 : Int) k2 hz dL_law_40 (by decide) (by decide) rfl (by decide) ?_
    obtain ⟨M9, e9, l9⟩ := case2_ok (fu := 40000) hI (by decide) nS x4
    exact c_L_case2 l Γ sk hsk hl9 40000 hs2 hnS2 hx4 hM e9 hf1 C (kk M9 l9.2)
  by_cases k3 : z = 3
  · refine V_tabIn (pc := 40) C 371 (3 : Int) k3 hz dL_law_40 (by decide) (by decide) rfl (by decide) ?_
    obtain ⟨M9, e9, l9⟩ := case3_ok (fu := 40000) hI (by decide) nS x4
    exact c_L_case3 l Γ sk hsk hl9 40000 hs2 hnS2 hx4 hM e9 hf1 C (kk M9 l9.2)
  by_cases k4 : z = 4
  · refine V_tabIn (pc := 40) C 384 (4 : Int) k4 hz dL_law_40 (by decide) (by decide) rfl (by decide) ?_
    obtain ⟨M9, e9, l9⟩ := case4_ok (fu := 40000) hI nS x4
    exact c_L_case4 l Γ sk hsk hl9 40000 hs2 hnS2 hx4 hM e9 hf1 C (kk M9 l9.2)
  by_cases k5 : z = 5
  · refine V_tabIn (pc := 40) C 397 (5 : Int) k5 hz dL_law_40 (by decide) (by decide) rfl (by decide) ?_
    obtain ⟨M9, e9, l9⟩ := case5_ok (fu := 40000) hI nS x4
    exact c_L_case5 l Γ sk hsk hl9 40000 hs2 hnS2 hx4 hM e9 hf1 C (kk M9 l9.2)
  by_cases k6 : z = 6
  · refine V_tabIn (pc := 40) C 410 (6 : Int) k6 hz dL_law_40 (by decide) (by decide) rfl (by decide) ?_
    obtain ⟨M9, e9, l9⟩ := case6_ok (fu := 40000) hI nS x4
    exact c_L_case6 l Γ sk hsk hl9 40000 hs2 hnS2 hx4 hM e9 hf1 C (kk M9 l9.2)
  by_cases k7 : z = 7
  · refine V_tabIn (pc := 40) C 423 (7 : Int) k7 hz dL_law_40 (by decide) (by decide) rfl (by decide) ?_
    obtain ⟨M9, e9, l9⟩ := case7_ok (fu := 40000) hI (by decide) nS x4
    exact c_L_case7 l Γ sk hsk hl9 40000 hs2 hnS2 hx4 hM e9 hf1 C (kk M9 l9.2)
  by_cases k8 : z = 8
  · refine V_tabIn (pc := 40) C 436 (8 : Int) k8 hz dL_law_40 (by decide) (by decide) rfl (by decide) ?_
    obtain ⟨M9, e9, l9⟩ := case8_ok (fu := 40000) hI (by decide) hx hn hnS
    exact c_L_case8 l Γ sk hsk hl9 40000 hs2 hnS2 hx4 hM e9 hf1 C (kk M9 l9.2)
  by_cases k9 : z = 9
  · refine V_tabIn (pc := 40) C 499 (9 : Int) k9 hz dL_law_40 (by decide) (by decide) rfl (by decide) ?_
    obtain ⟨M9, e9, l9⟩ := case9_ok (fu := 40000) hI (by decide) hx hn hnS
    exact c_L_case9 l Γ sk hsk hl9 40000 hs2 hnS2 hx4 hM e9 hf1 C (kk M9 l9.2)
  by_cases k10 : z = 10
  · refine V_tabIn (pc := 40) C 555 (10 : Int) k10 hz dL_law_40 (by decide) (by decide) rfl (by decide) ?_
    obtain ⟨M9, e9, l9⟩ := case10_ok (fu := 40000) hI (by decide) hx hn hnS
    exact c_L_case10 l Γ sk hsk hl9 40000 hs2 hnS2 hx4 hM e9 hf1 C (kk M9 l9.2)
  by_cases k11 : z = 11
  · refine V_tabIn (pc := 40) C 611 (11 : Int) k11 hz dL_law_40 (by decide) (by decide) rfl (by decide) ?_
    obtain ⟨M9, e9, l9⟩ := case11_ok (fu := 40000) hI (by decide) hx hn hnS
    exact c_L_case11 l Γ sk hsk hl9 40000 hs2 hnS2 hx4 hM e9 hf1 C (kk M9 l9.2)
  by_cases k12 : z = 12
  · refine V_tabIn (pc := 40) C 667 (12 : Int) k12 hz dL_law_40 (by decide) (by decide) rfl (by decide) ?_
    obtain ⟨M9, e9, l9⟩ := case12_ok (fu := 40000) hI (by decide) hx hn hnS
    exact c_L_case12 l Γ sk hsk hl9 40000 hs2 hnS2 hx4 hM e9 hf1 C (kk M9 l9.2)
  by_cases k13 : z = 13
  · refine V_tabIn (pc := 40) C 735 (13 : Int) k13 hz dL_law_40 (by decide) (by decide) rfl (by decide) ?_
    obtain ⟨M9, e9, l9⟩ := case13_ok (fu := 40000) hI (by decide) hx hn hnS
    exact c_L_case13 l Γ sk hsk hl9 40000 hs2 hnS2 hx4 hM e9 hf1 C (kk M9 l9.2)
  by_cases k14 : z = 14
  · refine V_tabIn (pc := 40) C 791 (14 : Int) k14 hz dL_law_40 (by decide) (by decide) rfl (by decide) ?_
    obtain ⟨M9, e9, l9⟩ := case14_ok (fu := 40000) hI (by decide) hx hn hnS
    exact c_L_case14 l Γ sk hsk hl9 40000 hs2 hnS2 hx4 hM e9 hf1 C (kk M9 l9.2)
  by_cases k15 : z = 15
  · refine V_tabIn (pc := 40) C 847 (15 : Int) k15 hz dL_law_40 (by decide) (by decide) rfl (by decide) ?_
    obtain ⟨M9, e9, l9⟩ := case15_ok (fu := 40000) hI (by decide) hx hn hnS
    exact c_L_case15 l Γ sk hsk hl9 40000 hs2 hnS2 hx4 hM e9 hf1 C (kk M9 l9.2)
  by_cases k16 : z = 16
  · refine V_tabIn (pc := 40) C 903 (16 : Int) k16 hz dL_law_40 (by decide) (by decide) rfl (by decide) ?_
    obtain ⟨M9, e9, l9⟩ := case16_ok (fu := 40000) hI (by decide) hx hn hnS
    exact c_L_case16 l Γ sk hsk hl9 40000 hs2 hnS2 hx4 hM e9 hf1 C (kk M9 l9.2)
  by_cases k17 : z = 17
  · refine V_tabIn (pc := 40) C 971 (17 : Int) k17 hz dL_law_40 (by decide) (by decide) rfl (by decide) ?_
    obtain ⟨M9, e9, l9⟩ := case17_ok (fu := 40000) hI (by decide) hx hn hnS
    exact c_L_case17 l Γ sk hsk hl9 40000 hs2 hnS2 hx4 hM e9 hf1 C (kk M9 l9.2)
  by_cases k18 : z = 18
  · refine V_tabIn (pc := 40) C 1039 (18 : Int) k18 hz dL_law_40 (by decide) (by decide) rfl (by decide) ?_
    obtain ⟨M9, e9, l9⟩ := case18_ok (fu := 40000) hI (by decide) hx hn hnS
    exact c_L_case18 l Γ sk hsk hl9 40000 hs2 hnS2 hx4 hM e9 hf1 C (kk M9 l9.2)
  by_cases k19 : z = 19
  · refine V_tabIn (pc := 40) C 1095 (19 : Int) k19 hz dL_law_40 (by decide) (by decide) rfl (by decide) ?_
    obtain ⟨M9, e9, l9⟩ := case19_ok (fu := 40000) hI (by decide) hx hn hnS
    exact c_L_case19 l Γ sk hsk hl9 40000 hs2 hnS2 hx4 hM e9 hf1 C (kk M9 l9.2)
  by_cases k20 : z = 20
  · refine V_tabIn (pc := 40) C 1163 (20 : Int) k20 hz dL_law_40 (by decide) (by decide) rfl (by decide) ?_
    obtain ⟨M9, e9, l9⟩ := case20_ok (fu := 40000) hI nS x4
    exact c_L_case20 l Γ sk hsk hl9 40000 hs2 hnS2 hx4 hM e9 hf1 C (kk M9 l9.2)
  by_cases k21 : z = 21
  · refine V_tabIn (pc := 40) C 1176 (21 : Int) k21 hz dL_law_40 (by decide) (by decide) rfl (by decide) ?_
    obtain ⟨M9, e9, l9⟩ := case21_ok (fu := 40000) hI (by decide) nS x4
    exact c_L_case21 l Γ sk hsk hl9 40000 hs2 hnS2 hx4 hM e9 hf1 C (kk M9 l9.2)
  by_cases k22 : z = 22
  · refine V_tabIn (pc := 40) C 1189 (22 : Int) k22 hz dL_law_40 (by decide) (by decide) rfl (by decide) ?_
    obtain ⟨M9, e9, l9⟩ := case22_ok (fu := 40000) hI (by decide) nS x4
    exact c_L_case22 l Γ sk hsk hl9 40000 hs2 hnS2 hx4 hM e9 hf1 C (kk M9 l9.2)
  by_cases k23 : z = 23
  · refine V_tabIn (pc := 40) C 1202 (23 : Int) k23 hz dL_law_40 (by decide) (by decide) rfl (by decide) ?_
    obtain ⟨M9, e9, l9⟩ := case23_ok (fu := 40000) hI (by decide) hx hn hnS
    exact c_L_case23 l Γ sk hsk hl9 40000 hs2 hnS2 hx4 hM e9 hf1 C (kk M9 l9.2)
  by_cases k24 : z = 24
  · refine V_tabIn (pc := 40) C 1258 (24 : Int) k24 hz dL_law_40 (by decide) (by decide) rfl (by decide) ?_
    obtain ⟨M9, e9, l9⟩ := case24_ok (fu := 40000) hI (by decide) hx hn hnS
    exact c_L_case24 l Γ sk hsk hl9 40000 hs2 hnS2 hx4 hM e9 hf1 C (kk M9 l9.2)
  by_cases k25 : z = 25
  · refine V_tabIn (pc := 40) C 1314 (25 : Int) k25 hz dL_law_40 (by decide) (by decide) rfl (by decide) ?_
    obtain ⟨M9, e9, l9⟩ := case25_ok (fu := 40000) hI (by decide) hx hn hnS
    exact c_L_case25 l Γ sk hsk hl9 40000 hs2 hnS2 hx4 hM e9 hf1 C (kk M9 l9.2)
  by_cases k26 : z = 26
  · refine V_tabIn (pc := 40) C 1382 (26 : Int) k26 hz dL_law_40 (by decide) (by decide) rfl (by decide) ?_
    obtain ⟨M9, e9, l9⟩ := case26_ok (fu := 40000) hI (by decide) hx hn hnS
    exact c_L_case26 l Γ sk hsk hl9 40000 hs2 hnS2 hx4 hM e9 hf1 C (kk M9 l9.2)
  by_cases k27 : z = 27
  · refine V_tabIn (pc := 40) C 1438 (27 : Int) k27 hz dL_law_40 (by decide) (by decide) rfl (by decide) ?_
    obtain ⟨M9, e9, l9⟩ := case27_ok (fu := 40000) hI (by decide) hx hn hnS
    exact c_L_case27 l Γ sk hsk hl9 40000 hs2 hnS2 hx4 hM e9 hf1 C (kk M9 l9.2)
  by_cases k28 : z = 28
  · refine V_tabIn (pc := 40) C 1501 (28 : Int) k28 hz dL_law_40 (by decide) (by decide) rfl (by decide) ?_
    obtain ⟨M9, e9, l9⟩ := case28_ok (fu := 40000) hI (by decide) hx hn hnS
    exact c_L_case28 l Γ sk hsk hl9 40000 hs2 hnS2 hx4 hM e9 hf1 C (kk M9 l9.2)
  by_cases k29 : z = 29
  · refine V_tabIn (pc := 40) C 1557 (29 : Int) k29 hz dL_law_40 (by decide) (by decide) rfl (by decide) ?_
    obtain ⟨M9, e9, l9⟩ := case29_ok (fu := 40000) hI (by decide) hx hn hnS
    exact c_L_case29 l Γ sk hsk hl9 40000 hs2 hnS2 hx4 hM e9 hf1 C (kk M9 l9.2)
  by_cases k30 : z = 30
  · refine V_tabIn (pc := 40) C 1625 (30 : Int) k30 hz dL_law_40 (by decide) (by decide) rfl (by decide) ?_
    obtain ⟨M9, e9, l9⟩ := case30_ok (fu := 40000) hI (by decide) hx hn hnS
    exact c_L_case30 l Γ sk hsk hl9 40000 hs2 hnS2 hx4 hM e9 hf1 C (kk M9 l9.2)
  by_cases k31 : z = 31
  · refine V_tabIn (pc := 40) C 1681 (31 : Int) k31 hz dL_law_40 (by decide) (by decide) rfl (by decide) ?_
    obtain ⟨M9, e9, l9⟩ := case31_ok (fu := 40000) hI (by decide) hx hn hnS
    exact c_L_case31 l Γ sk hsk hl9 40000 hs2 hnS2 hx4 hM e9 hf1 C (kk M9 l9.2)
  by_cases k32 : z = 32
  · refine V_tabIn (pc := 40) C 1749 (32 : Int) k32 hz dL_law_40 (by decide) (by decide) rfl (by decide) ?_
    obtain ⟨M9, e9, l9⟩ := case32_ok (fu := 40000) hI (by decide) hx hn hnS
    exact c_L_case32 l Γ sk hsk hl9 40000 hs2 hnS2 hx4 hM e9 hf1 C (kk M9 l9.2)
  by_cases k33 : z = 33
  · refine V_tabIn (pc := 40) C 1817 (33 : Int) k33 hz dL_law_40 (by decide) (by decide) rfl (by decide) ?_
    obtain ⟨M9, e9, l9⟩ := case33_ok (fu := 40000) hI (by decide) hx hn hnS
    exact c_L_case33 l Γ sk hsk hl9 40000 hs2 hnS2 hx4 hM e9 hf1 C (kk M9 l9.2)
  by_cases k34 : z = 34
  · refine V_tabIn (pc := 40) C 1885 (34 : Int) k34 hz dL_law_40 (by decide) (by decide) rfl (by decide) ?_
    obtain ⟨M9, e9, l9⟩ := case34_ok (fu := 40000) hI (by decide) hx hn hnS
    exact c_L_case34 l Γ sk hsk hl9 40000 hs2 hnS2 hx4 hM e9 hf1 C (kk M9 l9.2)
  by_cases k35 : z = 35
  · refine V_tabIn (pc := 40) C 1965 (35 : Int) k35 hz dL_law_40 (by decide) (by decide) rfl (by decide) ?_
    obtain ⟨M9, e9, l9⟩ := case35_ok (fu := 40000) hI (by decide) hx hn hnS
    exact c_L_case35 l Γ sk hsk hl9 40000 hs2 hnS2 hx4 hM e9 hf1 C (kk M9 l9.2)
  by_cases k36 : z = 36
  · refine V_tabIn (pc := 40) C 2021 (36 : Int) k36 hz dL_law_40 (by decide) (by decide) rfl (by decide) ?_
    obtain ⟨M9, e9, l9⟩ := case36_ok (fu := 40000) hI (by decide) hx hn hnS
    exact c_L_case36 l Γ sk hsk hl9 40000 hs2 hnS2 hx4 hM e9 hf1 C (kk M9 l9.2)
  by_cases k37 : z = 37
  · refine V_tabIn (pc := 40) C 2077 (37 : Int) k37 hz dL_law_40 (by decide) (by decide) rfl (by decide) ?_
    obtain ⟨M9, e9, l9⟩ := case37_ok (fu := 40000) hI (by decide) nS x4
    exact c_L_case37 l Γ sk hsk hl9 40000 hs2 hnS2 hx4 hM e9 hf1 C (kk M9 l9.2)
  by_cases k38 : z = 38
  · refine V_tabIn (pc := 40) C 2090 (38 : Int) k38 hz dL_law_40 (by decide) (by decide) rfl (by decide) ?_
    obtain ⟨M9, e9, l9⟩ := case38_ok (fu := 40000) hI (by decide)
    exact c_L_case38 l Γ sk hsk 40000 e9 hf1 C (kk M9 l9.2)
  by_cases k39 : z = 39
  · refine V_tabIn (pc := 40) C 2131 (39 : Int) k39 hz dL_law_40 (by decide) (by decide) rfl (by decide) ?_
    obtain ⟨M9, e9, l9⟩ := case39_ok (fu := 40000) hI (by decide)
    exact c_L_case39 l Γ sk hsk 40000 e9 hf1 C (kk M9 l9.2)
  by_cases k40 : z = 40
  · refine V_tabIn (pc := 40) C 2174 (40 : Int) k40 hz dL_law_40 (by decide) (by decide) rfl (by decide) ?_
    obtain ⟨M9, e9, l9⟩ := case40_ok (fu := 40000) hI (by decide) nS x4
    exact c_L_case40 l Γ sk hsk hl9 40000 hs2 hnS2 hx4 hM e9 hf1 C (kk M9 l9.2)
  by_cases k41 : z = 41
  · refine V_tabIn (pc := 40) C 2187 (41 : Int) k41 hz dL_law_40 (by decide) (by decide) rfl (by decide) ?_
    obtain ⟨M9, e9, l9⟩ := case41_ok (fu := 40000) hI (by decide) hx hn hnS
    exact c_L_case41 l Γ sk hsk hl9 40000 hs2 hnS2 hx4 hM e9 hf1 C (kk M9 l9.2)
  by_cases k42 : z = 42
  · refine V_tabIn (pc := 40) C 2267 (42 : Int) k42 hz dL_law_40 (by decide) (by decide) rfl (by decide) ?_
    obtain ⟨M9, e9, l9⟩ := case42_ok (fu := 40000) hI (by decide) hx hn hnS
    exact c_L_case42 l Γ sk hsk hl9 40000 hs2 hnS2 hx4 hM e9 hf1 C (kk M9 l9.2)
  by_cases k43 : z = 43
  · refine V_tabIn (pc := 40) C 2335 (43 : Int) k43 hz dL_law_40 (by decide) (by decide) rfl (by decide) ?_
    obtain ⟨M9, e9, l9⟩ := case43_ok (fu := 40000) hI (by decide) hx hn hnS
    exact c_L_case43 l Γ sk hsk hl9 40000 hs2 hnS2 hx4 hM e9 hf1 C (kk M9 l9.2)
  by_cases k44 : z = 44
  · refine V_tabIn (pc := 40) C 2403 (44 : Int) k44 hz dL_law_40 (by decide) (by decide) rfl (by decide) ?_
    obtain ⟨M9, e9, l9⟩ := case44_ok (fu := 40000) hI (by decide) hx hn hnS
    exact c_L_case44 l Γ sk hsk hl9 40000 hs2 hnS2 hx4 hM e9 hf1 C (kk M9 l9.2)
  by_cases k45 : z = 45
  · refine V_tabIn (pc := 40) C 2459 (45 : Int) k45 hz dL_law_40 (by decide) (by decide) rfl (by decide) ?_
    obtain ⟨M9, e9, l9⟩ := case45_ok (fu := 40000) hI (by decide) nS x4
    exact c_L_case45 l Γ sk hsk hl9 40000 hs2 hnS2 hx4 hM e9 hf1 C (kk M9 l9.2)
  by_cases k46 : z = 46
  · refine V_tabIn (pc := 40) C 2472 (46 : Int) k46 hz dL_law_40 (by decide) (by decide) rfl (by decide) ?_
    obtain ⟨M9, e9, l9⟩ := case46_ok (fu := 40000) hI (by decide) nS x4
    exact c_L_case46 l Γ sk hsk hl9 40000 hs2 hnS2 hx4 hM e9 hf1 C (kk M9 l9.2)
  by_cases k47 : z = 47
  · refine V_tabIn (pc := 40) C 2516 (47 : Int) k47 hz dL_law_40 (by decide) (by decide) rfl (by decide) ?_
    obtain ⟨M9, e9, l9⟩ := case47_ok (fu := 40000) hI (by decide) hx hn hnS
    exact c_L_case47 l Γ sk hsk hl9 40000 hs2 hnS2 hx4 hM e9 hf1 C (kk M9 l9.2)
  by_cases k48 : z = 48
  · refine V_tabIn (pc := 40) C 2572 (48 : Int) k48 hz dL_law_40 (by decide) (by decide) rfl (by decide) ?_
    obtain ⟨M9, e9, l9⟩ := case48_ok (fu := 40000) hI hx hn hnS
    exact c_L_case48 l Γ sk hsk hl9 40000 hs2 hnS2 hx4 hM e9 hf1 C (kk M9 l9.2)
  by_cases k49 : z = 49
  · refine V_tabIn (pc := 40) C 2597 (49 : Int) k49 hz dL_law_40 (by decide) (by decide) rfl (by decide) ?_
    obtain ⟨M9, e9, l9⟩ := case49_ok (fu := 40000) hI (by decide) nS x4
    exact c_L_case49 l Γ sk hsk hl9 40000 hs2 hnS2 hx4 hM e9 hf1 C (kk M9 l9.2)
  by_cases k50 : z = 50
  · refine V_tabIn (pc := 40) C 2610 (50 : Int) k50 hz dL_law_40 (by decide) (by decide) rfl (by decide) ?_
    obtain ⟨M9, e9, l9⟩ := case50_ok (fu := 40000) hI (by decide) nS x4
    exact c_L_case50 l Γ sk hsk hl9 40000 hs2 hnS2 hx4 hM e9 hf1 C (kk M9 l9.2)
  refine V_tabOut (pc := 40) C 2654 hz dL_law_40 (tabout_law k0 k1 k2 k3 k4 k5 k6 k7 k8 k9 k10 k11 k12 k13 k14 k15 k16 k17 k18 k19 k20 k21 k22 k23 k24 k25 k26 k27 k28 k29 k30 k31 k32 k33 k34 k35 k36 k37 k38 k39 k40 k41 k42 k43 k44 k45 k46 k47 k48 k49 k50) (by decide) ?_
  exact V_room (Nat.le_succ _) (Nat.le_add_right _ 6) (kk M ⟨A, H, cc, T, TO, ee, oo, ss, B, hI⟩)
theorem law_loop (hsk : ExtL sk) (hl9 : l.stackTraces = false) {nS : Nat} (hs2 : sk[2]? = some (.inl (0, nS))) (hnS : nS ≤ 3072) (C : CX p s m args c cL_law 9 RL Γ sk)
    (fin : ∀ (M : Mem) (cells slots : Nat) (x4 : Int), cells ≤ 601024 → slots ≤ 7293034 → VV p l e room_1 s m args below meth c Q 9 Γ sk M cells slots 2661 [(0, vr Γ 2), (1, vr Γ 3), (2, vr Γ 52), (3, vr Γ 65), (4, vi x4)] [vi 1]) :
    ∀ (n : Nat) (x4 : Int) (M : Mem) (cells slots : Nat), 0 ≤ x4 → x4 ≤ 4000 → (nS : Int) - x4 < 6 * n → LIv M → cells + n ≤ 601024 → slots + 6 * n ≤ 7293034 → VV p l e room_1 s m args below meth c Q 9 Γ sk M cells slots 23 [(0, vr Γ 2), (1, vr Γ 3), (2, vr Γ 52), (3, vr Γ 65), (4, vi x4)] []
  | n, x4, M, cells, slots, h0, h1, hn, hI, hc, hs => by
    refine V_iload (pc := 23) C 4 rfl dL_law_23 ?_
    refine V_aload_n (pc := 25) C 0 rfl dL_law_25 ?_
    refine V_alen (pc := 26) C hs2 dL_law_26 ?_
    refine V_bipush (pc := 27) C dL_law_27 rfl ?_
    refine V_isub (pc := 29) C dL_law_29 ?_
    refine V_icmp_gt (pc := 30) C 2660 ⟨by omega, by omega⟩ ⟨by omega, by omega⟩ dL_law_30 (by decide) (fun h => ?_) (fun h => ?_)
    · refine V_iconst (pc := 2660) C dL_law_2660 ?_
      exact fin M cells slots x4 (by omega) (by omega)
    · obtain ⟨n1, e1⟩ : ∃ n1, n = n1 + 1 := ⟨n - 1, by omega⟩
      subst e1
      refine V_aload_n (pc := 33) C 0 rfl dL_law_33 ?_
      refine V_iload (pc := 34) C 4 rfl dL_law_34 ?_
      refine V_rng (fun hM => ?_)
      refine V_iald (pc := 36) C hs2 ⟨h0, by omega⟩ ⟨by omega, by omega⟩ dL_law_36 ?_
      refine V_bipush (pc := 37) C dL_law_37 rfl ?_
      refine V_iand (pc := 39) C (z := M 2 x4.toNat % 64) 6 (by decide) (by decide) rfl dL_law_39 ?_
      refine law_turn hsk hl9 hs2 hnS C h0 (by omega) hM hI (show cells + 1 ≤ 601024 ∧ slots + 6 ≤ 7293034 from ⟨by omega, by omega⟩) ⟨by omega, by omega⟩ (fun M' hI' => ?_)
      refine V_iinc (pc := 2654) (L' := [(0, vr Γ 2), (1, vr Γ 3), (2, vr Γ 52), (3, vr Γ 65), (4, vi (x4 + 6))]) C 4 rfl rfl (by decide) dL_law_2654 ?_
      refine V_goto (pc := 2657) C 23 dL_law_2657 (by decide) ?_
      exact law_loop hsk hl9 hs2 hnS C fin n1 (x4 + 6) M' (cells + 1) (slots + 6) (by omega) (by omega) (by omega) hI' (by omega) (by omega)
end LawLoop
