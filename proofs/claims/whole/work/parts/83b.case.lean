set_option maxRecDepth 100000 in
set_option maxHeartbeats 4000000 in
theorem c_L_case15 (l : Launch) (Γ : GG) (sk : List SD) (hsk : ExtL sk) (hl9 : l.stackTraces = false) (fu : Nat) {nS : Nat} (hs2 : sk[2]? = some (.inl (0, nS))) (hnS : nS ≤ 2147483647) {M M' : Mem} {x4 r : Int} (hx4 : rng x4) (hM : mR M) (h : f_L_case15 fu nS M x4 = some (M', r)) {p : Program} {e : Env} {s : State} {m : MethodId} {args : Array Value} {below : List Frame} {meth : Method} {c : Code} {Q : State → Prop} {cells slots : Nat} (hf1 : cells + 1 ≤ room_1.cells ∧ slots + 6 ≤ room_1.slots) (C : CX p s m args c cL_law 9 RL Γ sk) (kk : VV p l e room_1 s m args below meth c Q 9 Γ sk M' (cells + 1) (slots + 6) 2654 [(0, vr Γ 2), (1, vr Γ 3), (2, vr Γ 52), (3, vr Γ 65), (4, vi x4)] []) : VV p l e room_1 s m args below meth c Q 9 Γ sk M cells slots 847 [(0, vr Γ 2), (1, vr Γ 3), (2, vr Γ 52), (3, vr Γ 65), (4, vi x4)] [] := by
  unfold f_L_case15 at h
  have hf0 : cells ≤ room_1.cells ∧ slots ≤ room_1.slots := ⟨Nat.le_of_succ_le hf1.1, Nat.le_trans (Nat.le_add_right _ 6) hf1.2⟩
  have e52 := hsk 52 _ (by decide) rfl
  have e65 := hsk 65 _ (by decide) rfl
  refine V_aload_n (pc := 847) C 1 rfl dL_law_847 ?_
  refine V_aload_n (pc := 848) C 0 rfl dL_law_848 ?_
  refine V_iload (pc := 849) C 4 rfl dL_law_849 ?_
  refine V_iconst (pc := 851) C dL_law_851 ?_
  refine V_iadd (pc := 852) C dL_law_852 ?_
  obtain ⟨g1, h⟩ := grd_of h
  obtain ⟨g2, h⟩ := grd_of h
  refine V_iald (pc := 853) C hs2 g2 g1 dL_law_853 ?_
  refine V_aload_n (pc := 854) C 3 rfl dL_law_854 ?_
  obtain ⟨M3, r4, hc5, h⟩ := cal_of h
  refine V_callH (pc := 855) C (c_L_rootOf l Γ sk hsk hl9 fu (hM _ _) hc5) chf_L_rootOf lk_L_186 ⟨rfl, rfl⟩ ⟨Nat.le_of_ble_eq_true rfl, Nat.le_of_ble_eq_true rfl⟩ rfl (Nat.le_of_ble_eq_true rfl) hf1 rfl dL_law_855 (fun hr4 => ?_)
  refine V_istore (pc := 858) C (L' := [(0, vr Γ 2), (1, vr Γ 3), (2, vr Γ 52), (3, vr Γ 65), (4, vi x4), (5, vi r4)]) rfl (by decide) dL_law_858 ?_
  refine V_aload_n (pc := 860) C 2 rfl dL_law_860 ?_
  refine V_aload_n (pc := 861) C 0 rfl dL_law_861 ?_
  refine V_iload (pc := 862) C 4 rfl dL_law_862 ?_
  refine V_iconst (pc := 864) C dL_law_864 ?_
  refine V_iadd (pc := 865) C dL_law_865 ?_
  refine V_rng fun hM6 => ?_
  obtain ⟨g7, h⟩ := grd_of h
  obtain ⟨g8, h⟩ := grd_of h
  refine V_iald (pc := 866) C hs2 g8 g7 dL_law_866 ?_
  obtain ⟨M9, r10, hc11, h⟩ := cal_of h
  refine V_callVI (pc := 867) C (c_X12_rootOf l Γ sk hsk.m fu (hM6 _ _) hc11) cf_X12_rootOf lk_L_188 ⟨rfl, rfl⟩ ⟨Nat.le_of_ble_eq_true rfl, Nat.le_of_ble_eq_true rfl⟩ e52 rfl rfl rfl (Nat.le_of_ble_eq_true rfl) hf1 rfl dL_law_867 (fun hr10 => ?_)
  refine V_istore (pc := 870) C (L' := [(0, vr Γ 2), (1, vr Γ 3), (2, vr Γ 52), (3, vr Γ 65), (4, vi x4), (5, vi r4), (6, vi r10)]) rfl (by decide) dL_law_870 ?_
  refine V_aload_n (pc := 872) C 2 rfl dL_law_872 ?_
  obtain ⟨M12, r13, hc14, h⟩ := cal_of h
  refine V_callVI (pc := 873) C (c_X12_thrown l Γ sk hsk.m fu hc14) cf_X12_thrown lk_L_164 ⟨rfl, rfl⟩ ⟨Nat.le_of_ble_eq_true rfl, Nat.le_of_ble_eq_true rfl⟩ e52 rfl rfl rfl (Nat.le_of_ble_eq_true rfl) hf1 rfl dL_law_873 (fun hr13 => ?_)
  refine V_iload (pc := 876) C 5 rfl dL_law_876 ?_
  refine V_icmp_eq (pc := 878) C 883 hr13 hr4 dL_law_878 (by decide) (fun c878_15 => ?_) (fun c878_15 => ?_)
  · have h := ite_t h c878_15
    refine V_iload (pc := 883) C 5 rfl dL_law_883 ?_
    refine V_if_ne (pc := 885) C 900 hr4 dL_law_885 (by decide) (fun c885_16 => ?_) (fun c885_16 => ?_)
    · have h := ite_f h c885_16
      refine V_goto (pc := 900) C 2654 dL_law_900 (by decide) ?_
      refine V_sub (L' := [(0, vr Γ 2), (1, vr Γ 3), (2, vr Γ 52), (3, vr Γ 65), (4, vi x4)]) [0, 1, 2, 3, 4] rfl (by decide) ?_
      cases h
      exact kk
    · have h := ite_t h c885_16
      refine V_aload_n (pc := 888) C 3 rfl dL_law_888 ?_
      refine V_iconst (pc := 889) C dL_law_889 ?_
      refine V_rng fun hM17 => ?_
      refine V_lald (pc := 890) C e65 (by decide) (by decide) dL_law_890 ?_
      refine V_iload (pc := 891) C 6 rfl dL_law_891 ?_
      refine V_i2l (pc := 893) C hr10 dL_law_893 ?_
      refine V_lcmp (pc := 894) C (hM17 _ _) hr10 dL_law_894 ?_
      refine V_if_eq (pc := 895) C 900 (lcmp_rng _ _) dL_law_895 (by decide) (fun c895_18 => ?_) (fun c895_18 => ?_)
      · have h := ite_t h c895_18
        refine V_goto (pc := 900) C 2654 dL_law_900 (by decide) ?_
        refine V_sub (L' := [(0, vr Γ 2), (1, vr Γ 3), (2, vr Γ 52), (3, vr Γ 65), (4, vi x4)]) [0, 1, 2, 3, 4] rfl (by decide) ?_
        cases h
        exact kk
      · have h := ite_f h c895_18
        refine V_iconst (pc := 898) C dL_law_898 ?_
        cases h
  · have h := ite_f h c878_15
    refine V_iconst (pc := 881) C dL_law_881 ?_
    cases h
set_option maxRecDepth 100000 in
set_option maxHeartbeats 4000000 in
theorem c_L_case16 (l : Launch) (Γ : GG) (sk : List SD) (hsk : ExtL sk) (hl9 : l.stackTraces = false) (fu : Nat) {nS : Nat} (hs2 : sk[2]? = some (.inl (0, nS))) (hnS : nS ≤ 2147483647) {M M' : Mem} {x4 r : Int} (hx4 : rng x4) (hM : mR M) (h : f_L_case16 fu nS M x4 = some (M', r)) {p : Program} {e : Env} {s : State} {m : MethodId} {args : Array Value} {below : List Frame} {meth : Method} {c : Code} {Q : State → Prop} {cells slots : Nat} (hf1 : cells + 1 ≤ room_1.cells ∧ slots + 6 ≤ room_1.slots) (C : CX p s m args c cL_law 9 RL Γ sk) (kk : VV p l e room_1 s m args below meth c Q 9 Γ sk M' (cells + 1) (slots + 6) 2654 [(0, vr Γ 2), (1, vr Γ 3), (2, vr Γ 52), (3, vr Γ 65), (4, vi x4)] []) : VV p l e room_1 s m args below meth c Q 9 Γ sk M cells slots 903 [(0, vr Γ 2), (1, vr Γ 3), (2, vr Γ 52), (3, vr Γ 65), (4, vi x4)] [] := by
  unfold f_L_case16 at h
  have hf0 : cells ≤ room_1.cells ∧ slots ≤ room_1.slots := ⟨Nat.le_of_succ_le hf1.1, Nat.le_trans (Nat.le_add_right _ 6) hf1.2⟩
  have e52 := hsk 52 _ (by decide) rfl
  have e65 := hsk 65 _ (by decide) rfl
  refine V_aload_n (pc := 903) C 1 rfl dL_law_903 ?_
  refine V_aload_n (pc := 904) C 0 rfl dL_law_904 ?_
  refine V_iload (pc := 905) C 4 rfl dL_law_905 ?_
  refine V_iconst (pc := 907) C dL_law_907 ?_
  refine V_iadd (pc := 908) C dL_law_908 ?_
  obtain ⟨g1, h⟩ := grd_of h
  obtain ⟨g2, h⟩ := grd_of h
  refine V_iald (pc := 909) C hs2 g2 g1 dL_law_909 ?_
  refine V_aload_n (pc := 910) C 0 rfl dL_law_910 ?_
  refine V_iload (pc := 911) C 4 rfl dL_law_911 ?_
  refine V_iconst (pc := 913) C dL_law_913 ?_
  refine V_iadd (pc := 914) C dL_law_914 ?_
  obtain ⟨g3, h⟩ := grd_of h
  obtain ⟨g4, h⟩ := grd_of h
  refine V_iald (pc := 915) C hs2 g4 g3 dL_law_915 ?_
  refine V_aload_n (pc := 916) C 3 rfl dL_law_916 ?_
  obtain ⟨M5, r6, hc7, h⟩ := cal_of h
  refine V_callH (pc := 917) C (c_L_get l Γ sk hsk hl9 fu (hM _ _) (hM _ _) hc7) chf_L_get lk_L_189 ⟨rfl, rfl⟩ ⟨Nat.le_of_ble_eq_true rfl, Nat.le_of_ble_eq_true rfl⟩ rfl (Nat.le_of_ble_eq_true rfl) hf1 rfl dL_law_917 (fun hr6 => ?_)
  refine V_istore (pc := 920) C (L' := [(0, vr Γ 2), (1, vr Γ 3), (2, vr Γ 52), (3, vr Γ 65), (4, vi x4), (5, vi r6)]) rfl (by decide) dL_law_920 ?_
  refine V_aload_n (pc := 922) C 2 rfl dL_law_922 ?_
  refine V_aload_n (pc := 923) C 0 rfl dL_law_923 ?_
  refine V_iload (pc := 924) C 4 rfl dL_law_924 ?_
  refine V_iconst (pc := 926) C dL_law_926 ?_
  refine V_iadd (pc := 927) C dL_law_927 ?_
  refine V_rng fun hM8 => ?_
  obtain ⟨g9, h⟩ := grd_of h
  obtain ⟨g10, h⟩ := grd_of h
  refine V_iald (pc := 928) C hs2 g10 g9 dL_law_928 ?_
  refine V_aload_n (pc := 929) C 0 rfl dL_law_929 ?_
  refine V_iload (pc := 930) C 4 rfl dL_law_930 ?_
  refine V_iconst (pc := 932) C dL_law_932 ?_
  refine V_iadd (pc := 933) C dL_law_933 ?_
  obtain ⟨g11, h⟩ := grd_of h
  obtain ⟨g12, h⟩ := grd_of h
  refine V_iald (pc := 934) C hs2 g12 g11 dL_law_934 ?_
  obtain ⟨M13, r14, hc15, h⟩ := cal_of h
  refine V_callVI (pc := 935) C (c_X12_get l Γ sk hsk.m fu (hM8 _ _) (hM8 _ _) hc15) cf_X12_get lk_L_191 ⟨rfl, rfl⟩ ⟨Nat.le_of_ble_eq_true rfl, Nat.le_of_ble_eq_true rfl⟩ e52 rfl rfl rfl (Nat.le_of_ble_eq_true rfl) hf1 rfl dL_law_935 (fun hr14 => ?_)
  refine V_istore (pc := 938) C (L' := [(0, vr Γ 2), (1, vr Γ 3), (2, vr Γ 52), (3, vr Γ 65), (4, vi x4), (5, vi r6), (6, vi r14)]) rfl (by decide) dL_law_938 ?_
  refine V_aload_n (pc := 940) C 2 rfl dL_law_940 ?_
  obtain ⟨M16, r17, hc18, h⟩ := cal_of h
  refine V_callVI (pc := 941) C (c_X12_thrown l Γ sk hsk.m fu hc18) cf_X12_thrown lk_L_164 ⟨rfl, rfl⟩ ⟨Nat.le_of_ble_eq_true rfl, Nat.le_of_ble_eq_true rfl⟩ e52 rfl rfl rfl (Nat.le_of_ble_eq_true rfl) hf1 rfl dL_law_941 (fun hr17 => ?_)
  refine V_iload (pc := 944) C 5 rfl dL_law_944 ?_
  refine V_icmp_eq (pc := 946) C 951 hr17 hr6 dL_law_946 (by decide) (fun c946_19 => ?_) (fun c946_19 => ?_)
  · have h := ite_t h c946_19
    refine V_iload (pc := 951) C 5 rfl dL_law_951 ?_
    refine V_if_ne (pc := 953) C 968 hr6 dL_law_953 (by decide) (fun c953_20 => ?_) (fun c953_20 => ?_)
    · have h := ite_f h c953_20
      refine V_goto (pc := 968) C 2654 dL_law_968 (by decide) ?_
      refine V_sub (L' := [(0, vr Γ 2), (1, vr Γ 3), (2, vr Γ 52), (3, vr Γ 65), (4, vi x4)]) [0, 1, 2, 3, 4] rfl (by decide) ?_
      cases h
      exact kk
    · have h := ite_t h c953_20
      refine V_aload_n (pc := 956) C 3 rfl dL_law_956 ?_
      refine V_iconst (pc := 957) C dL_law_957 ?_
      refine V_rng fun hM21 => ?_
      refine V_lald (pc := 958) C e65 (by decide) (by decide) dL_law_958 ?_
      refine V_iload (pc := 959) C 6 rfl dL_law_959 ?_
      refine V_i2l (pc := 961) C hr14 dL_law_961 ?_
      refine V_lcmp (pc := 962) C (hM21 _ _) hr14 dL_law_962 ?_
      refine V_if_eq (pc := 963) C 968 (lcmp_rng _ _) dL_law_963 (by decide) (fun c963_22 => ?_) (fun c963_22 => ?_)
      · have h := ite_t h c963_22
        refine V_goto (pc := 968) C 2654 dL_law_968 (by decide) ?_
        refine V_sub (L' := [(0, vr Γ 2), (1, vr Γ 3), (2, vr Γ 52), (3, vr Γ 65), (4, vi x4)]) [0, 1, 2, 3, 4] rfl (by decide) ?_
        cases h
        exact kk
      · have h := ite_f h c963_22
        refine V_iconst (pc := 966) C dL_law_966 ?_
        cases h
  · have h := ite_f h c946_19
    refine V_iconst (pc := 949) C dL_law_949 ?_
    cases h
set_option maxRecDepth 100000 in
set_option maxHeartbeats 4000000 in
theorem c_L_case17 (l : Launch) (Γ : GG) (sk : List SD) (hsk : ExtL sk) (hl9 : l.stackTraces = false) (fu : Nat) {nS : Nat} (hs2 : sk[2]? = some (.inl (0, nS))) (hnS : nS ≤ 2147483647) {M M' : Mem} {x4 r : Int} (hx4 : rng x4) (hM : mR M) (h : f_L_case17 fu nS M x4 = some (M', r)) {p : Program} {e : Env} {s : State} {m : MethodId} {args : Array Value} {below : List Frame} {meth : Method} {c : Code} {Q : State → Prop} {cells slots : Nat} (hf1 : cells + 1 ≤ room_1.cells ∧ slots + 6 ≤ room_1.slots) (C : CX p s m args c cL_law 9 RL Γ sk) (kk : VV p l e room_1 s m args below meth c Q 9 Γ sk M' (cells + 1) (slots + 6) 2654 [(0, vr Γ 2), (1, vr Γ 3), (2, vr Γ 52), (3, vr Γ 65), (4, vi x4)] []) : VV p l e room_1 s m args below meth c Q 9 Γ sk M cells slots 971 [(0, vr Γ 2), (1, vr Γ 3), (2, vr Γ 52), (3, vr Γ 65), (4, vi x4)] [] := by
  unfold f_L_case17 at h
  have hf0 : cells ≤ room_1.cells ∧ slots ≤ room_1.slots := ⟨Nat.le_of_succ_le hf1.1, Nat.le_trans (Nat.le_add_right _ 6) hf1.2⟩
  have e52 := hsk 52 _ (by decide) rfl
  have e65 := hsk 65 _ (by decide) rfl
  refine V_aload_n (pc := 971) C 1 rfl dL_law_971 ?_
  refine V_aload_n (pc := 972) C 0 rfl dL_law_972 ?_
  refine V_iload (pc := 973) C 4 rfl dL_law_973 ?_
  refine V_iconst (pc := 975) C dL_law_975 ?_
  refine V_iadd (pc := 976) C dL_law_976 ?_
  obtain ⟨g1, h⟩ := grd_of h
  obtain ⟨g2, h⟩ := grd_of h
  refine V_iald (pc := 977) C hs2 g2 g1 dL_law_977 ?_
  refine V_aload_n (pc := 978) C 0 rfl dL_law_978 ?_
  refine V_iload (pc := 979) C 4 rfl dL_law_979 ?_
  refine V_iconst (pc := 981) C dL_law_981 ?_
  refine V_iadd (pc := 982) C dL_law_982 ?_
  obtain ⟨g3, h⟩ := grd_of h
  obtain ⟨g4, h⟩ := grd_of h
  refine V_iald (pc := 983) C hs2 g4 g3 dL_law_983 ?_
  refine V_aload_n (pc := 984) C 3 rfl dL_law_984 ?_
  obtain ⟨M5, r6, hc7, h⟩ := cal_of h
  refine V_callH (pc := 985) C (c_L_leafOf l Γ sk hsk hl9 fu (hM _ _) (hM _ _) hc7) chf_L_leafOf lk_L_192 ⟨rfl, rfl⟩ ⟨Nat.le_of_ble_eq_true rfl, Nat.le_of_ble_eq_true rfl⟩ rfl (Nat.le_of_ble_eq_true rfl) hf1 rfl dL_law_985 (fun hr6 => ?_)
  refine V_istore (pc := 988) C (L' := [(0, vr Γ 2), (1, vr Γ 3), (2, vr Γ 52), (3, vr Γ 65), (4, vi x4), (5, vi r6)]) rfl (by decide) dL_law_988 ?_
  refine V_aload_n (pc := 990) C 2 rfl dL_law_990 ?_
  refine V_aload_n (pc := 991) C 0 rfl dL_law_991 ?_
  refine V_iload (pc := 992) C 4 rfl dL_law_992 ?_
  refine V_iconst (pc := 994) C dL_law_994 ?_
  refine V_iadd (pc := 995) C dL_law_995 ?_
  refine V_rng fun hM8 => ?_
  obtain ⟨g9, h⟩ := grd_of h
  obtain ⟨g10, h⟩ := grd_of h
  refine V_iald (pc := 996) C hs2 g10 g9 dL_law_996 ?_
  refine V_aload_n (pc := 997) C 0 rfl dL_law_997 ?_
  refine V_iload (pc := 998) C 4 rfl dL_law_998 ?_
  refine V_iconst (pc := 1000) C dL_law_1000 ?_
  refine V_iadd (pc := 1001) C dL_law_1001 ?_
  obtain ⟨g11, h⟩ := grd_of h
  obtain ⟨g12, h⟩ := grd_of h
  refine V_iald (pc := 1002) C hs2 g12 g11 dL_law_1002 ?_
  obtain ⟨M13, r14, hc15, h⟩ := cal_of h
  refine V_callVI (pc := 1003) C (c_X12_leafOf l Γ sk hsk.m fu (hM8 _ _) (hM8 _ _) hc15) cf_X12_leafOf lk_L_194 ⟨rfl, rfl⟩ ⟨Nat.le_of_ble_eq_true rfl, Nat.le_of_ble_eq_true rfl⟩ e52 rfl rfl rfl (Nat.le_of_ble_eq_true rfl) hf1 rfl dL_law_1003 (fun hr14 => ?_)
  refine V_istore (pc := 1006) C (L' := [(0, vr Γ 2), (1, vr Γ 3), (2, vr Γ 52), (3, vr Γ 65), (4, vi x4), (5, vi r6), (6, vi r14)]) rfl (by decide) dL_law_1006 ?_
  refine V_aload_n (pc := 1008) C 2 rfl dL_law_1008 ?_
  obtain ⟨M16, r17, hc18, h⟩ := cal_of h
  refine V_callVI (pc := 1009) C (c_X12_thrown l Γ sk hsk.m fu hc18) cf_X12_thrown lk_L_164 ⟨rfl, rfl⟩ ⟨Nat.le_of_ble_eq_true rfl, Nat.le_of_ble_eq_true rfl⟩ e52 rfl rfl rfl (Nat.le_of_ble_eq_true rfl) hf1 rfl dL_law_1009 (fun hr17 => ?_)
  refine V_iload (pc := 1012) C 5 rfl dL_law_1012 ?_
  refine V_icmp_eq (pc := 1014) C 1019 hr17 hr6 dL_law_1014 (by decide) (fun c1014_19 => ?_) (fun c1014_19 => ?_)
  · have h := ite_t h c1014_19
    refine V_iload (pc := 1019) C 5 rfl dL_law_1019 ?_
    refine V_if_ne (pc := 1021) C 1036 hr6 dL_law_1021 (by decide) (fun c1021_20 => ?_) (fun c1021_20 => ?_)
    · have h := ite_f h c1021_20
      refine V_goto (pc := 1036) C 2654 dL_law_1036 (by decide) ?_
      refine V_sub (L' := [(0, vr Γ 2), (1, vr Γ 3), (2, vr Γ 52), (3, vr Γ 65), (4, vi x4)]) [0, 1, 2, 3, 4] rfl (by decide) ?_
      cases h
      exact kk
    · have h := ite_t h c1021_20
      refine V_aload_n (pc := 1024) C 3 rfl dL_law_1024 ?_
      refine V_iconst (pc := 1025) C dL_law_1025 ?_
      refine V_rng fun hM21 => ?_
      refine V_lald (pc := 1026) C e65 (by decide) (by decide) dL_law_1026 ?_
      refine V_iload (pc := 1027) C 6 rfl dL_law_1027 ?_
      refine V_i2l (pc := 1029) C hr14 dL_law_1029 ?_
      refine V_lcmp (pc := 1030) C (hM21 _ _) hr14 dL_law_1030 ?_
      refine V_if_eq (pc := 1031) C 1036 (lcmp_rng _ _) dL_law_1031 (by decide) (fun c1031_22 => ?_) (fun c1031_22 => ?_)
      · have h := ite_t h c1031_22
        refine V_goto (pc := 1036) C 2654 dL_law_1036 (by decide) ?_
        refine V_sub (L' := [(0, vr Γ 2), (1, vr Γ 3), (2, vr Γ 52), (3, vr Γ 65), (4, vi x4)]) [0, 1, 2, 3, 4] rfl (by decide) ?_
        cases h
        exact kk
      · have h := ite_f h c1031_22
        refine V_iconst (pc := 1034) C dL_law_1034 ?_
        cases h
  · have h := ite_f h c1014_19
    refine V_iconst (pc := 1017) C dL_law_1017 ?_
    cases h
set_option maxRecDepth 100000 in
set_option maxHeartbeats 4000000 in
theorem c_L_case18 (l : Launch) (Γ : GG) (sk : List SD) (hsk : ExtL sk) (hl9 : l.stackTraces = false) (fu : Nat) {nS : Nat} (hs2 : sk[2]? = some (.inl (0, nS))) (hnS : nS ≤ 2147483647) {M M' : Mem} {x4 r : Int} (hx4 : rng x4) (hM : mR M) (h : f_L_case18 fu nS M x4 = some (M', r)) {p : Program} {e : Env} {s : State} {m : MethodId} {args : Array Value} {below : List Frame} {meth : Method} {c : Code} {Q : State → Prop} {cells slots : Nat} (hf1 : cells + 1 ≤ room_1.cells ∧ slots + 6 ≤ room_1.slots) (C : CX p s m args c cL_law 9 RL Γ sk) (kk : VV p l e room_1 s m args below meth c Q 9 Γ sk M' (cells + 1) (slots + 6) 2654 [(0, vr Γ 2), (1, vr Γ 3), (2, vr Γ 52), (3, vr Γ 65), (4, vi x4)] []) : VV p l e room_1 s m args below meth c Q 9 Γ sk M cells slots 1039 [(0, vr Γ 2), (1, vr Γ 3), (2, vr Γ 52), (3, vr Γ 65), (4, vi x4)] [] := by
  unfold f_L_case18 at h
  have hf0 : cells ≤ room_1.cells ∧ slots ≤ room_1.slots := ⟨Nat.le_of_succ_le hf1.1, Nat.le_trans (Nat.le_add_right _ 6) hf1.2⟩
  have e52 := hsk 52 _ (by decide) rfl
  have e65 := hsk 65 _ (by decide) rfl
  refine V_aload_n (pc := 1039) C 1 rfl dL_law_1039 ?_
  refine V_aload_n (pc := 1040) C 0 rfl dL_law_1040 ?_
  refine V_iload (pc := 1041) C 4 rfl dL_law_1041 ?_
  refine V_iconst (pc := 1043) C dL_law_1043 ?_
  refine V_iadd (pc := 1044) C dL_law_1044 ?_
  obtain ⟨g1, h⟩ := grd_of h
  obtain ⟨g2, h⟩ := grd_of h
  refine V_iald (pc := 1045) C hs2 g2 g1 dL_law_1045 ?_
  refine V_aload_n (pc := 1046) C 3 rfl dL_law_1046 ?_
  obtain ⟨M3, r4, hc5, h⟩ := cal_of h
  refine V_callH (pc := 1047) C (c_L_sum l Γ sk hsk hl9 fu (hM _ _) hc5) chf_L_sum lk_L_195 ⟨rfl, rfl⟩ ⟨Nat.le_of_ble_eq_true rfl, Nat.le_of_ble_eq_true rfl⟩ rfl (Nat.le_of_ble_eq_true rfl) hf1 rfl dL_law_1047 (fun hr4 => ?_)
  refine V_istore (pc := 1050) C (L' := [(0, vr Γ 2), (1, vr Γ 3), (2, vr Γ 52), (3, vr Γ 65), (4, vi x4), (5, vi r4)]) rfl (by decide) dL_law_1050 ?_
  refine V_aload_n (pc := 1052) C 2 rfl dL_law_1052 ?_
  refine V_aload_n (pc := 1053) C 0 rfl dL_law_1053 ?_
  refine V_iload (pc := 1054) C 4 rfl dL_law_1054 ?_
  refine V_iconst (pc := 1056) C dL_law_1056 ?_
  refine V_iadd (pc := 1057) C dL_law_1057 ?_
  refine V_rng fun hM6 => ?_
  obtain ⟨g7, h⟩ := grd_of h
  obtain ⟨g8, h⟩ := grd_of h
  refine V_iald (pc := 1058) C hs2 g8 g7 dL_law_1058 ?_
  obtain ⟨M9, r10, hc11, h⟩ := cal_of h
  refine V_callVI (pc := 1059) C (c_X12_sum l Γ sk hsk.m fu (hM6 _ _) hc11) cf_X12_sum lk_L_197 ⟨rfl, rfl⟩ ⟨Nat.le_of_ble_eq_true rfl, Nat.le_of_ble_eq_true rfl⟩ e52 rfl rfl rfl (Nat.le_of_ble_eq_true rfl) hf1 rfl dL_law_1059 (fun hr10 => ?_)
  refine V_istore (pc := 1062) C (L' := [(0, vr Γ 2), (1, vr Γ 3), (2, vr Γ 52), (3, vr Γ 65), (4, vi x4), (5, vi r4), (6, vi r10)]) rfl (by decide) dL_law_1062 ?_
  refine V_aload_n (pc := 1064) C 2 rfl dL_law_1064 ?_
  obtain ⟨M12, r13, hc14, h⟩ := cal_of h
  refine V_callVI (pc := 1065) C (c_X12_thrown l Γ sk hsk.m fu hc14) cf_X12_thrown lk_L_164 ⟨rfl, rfl⟩ ⟨Nat.le_of_ble_eq_true rfl, Nat.le_of_ble_eq_true rfl⟩ e52 rfl rfl rfl (Nat.le_of_ble_eq_true rfl) hf1 rfl dL_law_1065 (fun hr13 => ?_)
  refine V_iload (pc := 1068) C 5 rfl dL_law_1068 ?_
  refine V_icmp_eq (pc := 1070) C 1075 hr13 hr4 dL_law_1070 (by decide) (fun c1070_15 => ?_) (fun c1070_15 => ?_)
  · have h := ite_t h c1070_15
    refine V_iload (pc := 1075) C 5 rfl dL_law_1075 ?_
    refine V_if_ne (pc := 1077) C 1092 hr4 dL_law_1077 (by decide) (fun c1077_16 => ?_) (fun c1077_16 => ?_)
    · have h := ite_f h c1077_16
      refine V_goto (pc := 1092) C 2654 dL_law_1092 (by decide) ?_
      refine V_sub (L' := [(0, vr Γ 2), (1, vr Γ 3), (2, vr Γ 52), (3, vr Γ 65), (4, vi x4)]) [0, 1, 2, 3, 4] rfl (by decide) ?_
      cases h
      exact kk
    · have h := ite_t h c1077_16
      refine V_aload_n (pc := 1080) C 3 rfl dL_law_1080 ?_
      refine V_iconst (pc := 1081) C dL_law_1081 ?_
      refine V_rng fun hM17 => ?_
      refine V_lald (pc := 1082) C e65 (by decide) (by decide) dL_law_1082 ?_
      refine V_iload (pc := 1083) C 6 rfl dL_law_1083 ?_
      refine V_i2l (pc := 1085) C hr10 dL_law_1085 ?_
      refine V_lcmp (pc := 1086) C (hM17 _ _) hr10 dL_law_1086 ?_
      refine V_if_eq (pc := 1087) C 1092 (lcmp_rng _ _) dL_law_1087 (by decide) (fun c1087_18 => ?_) (fun c1087_18 => ?_)
      · have h := ite_t h c1087_18
        refine V_goto (pc := 1092) C 2654 dL_law_1092 (by decide) ?_
        refine V_sub (L' := [(0, vr Γ 2), (1, vr Γ 3), (2, vr Γ 52), (3, vr Γ 65), (4, vi x4)]) [0, 1, 2, 3, 4] rfl (by decide) ?_
        cases h
        exact kk
      · have h := ite_f h c1087_18
        refine V_iconst (pc := 1090) C dL_law_1090 ?_
        cases h
  · have h := ite_f h c1070_15
    refine V_iconst (pc := 1073) C dL_law_1073 ?_
    cases h
set_option maxRecDepth 100000 in
set_option maxHeartbeats 4000000 in
theorem c_L_case19 (l : Launch) (Γ : GG) (sk : List SD) (hsk : ExtL sk) (hl9 : l.stackTraces = false) (fu : Nat) {nS : Nat} (hs2 : sk[2]? = some (.inl (0, nS))) (hnS : nS ≤ 2147483647) {M M' : Mem} {x4 r : Int} (hx4 : rng x4) (hM : mR M) (h : f_L_case19 fu nS M x4 = some (M', r)) {p : Program} {e : Env} {s : State} {m : MethodId} {args : Array Value} {below : List Frame} {meth : Method} {c : Code} {Q : State → Prop} {cells slots : Nat} (hf1 : cells + 1 ≤ room_1.cells ∧ slots + 6 ≤ room_1.slots) (C : CX p s m args c cL_law 9 RL Γ sk) (kk : VV p l e room_1 s m args below meth c Q 9 Γ sk M' (cells + 1) (slots + 6) 2654 [(0, vr Γ 2), (1, vr Γ 3), (2, vr Γ 52), (3, vr Γ 65), (4, vi x4)] []) : VV p l e room_1 s m args below meth c Q 9 Γ sk M cells slots 1095 [(0, vr Γ 2), (1, vr Γ 3), (2, vr Γ 52), (3, vr Γ 65), (4, vi x4)] [] := by
  unfold f_L_case19 at h
  have hf0 : cells ≤ room_1.cells ∧ slots ≤ room_1.slots := ⟨Nat.le_of_succ_le hf1.1, Nat.le_trans (Nat.le_add_right _ 6) hf1.2⟩
  have e52 := hsk 52 _ (by decide) rfl
  have e65 := hsk 65 _ (by decide) rfl
  refine V_aload_n (pc := 1095) C 1 rfl dL_law_1095 ?_
  refine V_aload_n (pc := 1096) C 0 rfl dL_law_1096 ?_
  refine V_iload (pc := 1097) C 4 rfl dL_law_1097 ?_
  refine V_iconst (pc := 1099) C dL_law_1099 ?_
  refine V_iadd (pc := 1100) C dL_law_1100 ?_
  obtain ⟨g1, h⟩ := grd_of h
  obtain ⟨g2, h⟩ := grd_of h
  refine V_iald (pc := 1101) C hs2 g2 g1 dL_law_1101 ?_
  refine V_aload_n (pc := 1102) C 0 rfl dL_law_1102 ?_
  refine V_iload (pc := 1103) C 4 rfl dL_law_1103 ?_
  refine V_iconst (pc := 1105) C dL_law_1105 ?_
  refine V_iadd (pc := 1106) C dL_law_1106 ?_
  obtain ⟨g3, h⟩ := grd_of h
  obtain ⟨g4, h⟩ := grd_of h
  refine V_iald (pc := 1107) C hs2 g4 g3 dL_law_1107 ?_
  refine V_aload_n (pc := 1108) C 3 rfl dL_law_1108 ?_
  obtain ⟨M5, r6, hc7, h⟩ := cal_of h
  refine V_callH (pc := 1109) C (c_L_indexOf l Γ sk hsk hl9 fu (hM _ _) (hM _ _) hc7) chf_L_indexOf lk_L_198 ⟨rfl, rfl⟩ ⟨Nat.le_of_ble_eq_true rfl, Nat.le_of_ble_eq_true rfl⟩ rfl (Nat.le_of_ble_eq_true rfl) hf1 rfl dL_law_1109 (fun hr6 => ?_)
  refine V_istore (pc := 1112) C (L' := [(0, vr Γ 2), (1, vr Γ 3), (2, vr Γ 52), (3, vr Γ 65), (4, vi x4), (5, vi r6)]) rfl (by decide) dL_law_1112 ?_
  refine V_aload_n (pc := 1114) C 2 rfl dL_law_1114 ?_
  refine V_aload_n (pc := 1115) C 0 rfl dL_law_1115 ?_
  refine V_iload (pc := 1116) C 4 rfl dL_law_1116 ?_
  refine V_iconst (pc := 1118) C dL_law_1118 ?_
  refine V_iadd (pc := 1119) C dL_law_1119 ?_
  refine V_rng fun hM8 => ?_
  obtain ⟨g9, h⟩ := grd_of h
  obtain ⟨g10, h⟩ := grd_of h
  refine V_iald (pc := 1120) C hs2 g10 g9 dL_law_1120 ?_
  refine V_aload_n (pc := 1121) C 0 rfl dL_law_1121 ?_
  refine V_iload (pc := 1122) C 4 rfl dL_law_1122 ?_
  refine V_iconst (pc := 1124) C dL_law_1124 ?_
  refine V_iadd (pc := 1125) C dL_law_1125 ?_
  obtain ⟨g11, h⟩ := grd_of h
  obtain ⟨g12, h⟩ := grd_of h
  refine V_iald (pc := 1126) C hs2 g12 g11 dL_law_1126 ?_
  obtain ⟨M13, r14, hc15, h⟩ := cal_of h
  refine V_callVI (pc := 1127) C (c_X12_indexOf l Γ sk hsk.m fu (hM8 _ _) (hM8 _ _) hc15) cf_X12_indexOf lk_L_200 ⟨rfl, rfl⟩ ⟨Nat.le_of_ble_eq_true rfl, Nat.le_of_ble_eq_true rfl⟩ e52 rfl rfl rfl (Nat.le_of_ble_eq_true rfl) hf1 rfl dL_law_1127 (fun hr14 => ?_)
  refine V_istore (pc := 1130) C (L' := [(0, vr Γ 2), (1, vr Γ 3), (2, vr Γ 52), (3, vr Γ 65), (4, vi x4), (5, vi r6), (6, vi r14)]) rfl (by decide) dL_law_1130 ?_
  refine V_aload_n (pc := 1132) C 2 rfl dL_law_1132 ?_
  obtain ⟨M16, r17, hc18, h⟩ := cal_of h
  refine V_callVI (pc := 1133) C (c_X12_thrown l Γ sk hsk.m fu hc18) cf_X12_thrown lk_L_164 ⟨rfl, rfl⟩ ⟨Nat.le_of_ble_eq_true rfl, Nat.le_of_ble_eq_true rfl⟩ e52 rfl rfl rfl (Nat.le_of_ble_eq_true rfl) hf1 rfl dL_law_1133 (fun hr17 => ?_)
  refine V_iload (pc := 1136) C 5 rfl dL_law_1136 ?_
  refine V_icmp_eq (pc := 1138) C 1143 hr17 hr6 dL_law_1138 (by decide) (fun c1138_19 => ?_) (fun c1138_19 => ?_)
  · have h := ite_t h c1138_19
    refine V_iload (pc := 1143) C 5 rfl dL_law_1143 ?_
    refine V_if_ne (pc := 1145) C 1160 hr6 dL_law_1145 (by decide) (fun c1145_20 => ?_) (fun c1145_20 => ?_)
    · have h := ite_f h c1145_20
      refine V_goto (pc := 1160) C 2654 dL_law_1160 (by decide) ?_
      refine V_sub (L' := [(0, vr Γ 2), (1, vr Γ 3), (2, vr Γ 52), (3, vr Γ 65), (4, vi x4)]) [0, 1, 2, 3, 4] rfl (by decide) ?_
      cases h
      exact kk
    · have h := ite_t h c1145_20
      refine V_aload_n (pc := 1148) C 3 rfl dL_law_1148 ?_
      refine V_iconst (pc := 1149) C dL_law_1149 ?_
      refine V_rng fun hM21 => ?_
      refine V_lald (pc := 1150) C e65 (by decide) (by decide) dL_law_1150 ?_
      refine V_iload (pc := 1151) C 6 rfl dL_law_1151 ?_
      refine V_i2l (pc := 1153) C hr14 dL_law_1153 ?_
      refine V_lcmp (pc := 1154) C (hM21 _ _) hr14 dL_law_1154 ?_
      refine V_if_eq (pc := 1155) C 1160 (lcmp_rng _ _) dL_law_1155 (by decide) (fun c1155_22 => ?_) (fun c1155_22 => ?_)
      · have h := ite_t h c1155_22
        refine V_goto (pc := 1160) C 2654 dL_law_1160 (by decide) ?_
        refine V_sub (L' := [(0, vr Γ 2), (1, vr Γ 3), (2, vr Γ 52), (3, vr Γ 65), (4, vi x4)]) [0, 1, 2, 3, 4] rfl (by decide) ?_
        cases h
        exact kk
      · have h := ite_f h c1155_22
        refine V_iconst (pc := 1158) C dL_law_1158 ?_
        cases h
  · have h := ite_f h c1138_19
    refine V_iconst (pc := 1141) C dL_law_1141 ?_
    cases h
set_option maxRecDepth 100000 in
set_option maxHeartbeats 4000000 in
theorem c_L_case20 (l : Launch) (Γ : GG) (sk : List SD) (hsk : ExtL sk) (hl9 : l.stackTraces = false) (fu : Nat) {nS : Nat} (hs2 : sk[2]? = some (.inl (0, nS))) (hnS : nS ≤ 2147483647) {M M' : Mem} {x4 r : Int} (hx4 : rng x4) (hM : mR M) (h : f_L_case20 fu nS M x4 = some (M', r)) {p : Program} {e : Env} {s : State} {m : MethodId} {args : Array Value} {below : List Frame} {meth : Method} {c : Code} {Q : State → Prop} {cells slots : Nat} (hf1 : cells + 1 ≤ room_1.cells ∧ slots + 6 ≤ room_1.slots) (C : CX p s m args c cL_law 9 RL Γ sk) (kk : VV p l e room_1 s m args below meth c Q 9 Γ sk M' (cells + 1) (slots + 6) 2654 [(0, vr Γ 2), (1, vr Γ 3), (2, vr Γ 52), (3, vr Γ 65), (4, vi x4)] []) : VV p l e room_1 s m args below meth c Q 9 Γ sk M cells slots 1163 [(0, vr Γ 2), (1, vr Γ 3), (2, vr Γ 52), (3, vr Γ 65), (4, vi x4)] [] := by
  unfold f_L_case20 at h
  have hf0 : cells ≤ room_1.cells ∧ slots ≤ room_1.slots := ⟨Nat.le_of_succ_le hf1.1, Nat.le_trans (Nat.le_add_right _ 6) hf1.2⟩
  have e3 := hsk 3 _ (by decide) rfl
  have e52 := hsk 52 _ (by decide) rfl
  refine V_aload_n (pc := 1163) C 1 rfl dL_law_1163 ?_
  obtain ⟨M1, r2, hc3, h⟩ := cal_of h
  refine V_callVI (pc := 1164) C (c_X11_createdNodes l Γ sk hsk.m.c fu hc3) cf_X11_createdNodes lk_L_201 ⟨rfl, rfl⟩ ⟨Nat.le_of_ble_eq_true rfl, Nat.le_of_ble_eq_true rfl⟩ e3 rfl rfl rfl (Nat.le_of_ble_eq_true rfl) hf0 rfl dL_law_1164 (fun hr2 => ?_)
  refine V_aload_n (pc := 1167) C 2 rfl dL_law_1167 ?_
  obtain ⟨M4, r5, hc6, h⟩ := cal_of h
  refine V_callVI (pc := 1168) C (c_X12_createdNodes l Γ sk hsk.m fu hc6) cf_X12_createdNodes lk_L_204 ⟨rfl, rfl⟩ ⟨Nat.le_of_ble_eq_true rfl, Nat.le_of_ble_eq_true rfl⟩ e52 rfl rfl rfl (Nat.le_of_ble_eq_true rfl) hf0 rfl dL_law_1168 (fun hr5 => ?_)
  refine V_icmp_eq (pc := 1171) C 2654 hr2 hr5 dL_law_1171 (by decide) (fun c1171_7 => ?_) (fun c1171_7 => ?_)
  · have h := ite_t h c1171_7
    refine V_sub (L' := [(0, vr Γ 2), (1, vr Γ 3), (2, vr Γ 52), (3, vr Γ 65), (4, vi x4)]) [0, 1, 2, 3, 4] rfl (by decide) ?_
    refine V_room (Nat.le_succ _) (Nat.le_add_right _ 6) ?_
    cases h
    exact kk
  · have h := ite_f h c1171_7
    refine V_iconst (pc := 1174) C dL_law_1174 ?_
    cases h
set_option maxRecDepth 100000 in
set_option maxHeartbeats 4000000 in
theorem c_L_case21 (l : Launch) (Γ : GG) (sk : List SD) (hsk : ExtL sk) (hl9 : l.stackTraces = false) (fu : Nat) {nS : Nat} (hs2 : sk[2]? = some (.inl (0, nS))) (hnS : nS ≤ 2147483647) {M M' : Mem} {x4 r : Int} (hx4 : rng x4) (hM : mR M) (h : f_L_case21 fu nS M x4 = some (M', r)) {p : Program} {e : Env} {s : State} {m : MethodId} {args : Array Value} {below : List Frame} {meth : Method} {c : Code} {Q : State → Prop} {cells slots : Nat} (hf1 : cells + 1 ≤ room_1.cells ∧ slots + 6 ≤ room_1.slots) (C : CX p s m args c cL_law 9 RL Γ sk) (kk : VV p l e room_1 s m args below meth c Q 9 Γ sk M' (cells + 1) (slots + 6) 2654 [(0, vr Γ 2), (1, vr Γ 3), (2, vr Γ 52), (3, vr Γ 65), (4, vi x4)] []) : VV p l e room_1 s m args below meth c Q 9 Γ sk M cells slots 1176 [(0, vr Γ 2), (1, vr Γ 3), (2, vr Γ 52), (3, vr Γ 65), (4, vi x4)] [] := by
  unfold f_L_case21 at h
  have hf0 : cells ≤ room_1.cells ∧ slots ≤ room_1.slots := ⟨Nat.le_of_succ_le hf1.1, Nat.le_trans (Nat.le_add_right _ 6) hf1.2⟩
  have e3 := hsk 3 _ (by decide) rfl
  have e52 := hsk 52 _ (by decide) rfl
  refine V_aload_n (pc := 1176) C 1 rfl dL_law_1176 ?_
  obtain ⟨M1, r2, hc3, h⟩ := cal_of h
  refine V_callVI (pc := 1177) C (c_X11_storedNodes l Γ sk hsk.m.c fu hc3) cf_X11_storedNodes lk_L_205 ⟨rfl, rfl⟩ ⟨Nat.le_of_ble_eq_true rfl, Nat.le_of_ble_eq_true rfl⟩ e3 rfl rfl rfl (Nat.le_of_ble_eq_true rfl) hf0 rfl dL_law_1177 (fun hr2 => ?_)
  refine V_aload_n (pc := 1180) C 2 rfl dL_law_1180 ?_
  obtain ⟨M4, r5, hc6, h⟩ := cal_of h
  refine V_callVI (pc := 1181) C (c_X12_storedNodes l Γ sk hsk.m fu hc6) cf_X12_storedNodes lk_L_208 ⟨rfl, rfl⟩ ⟨Nat.le_of_ble_eq_true rfl, Nat.le_of_ble_eq_true rfl⟩ e52 rfl rfl rfl (Nat.le_of_ble_eq_true rfl) hf0 rfl dL_law_1181 (fun hr5 => ?_)
  refine V_icmp_eq (pc := 1184) C 2654 hr2 hr5 dL_law_1184 (by decide) (fun c1184_7 => ?_) (fun c1184_7 => ?_)
  · have h := ite_t h c1184_7
    refine V_sub (L' := [(0, vr Γ 2), (1, vr Γ 3), (2, vr Γ 52), (3, vr Γ 65), (4, vi x4)]) [0, 1, 2, 3, 4] rfl (by decide) ?_
    refine V_room (Nat.le_succ _) (Nat.le_add_right _ 6) ?_
    cases h
    exact kk
  · have h := ite_f h c1184_7
    refine V_iconst (pc := 1187) C dL_law_1187 ?_
    cases h
set_option maxRecDepth 100000 in
set_option maxHeartbeats 4000000 in
theorem c_L_case22 (l : Launch) (Γ : GG) (sk : List SD) (hsk : ExtL sk) (hl9 : l.stackTraces = false) (fu : Nat) {nS : Nat} (hs2 : sk[2]? = some (.inl (0, nS))) (hnS : nS ≤ 2147483647) {M M' : Mem} {x4 r : Int} (hx4 : rng x4) (hM : mR M) (h : f_L_case22 fu nS M x4 = some (M', r)) {p : Program} {e : Env} {s : State} {m : MethodId} {args : Array Value} {below : List Frame} {meth : Method} {c : Code} {Q : State → Prop} {cells slots : Nat} (hf1 : cells + 1 ≤ room_1.cells ∧ slots + 6 ≤ room_1.slots) (C : CX p s m args c cL_law 9 RL Γ sk) (kk : VV p l e room_1 s m args below meth c Q 9 Γ sk M' (cells + 1) (slots + 6) 2654 [(0, vr Γ 2), (1, vr Γ 3), (2, vr Γ 52), (3, vr Γ 65), (4, vi x4)] []) : VV p l e room_1 s m args below meth c Q 9 Γ sk M cells slots 1189 [(0, vr Γ 2), (1, vr Γ 3), (2, vr Γ 52), (3, vr Γ 65), (4, vi x4)] [] := by
  unfold f_L_case22 at h
  have hf0 : cells ≤ room_1.cells ∧ slots ≤ room_1.slots := ⟨Nat.le_of_succ_le hf1.1, Nat.le_trans (Nat.le_add_right _ 6) hf1.2⟩
  have e3 := hsk 3 _ (by decide) rfl
  have e52 := hsk 52 _ (by decide) rfl
  refine V_aload_n (pc := 1189) C 1 rfl dL_law_1189 ?_
  obtain ⟨M1, r2, hc3, h⟩ := cal_of h
  refine V_callVI (pc := 1190) C (c_X11_garbageNodes l Γ sk hsk.m.c fu hc3) cf_X11_garbageNodes lk_L_209 ⟨rfl, rfl⟩ ⟨Nat.le_of_ble_eq_true rfl, Nat.le_of_ble_eq_true rfl⟩ e3 rfl rfl rfl (Nat.le_of_ble_eq_true rfl) hf0 rfl dL_law_1190 (fun hr2 => ?_)
  refine V_aload_n (pc := 1193) C 2 rfl dL_law_1193 ?_
  obtain ⟨M4, r5, hc6, h⟩ := cal_of h
  refine V_callVI (pc := 1194) C (c_X12_garbageNodes l Γ sk hsk.m fu hc6) cf_X12_garbageNodes lk_L_212 ⟨rfl, rfl⟩ ⟨Nat.le_of_ble_eq_true rfl, Nat.le_of_ble_eq_true rfl⟩ e52 rfl rfl rfl (Nat.le_of_ble_eq_true rfl) hf0 rfl dL_law_1194 (fun hr5 => ?_)
  refine V_icmp_eq (pc := 1197) C 2654 hr2 hr5 dL_law_1197 (by decide) (fun c1197_7 => ?_) (fun c1197_7 => ?_)
  · have h := ite_t h c1197_7
    refine V_sub (L' := [(0, vr Γ 2), (1, vr Γ 3), (2, vr Γ 52), (3, vr Γ 65), (4, vi x4)]) [0, 1, 2, 3, 4] rfl (by decide) ?_
    refine V_room (Nat.le_succ _) (Nat.le_add_right _ 6) ?_
    cases h
    exact kk
  · have h := ite_f h c1197_7
    refine V_iconst (pc := 1200) C dL_law_1200 ?_
    cases h
set_option maxRecDepth 100000 in
set_option maxHeartbeats 4000000 in
theorem c_L_case23 (l : Launch) (Γ : GG) (sk : List SD) (hsk : ExtL sk) (hl9 : l.stackTraces = false) (fu : Nat) {nS : Nat} (hs2 : sk[2]? = some (.inl (0, nS))) (hnS : nS ≤ 2147483647) {M M' : Mem} {x4 r : Int} (hx4 : rng x4) (hM : mR M) (h : f_L_case23 fu nS M x4 = some (M', r)) {p : Program} {e : Env} {s : State} {m : MethodId} {args : Array Value} {below : List Frame} {meth : Method} {c : Code} {Q : State → Prop} {cells slots : Nat} (hf1 : cells + 1 ≤ room_1.cells ∧ slots + 6 ≤ room_1.slots) (C : CX p s m args c cL_law 9 RL Γ sk) (kk : VV p l e room_1 s m args below meth c Q 9 Γ sk M' (cells + 1) (slots + 6) 2654 [(0, vr Γ 2), (1, vr Γ 3), (2, vr Γ 52), (3, vr Γ 65), (4, vi x4)] []) : VV p l e room_1 s m args below meth c Q 9 Γ sk M cells slots 1202 [(0, vr Γ 2), (1, vr Γ 3), (2, vr Γ 52), (3, vr Γ 65), (4, vi x4)] [] := by
  unfold f_L_case23 at h
  have hf0 : cells ≤ room_1.cells ∧ slots ≤ room_1.slots := ⟨Nat.le_of_succ_le hf1.1, Nat.le_trans (Nat.le_add_right _ 6) hf1.2⟩
  have e52 := hsk 52 _ (by decide) rfl
  have e65 := hsk 65 _ (by decide) rfl
  refine V_aload_n (pc := 1202) C 1 rfl dL_law_1202 ?_
  refine V_aload_n (pc := 1203) C 0 rfl dL_law_1203 ?_
  refine V_iload (pc := 1204) C 4 rfl dL_law_1204 ?_
  refine V_iconst (pc := 1206) C dL_law_1206 ?_
  refine V_iadd (pc := 1207) C dL_law_1207 ?_
  obtain ⟨g1, h⟩ := grd_of h
  obtain ⟨g2, h⟩ := grd_of h
  refine V_iald (pc := 1208) C hs2 g2 g1 dL_law_1208 ?_
  refine V_aload_n (pc := 1209) C 3 rfl dL_law_1209 ?_
  obtain ⟨M3, r4, hc5, h⟩ := cal_of h
  refine V_callH (pc := 1210) C (c_L_nodesCreatedFor l Γ sk hsk hl9 fu (hM _ _) hc5) chf_L_nodesCreatedFor lk_L_213 ⟨rfl, rfl⟩ ⟨Nat.le_of_ble_eq_true rfl, Nat.le_of_ble_eq_true rfl⟩ rfl (Nat.le_of_ble_eq_true rfl) hf1 rfl dL_law_1210 (fun hr4 => ?_)
  refine V_istore (pc := 1213) C (L' := [(0, vr Γ 2), (1, vr Γ 3), (2, vr Γ 52), (3, vr Γ 65), (4, vi x4), (5, vi r4)]) rfl (by decide) dL_law_1213 ?_
  refine V_aload_n (pc := 1215) C 2 rfl dL_law_1215 ?_
  refine V_aload_n (pc := 1216) C 0 rfl dL_law_1216 ?_
  refine V_iload (pc := 1217) C 4 rfl dL_law_1217 ?_
  refine V_iconst (pc := 1219) C dL_law_1219 ?_
  refine V_iadd (pc := 1220) C dL_law_1220 ?_
  refine V_rng fun hM6 => ?_
  obtain ⟨g7, h⟩ := grd_of h
  obtain ⟨g8, h⟩ := grd_of h
  refine V_iald (pc := 1221) C hs2 g8 g7 dL_law_1221 ?_
  obtain ⟨M9, r10, hc11, h⟩ := cal_of h
  refine V_callVI (pc := 1222) C (c_X12_nodesCreatedFor l Γ sk hsk.m fu (hM6 _ _) hc11) cf_X12_nodesCreatedFor lk_L_215 ⟨rfl, rfl⟩ ⟨Nat.le_of_ble_eq_true rfl, Nat.le_of_ble_eq_true rfl⟩ e52 rfl rfl rfl (Nat.le_of_ble_eq_true rfl) hf1 rfl dL_law_1222 (fun hr10 => ?_)
  refine V_istore (pc := 1225) C (L' := [(0, vr Γ 2), (1, vr Γ 3), (2, vr Γ 52), (3, vr Γ 65), (4, vi x4), (5, vi r4), (6, vi r10)]) rfl (by decide) dL_law_1225 ?_
  refine V_aload_n (pc := 1227) C 2 rfl dL_law_1227 ?_
  obtain ⟨M12, r13, hc14, h⟩ := cal_of h
  refine V_callVI (pc := 1228) C (c_X12_thrown l Γ sk hsk.m fu hc14) cf_X12_thrown lk_L_164 ⟨rfl, rfl⟩ ⟨Nat.le_of_ble_eq_true rfl, Nat.le_of_ble_eq_true rfl⟩ e52 rfl rfl rfl (Nat.le_of_ble_eq_true rfl) hf1 rfl dL_law_1228 (fun hr13 => ?_)
  refine V_iload (pc := 1231) C 5 rfl dL_law_1231 ?_
  refine V_icmp_eq (pc := 1233) C 1238 hr13 hr4 dL_law_1233 (by decide) (fun c1233_15 => ?_) (fun c1233_15 => ?_)
  · have h := ite_t h c1233_15
    refine V_iload (pc := 1238) C 5 rfl dL_law_1238 ?_
    refine V_if_ne (pc := 1240) C 1255 hr4 dL_law_1240 (by decide) (fun c1240_16 => ?_) (fun c1240_16 => ?_)
    · have h := ite_f h c1240_16
      refine V_goto (pc := 1255) C 2654 dL_law_1255 (by decide) ?_
      refine V_sub (L' := [(0, vr Γ 2), (1, vr Γ 3), (2, vr Γ 52), (3, vr Γ 65), (4, vi x4)]) [0, 1, 2, 3, 4] rfl (by decide) ?_
      cases h
      exact kk
    · have h := ite_t h c1240_16
      refine V_aload_n (pc := 1243) C 3 rfl dL_law_1243 ?_
      refine V_iconst (pc := 1244) C dL_law_1244 ?_
      refine V_rng fun hM17 => ?_
      refine V_lald (pc := 1245) C e65 (by decide) (by decide) dL_law_1245 ?_
      refine V_iload (pc := 1246) C 6 rfl dL_law_1246 ?_
      refine V_i2l (pc := 1248) C hr10 dL_law_1248 ?_
      refine V_lcmp (pc := 1249) C (hM17 _ _) hr10 dL_law_1249 ?_
      refine V_if_eq (pc := 1250) C 1255 (lcmp_rng _ _) dL_law_1250 (by decide) (fun c1250_18 => ?_) (fun c1250_18 => ?_)
      · have h := ite_t h c1250_18
        refine V_goto (pc := 1255) C 2654 dL_law_1255 (by decide) ?_
        refine V_sub (L' := [(0, vr Γ 2), (1, vr Γ 3), (2, vr Γ 52), (3, vr Γ 65), (4, vi x4)]) [0, 1, 2, 3, 4] rfl (by decide) ?_
        cases h
        exact kk
      · have h := ite_f h c1250_18
        refine V_iconst (pc := 1253) C dL_law_1253 ?_
        cases h
  · have h := ite_f h c1233_15
    refine V_iconst (pc := 1236) C dL_law_1236 ?_
    cases h
set_option maxRecDepth 100000 in
set_option maxHeartbeats 4000000 in
theorem c_L_case24 (l : Launch) (Γ : GG) (sk : List SD) (hsk : ExtL sk) (hl9 : l.stackTraces = false) (fu : Nat) {nS : Nat} (hs2 : sk[2]? = some (.inl (0, nS))) (hnS : nS ≤ 2147483647) {M M' : Mem} {x4 r : Int} (hx4 : rng x4) (hM : mR M) (h : f_L_case24 fu nS M x4 = some (M', r)) {p : Program} {e : Env} {s : State} {m : MethodId} {args : Array Value} {below : List Frame} {meth : Method} {c : Code} {Q : State → Prop} {cells slots : Nat} (hf1 : cells + 1 ≤ room_1.cells ∧ slots + 6 ≤ room_1.slots) (C : CX p s m args c cL_law 9 RL Γ sk) (kk : VV p l e room_1 s m args below meth c Q 9 Γ sk M' (cells + 1) (slots + 6) 2654 [(0, vr Γ 2), (1, vr Γ 3), (2, vr Γ 52), (3, vr Γ 65), (4, vi x4)] []) : VV p l e room_1 s m args below meth c Q 9 Γ sk M cells slots 1258 [(0, vr Γ 2), (1, vr Γ 3), (2, vr Γ 52), (3, vr Γ 65), (4, vi x4)] [] := by
  unfold f_L_case24 at h
  have hf0 : cells ≤ room_1.cells ∧ slots ≤ room_1.slots := ⟨Nat.le_of_succ_le hf1.1, Nat.le_trans (Nat.le_add_right _ 6) hf1.2⟩
  have e52 := hsk 52 _ (by decide) rfl
  have e65 := hsk 65 _ (by decide) rfl
  refine V_aload_n (pc := 1258) C 1 rfl dL_law_1258 ?_
  refine V_aload_n (pc := 1259) C 0 rfl dL_law_1259 ?_
  refine V_iload (pc := 1260) C 4 rfl dL_law_1260 ?_
  refine V_iconst (pc := 1262) C dL_law_1262 ?_
  refine V_iadd (pc := 1263) C dL_law_1263 ?_
  obtain ⟨g1, h⟩ := grd_of h
  obtain ⟨g2, h⟩ := grd_of h
  refine V_iald (pc := 1264) C hs2 g2 g1 dL_law_1264 ?_
  refine V_aload_n (pc := 1265) C 3 rfl dL_law_1265 ?_
  obtain ⟨M3, r4, hc5, h⟩ := cal_of h
  refine V_callH (pc := 1266) C (c_L_nodesOf l Γ sk hsk hl9 fu (hM _ _) hc5) chf_L_nodesOf lk_L_216 ⟨rfl, rfl⟩ ⟨Nat.le_of_ble_eq_true rfl, Nat.le_of_ble_eq_true rfl⟩ rfl (Nat.le_of_ble_eq_true rfl) hf1 rfl dL_law_1266 (fun hr4 => ?_)
  refine V_istore (pc := 1269) C (L' := [(0, vr Γ 2), (1, vr Γ 3), (2, vr Γ 52), (3, vr Γ 65), (4, vi x4), (5, vi r4)]) rfl (by decide) dL_law_1269 ?_
  refine V_aload_n (pc := 1271) C 2 rfl dL_law_1271 ?_
  refine V_aload_n (pc := 1272) C 0 rfl dL_law_1272 ?_
  refine V_iload (pc := 1273) C 4 rfl dL_law_1273 ?_
  refine V_iconst (pc := 1275) C dL_law_1275 ?_
  refine V_iadd (pc := 1276) C dL_law_1276 ?_
  refine V_rng fun hM6 => ?_
  obtain ⟨g7, h⟩ := grd_of h
  obtain ⟨g8, h⟩ := grd_of h
  refine V_iald (pc := 1277) C hs2 g8 g7 dL_law_1277 ?_
  obtain ⟨M9, r10, hc11, h⟩ := cal_of h
  refine V_callVI (pc := 1278) C (c_X12_nodesOf l Γ sk hsk.m fu (hM6 _ _) hc11) cf_X12_nodesOf lk_L_218 ⟨rfl, rfl⟩ ⟨Nat.le_of_ble_eq_true rfl, Nat.le_of_ble_eq_true rfl⟩ e52 rfl rfl rfl (Nat.le_of_ble_eq_true rfl) hf1 rfl dL_law_1278 (fun hr10 => ?_)
  refine V_istore (pc := 1281) C (L' := [(0, vr Γ 2), (1, vr Γ 3), (2, vr Γ 52), (3, vr Γ 65), (4, vi x4), (5, vi r4), (6, vi r10)]) rfl (by decide) dL_law_1281 ?_
  refine V_aload_n (pc := 1283) C 2 rfl dL_law_1283 ?_
  obtain ⟨M12, r13, hc14, h⟩ := cal_of h
  refine V_callVI (pc := 1284) C (c_X12_thrown l Γ sk hsk.m fu hc14) cf_X12_thrown lk_L_164 ⟨rfl, rfl⟩ ⟨Nat.le_of_ble_eq_true rfl, Nat.le_of_ble_eq_true rfl⟩ e52 rfl rfl rfl (Nat.le_of_ble_eq_true rfl) hf1 rfl dL_law_1284 (fun hr13 => ?_)
  refine V_iload (pc := 1287) C 5 rfl dL_law_1287 ?_
  refine V_icmp_eq (pc := 1289) C 1294 hr13 hr4 dL_law_1289 (by decide) (fun c1289_15 => ?_) (fun c1289_15 => ?_)
  · have h := ite_t h c1289_15
    refine V_iload (pc := 1294) C 5 rfl dL_law_1294 ?_
    refine V_if_ne (pc := 1296) C 1311 hr4 dL_law_1296 (by decide) (fun c1296_16 => ?_) (fun c1296_16 => ?_)
    · have h := ite_f h c1296_16
      refine V_goto (pc := 1311) C 2654 dL_law_1311 (by decide) ?_
      refine V_sub (L' := [(0, vr Γ 2), (1, vr Γ 3), (2, vr Γ 52), (3, vr Γ 65), (4, vi x4)]) [0, 1, 2, 3, 4] rfl (by decide) ?_
      cases h
      exact kk
    · have h := ite_t h c1296_16
      refine V_aload_n (pc := 1299) C 3 rfl dL_law_1299 ?_
      refine V_iconst (pc := 1300) C dL_law_1300 ?_
      refine V_rng fun hM17 => ?_
      refine V_lald (pc := 1301) C e65 (by decide) (by decide) dL_law_1301 ?_
      refine V_iload (pc := 1302) C 6 rfl dL_law_1302 ?_
      refine V_i2l (pc := 1304) C hr10 dL_law_1304 ?_
      refine V_lcmp (pc := 1305) C (hM17 _ _) hr10 dL_law_1305 ?_
      refine V_if_eq (pc := 1306) C 1311 (lcmp_rng _ _) dL_law_1306 (by decide) (fun c1306_18 => ?_) (fun c1306_18 => ?_)
      · have h := ite_t h c1306_18
        refine V_goto (pc := 1311) C 2654 dL_law_1311 (by decide) ?_
        refine V_sub (L' := [(0, vr Γ 2), (1, vr Γ 3), (2, vr Γ 52), (3, vr Γ 65), (4, vi x4)]) [0, 1, 2, 3, 4] rfl (by decide) ?_
        cases h
        exact kk
      · have h := ite_f h c1306_18
        refine V_iconst (pc := 1309) C dL_law_1309 ?_
        cases h
  · have h := ite_f h c1289_15
    refine V_iconst (pc := 1292) C dL_law_1292 ?_
    cases h
set_option maxRecDepth 100000 in
set_option maxHeartbeats 4000000 in
theorem c_L_case25 (l : Launch) (Γ : GG) (sk : List SD) (hsk : ExtL sk) (hl9 : l.stackTraces = false) (fu : Nat) {nS : Nat} (hs2 : sk[2]? = some (.inl (0, nS))) (hnS : nS ≤ 2147483647) {M M' : Mem} {x4 r : Int} (hx4 : rng x4) (hM : mR M) (h : f_L_case25 fu nS M x4 = some (M', r)) {p : Program} {e : Env} {s : State} {m : MethodId} {args : Array Value} {below : List Frame} {meth : Method} {c : Code} {Q : State → Prop} {cells slots : Nat} (hf1 : cells + 1 ≤ room_1.cells ∧ slots + 6 ≤ room_1.slots) (C : CX p s m args c cL_law 9 RL Γ sk) (kk : VV p l e room_1 s m args below meth c Q 9 Γ sk M' (cells + 1) (slots + 6) 2654 [(0, vr Γ 2), (1, vr Γ 3), (2, vr Γ 52), (3, vr Γ 65), (4, vi x4)] []) : VV p l e room_1 s m args below meth c Q 9 Γ sk M cells slots 1314 [(0, vr Γ 2), (1, vr Γ 3), (2, vr Γ 52), (3, vr Γ 65), (4, vi x4)] [] := by
  unfold f_L_case25 at h
  have hf0 : cells ≤ room_1.cells ∧ slots ≤ room_1.slots := ⟨Nat.le_of_succ_le hf1.1, Nat.le_trans (Nat.le_add_right _ 6) hf1.2⟩
  have e52 := hsk 52 _ (by decide) rfl
  have e65 := hsk 65 _ (by decide) rfl
  refine V_aload_n (pc := 1314) C 1 rfl dL_law_1314 ?_
  refine V_aload_n (pc := 1315) C 0 rfl dL_law_1315 ?_
  refine V_iload (pc := 1316) C 4 rfl dL_law_1316 ?_
  refine V_iconst (pc := 1318) C dL_law_1318 ?_
  refine V_iadd (pc := 1319) C dL_law_1319 ?_
  obtain ⟨g1, h⟩ := grd_of h
  obtain ⟨g2, h⟩ := grd_of h
  refine V_iald (pc := 1320) C hs2 g2 g1 dL_law_1320 ?_
  refine V_aload_n (pc := 1321) C 0 rfl dL_law_1321 ?_
  refine V_iload (pc := 1322) C 4 rfl dL_law_1322 ?_
  refine V_iconst (pc := 1324) C dL_law_1324 ?_
  refine V_iadd (pc := 1325) C dL_law_1325 ?_
  obtain ⟨g3, h⟩ := grd_of h
  obtain ⟨g4, h⟩ := grd_of h
  refine V_iald (pc := 1326) C hs2 g4 g3 dL_law_1326 ?_
  refine V_aload_n (pc := 1327) C 3 rfl dL_law_1327 ?_
  obtain ⟨M5, r6, hc7, h⟩ := cal_of h
  refine V_callH (pc := 1328) C (c_L_sharedNodes l Γ sk hsk hl9 fu (hM _ _) (hM _ _) hc7) chf_L_sharedNodes lk_L_219 ⟨rfl, rfl⟩ ⟨Nat.le_of_ble_eq_true rfl, Nat.le_of_ble_eq_true rfl⟩ rfl (Nat.le_of_ble_eq_true rfl) hf1 rfl dL_law_1328 (fun hr6 => ?_)
  refine V_istore (pc := 1331) C (L' := [(0, vr Γ 2), (1, vr Γ 3), (2, vr Γ 52), (3, vr Γ 65), (4, vi x4), (5, vi r6)]) rfl (by decide) dL_law_1331 ?_
  refine V_aload_n (pc := 1333) C 2 rfl dL_law_1333 ?_
  refine V_aload_n (pc := 1334) C 0 rfl dL_law_1334 ?_
  refine V_iload (pc := 1335) C 4 rfl dL_law_1335 ?_
  refine V_iconst (pc := 1337) C dL_law_1337 ?_
  refine V_iadd (pc := 1338) C dL_law_1338 ?_
  refine V_rng fun hM8 => ?_
  obtain ⟨g9, h⟩ := grd_of h
  obtain ⟨g10, h⟩ := grd_of h
  refine V_iald (pc := 1339) C hs2 g10 g9 dL_law_1339 ?_
  refine V_aload_n (pc := 1340) C 0 rfl dL_law_1340 ?_
  refine V_iload (pc := 1341) C 4 rfl dL_law_1341 ?_
  refine V_iconst (pc := 1343) C dL_law_1343 ?_
  refine V_iadd (pc := 1344) C dL_law_1344 ?_
  obtain ⟨g11, h⟩ := grd_of h
  obtain ⟨g12, h⟩ := grd_of h
  refine V_iald (pc := 1345) C hs2 g12 g11 dL_law_1345 ?_
  obtain ⟨M13, r14, hc15, h⟩ := cal_of h
  refine V_callVI (pc := 1346) C (c_X12_sharedNodes l Γ sk hsk.m fu (hM8 _ _) (hM8 _ _) hc15) cf_X12_sharedNodes lk_L_221 ⟨rfl, rfl⟩ ⟨Nat.le_of_ble_eq_true rfl, Nat.le_of_ble_eq_true rfl⟩ e52 rfl rfl rfl (Nat.le_of_ble_eq_true rfl) hf1 rfl dL_law_1346 (fun hr14 => ?_)
  refine V_istore (pc := 1349) C (L' := [(0, vr Γ 2), (1, vr Γ 3), (2, vr Γ 52), (3, vr Γ 65), (4, vi x4), (5, vi r6), (6, vi r14)]) rfl (by decide) dL_law_1349 ?_
  refine V_aload_n (pc := 1351) C 2 rfl dL_law_1351 ?_
  obtain ⟨M16, r17, hc18, h⟩ := cal_of h
  refine V_callVI (pc := 1352) C (c_X12_thrown l Γ sk hsk.m fu hc18) cf_X12_thrown lk_L_164 ⟨rfl, rfl⟩ ⟨Nat.le_of_ble_eq_true rfl, Nat.le_of_ble_eq_true rfl⟩ e52 rfl rfl rfl (Nat.le_of_ble_eq_true rfl) hf1 rfl dL_law_1352 (fun hr17 => ?_)
  refine V_iload (pc := 1355) C 5 rfl dL_law_1355 ?_
  refine V_icmp_eq (pc := 1357) C 1362 hr17 hr6 dL_law_1357 (by decide) (fun c1357_19 => ?_) (fun c1357_19 => ?_)
  · have h := ite_t h c1357_19
    refine V_iload (pc := 1362) C 5 rfl dL_law_1362 ?_
    refine V_if_ne (pc := 1364) C 1379 hr6 dL_law_1364 (by decide) (fun c1364_20 => ?_) (fun c1364_20 => ?_)
    · have h := ite_f h c1364_20
      refine V_goto (pc := 1379) C 2654 dL_law_1379 (by decide) ?_
      refine V_sub (L' := [(0, vr Γ 2), (1, vr Γ 3), (2, vr Γ 52), (3, vr Γ 65), (4, vi x4)]) [0, 1, 2, 3, 4] rfl (by decide) ?_
      cases h
      exact kk
    · have h := ite_t h c1364_20
      refine V_aload_n (pc := 1367) C 3 rfl dL_law_1367 ?_
      refine V_iconst (pc := 1368) C dL_law_1368 ?_
      refine V_rng fun hM21 => ?_
      refine V_lald (pc := 1369) C e65 (by decide) (by decide) dL_law_1369 ?_
      refine V_iload (pc := 1370) C 6 rfl dL_law_1370 ?_
      refine V_i2l (pc := 1372) C hr14 dL_law_1372 ?_
      refine V_lcmp (pc := 1373) C (hM21 _ _) hr14 dL_law_1373 ?_
      refine V_if_eq (pc := 1374) C 1379 (lcmp_rng _ _) dL_law_1374 (by decide) (fun c1374_22 => ?_) (fun c1374_22 => ?_)
      · have h := ite_t h c1374_22
        refine V_goto (pc := 1379) C 2654 dL_law_1379 (by decide) ?_
        refine V_sub (L' := [(0, vr Γ 2), (1, vr Γ 3), (2, vr Γ 52), (3, vr Γ 65), (4, vi x4)]) [0, 1, 2, 3, 4] rfl (by decide) ?_
        cases h
        exact kk
      · have h := ite_f h c1374_22
        refine V_iconst (pc := 1377) C dL_law_1377 ?_
        cases h
  · have h := ite_f h c1357_19
    refine V_iconst (pc := 1360) C dL_law_1360 ?_
    cases h
set_option maxRecDepth 100000 in
set_option maxHeartbeats 4000000 in
theorem c_L_case26 (l : Launch) (Γ : GG) (sk : List SD) (hsk : ExtL sk) (hl9 : l.stackTraces = false) (fu : Nat) {nS : Nat} (hs2 : sk[2]? = some (.inl (0, nS))) (hnS : nS ≤ 2147483647) {M M' : Mem} {x4 r : Int} (hx4 : rng x4) (hM : mR M) (h : f_L_case26 fu nS M x4 = some (M', r)) {p : Program} {e : Env} {s : State} {m : MethodId} {args : Array Value} {below : List Frame} {meth : Method} {c : Code} {Q : State → Prop} {cells slots : Nat} (hf1 : cells + 1 ≤ room_1.cells ∧ slots + 6 ≤ room_1.slots) (C : CX p s m args c cL_law 9 RL Γ sk) (kk : VV p l e room_1 s m args below meth c Q 9 Γ sk M' (cells + 1) (slots + 6) 2654 [(0, vr Γ 2), (1, vr Γ 3), (2, vr Γ 52), (3, vr Γ 65), (4, vi x4)] []) : VV p l e room_1 s m args below meth c Q 9 Γ sk M cells slots 1382 [(0, vr Γ 2), (1, vr Γ 3), (2, vr Γ 52), (3, vr Γ 65), (4, vi x4)] [] := by
  unfold f_L_case26 at h
  have hf0 : cells ≤ room_1.cells ∧ slots ≤ room_1.slots := ⟨Nat.le_of_succ_le hf1.1, Nat.le_trans (Nat.le_add_right _ 6) hf1.2⟩
  have e52 := hsk 52 _ (by decide) rfl
  have e65 := hsk 65 _ (by decide) rfl
  refine V_aload_n (pc := 1382) C 1 rfl dL_law_1382 ?_
  refine V_aload_n (pc := 1383) C 0 rfl dL_law_1383 ?_
  refine V_iload (pc := 1384) C 4 rfl dL_law_1384 ?_
  refine V_iconst (pc := 1386) C dL_law_1386 ?_
  refine V_iadd (pc := 1387) C dL_law_1387 ?_
  obtain ⟨g1, h⟩ := grd_of h
  obtain ⟨g2, h⟩ := grd_of h
  refine V_iald (pc := 1388) C hs2 g2 g1 dL_law_1388 ?_
  refine V_aload_n (pc := 1389) C 3 rfl dL_law_1389 ?_
  obtain ⟨M3, r4, hc5, h⟩ := cal_of h
  refine V_callH (pc := 1390) C (c_L_exclusiveNodes l Γ sk hsk hl9 fu (hM _ _) hc5) chf_L_exclusiveNodes lk_L_222 ⟨rfl, rfl⟩ ⟨Nat.le_of_ble_eq_true rfl, Nat.le_of_ble_eq_true rfl⟩ rfl (Nat.le_of_ble_eq_true rfl) hf1 rfl dL_law_1390 (fun hr4 => ?_)
  refine V_istore (pc := 1393) C (L' := [(0, vr Γ 2), (1, vr Γ 3), (2, vr Γ 52), (3, vr Γ 65), (4, vi x4), (5, vi r4)]) rfl (by decide) dL_law_1393 ?_
  refine V_aload_n (pc := 1395) C 2 rfl dL_law_1395 ?_
  refine V_aload_n (pc := 1396) C 0 rfl dL_law_1396 ?_
  refine V_iload (pc := 1397) C 4 rfl dL_law_1397 ?_
  refine V_iconst (pc := 1399) C dL_law_1399 ?_
  refine V_iadd (pc := 1400) C dL_law_1400 ?_
  refine V_rng fun hM6 => ?_
  obtain ⟨g7, h⟩ := grd_of h
  obtain ⟨g8, h⟩ := grd_of h
  refine V_iald (pc := 1401) C hs2 g8 g7 dL_law_1401 ?_
  obtain ⟨M9, r10, hc11, h⟩ := cal_of h
  refine V_callVI (pc := 1402) C (c_X12_exclusiveNodes l Γ sk hsk.m fu (hM6 _ _) hc11) cf_X12_exclusiveNodes lk_L_224 ⟨rfl, rfl⟩ ⟨Nat.le_of_ble_eq_true rfl, Nat.le_of_ble_eq_true rfl⟩ e52 rfl rfl rfl (Nat.le_of_ble_eq_true rfl) hf1 rfl dL_law_1402 (fun hr10 => ?_)
  refine V_istore (pc := 1405) C (L' := [(0, vr Γ 2), (1, vr Γ 3), (2, vr Γ 52), (3, vr Γ 65), (4, vi x4), (5, vi r4), (6, vi r10)]) rfl (by decide) dL_law_1405 ?_
  refine V_aload_n (pc := 1407) C 2 rfl dL_law_1407 ?_
  obtain ⟨M12, r13, hc14, h⟩ := cal_of h
  refine V_callVI (pc := 1408) C (c_X12_thrown l Γ sk hsk.m fu hc14) cf_X12_thrown lk_L_164 ⟨rfl, rfl⟩ ⟨Nat.le_of_ble_eq_true rfl, Nat.le_of_ble_eq_true rfl⟩ e52 rfl rfl rfl (Nat.le_of_ble_eq_true rfl) hf1 rfl dL_law_1408 (fun hr13 => ?_)
  refine V_iload (pc := 1411) C 5 rfl dL_law_1411 ?_
  refine V_icmp_eq (pc := 1413) C 1418 hr13 hr4 dL_law_1413 (by decide) (fun c1413_15 => ?_) (fun c1413_15 => ?_)
  · have h := ite_t h c1413_15
    refine V_iload (pc := 1418) C 5 rfl dL_law_1418 ?_
    refine V_if_ne (pc := 1420) C 1435 hr4 dL_law_1420 (by decide) (fun c1420_16 => ?_) (fun c1420_16 => ?_)
    · have h := ite_f h c1420_16
      refine V_goto (pc := 1435) C 2654 dL_law_1435 (by decide) ?_
      refine V_sub (L' := [(0, vr Γ 2), (1, vr Γ 3), (2, vr Γ 52), (3, vr Γ 65), (4, vi x4)]) [0, 1, 2, 3, 4] rfl (by decide) ?_
      cases h
      exact kk
    · have h := ite_t h c1420_16
      refine V_aload_n (pc := 1423) C 3 rfl dL_law_1423 ?_
      refine V_iconst (pc := 1424) C dL_law_1424 ?_
      refine V_rng fun hM17 => ?_
      refine V_lald (pc := 1425) C e65 (by decide) (by decide) dL_law_1425 ?_
      refine V_iload (pc := 1426) C 6 rfl dL_law_1426 ?_
      refine V_i2l (pc := 1428) C hr10 dL_law_1428 ?_
      refine V_lcmp (pc := 1429) C (hM17 _ _) hr10 dL_law_1429 ?_
      refine V_if_eq (pc := 1430) C 1435 (lcmp_rng _ _) dL_law_1430 (by decide) (fun c1430_18 => ?_) (fun c1430_18 => ?_)
      · have h := ite_t h c1430_18
        refine V_goto (pc := 1435) C 2654 dL_law_1435 (by decide) ?_
        refine V_sub (L' := [(0, vr Γ 2), (1, vr Γ 3), (2, vr Γ 52), (3, vr Γ 65), (4, vi x4)]) [0, 1, 2, 3, 4] rfl (by decide) ?_
        cases h
        exact kk
      · have h := ite_f h c1430_18
        refine V_iconst (pc := 1433) C dL_law_1433 ?_
        cases h
  · have h := ite_f h c1413_15
    refine V_iconst (pc := 1416) C dL_law_1416 ?_
    cases h
set_option maxRecDepth 100000 in
set_option maxHeartbeats 4000000 in
theorem c_L_case27 (l : Launch) (Γ : GG) (sk : List SD) (hsk : ExtL sk) (hl9 : l.stackTraces = false) (fu : Nat) {nS : Nat} (hs2 : sk[2]? = some (.inl (0, nS))) (hnS : nS ≤ 2147483647) {M M' : Mem} {x4 r : Int} (hx4 : rng x4) (hM : mR M) (h : f_L_case27 fu nS M x4 = some (M', r)) {p : Program} {e : Env} {s : State} {m : MethodId} {args : Array Value} {below : List Frame} {meth : Method} {c : Code} {Q : State → Prop} {cells slots : Nat} (hf1 : cells + 1 ≤ room_1.cells ∧ slots + 6 ≤ room_1.slots) (C : CX p s m args c cL_law 9 RL Γ sk) (kk : VV p l e room_1 s m args below meth c Q 9 Γ sk M' (cells + 1) (slots + 6) 2654 [(0, vr Γ 2), (1, vr Γ 3), (2, vr Γ 52), (3, vr Γ 65), (4, vi x4)] []) : VV p l e room_1 s m args below meth c Q 9 Γ sk M cells slots 1438 [(0, vr Γ 2), (1, vr Γ 3), (2, vr Γ 52), (3, vr Γ 65), (4, vi x4)] [] := by
  unfold f_L_case27 at h
  have hf0 : cells ≤ room_1.cells ∧ slots ≤ room_1.slots := ⟨Nat.le_of_succ_le hf1.1, Nat.le_trans (Nat.le_add_right _ 6) hf1.2⟩
  have e52 := hsk 52 _ (by decide) rfl
  have e65 := hsk 65 _ (by decide) rfl
  refine V_aload_n (pc := 1438) C 1 rfl dL_law_1438 ?_
  refine V_aload_n (pc := 1439) C 0 rfl dL_law_1439 ?_
  refine V_iload (pc := 1440) C 4 rfl dL_law_1440 ?_
  refine V_iconst (pc := 1442) C dL_law_1442 ?_
  refine V_iadd (pc := 1443) C dL_law_1443 ?_
  obtain ⟨g1, h⟩ := grd_of h
  obtain ⟨g2, h⟩ := grd_of h
  refine V_iald (pc := 1444) C hs2 g2 g1 dL_law_1444 ?_
  refine V_aload_n (pc := 1445) C 3 rfl dL_law_1445 ?_
  obtain ⟨M3, r4, hc5, h⟩ := cal_of h
  refine V_callH (pc := 1446) C (c_L_isLeaf l Γ sk hsk hl9 fu (hM _ _) hc5) chf_L_isLeaf lk_L_225 ⟨rfl, rfl⟩ ⟨Nat.le_of_ble_eq_true rfl, Nat.le_of_ble_eq_true rfl⟩ rfl (Nat.le_of_ble_eq_true rfl) hf1 rfl dL_law_1446 (fun hr4 => ?_)
  refine V_istore (pc := 1449) C (L' := [(0, vr Γ 2), (1, vr Γ 3), (2, vr Γ 52), (3, vr Γ 65), (4, vi x4), (5, vi r4)]) rfl (by decide) dL_law_1449 ?_
  refine V_aload_n (pc := 1451) C 2 rfl dL_law_1451 ?_
  refine V_aload_n (pc := 1452) C 0 rfl dL_law_1452 ?_
  refine V_iload (pc := 1453) C 4 rfl dL_law_1453 ?_
  refine V_iconst (pc := 1455) C dL_law_1455 ?_
  refine V_iadd (pc := 1456) C dL_law_1456 ?_
  refine V_rng fun hM6 => ?_
  obtain ⟨g7, h⟩ := grd_of h
  obtain ⟨g8, h⟩ := grd_of h
  refine V_iald (pc := 1457) C hs2 g8 g7 dL_law_1457 ?_
  obtain ⟨M9, r10, hc11, h⟩ := cal_of h
  refine V_callVI (pc := 1458) C (c_X12_isLeaf l Γ sk hsk.m fu (hM6 _ _) hc11) cf_X12_isLeaf lk_L_227 ⟨rfl, rfl⟩ ⟨Nat.le_of_ble_eq_true rfl, Nat.le_of_ble_eq_true rfl⟩ e52 rfl rfl rfl (Nat.le_of_ble_eq_true rfl) hf1 rfl dL_law_1458 (fun hr10 => ?_)
  refine V_istore (pc := 1461) C (L' := [(0, vr Γ 2), (1, vr Γ 3), (2, vr Γ 52), (3, vr Γ 65), (4, vi x4), (5, vi r4), (6, vi r10)]) rfl (by decide) dL_law_1461 ?_
  refine V_aload_n (pc := 1463) C 2 rfl dL_law_1463 ?_
  obtain ⟨M12, r13, hc14, h⟩ := cal_of h
  refine V_callVI (pc := 1464) C (c_X12_thrown l Γ sk hsk.m fu hc14) cf_X12_thrown lk_L_164 ⟨rfl, rfl⟩ ⟨Nat.le_of_ble_eq_true rfl, Nat.le_of_ble_eq_true rfl⟩ e52 rfl rfl rfl (Nat.le_of_ble_eq_true rfl) hf1 rfl dL_law_1464 (fun hr13 => ?_)
  refine V_iload (pc := 1467) C 5 rfl dL_law_1467 ?_
  refine V_icmp_eq (pc := 1469) C 1474 hr13 hr4 dL_law_1469 (by decide) (fun c1469_15 => ?_) (fun c1469_15 => ?_)
  · have h := ite_t h c1469_15
    refine V_iload (pc := 1474) C 5 rfl dL_law_1474 ?_
    refine V_if_ne (pc := 1476) C 1498 hr4 dL_law_1476 (by decide) (fun c1476_16 => ?_) (fun c1476_16 => ?_)
    · have h := ite_f h c1476_16
      refine V_goto (pc := 1498) C 2654 dL_law_1498 (by decide) ?_
      refine V_sub (L' := [(0, vr Γ 2), (1, vr Γ 3), (2, vr Γ 52), (3, vr Γ 65), (4, vi x4)]) [0, 1, 2, 3, 4] rfl (by decide) ?_
      cases h
      exact kk
    · have h := ite_t h c1476_16
      refine V_aload_n (pc := 1479) C 3 rfl dL_law_1479 ?_
      refine V_iconst (pc := 1480) C dL_law_1480 ?_
      refine V_rng fun hM17 => ?_
      refine V_lald (pc := 1481) C e65 (by decide) (by decide) dL_law_1481 ?_
      refine V_iload (pc := 1482) C 6 rfl dL_law_1482 ?_
      refine V_if_eq (pc := 1484) C 1491 hr10 dL_law_1484 (by decide) (fun c1484_18 => ?_) (fun c1484_18 => ?_)
      · have h := ite_t h c1484_18
        refine V_lconst (pc := 1491) C (x := (0 : Int)) dL_law_1491 rfl ?_
        refine V_lcmp (pc := 1492) C (hM17 _ _) (by decide) dL_law_1492 ?_
        refine V_if_eq (pc := 1493) C 1498 (lcmp_rng _ _) dL_law_1493 (by decide) (fun c1493_19 => ?_) (fun c1493_19 => ?_)
        · have h := ite_t h c1493_19
          refine V_goto (pc := 1498) C 2654 dL_law_1498 (by decide) ?_
          refine V_sub (L' := [(0, vr Γ 2), (1, vr Γ 3), (2, vr Γ 52), (3, vr Γ 65), (4, vi x4)]) [0, 1, 2, 3, 4] rfl (by decide) ?_
          cases h
          exact kk
        · have h := ite_f h c1493_19
          refine V_iconst (pc := 1496) C dL_law_1496 ?_
          cases h
      · have h := ite_f h c1484_18
        refine V_lconst (pc := 1487) C (x := (1 : Int)) dL_law_1487 rfl ?_
        refine V_goto (pc := 1488) C 1492 dL_law_1488 (by decide) ?_
        refine V_lcmp (pc := 1492) C (hM17 _ _) (by decide) dL_law_1492 ?_
        refine V_if_eq (pc := 1493) C 1498 (lcmp_rng _ _) dL_law_1493 (by decide) (fun c1493_20 => ?_) (fun c1493_20 => ?_)
        · have h := ite_t h c1493_20
          refine V_goto (pc := 1498) C 2654 dL_law_1498 (by decide) ?_
          refine V_sub (L' := [(0, vr Γ 2), (1, vr Γ 3), (2, vr Γ 52), (3, vr Γ 65), (4, vi x4)]) [0, 1, 2, 3, 4] rfl (by decide) ?_
          cases h
          exact kk
        · have h := ite_f h c1493_20
          refine V_iconst (pc := 1496) C dL_law_1496 ?_
          cases h
  · have h := ite_f h c1469_15
    refine V_iconst (pc := 1472) C dL_law_1472 ?_
    cases h
