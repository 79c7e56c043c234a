set_option maxRecDepth 100000 in
set_option maxHeartbeats 4000000 in
theorem c_L_case28 (l : Launch) (Γ : GG) (sk : List SD) (hsk : ExtL sk) (hl9 : l.stackTraces = false) (fu : Nat) {nS : Nat} (hs2 : sk[2]? = some (.inl (0, nS))) (hnS : nS ≤ 2147483647) {M M' : Mem} {x4 r : Int} (hx4 : rng x4) (hM : mR M) (h : f_L_case28 fu nS M x4 = some (M', r)) {p : Program} {e : Env} {s : State} {m : MethodId} {args : Array Value} {below : List Frame} {meth : Method} {c : Code} {Q : State → Prop} {cells slots : Nat} (hf1 : cells + 1 ≤ room_1.cells ∧ slots + 6 ≤ room_1.slots) (C : CX p s m args c cL_law 9 RL Γ sk) (kk : VV p l e room_1 s m args below meth c Q 9 Γ sk M' (cells + 1) (slots + 6) 2654 [(0, vr Γ 2), (1, vr Γ 3), (2, vr Γ 52), (3, vr Γ 65), (4, vi x4)] []) : VV p l e room_1 s m args below meth c Q 9 Γ sk M cells slots 1501 [(0, vr Γ 2), (1, vr Γ 3), (2, vr Γ 52), (3, vr Γ 65), (4, vi x4)] [] := by
  unfold f_L_case28 at h
  have hf0 : cells ≤ room_1.cells ∧ slots ≤ room_1.slots := ⟨Nat.le_of_succ_le hf1.1, Nat.le_trans (Nat.le_add_right _ 6) hf1.2⟩
  have e52 := hsk 52 _ (by decide) rfl
  have e65 := hsk 65 _ (by decide) rfl
  refine V_aload_n (pc := 1501) C 1 rfl dL_law_1501 ?_
  refine V_aload_n (pc := 1502) C 0 rfl dL_law_1502 ?_
  refine V_iload (pc := 1503) C 4 rfl dL_law_1503 ?_
  refine V_iconst (pc := 1505) C dL_law_1505 ?_
  refine V_iadd (pc := 1506) C dL_law_1506 ?_
  obtain ⟨g1, h⟩ := grd_of h
  obtain ⟨g2, h⟩ := grd_of h
  refine V_iald (pc := 1507) C hs2 g2 g1 dL_law_1507 ?_
  refine V_aload_n (pc := 1508) C 3 rfl dL_law_1508 ?_
  obtain ⟨M3, r4, hc5, h⟩ := cal_of h
  refine V_callH (pc := 1509) C (c_L_entryCount l Γ sk hsk hl9 fu (hM _ _) hc5) chf_L_entryCount lk_L_228 ⟨rfl, rfl⟩ ⟨Nat.le_of_ble_eq_true rfl, Nat.le_of_ble_eq_true rfl⟩ rfl (Nat.le_of_ble_eq_true rfl) hf1 rfl dL_law_1509 (fun hr4 => ?_)
  refine V_istore (pc := 1512) C (L' := [(0, vr Γ 2), (1, vr Γ 3), (2, vr Γ 52), (3, vr Γ 65), (4, vi x4), (5, vi r4)]) rfl (by decide) dL_law_1512 ?_
  refine V_aload_n (pc := 1514) C 2 rfl dL_law_1514 ?_
  refine V_aload_n (pc := 1515) C 0 rfl dL_law_1515 ?_
  refine V_iload (pc := 1516) C 4 rfl dL_law_1516 ?_
  refine V_iconst (pc := 1518) C dL_law_1518 ?_
  refine V_iadd (pc := 1519) C dL_law_1519 ?_
  refine V_rng fun hM6 => ?_
  obtain ⟨g7, h⟩ := grd_of h
  obtain ⟨g8, h⟩ := grd_of h
  refine V_iald (pc := 1520) C hs2 g8 g7 dL_law_1520 ?_
  obtain ⟨M9, r10, hc11, h⟩ := cal_of h
  refine V_callVI (pc := 1521) C (c_X12_entryCount l Γ sk hsk.m fu (hM6 _ _) hc11) cf_X12_entryCount lk_L_230 ⟨rfl, rfl⟩ ⟨Nat.le_of_ble_eq_true rfl, Nat.le_of_ble_eq_true rfl⟩ e52 rfl rfl rfl (Nat.le_of_ble_eq_true rfl) hf1 rfl dL_law_1521 (fun hr10 => ?_)
  refine V_istore (pc := 1524) C (L' := [(0, vr Γ 2), (1, vr Γ 3), (2, vr Γ 52), (3, vr Γ 65), (4, vi x4), (5, vi r4), (6, vi r10)]) rfl (by decide) dL_law_1524 ?_
  refine V_aload_n (pc := 1526) C 2 rfl dL_law_1526 ?_
  obtain ⟨M12, r13, hc14, h⟩ := cal_of h
  refine V_callVI (pc := 1527) C (c_X12_thrown l Γ sk hsk.m fu hc14) cf_X12_thrown lk_L_164 ⟨rfl, rfl⟩ ⟨Nat.le_of_ble_eq_true rfl, Nat.le_of_ble_eq_true rfl⟩ e52 rfl rfl rfl (Nat.le_of_ble_eq_true rfl) hf1 rfl dL_law_1527 (fun hr13 => ?_)
  refine V_iload (pc := 1530) C 5 rfl dL_law_1530 ?_
  refine V_icmp_eq (pc := 1532) C 1537 hr13 hr4 dL_law_1532 (by decide) (fun c1532_15 => ?_) (fun c1532_15 => ?_)
  · have h := ite_t h c1532_15
    refine V_iload (pc := 1537) C 5 rfl dL_law_1537 ?_
    refine V_if_ne (pc := 1539) C 1554 hr4 dL_law_1539 (by decide) (fun c1539_16 => ?_) (fun c1539_16 => ?_)
    · have h := ite_f h c1539_16
      refine V_goto (pc := 1554) C 2654 dL_law_1554 (by decide) ?_
      refine V_sub (L' := [(0, vr Γ 2), (1, vr Γ 3), (2, vr Γ 52), (3, vr Γ 65), (4, vi x4)]) [0, 1, 2, 3, 4] rfl (by decide) ?_
      cases h
      exact kk
    · have h := ite_t h c1539_16
      refine V_aload_n (pc := 1542) C 3 rfl dL_law_1542 ?_
      refine V_iconst (pc := 1543) C dL_law_1543 ?_
      refine V_rng fun hM17 => ?_
      refine V_lald (pc := 1544) C e65 (by decide) (by decide) dL_law_1544 ?_
      refine V_iload (pc := 1545) C 6 rfl dL_law_1545 ?_
      refine V_i2l (pc := 1547) C hr10 dL_law_1547 ?_
      refine V_lcmp (pc := 1548) C (hM17 _ _) hr10 dL_law_1548 ?_
      refine V_if_eq (pc := 1549) C 1554 (lcmp_rng _ _) dL_law_1549 (by decide) (fun c1549_18 => ?_) (fun c1549_18 => ?_)
      · have h := ite_t h c1549_18
        refine V_goto (pc := 1554) C 2654 dL_law_1554 (by decide) ?_
        refine V_sub (L' := [(0, vr Γ 2), (1, vr Γ 3), (2, vr Γ 52), (3, vr Γ 65), (4, vi x4)]) [0, 1, 2, 3, 4] rfl (by decide) ?_
        cases h
        exact kk
      · have h := ite_f h c1549_18
        refine V_iconst (pc := 1552) C dL_law_1552 ?_
        cases h
  · have h := ite_f h c1532_15
    refine V_iconst (pc := 1535) C dL_law_1535 ?_
    cases h
set_option maxRecDepth 100000 in
set_option maxHeartbeats 4000000 in
theorem c_L_case29 (l : Launch) (Γ : GG) (sk : List SD) (hsk : ExtL sk) (hl9 : l.stackTraces = false) (fu : Nat) {nS : Nat} (hs2 : sk[2]? = some (.inl (0, nS))) (hnS : nS ≤ 2147483647) {M M' : Mem} {x4 r : Int} (hx4 : rng x4) (hM : mR M) (h : f_L_case29 fu nS M x4 = some (M', r)) {p : Program} {e : Env} {s : State} {m : MethodId} {args : Array Value} {below : List Frame} {meth : Method} {c : Code} {Q : State → Prop} {cells slots : Nat} (hf1 : cells + 1 ≤ room_1.cells ∧ slots + 6 ≤ room_1.slots) (C : CX p s m args c cL_law 9 RL Γ sk) (kk : VV p l e room_1 s m args below meth c Q 9 Γ sk M' (cells + 1) (slots + 6) 2654 [(0, vr Γ 2), (1, vr Γ 3), (2, vr Γ 52), (3, vr Γ 65), (4, vi x4)] []) : VV p l e room_1 s m args below meth c Q 9 Γ sk M cells slots 1557 [(0, vr Γ 2), (1, vr Γ 3), (2, vr Γ 52), (3, vr Γ 65), (4, vi x4)] [] := by
  unfold f_L_case29 at h
  have hf0 : cells ≤ room_1.cells ∧ slots ≤ room_1.slots := ⟨Nat.le_of_succ_le hf1.1, Nat.le_trans (Nat.le_add_right _ 6) hf1.2⟩
  have e52 := hsk 52 _ (by decide) rfl
  have e65 := hsk 65 _ (by decide) rfl
  refine V_aload_n (pc := 1557) C 1 rfl dL_law_1557 ?_
  refine V_aload_n (pc := 1558) C 0 rfl dL_law_1558 ?_
  refine V_iload (pc := 1559) C 4 rfl dL_law_1559 ?_
  refine V_iconst (pc := 1561) C dL_law_1561 ?_
  refine V_iadd (pc := 1562) C dL_law_1562 ?_
  obtain ⟨g1, h⟩ := grd_of h
  obtain ⟨g2, h⟩ := grd_of h
  refine V_iald (pc := 1563) C hs2 g2 g1 dL_law_1563 ?_
  refine V_aload_n (pc := 1564) C 0 rfl dL_law_1564 ?_
  refine V_iload (pc := 1565) C 4 rfl dL_law_1565 ?_
  refine V_iconst (pc := 1567) C dL_law_1567 ?_
  refine V_iadd (pc := 1568) C dL_law_1568 ?_
  obtain ⟨g3, h⟩ := grd_of h
  obtain ⟨g4, h⟩ := grd_of h
  refine V_iald (pc := 1569) C hs2 g4 g3 dL_law_1569 ?_
  refine V_aload_n (pc := 1570) C 3 rfl dL_law_1570 ?_
  obtain ⟨M5, r6, hc7, h⟩ := cal_of h
  refine V_callH (pc := 1571) C (c_L_childOf l Γ sk hsk hl9 fu (hM _ _) (hM _ _) hc7) chf_L_childOf lk_L_231 ⟨rfl, rfl⟩ ⟨Nat.le_of_ble_eq_true rfl, Nat.le_of_ble_eq_true rfl⟩ rfl (Nat.le_of_ble_eq_true rfl) hf1 rfl dL_law_1571 (fun hr6 => ?_)
  refine V_istore (pc := 1574) C (L' := [(0, vr Γ 2), (1, vr Γ 3), (2, vr Γ 52), (3, vr Γ 65), (4, vi x4), (5, vi r6)]) rfl (by decide) dL_law_1574 ?_
  refine V_aload_n (pc := 1576) C 2 rfl dL_law_1576 ?_
  refine V_aload_n (pc := 1577) C 0 rfl dL_law_1577 ?_
  refine V_iload (pc := 1578) C 4 rfl dL_law_1578 ?_
  refine V_iconst (pc := 1580) C dL_law_1580 ?_
  refine V_iadd (pc := 1581) C dL_law_1581 ?_
  refine V_rng fun hM8 => ?_
  obtain ⟨g9, h⟩ := grd_of h
  obtain ⟨g10, h⟩ := grd_of h
  refine V_iald (pc := 1582) C hs2 g10 g9 dL_law_1582 ?_
  refine V_aload_n (pc := 1583) C 0 rfl dL_law_1583 ?_
  refine V_iload (pc := 1584) C 4 rfl dL_law_1584 ?_
  refine V_iconst (pc := 1586) C dL_law_1586 ?_
  refine V_iadd (pc := 1587) C dL_law_1587 ?_
  obtain ⟨g11, h⟩ := grd_of h
  obtain ⟨g12, h⟩ := grd_of h
  refine V_iald (pc := 1588) C hs2 g12 g11 dL_law_1588 ?_
  obtain ⟨M13, r14, hc15, h⟩ := cal_of h
  refine V_callVI (pc := 1589) C (c_X12_childOf l Γ sk hsk.m fu (hM8 _ _) (hM8 _ _) hc15) cf_X12_childOf lk_L_233 ⟨rfl, rfl⟩ ⟨Nat.le_of_ble_eq_true rfl, Nat.le_of_ble_eq_true rfl⟩ e52 rfl rfl rfl (Nat.le_of_ble_eq_true rfl) hf1 rfl dL_law_1589 (fun hr14 => ?_)
  refine V_istore (pc := 1592) C (L' := [(0, vr Γ 2), (1, vr Γ 3), (2, vr Γ 52), (3, vr Γ 65), (4, vi x4), (5, vi r6), (6, vi r14)]) rfl (by decide) dL_law_1592 ?_
  refine V_aload_n (pc := 1594) C 2 rfl dL_law_1594 ?_
  obtain ⟨M16, r17, hc18, h⟩ := cal_of h
  refine V_callVI (pc := 1595) C (c_X12_thrown l Γ sk hsk.m fu hc18) cf_X12_thrown lk_L_164 ⟨rfl, rfl⟩ ⟨Nat.le_of_ble_eq_true rfl, Nat.le_of_ble_eq_true rfl⟩ e52 rfl rfl rfl (Nat.le_of_ble_eq_true rfl) hf1 rfl dL_law_1595 (fun hr17 => ?_)
  refine V_iload (pc := 1598) C 5 rfl dL_law_1598 ?_
  refine V_icmp_eq (pc := 1600) C 1605 hr17 hr6 dL_law_1600 (by decide) (fun c1600_19 => ?_) (fun c1600_19 => ?_)
  · have h := ite_t h c1600_19
    refine V_iload (pc := 1605) C 5 rfl dL_law_1605 ?_
    refine V_if_ne (pc := 1607) C 1622 hr6 dL_law_1607 (by decide) (fun c1607_20 => ?_) (fun c1607_20 => ?_)
    · have h := ite_f h c1607_20
      refine V_goto (pc := 1622) C 2654 dL_law_1622 (by decide) ?_
      refine V_sub (L' := [(0, vr Γ 2), (1, vr Γ 3), (2, vr Γ 52), (3, vr Γ 65), (4, vi x4)]) [0, 1, 2, 3, 4] rfl (by decide) ?_
      cases h
      exact kk
    · have h := ite_t h c1607_20
      refine V_aload_n (pc := 1610) C 3 rfl dL_law_1610 ?_
      refine V_iconst (pc := 1611) C dL_law_1611 ?_
      refine V_rng fun hM21 => ?_
      refine V_lald (pc := 1612) C e65 (by decide) (by decide) dL_law_1612 ?_
      refine V_iload (pc := 1613) C 6 rfl dL_law_1613 ?_
      refine V_i2l (pc := 1615) C hr14 dL_law_1615 ?_
      refine V_lcmp (pc := 1616) C (hM21 _ _) hr14 dL_law_1616 ?_
      refine V_if_eq (pc := 1617) C 1622 (lcmp_rng _ _) dL_law_1617 (by decide) (fun c1617_22 => ?_) (fun c1617_22 => ?_)
      · have h := ite_t h c1617_22
        refine V_goto (pc := 1622) C 2654 dL_law_1622 (by decide) ?_
        refine V_sub (L' := [(0, vr Γ 2), (1, vr Γ 3), (2, vr Γ 52), (3, vr Γ 65), (4, vi x4)]) [0, 1, 2, 3, 4] rfl (by decide) ?_
        cases h
        exact kk
      · have h := ite_f h c1617_22
        refine V_iconst (pc := 1620) C dL_law_1620 ?_
        cases h
  · have h := ite_f h c1600_19
    refine V_iconst (pc := 1603) C dL_law_1603 ?_
    cases h
set_option maxRecDepth 100000 in
set_option maxHeartbeats 4000000 in
theorem c_L_case30 (l : Launch) (Γ : GG) (sk : List SD) (hsk : ExtL sk) (hl9 : l.stackTraces = false) (fu : Nat) {nS : Nat} (hs2 : sk[2]? = some (.inl (0, nS))) (hnS : nS ≤ 2147483647) {M M' : Mem} {x4 r : Int} (hx4 : rng x4) (hM : mR M) (h : f_L_case30 fu nS M x4 = some (M', r)) {p : Program} {e : Env} {s : State} {m : MethodId} {args : Array Value} {below : List Frame} {meth : Method} {c : Code} {Q : State → Prop} {cells slots : Nat} (hf1 : cells + 1 ≤ room_1.cells ∧ slots + 6 ≤ room_1.slots) (C : CX p s m args c cL_law 9 RL Γ sk) (kk : VV p l e room_1 s m args below meth c Q 9 Γ sk M' (cells + 1) (slots + 6) 2654 [(0, vr Γ 2), (1, vr Γ 3), (2, vr Γ 52), (3, vr Γ 65), (4, vi x4)] []) : VV p l e room_1 s m args below meth c Q 9 Γ sk M cells slots 1625 [(0, vr Γ 2), (1, vr Γ 3), (2, vr Γ 52), (3, vr Γ 65), (4, vi x4)] [] := by
  unfold f_L_case30 at h
  have hf0 : cells ≤ room_1.cells ∧ slots ≤ room_1.slots := ⟨Nat.le_of_succ_le hf1.1, Nat.le_trans (Nat.le_add_right _ 6) hf1.2⟩
  have e52 := hsk 52 _ (by decide) rfl
  have e65 := hsk 65 _ (by decide) rfl
  refine V_aload_n (pc := 1625) C 1 rfl dL_law_1625 ?_
  refine V_aload_n (pc := 1626) C 0 rfl dL_law_1626 ?_
  refine V_iload (pc := 1627) C 4 rfl dL_law_1627 ?_
  refine V_iconst (pc := 1629) C dL_law_1629 ?_
  refine V_iadd (pc := 1630) C dL_law_1630 ?_
  obtain ⟨g1, h⟩ := grd_of h
  obtain ⟨g2, h⟩ := grd_of h
  refine V_iald (pc := 1631) C hs2 g2 g1 dL_law_1631 ?_
  refine V_aload_n (pc := 1632) C 3 rfl dL_law_1632 ?_
  obtain ⟨M3, r4, hc5, h⟩ := cal_of h
  refine V_callH (pc := 1633) C (c_L_referencesTo l Γ sk hsk hl9 fu (hM _ _) hc5) chf_L_referencesTo lk_L_234 ⟨rfl, rfl⟩ ⟨Nat.le_of_ble_eq_true rfl, Nat.le_of_ble_eq_true rfl⟩ rfl (Nat.le_of_ble_eq_true rfl) hf1 rfl dL_law_1633 (fun hr4 => ?_)
  refine V_istore (pc := 1636) C (L' := [(0, vr Γ 2), (1, vr Γ 3), (2, vr Γ 52), (3, vr Γ 65), (4, vi x4), (5, vi r4)]) rfl (by decide) dL_law_1636 ?_
  refine V_aload_n (pc := 1638) C 2 rfl dL_law_1638 ?_
  refine V_aload_n (pc := 1639) C 0 rfl dL_law_1639 ?_
  refine V_iload (pc := 1640) C 4 rfl dL_law_1640 ?_
  refine V_iconst (pc := 1642) C dL_law_1642 ?_
  refine V_iadd (pc := 1643) C dL_law_1643 ?_
  refine V_rng fun hM6 => ?_
  obtain ⟨g7, h⟩ := grd_of h
  obtain ⟨g8, h⟩ := grd_of h
  refine V_iald (pc := 1644) C hs2 g8 g7 dL_law_1644 ?_
  obtain ⟨M9, r10, hc11, h⟩ := cal_of h
  refine V_callVI (pc := 1645) C (c_X12_referencesTo l Γ sk hsk.m fu (hM6 _ _) hc11) cf_X12_referencesTo lk_L_236 ⟨rfl, rfl⟩ ⟨Nat.le_of_ble_eq_true rfl, Nat.le_of_ble_eq_true rfl⟩ e52 rfl rfl rfl (Nat.le_of_ble_eq_true rfl) hf1 rfl dL_law_1645 (fun hr10 => ?_)
  refine V_istore (pc := 1648) C (L' := [(0, vr Γ 2), (1, vr Γ 3), (2, vr Γ 52), (3, vr Γ 65), (4, vi x4), (5, vi r4), (6, vi r10)]) rfl (by decide) dL_law_1648 ?_
  refine V_aload_n (pc := 1650) C 2 rfl dL_law_1650 ?_
  obtain ⟨M12, r13, hc14, h⟩ := cal_of h
  refine V_callVI (pc := 1651) C (c_X12_thrown l Γ sk hsk.m fu hc14) cf_X12_thrown lk_L_164 ⟨rfl, rfl⟩ ⟨Nat.le_of_ble_eq_true rfl, Nat.le_of_ble_eq_true rfl⟩ e52 rfl rfl rfl (Nat.le_of_ble_eq_true rfl) hf1 rfl dL_law_1651 (fun hr13 => ?_)
  refine V_iload (pc := 1654) C 5 rfl dL_law_1654 ?_
  refine V_icmp_eq (pc := 1656) C 1661 hr13 hr4 dL_law_1656 (by decide) (fun c1656_15 => ?_) (fun c1656_15 => ?_)
  · have h := ite_t h c1656_15
    refine V_iload (pc := 1661) C 5 rfl dL_law_1661 ?_
    refine V_if_ne (pc := 1663) C 1678 hr4 dL_law_1663 (by decide) (fun c1663_16 => ?_) (fun c1663_16 => ?_)
    · have h := ite_f h c1663_16
      refine V_goto (pc := 1678) C 2654 dL_law_1678 (by decide) ?_
      refine V_sub (L' := [(0, vr Γ 2), (1, vr Γ 3), (2, vr Γ 52), (3, vr Γ 65), (4, vi x4)]) [0, 1, 2, 3, 4] rfl (by decide) ?_
      cases h
      exact kk
    · have h := ite_t h c1663_16
      refine V_aload_n (pc := 1666) C 3 rfl dL_law_1666 ?_
      refine V_iconst (pc := 1667) C dL_law_1667 ?_
      refine V_rng fun hM17 => ?_
      refine V_lald (pc := 1668) C e65 (by decide) (by decide) dL_law_1668 ?_
      refine V_iload (pc := 1669) C 6 rfl dL_law_1669 ?_
      refine V_i2l (pc := 1671) C hr10 dL_law_1671 ?_
      refine V_lcmp (pc := 1672) C (hM17 _ _) hr10 dL_law_1672 ?_
      refine V_if_eq (pc := 1673) C 1678 (lcmp_rng _ _) dL_law_1673 (by decide) (fun c1673_18 => ?_) (fun c1673_18 => ?_)
      · have h := ite_t h c1673_18
        refine V_goto (pc := 1678) C 2654 dL_law_1678 (by decide) ?_
        refine V_sub (L' := [(0, vr Γ 2), (1, vr Γ 3), (2, vr Γ 52), (3, vr Γ 65), (4, vi x4)]) [0, 1, 2, 3, 4] rfl (by decide) ?_
        cases h
        exact kk
      · have h := ite_f h c1673_18
        refine V_iconst (pc := 1676) C dL_law_1676 ?_
        cases h
  · have h := ite_f h c1656_15
    refine V_iconst (pc := 1659) C dL_law_1659 ?_
    cases h
set_option maxRecDepth 100000 in
set_option maxHeartbeats 4000000 in
theorem c_L_case31 (l : Launch) (Γ : GG) (sk : List SD) (hsk : ExtL sk) (hl9 : l.stackTraces = false) (fu : Nat) {nS : Nat} (hs2 : sk[2]? = some (.inl (0, nS))) (hnS : nS ≤ 2147483647) {M M' : Mem} {x4 r : Int} (hx4 : rng x4) (hM : mR M) (h : f_L_case31 fu nS M x4 = some (M', r)) {p : Program} {e : Env} {s : State} {m : MethodId} {args : Array Value} {below : List Frame} {meth : Method} {c : Code} {Q : State → Prop} {cells slots : Nat} (hf1 : cells + 1 ≤ room_1.cells ∧ slots + 6 ≤ room_1.slots) (C : CX p s m args c cL_law 9 RL Γ sk) (kk : VV p l e room_1 s m args below meth c Q 9 Γ sk M' (cells + 1) (slots + 6) 2654 [(0, vr Γ 2), (1, vr Γ 3), (2, vr Γ 52), (3, vr Γ 65), (4, vi x4)] []) : VV p l e room_1 s m args below meth c Q 9 Γ sk M cells slots 1681 [(0, vr Γ 2), (1, vr Γ 3), (2, vr Γ 52), (3, vr Γ 65), (4, vi x4)] [] := by
  unfold f_L_case31 at h
  have hf0 : cells ≤ room_1.cells ∧ slots ≤ room_1.slots := ⟨Nat.le_of_succ_le hf1.1, Nat.le_trans (Nat.le_add_right _ 6) hf1.2⟩
  have e52 := hsk 52 _ (by decide) rfl
  have e65 := hsk 65 _ (by decide) rfl
  refine V_aload_n (pc := 1681) C 1 rfl dL_law_1681 ?_
  refine V_aload_n (pc := 1682) C 0 rfl dL_law_1682 ?_
  refine V_iload (pc := 1683) C 4 rfl dL_law_1683 ?_
  refine V_iconst (pc := 1685) C dL_law_1685 ?_
  refine V_iadd (pc := 1686) C dL_law_1686 ?_
  obtain ⟨g1, h⟩ := grd_of h
  obtain ⟨g2, h⟩ := grd_of h
  refine V_iald (pc := 1687) C hs2 g2 g1 dL_law_1687 ?_
  refine V_aload_n (pc := 1688) C 0 rfl dL_law_1688 ?_
  refine V_iload (pc := 1689) C 4 rfl dL_law_1689 ?_
  refine V_iconst (pc := 1691) C dL_law_1691 ?_
  refine V_iadd (pc := 1692) C dL_law_1692 ?_
  obtain ⟨g3, h⟩ := grd_of h
  obtain ⟨g4, h⟩ := grd_of h
  refine V_iald (pc := 1693) C hs2 g4 g3 dL_law_1693 ?_
  refine V_aload_n (pc := 1694) C 3 rfl dL_law_1694 ?_
  obtain ⟨M5, r6, hc7, h⟩ := cal_of h
  refine V_callH (pc := 1695) C (c_L_differences l Γ sk hsk hl9 fu (hM _ _) (hM _ _) hc7) chf_L_differences lk_L_237 ⟨rfl, rfl⟩ ⟨Nat.le_of_ble_eq_true rfl, Nat.le_of_ble_eq_true rfl⟩ rfl (Nat.le_of_ble_eq_true rfl) hf1 rfl dL_law_1695 (fun hr6 => ?_)
  refine V_istore (pc := 1698) C (L' := [(0, vr Γ 2), (1, vr Γ 3), (2, vr Γ 52), (3, vr Γ 65), (4, vi x4), (5, vi r6)]) rfl (by decide) dL_law_1698 ?_
  refine V_aload_n (pc := 1700) C 2 rfl dL_law_1700 ?_
  refine V_aload_n (pc := 1701) C 0 rfl dL_law_1701 ?_
  refine V_iload (pc := 1702) C 4 rfl dL_law_1702 ?_
  refine V_iconst (pc := 1704) C dL_law_1704 ?_
  refine V_iadd (pc := 1705) C dL_law_1705 ?_
  refine V_rng fun hM8 => ?_
  obtain ⟨g9, h⟩ := grd_of h
  obtain ⟨g10, h⟩ := grd_of h
  refine V_iald (pc := 1706) C hs2 g10 g9 dL_law_1706 ?_
  refine V_aload_n (pc := 1707) C 0 rfl dL_law_1707 ?_
  refine V_iload (pc := 1708) C 4 rfl dL_law_1708 ?_
  refine V_iconst (pc := 1710) C dL_law_1710 ?_
  refine V_iadd (pc := 1711) C dL_law_1711 ?_
  obtain ⟨g11, h⟩ := grd_of h
  obtain ⟨g12, h⟩ := grd_of h
  refine V_iald (pc := 1712) C hs2 g12 g11 dL_law_1712 ?_
  obtain ⟨M13, r14, hc15, h⟩ := cal_of h
  refine V_callVI (pc := 1713) C (c_X12_differences l Γ sk hsk.m fu (hM8 _ _) (hM8 _ _) hc15) cf_X12_differences lk_L_239 ⟨rfl, rfl⟩ ⟨Nat.le_of_ble_eq_true rfl, Nat.le_of_ble_eq_true rfl⟩ e52 rfl rfl rfl (Nat.le_of_ble_eq_true rfl) hf1 rfl dL_law_1713 (fun hr14 => ?_)
  refine V_istore (pc := 1716) C (L' := [(0, vr Γ 2), (1, vr Γ 3), (2, vr Γ 52), (3, vr Γ 65), (4, vi x4), (5, vi r6), (6, vi r14)]) rfl (by decide) dL_law_1716 ?_
  refine V_aload_n (pc := 1718) C 2 rfl dL_law_1718 ?_
  obtain ⟨M16, r17, hc18, h⟩ := cal_of h
  refine V_callVI (pc := 1719) C (c_X12_thrown l Γ sk hsk.m fu hc18) cf_X12_thrown lk_L_164 ⟨rfl, rfl⟩ ⟨Nat.le_of_ble_eq_true rfl, Nat.le_of_ble_eq_true rfl⟩ e52 rfl rfl rfl (Nat.le_of_ble_eq_true rfl) hf1 rfl dL_law_1719 (fun hr17 => ?_)
  refine V_iload (pc := 1722) C 5 rfl dL_law_1722 ?_
  refine V_icmp_eq (pc := 1724) C 1729 hr17 hr6 dL_law_1724 (by decide) (fun c1724_19 => ?_) (fun c1724_19 => ?_)
  · have h := ite_t h c1724_19
    refine V_iload (pc := 1729) C 5 rfl dL_law_1729 ?_
    refine V_if_ne (pc := 1731) C 1746 hr6 dL_law_1731 (by decide) (fun c1731_20 => ?_) (fun c1731_20 => ?_)
    · have h := ite_f h c1731_20
      refine V_goto (pc := 1746) C 2654 dL_law_1746 (by decide) ?_
      refine V_sub (L' := [(0, vr Γ 2), (1, vr Γ 3), (2, vr Γ 52), (3, vr Γ 65), (4, vi x4)]) [0, 1, 2, 3, 4] rfl (by decide) ?_
      cases h
      exact kk
    · have h := ite_t h c1731_20
      refine V_aload_n (pc := 1734) C 3 rfl dL_law_1734 ?_
      refine V_iconst (pc := 1735) C dL_law_1735 ?_
      refine V_rng fun hM21 => ?_
      refine V_lald (pc := 1736) C e65 (by decide) (by decide) dL_law_1736 ?_
      refine V_iload (pc := 1737) C 6 rfl dL_law_1737 ?_
      refine V_i2l (pc := 1739) C hr14 dL_law_1739 ?_
      refine V_lcmp (pc := 1740) C (hM21 _ _) hr14 dL_law_1740 ?_
      refine V_if_eq (pc := 1741) C 1746 (lcmp_rng _ _) dL_law_1741 (by decide) (fun c1741_22 => ?_) (fun c1741_22 => ?_)
      · have h := ite_t h c1741_22
        refine V_goto (pc := 1746) C 2654 dL_law_1746 (by decide) ?_
        refine V_sub (L' := [(0, vr Γ 2), (1, vr Γ 3), (2, vr Γ 52), (3, vr Γ 65), (4, vi x4)]) [0, 1, 2, 3, 4] rfl (by decide) ?_
        cases h
        exact kk
      · have h := ite_f h c1741_22
        refine V_iconst (pc := 1744) C dL_law_1744 ?_
        cases h
  · have h := ite_f h c1724_19
    refine V_iconst (pc := 1727) C dL_law_1727 ?_
    cases h
set_option maxRecDepth 100000 in
set_option maxHeartbeats 4000000 in
theorem c_L_case32 (l : Launch) (Γ : GG) (sk : List SD) (hsk : ExtL sk) (hl9 : l.stackTraces = false) (fu : Nat) {nS : Nat} (hs2 : sk[2]? = some (.inl (0, nS))) (hnS : nS ≤ 2147483647) {M M' : Mem} {x4 r : Int} (hx4 : rng x4) (hM : mR M) (h : f_L_case32 fu nS M x4 = some (M', r)) {p : Program} {e : Env} {s : State} {m : MethodId} {args : Array Value} {below : List Frame} {meth : Method} {c : Code} {Q : State → Prop} {cells slots : Nat} (hf1 : cells + 1 ≤ room_1.cells ∧ slots + 6 ≤ room_1.slots) (C : CX p s m args c cL_law 9 RL Γ sk) (kk : VV p l e room_1 s m args below meth c Q 9 Γ sk M' (cells + 1) (slots + 6) 2654 [(0, vr Γ 2), (1, vr Γ 3), (2, vr Γ 52), (3, vr Γ 65), (4, vi x4)] []) : VV p l e room_1 s m args below meth c Q 9 Γ sk M cells slots 1749 [(0, vr Γ 2), (1, vr Γ 3), (2, vr Γ 52), (3, vr Γ 65), (4, vi x4)] [] := by
  unfold f_L_case32 at h
  have hf0 : cells ≤ room_1.cells ∧ slots ≤ room_1.slots := ⟨Nat.le_of_succ_le hf1.1, Nat.le_trans (Nat.le_add_right _ 6) hf1.2⟩
  have e52 := hsk 52 _ (by decide) rfl
  have e65 := hsk 65 _ (by decide) rfl
  refine V_aload_n (pc := 1749) C 1 rfl dL_law_1749 ?_
  refine V_aload_n (pc := 1750) C 0 rfl dL_law_1750 ?_
  refine V_iload (pc := 1751) C 4 rfl dL_law_1751 ?_
  refine V_iconst (pc := 1753) C dL_law_1753 ?_
  refine V_iadd (pc := 1754) C dL_law_1754 ?_
  obtain ⟨g1, h⟩ := grd_of h
  obtain ⟨g2, h⟩ := grd_of h
  refine V_iald (pc := 1755) C hs2 g2 g1 dL_law_1755 ?_
  refine V_aload_n (pc := 1756) C 0 rfl dL_law_1756 ?_
  refine V_iload (pc := 1757) C 4 rfl dL_law_1757 ?_
  refine V_iconst (pc := 1759) C dL_law_1759 ?_
  refine V_iadd (pc := 1760) C dL_law_1760 ?_
  obtain ⟨g3, h⟩ := grd_of h
  obtain ⟨g4, h⟩ := grd_of h
  refine V_iald (pc := 1761) C hs2 g4 g3 dL_law_1761 ?_
  refine V_aload_n (pc := 1762) C 3 rfl dL_law_1762 ?_
  obtain ⟨M5, r6, hc7, h⟩ := cal_of h
  refine V_callH (pc := 1763) C (c_L_firstDifference l Γ sk hsk hl9 fu (hM _ _) (hM _ _) hc7) chf_L_firstDifference lk_L_240 ⟨rfl, rfl⟩ ⟨Nat.le_of_ble_eq_true rfl, Nat.le_of_ble_eq_true rfl⟩ rfl (Nat.le_of_ble_eq_true rfl) hf1 rfl dL_law_1763 (fun hr6 => ?_)
  refine V_istore (pc := 1766) C (L' := [(0, vr Γ 2), (1, vr Γ 3), (2, vr Γ 52), (3, vr Γ 65), (4, vi x4), (5, vi r6)]) rfl (by decide) dL_law_1766 ?_
  refine V_aload_n (pc := 1768) C 2 rfl dL_law_1768 ?_
  refine V_aload_n (pc := 1769) C 0 rfl dL_law_1769 ?_
  refine V_iload (pc := 1770) C 4 rfl dL_law_1770 ?_
  refine V_iconst (pc := 1772) C dL_law_1772 ?_
  refine V_iadd (pc := 1773) C dL_law_1773 ?_
  refine V_rng fun hM8 => ?_
  obtain ⟨g9, h⟩ := grd_of h
  obtain ⟨g10, h⟩ := grd_of h
  refine V_iald (pc := 1774) C hs2 g10 g9 dL_law_1774 ?_
  refine V_aload_n (pc := 1775) C 0 rfl dL_law_1775 ?_
  refine V_iload (pc := 1776) C 4 rfl dL_law_1776 ?_
  refine V_iconst (pc := 1778) C dL_law_1778 ?_
  refine V_iadd (pc := 1779) C dL_law_1779 ?_
  obtain ⟨g11, h⟩ := grd_of h
  obtain ⟨g12, h⟩ := grd_of h
  refine V_iald (pc := 1780) C hs2 g12 g11 dL_law_1780 ?_
  obtain ⟨M13, r14, hc15, h⟩ := cal_of h
  refine V_callVI (pc := 1781) C (c_X12_firstDifference l Γ sk hsk.m fu (hM8 _ _) (hM8 _ _) hc15) cf_X12_firstDifference lk_L_242 ⟨rfl, rfl⟩ ⟨Nat.le_of_ble_eq_true rfl, Nat.le_of_ble_eq_true rfl⟩ e52 rfl rfl rfl (Nat.le_of_ble_eq_true rfl) hf1 rfl dL_law_1781 (fun hr14 => ?_)
  refine V_istore (pc := 1784) C (L' := [(0, vr Γ 2), (1, vr Γ 3), (2, vr Γ 52), (3, vr Γ 65), (4, vi x4), (5, vi r6), (6, vi r14)]) rfl (by decide) dL_law_1784 ?_
  refine V_aload_n (pc := 1786) C 2 rfl dL_law_1786 ?_
  obtain ⟨M16, r17, hc18, h⟩ := cal_of h
  refine V_callVI (pc := 1787) C (c_X12_thrown l Γ sk hsk.m fu hc18) cf_X12_thrown lk_L_164 ⟨rfl, rfl⟩ ⟨Nat.le_of_ble_eq_true rfl, Nat.le_of_ble_eq_true rfl⟩ e52 rfl rfl rfl (Nat.le_of_ble_eq_true rfl) hf1 rfl dL_law_1787 (fun hr17 => ?_)
  refine V_iload (pc := 1790) C 5 rfl dL_law_1790 ?_
  refine V_icmp_eq (pc := 1792) C 1797 hr17 hr6 dL_law_1792 (by decide) (fun c1792_19 => ?_) (fun c1792_19 => ?_)
  · have h := ite_t h c1792_19
    refine V_iload (pc := 1797) C 5 rfl dL_law_1797 ?_
    refine V_if_ne (pc := 1799) C 1814 hr6 dL_law_1799 (by decide) (fun c1799_20 => ?_) (fun c1799_20 => ?_)
    · have h := ite_f h c1799_20
      refine V_goto (pc := 1814) C 2654 dL_law_1814 (by decide) ?_
      refine V_sub (L' := [(0, vr Γ 2), (1, vr Γ 3), (2, vr Γ 52), (3, vr Γ 65), (4, vi x4)]) [0, 1, 2, 3, 4] rfl (by decide) ?_
      cases h
      exact kk
    · have h := ite_t h c1799_20
      refine V_aload_n (pc := 1802) C 3 rfl dL_law_1802 ?_
      refine V_iconst (pc := 1803) C dL_law_1803 ?_
      refine V_rng fun hM21 => ?_
      refine V_lald (pc := 1804) C e65 (by decide) (by decide) dL_law_1804 ?_
      refine V_iload (pc := 1805) C 6 rfl dL_law_1805 ?_
      refine V_i2l (pc := 1807) C hr14 dL_law_1807 ?_
      refine V_lcmp (pc := 1808) C (hM21 _ _) hr14 dL_law_1808 ?_
      refine V_if_eq (pc := 1809) C 1814 (lcmp_rng _ _) dL_law_1809 (by decide) (fun c1809_22 => ?_) (fun c1809_22 => ?_)
      · have h := ite_t h c1809_22
        refine V_goto (pc := 1814) C 2654 dL_law_1814 (by decide) ?_
        refine V_sub (L' := [(0, vr Γ 2), (1, vr Γ 3), (2, vr Γ 52), (3, vr Γ 65), (4, vi x4)]) [0, 1, 2, 3, 4] rfl (by decide) ?_
        cases h
        exact kk
      · have h := ite_f h c1809_22
        refine V_iconst (pc := 1812) C dL_law_1812 ?_
        cases h
  · have h := ite_f h c1792_19
    refine V_iconst (pc := 1795) C dL_law_1795 ?_
    cases h
set_option maxRecDepth 100000 in
set_option maxHeartbeats 4000000 in
theorem c_L_case33 (l : Launch) (Γ : GG) (sk : List SD) (hsk : ExtL sk) (hl9 : l.stackTraces = false) (fu : Nat) {nS : Nat} (hs2 : sk[2]? = some (.inl (0, nS))) (hnS : nS ≤ 2147483647) {M M' : Mem} {x4 r : Int} (hx4 : rng x4) (hM : mR M) (h : f_L_case33 fu nS M x4 = some (M', r)) {p : Program} {e : Env} {s : State} {m : MethodId} {args : Array Value} {below : List Frame} {meth : Method} {c : Code} {Q : State → Prop} {cells slots : Nat} (hf1 : cells + 1 ≤ room_1.cells ∧ slots + 6 ≤ room_1.slots) (C : CX p s m args c cL_law 9 RL Γ sk) (kk : VV p l e room_1 s m args below meth c Q 9 Γ sk M' (cells + 1) (slots + 6) 2654 [(0, vr Γ 2), (1, vr Γ 3), (2, vr Γ 52), (3, vr Γ 65), (4, vi x4)] []) : VV p l e room_1 s m args below meth c Q 9 Γ sk M cells slots 1817 [(0, vr Γ 2), (1, vr Γ 3), (2, vr Γ 52), (3, vr Γ 65), (4, vi x4)] [] := by
  unfold f_L_case33 at h
  have hf0 : cells ≤ room_1.cells ∧ slots ≤ room_1.slots := ⟨Nat.le_of_succ_le hf1.1, Nat.le_trans (Nat.le_add_right _ 6) hf1.2⟩
  have e52 := hsk 52 _ (by decide) rfl
  have e65 := hsk 65 _ (by decide) rfl
  refine V_aload_n (pc := 1817) C 1 rfl dL_law_1817 ?_
  refine V_aload_n (pc := 1818) C 0 rfl dL_law_1818 ?_
  refine V_iload (pc := 1819) C 4 rfl dL_law_1819 ?_
  refine V_iconst (pc := 1821) C dL_law_1821 ?_
  refine V_iadd (pc := 1822) C dL_law_1822 ?_
  obtain ⟨g1, h⟩ := grd_of h
  obtain ⟨g2, h⟩ := grd_of h
  refine V_iald (pc := 1823) C hs2 g2 g1 dL_law_1823 ?_
  refine V_aload_n (pc := 1824) C 0 rfl dL_law_1824 ?_
  refine V_iload (pc := 1825) C 4 rfl dL_law_1825 ?_
  refine V_iconst (pc := 1827) C dL_law_1827 ?_
  refine V_iadd (pc := 1828) C dL_law_1828 ?_
  obtain ⟨g3, h⟩ := grd_of h
  obtain ⟨g4, h⟩ := grd_of h
  refine V_iald (pc := 1829) C hs2 g4 g3 dL_law_1829 ?_
  refine V_aload_n (pc := 1830) C 3 rfl dL_law_1830 ?_
  obtain ⟨M5, r6, hc7, h⟩ := cal_of h
  refine V_callH (pc := 1831) C (c_L_comparisonCost l Γ sk hsk hl9 fu (hM _ _) (hM _ _) hc7) chf_L_comparisonCost lk_L_243 ⟨rfl, rfl⟩ ⟨Nat.le_of_ble_eq_true rfl, Nat.le_of_ble_eq_true rfl⟩ rfl (Nat.le_of_ble_eq_true rfl) hf1 rfl dL_law_1831 (fun hr6 => ?_)
  refine V_istore (pc := 1834) C (L' := [(0, vr Γ 2), (1, vr Γ 3), (2, vr Γ 52), (3, vr Γ 65), (4, vi x4), (5, vi r6)]) rfl (by decide) dL_law_1834 ?_
  refine V_aload_n (pc := 1836) C 2 rfl dL_law_1836 ?_
  refine V_aload_n (pc := 1837) C 0 rfl dL_law_1837 ?_
  refine V_iload (pc := 1838) C 4 rfl dL_law_1838 ?_
  refine V_iconst (pc := 1840) C dL_law_1840 ?_
  refine V_iadd (pc := 1841) C dL_law_1841 ?_
  refine V_rng fun hM8 => ?_
  obtain ⟨g9, h⟩ := grd_of h
  obtain ⟨g10, h⟩ := grd_of h
  refine V_iald (pc := 1842) C hs2 g10 g9 dL_law_1842 ?_
  refine V_aload_n (pc := 1843) C 0 rfl dL_law_1843 ?_
  refine V_iload (pc := 1844) C 4 rfl dL_law_1844 ?_
  refine V_iconst (pc := 1846) C dL_law_1846 ?_
  refine V_iadd (pc := 1847) C dL_law_1847 ?_
  obtain ⟨g11, h⟩ := grd_of h
  obtain ⟨g12, h⟩ := grd_of h
  refine V_iald (pc := 1848) C hs2 g12 g11 dL_law_1848 ?_
  obtain ⟨M13, r14, hc15, h⟩ := cal_of h
  refine V_callVI (pc := 1849) C (c_X12_comparisonCost l Γ sk hsk.m fu (hM8 _ _) (hM8 _ _) hc15) cf_X12_comparisonCost lk_L_245 ⟨rfl, rfl⟩ ⟨Nat.le_of_ble_eq_true rfl, Nat.le_of_ble_eq_true rfl⟩ e52 rfl rfl rfl (Nat.le_of_ble_eq_true rfl) hf1 rfl dL_law_1849 (fun hr14 => ?_)
  refine V_istore (pc := 1852) C (L' := [(0, vr Γ 2), (1, vr Γ 3), (2, vr Γ 52), (3, vr Γ 65), (4, vi x4), (5, vi r6), (6, vi r14)]) rfl (by decide) dL_law_1852 ?_
  refine V_aload_n (pc := 1854) C 2 rfl dL_law_1854 ?_
  obtain ⟨M16, r17, hc18, h⟩ := cal_of h
  refine V_callVI (pc := 1855) C (c_X12_thrown l Γ sk hsk.m fu hc18) cf_X12_thrown lk_L_164 ⟨rfl, rfl⟩ ⟨Nat.le_of_ble_eq_true rfl, Nat.le_of_ble_eq_true rfl⟩ e52 rfl rfl rfl (Nat.le_of_ble_eq_true rfl) hf1 rfl dL_law_1855 (fun hr17 => ?_)
  refine V_iload (pc := 1858) C 5 rfl dL_law_1858 ?_
  refine V_icmp_eq (pc := 1860) C 1865 hr17 hr6 dL_law_1860 (by decide) (fun c1860_19 => ?_) (fun c1860_19 => ?_)
  · have h := ite_t h c1860_19
    refine V_iload (pc := 1865) C 5 rfl dL_law_1865 ?_
    refine V_if_ne (pc := 1867) C 1882 hr6 dL_law_1867 (by decide) (fun c1867_20 => ?_) (fun c1867_20 => ?_)
    · have h := ite_f h c1867_20
      refine V_goto (pc := 1882) C 2654 dL_law_1882 (by decide) ?_
      refine V_sub (L' := [(0, vr Γ 2), (1, vr Γ 3), (2, vr Γ 52), (3, vr Γ 65), (4, vi x4)]) [0, 1, 2, 3, 4] rfl (by decide) ?_
      cases h
      exact kk
    · have h := ite_t h c1867_20
      refine V_aload_n (pc := 1870) C 3 rfl dL_law_1870 ?_
      refine V_iconst (pc := 1871) C dL_law_1871 ?_
      refine V_rng fun hM21 => ?_
      refine V_lald (pc := 1872) C e65 (by decide) (by decide) dL_law_1872 ?_
      refine V_iload (pc := 1873) C 6 rfl dL_law_1873 ?_
      refine V_i2l (pc := 1875) C hr14 dL_law_1875 ?_
      refine V_lcmp (pc := 1876) C (hM21 _ _) hr14 dL_law_1876 ?_
      refine V_if_eq (pc := 1877) C 1882 (lcmp_rng _ _) dL_law_1877 (by decide) (fun c1877_22 => ?_) (fun c1877_22 => ?_)
      · have h := ite_t h c1877_22
        refine V_goto (pc := 1882) C 2654 dL_law_1882 (by decide) ?_
        refine V_sub (L' := [(0, vr Γ 2), (1, vr Γ 3), (2, vr Γ 52), (3, vr Γ 65), (4, vi x4)]) [0, 1, 2, 3, 4] rfl (by decide) ?_
        cases h
        exact kk
      · have h := ite_f h c1877_22
        refine V_iconst (pc := 1880) C dL_law_1880 ?_
        cases h
  · have h := ite_f h c1860_19
    refine V_iconst (pc := 1863) C dL_law_1863 ?_
    cases h
set_option maxRecDepth 100000 in
set_option maxHeartbeats 4000000 in
theorem c_L_case34 (l : Launch) (Γ : GG) (sk : List SD) (hsk : ExtL sk) (hl9 : l.stackTraces = false) (fu : Nat) {nS : Nat} (hs2 : sk[2]? = some (.inl (0, nS))) (hnS : nS ≤ 2147483647) {M M' : Mem} {x4 r : Int} (hx4 : rng x4) (hM : mR M) (h : f_L_case34 fu nS M x4 = some (M', r)) {p : Program} {e : Env} {s : State} {m : MethodId} {args : Array Value} {below : List Frame} {meth : Method} {c : Code} {Q : State → Prop} {cells slots : Nat} (hf1 : cells + 1 ≤ room_1.cells ∧ slots + 6 ≤ room_1.slots) (C : CX p s m args c cL_law 9 RL Γ sk) (kk : VV p l e room_1 s m args below meth c Q 9 Γ sk M' (cells + 1) (slots + 6) 2654 [(0, vr Γ 2), (1, vr Γ 3), (2, vr Γ 52), (3, vr Γ 65), (4, vi x4)] []) : VV p l e room_1 s m args below meth c Q 9 Γ sk M cells slots 1885 [(0, vr Γ 2), (1, vr Γ 3), (2, vr Γ 52), (3, vr Γ 65), (4, vi x4)] [] := by
  unfold f_L_case34 at h
  have hf0 : cells ≤ room_1.cells ∧ slots ≤ room_1.slots := ⟨Nat.le_of_succ_le hf1.1, Nat.le_trans (Nat.le_add_right _ 6) hf1.2⟩
  have e52 := hsk 52 _ (by decide) rfl
  have e65 := hsk 65 _ (by decide) rfl
  refine V_aload_n (pc := 1885) C 1 rfl dL_law_1885 ?_
  refine V_aload_n (pc := 1886) C 0 rfl dL_law_1886 ?_
  refine V_iload (pc := 1887) C 4 rfl dL_law_1887 ?_
  refine V_iconst (pc := 1889) C dL_law_1889 ?_
  refine V_iadd (pc := 1890) C dL_law_1890 ?_
  obtain ⟨g1, h⟩ := grd_of h
  obtain ⟨g2, h⟩ := grd_of h
  refine V_iald (pc := 1891) C hs2 g2 g1 dL_law_1891 ?_
  refine V_aload_n (pc := 1892) C 0 rfl dL_law_1892 ?_
  refine V_iload (pc := 1893) C 4 rfl dL_law_1893 ?_
  refine V_iconst (pc := 1895) C dL_law_1895 ?_
  refine V_iadd (pc := 1896) C dL_law_1896 ?_
  obtain ⟨g3, h⟩ := grd_of h
  obtain ⟨g4, h⟩ := grd_of h
  refine V_iald (pc := 1897) C hs2 g4 g3 dL_law_1897 ?_
  refine V_aload_n (pc := 1898) C 0 rfl dL_law_1898 ?_
  refine V_iload (pc := 1899) C 4 rfl dL_law_1899 ?_
  refine V_iconst (pc := 1901) C dL_law_1901 ?_
  refine V_iadd (pc := 1902) C dL_law_1902 ?_
  obtain ⟨g5, h⟩ := grd_of h
  obtain ⟨g6, h⟩ := grd_of h
  refine V_iald (pc := 1903) C hs2 g6 g5 dL_law_1903 ?_
  refine V_aload_n (pc := 1904) C 3 rfl dL_law_1904 ?_
  obtain ⟨M7, r8, hc9, h⟩ := cal_of h
  refine V_callH (pc := 1905) C (c_L_nodesForSet l Γ sk hsk hl9 fu (hM _ _) (hM _ _) (hM _ _) hc9) chf_L_nodesForSet lk_L_246 ⟨rfl, rfl⟩ ⟨Nat.le_of_ble_eq_true rfl, Nat.le_of_ble_eq_true rfl⟩ rfl (Nat.le_of_ble_eq_true rfl) hf1 rfl dL_law_1905 (fun hr8 => ?_)
  refine V_istore (pc := 1908) C (L' := [(0, vr Γ 2), (1, vr Γ 3), (2, vr Γ 52), (3, vr Γ 65), (4, vi x4), (5, vi r8)]) rfl (by decide) dL_law_1908 ?_
  refine V_aload_n (pc := 1910) C 2 rfl dL_law_1910 ?_
  refine V_aload_n (pc := 1911) C 0 rfl dL_law_1911 ?_
  refine V_iload (pc := 1912) C 4 rfl dL_law_1912 ?_
  refine V_iconst (pc := 1914) C dL_law_1914 ?_
  refine V_iadd (pc := 1915) C dL_law_1915 ?_
  refine V_rng fun hM10 => ?_
  obtain ⟨g11, h⟩ := grd_of h
  obtain ⟨g12, h⟩ := grd_of h
  refine V_iald (pc := 1916) C hs2 g12 g11 dL_law_1916 ?_
  refine V_aload_n (pc := 1917) C 0 rfl dL_law_1917 ?_
  refine V_iload (pc := 1918) C 4 rfl dL_law_1918 ?_
  refine V_iconst (pc := 1920) C dL_law_1920 ?_
  refine V_iadd (pc := 1921) C dL_law_1921 ?_
  obtain ⟨g13, h⟩ := grd_of h
  obtain ⟨g14, h⟩ := grd_of h
  refine V_iald (pc := 1922) C hs2 g14 g13 dL_law_1922 ?_
  refine V_aload_n (pc := 1923) C 0 rfl dL_law_1923 ?_
  refine V_iload (pc := 1924) C 4 rfl dL_law_1924 ?_
  refine V_iconst (pc := 1926) C dL_law_1926 ?_
  refine V_iadd (pc := 1927) C dL_law_1927 ?_
  obtain ⟨g15, h⟩ := grd_of h
  obtain ⟨g16, h⟩ := grd_of h
  refine V_iald (pc := 1928) C hs2 g16 g15 dL_law_1928 ?_
  obtain ⟨M17, r18, hc19, h⟩ := cal_of h
  refine V_callVI (pc := 1929) C (c_X12_nodesForSet l Γ sk hsk.m fu (hM10 _ _) (hM10 _ _) (hM10 _ _) hc19) cf_X12_nodesForSet lk_L_249 ⟨rfl, rfl⟩ ⟨Nat.le_of_ble_eq_true rfl, Nat.le_of_ble_eq_true rfl⟩ e52 rfl rfl rfl (Nat.le_of_ble_eq_true rfl) hf1 rfl dL_law_1929 (fun hr18 => ?_)
  refine V_istore (pc := 1932) C (L' := [(0, vr Γ 2), (1, vr Γ 3), (2, vr Γ 52), (3, vr Γ 65), (4, vi x4), (5, vi r8), (6, vi r18)]) rfl (by decide) dL_law_1932 ?_
  refine V_aload_n (pc := 1934) C 2 rfl dL_law_1934 ?_
  obtain ⟨M20, r21, hc22, h⟩ := cal_of h
  refine V_callVI (pc := 1935) C (c_X12_thrown l Γ sk hsk.m fu hc22) cf_X12_thrown lk_L_164 ⟨rfl, rfl⟩ ⟨Nat.le_of_ble_eq_true rfl, Nat.le_of_ble_eq_true rfl⟩ e52 rfl rfl rfl (Nat.le_of_ble_eq_true rfl) hf1 rfl dL_law_1935 (fun hr21 => ?_)
  refine V_iload (pc := 1938) C 5 rfl dL_law_1938 ?_
  refine V_icmp_eq (pc := 1940) C 1945 hr21 hr8 dL_law_1940 (by decide) (fun c1940_23 => ?_) (fun c1940_23 => ?_)
  · have h := ite_t h c1940_23
    refine V_iload (pc := 1945) C 5 rfl dL_law_1945 ?_
    refine V_if_ne (pc := 1947) C 1962 hr8 dL_law_1947 (by decide) (fun c1947_24 => ?_) (fun c1947_24 => ?_)
    · have h := ite_f h c1947_24
      refine V_goto (pc := 1962) C 2654 dL_law_1962 (by decide) ?_
      refine V_sub (L' := [(0, vr Γ 2), (1, vr Γ 3), (2, vr Γ 52), (3, vr Γ 65), (4, vi x4)]) [0, 1, 2, 3, 4] rfl (by decide) ?_
      cases h
      exact kk
    · have h := ite_t h c1947_24
      refine V_aload_n (pc := 1950) C 3 rfl dL_law_1950 ?_
      refine V_iconst (pc := 1951) C dL_law_1951 ?_
      refine V_rng fun hM25 => ?_
      refine V_lald (pc := 1952) C e65 (by decide) (by decide) dL_law_1952 ?_
      refine V_iload (pc := 1953) C 6 rfl dL_law_1953 ?_
      refine V_i2l (pc := 1955) C hr18 dL_law_1955 ?_
      refine V_lcmp (pc := 1956) C (hM25 _ _) hr18 dL_law_1956 ?_
      refine V_if_eq (pc := 1957) C 1962 (lcmp_rng _ _) dL_law_1957 (by decide) (fun c1957_26 => ?_) (fun c1957_26 => ?_)
      · have h := ite_t h c1957_26
        refine V_goto (pc := 1962) C 2654 dL_law_1962 (by decide) ?_
        refine V_sub (L' := [(0, vr Γ 2), (1, vr Γ 3), (2, vr Γ 52), (3, vr Γ 65), (4, vi x4)]) [0, 1, 2, 3, 4] rfl (by decide) ?_
        cases h
        exact kk
      · have h := ite_f h c1957_26
        refine V_iconst (pc := 1960) C dL_law_1960 ?_
        cases h
  · have h := ite_f h c1940_23
    refine V_iconst (pc := 1943) C dL_law_1943 ?_
    cases h
set_option maxRecDepth 100000 in
set_option maxHeartbeats 4000000 in
theorem c_L_case35 (l : Launch) (Γ : GG) (sk : List SD) (hsk : ExtL sk) (hl9 : l.stackTraces = false) (fu : Nat) {nS : Nat} (hs2 : sk[2]? = some (.inl (0, nS))) (hnS : nS ≤ 2147483647) {M M' : Mem} {x4 r : Int} (hx4 : rng x4) (hM : mR M) (h : f_L_case35 fu nS M x4 = some (M', r)) {p : Program} {e : Env} {s : State} {m : MethodId} {args : Array Value} {below : List Frame} {meth : Method} {c : Code} {Q : State → Prop} {cells slots : Nat} (hf1 : cells + 1 ≤ room_1.cells ∧ slots + 6 ≤ room_1.slots) (C : CX p s m args c cL_law 9 RL Γ sk) (kk : VV p l e room_1 s m args below meth c Q 9 Γ sk M' (cells + 1) (slots + 6) 2654 [(0, vr Γ 2), (1, vr Γ 3), (2, vr Γ 52), (3, vr Γ 65), (4, vi x4)] []) : VV p l e room_1 s m args below meth c Q 9 Γ sk M cells slots 1965 [(0, vr Γ 2), (1, vr Γ 3), (2, vr Γ 52), (3, vr Γ 65), (4, vi x4)] [] := by
  unfold f_L_case35 at h
  have hf0 : cells ≤ room_1.cells ∧ slots ≤ room_1.slots := ⟨Nat.le_of_succ_le hf1.1, Nat.le_trans (Nat.le_add_right _ 6) hf1.2⟩
  have e52 := hsk 52 _ (by decide) rfl
  have e65 := hsk 65 _ (by decide) rfl
  refine V_aload_n (pc := 1965) C 1 rfl dL_law_1965 ?_
  refine V_aload_n (pc := 1966) C 0 rfl dL_law_1966 ?_
  refine V_iload (pc := 1967) C 4 rfl dL_law_1967 ?_
  refine V_iconst (pc := 1969) C dL_law_1969 ?_
  refine V_iadd (pc := 1970) C dL_law_1970 ?_
  obtain ⟨g1, h⟩ := grd_of h
  obtain ⟨g2, h⟩ := grd_of h
  refine V_iald (pc := 1971) C hs2 g2 g1 dL_law_1971 ?_
  refine V_aload_n (pc := 1972) C 3 rfl dL_law_1972 ?_
  obtain ⟨M3, r4, hc5, h⟩ := cal_of h
  refine V_callH (pc := 1973) C (c_L_nodesForAppend l Γ sk hsk hl9 fu (hM _ _) hc5) chf_L_nodesForAppend lk_L_250 ⟨rfl, rfl⟩ ⟨Nat.le_of_ble_eq_true rfl, Nat.le_of_ble_eq_true rfl⟩ rfl (Nat.le_of_ble_eq_true rfl) hf1 rfl dL_law_1973 (fun hr4 => ?_)
  refine V_istore (pc := 1976) C (L' := [(0, vr Γ 2), (1, vr Γ 3), (2, vr Γ 52), (3, vr Γ 65), (4, vi x4), (5, vi r4)]) rfl (by decide) dL_law_1976 ?_
  refine V_aload_n (pc := 1978) C 2 rfl dL_law_1978 ?_
  refine V_aload_n (pc := 1979) C 0 rfl dL_law_1979 ?_
  refine V_iload (pc := 1980) C 4 rfl dL_law_1980 ?_
  refine V_iconst (pc := 1982) C dL_law_1982 ?_
  refine V_iadd (pc := 1983) C dL_law_1983 ?_
  refine V_rng fun hM6 => ?_
  obtain ⟨g7, h⟩ := grd_of h
  obtain ⟨g8, h⟩ := grd_of h
  refine V_iald (pc := 1984) C hs2 g8 g7 dL_law_1984 ?_
  obtain ⟨M9, r10, hc11, h⟩ := cal_of h
  refine V_callVI (pc := 1985) C (c_X12_nodesForAppend l Γ sk hsk.m fu (hM6 _ _) hc11) cf_X12_nodesForAppend lk_L_252 ⟨rfl, rfl⟩ ⟨Nat.le_of_ble_eq_true rfl, Nat.le_of_ble_eq_true rfl⟩ e52 rfl rfl rfl (Nat.le_of_ble_eq_true rfl) hf1 rfl dL_law_1985 (fun hr10 => ?_)
  refine V_istore (pc := 1988) C (L' := [(0, vr Γ 2), (1, vr Γ 3), (2, vr Γ 52), (3, vr Γ 65), (4, vi x4), (5, vi r4), (6, vi r10)]) rfl (by decide) dL_law_1988 ?_
  refine V_aload_n (pc := 1990) C 2 rfl dL_law_1990 ?_
  obtain ⟨M12, r13, hc14, h⟩ := cal_of h
  refine V_callVI (pc := 1991) C (c_X12_thrown l Γ sk hsk.m fu hc14) cf_X12_thrown lk_L_164 ⟨rfl, rfl⟩ ⟨Nat.le_of_ble_eq_true rfl, Nat.le_of_ble_eq_true rfl⟩ e52 rfl rfl rfl (Nat.le_of_ble_eq_true rfl) hf1 rfl dL_law_1991 (fun hr13 => ?_)
  refine V_iload (pc := 1994) C 5 rfl dL_law_1994 ?_
  refine V_icmp_eq (pc := 1996) C 2001 hr13 hr4 dL_law_1996 (by decide) (fun c1996_15 => ?_) (fun c1996_15 => ?_)
  · have h := ite_t h c1996_15
    refine V_iload (pc := 2001) C 5 rfl dL_law_2001 ?_
    refine V_if_ne (pc := 2003) C 2018 hr4 dL_law_2003 (by decide) (fun c2003_16 => ?_) (fun c2003_16 => ?_)
    · have h := ite_f h c2003_16
      refine V_goto (pc := 2018) C 2654 dL_law_2018 (by decide) ?_
      refine V_sub (L' := [(0, vr Γ 2), (1, vr Γ 3), (2, vr Γ 52), (3, vr Γ 65), (4, vi x4)]) [0, 1, 2, 3, 4] rfl (by decide) ?_
      cases h
      exact kk
    · have h := ite_t h c2003_16
      refine V_aload_n (pc := 2006) C 3 rfl dL_law_2006 ?_
      refine V_iconst (pc := 2007) C dL_law_2007 ?_
      refine V_rng fun hM17 => ?_
      refine V_lald (pc := 2008) C e65 (by decide) (by decide) dL_law_2008 ?_
      refine V_iload (pc := 2009) C 6 rfl dL_law_2009 ?_
      refine V_i2l (pc := 2011) C hr10 dL_law_2011 ?_
      refine V_lcmp (pc := 2012) C (hM17 _ _) hr10 dL_law_2012 ?_
      refine V_if_eq (pc := 2013) C 2018 (lcmp_rng _ _) dL_law_2013 (by decide) (fun c2013_18 => ?_) (fun c2013_18 => ?_)
      · have h := ite_t h c2013_18
        refine V_goto (pc := 2018) C 2654 dL_law_2018 (by decide) ?_
        refine V_sub (L' := [(0, vr Γ 2), (1, vr Γ 3), (2, vr Γ 52), (3, vr Γ 65), (4, vi x4)]) [0, 1, 2, 3, 4] rfl (by decide) ?_
        cases h
        exact kk
      · have h := ite_f h c2013_18
        refine V_iconst (pc := 2016) C dL_law_2016 ?_
        cases h
  · have h := ite_f h c1996_15
    refine V_iconst (pc := 1999) C dL_law_1999 ?_
    cases h
set_option maxRecDepth 100000 in
set_option maxHeartbeats 4000000 in
theorem c_L_case36 (l : Launch) (Γ : GG) (sk : List SD) (hsk : ExtL sk) (hl9 : l.stackTraces = false) (fu : Nat) {nS : Nat} (hs2 : sk[2]? = some (.inl (0, nS))) (hnS : nS ≤ 2147483647) {M M' : Mem} {x4 r : Int} (hx4 : rng x4) (hM : mR M) (h : f_L_case36 fu nS M x4 = some (M', r)) {p : Program} {e : Env} {s : State} {m : MethodId} {args : Array Value} {below : List Frame} {meth : Method} {c : Code} {Q : State → Prop} {cells slots : Nat} (hf1 : cells + 1 ≤ room_1.cells ∧ slots + 6 ≤ room_1.slots) (C : CX p s m args c cL_law 9 RL Γ sk) (kk : VV p l e room_1 s m args below meth c Q 9 Γ sk M' (cells + 1) (slots + 6) 2654 [(0, vr Γ 2), (1, vr Γ 3), (2, vr Γ 52), (3, vr Γ 65), (4, vi x4)] []) : VV p l e room_1 s m args below meth c Q 9 Γ sk M cells slots 2021 [(0, vr Γ 2), (1, vr Γ 3), (2, vr Γ 52), (3, vr Γ 65), (4, vi x4)] [] := by
  unfold f_L_case36 at h
  have hf0 : cells ≤ room_1.cells ∧ slots ≤ room_1.slots := ⟨Nat.le_of_succ_le hf1.1, Nat.le_trans (Nat.le_add_right _ 6) hf1.2⟩
  have e52 := hsk 52 _ (by decide) rfl
  have e65 := hsk 65 _ (by decide) rfl
  refine V_aload_n (pc := 2021) C 1 rfl dL_law_2021 ?_
  refine V_aload_n (pc := 2022) C 0 rfl dL_law_2022 ?_
  refine V_iload (pc := 2023) C 4 rfl dL_law_2023 ?_
  refine V_iconst (pc := 2025) C dL_law_2025 ?_
  refine V_iadd (pc := 2026) C dL_law_2026 ?_
  obtain ⟨g1, h⟩ := grd_of h
  obtain ⟨g2, h⟩ := grd_of h
  refine V_iald (pc := 2027) C hs2 g2 g1 dL_law_2027 ?_
  refine V_aload_n (pc := 2028) C 3 rfl dL_law_2028 ?_
  obtain ⟨M3, r4, hc5, h⟩ := cal_of h
  refine V_callH (pc := 2029) C (c_L_garbageIfReleased l Γ sk hsk hl9 fu (hM _ _) hc5) chf_L_garbageIfReleased lk_L_253 ⟨rfl, rfl⟩ ⟨Nat.le_of_ble_eq_true rfl, Nat.le_of_ble_eq_true rfl⟩ rfl (Nat.le_of_ble_eq_true rfl) hf1 rfl dL_law_2029 (fun hr4 => ?_)
  refine V_istore (pc := 2032) C (L' := [(0, vr Γ 2), (1, vr Γ 3), (2, vr Γ 52), (3, vr Γ 65), (4, vi x4), (5, vi r4)]) rfl (by decide) dL_law_2032 ?_
  refine V_aload_n (pc := 2034) C 2 rfl dL_law_2034 ?_
  refine V_aload_n (pc := 2035) C 0 rfl dL_law_2035 ?_
  refine V_iload (pc := 2036) C 4 rfl dL_law_2036 ?_
  refine V_iconst (pc := 2038) C dL_law_2038 ?_
  refine V_iadd (pc := 2039) C dL_law_2039 ?_
  refine V_rng fun hM6 => ?_
  obtain ⟨g7, h⟩ := grd_of h
  obtain ⟨g8, h⟩ := grd_of h
  refine V_iald (pc := 2040) C hs2 g8 g7 dL_law_2040 ?_
  obtain ⟨M9, r10, hc11, h⟩ := cal_of h
  refine V_callVI (pc := 2041) C (c_X12_garbageIfReleased l Γ sk hsk.m fu (hM6 _ _) hc11) cf_X12_garbageIfReleased lk_L_255 ⟨rfl, rfl⟩ ⟨Nat.le_of_ble_eq_true rfl, Nat.le_of_ble_eq_true rfl⟩ e52 rfl rfl rfl (Nat.le_of_ble_eq_true rfl) hf1 rfl dL_law_2041 (fun hr10 => ?_)
  refine V_istore (pc := 2044) C (L' := [(0, vr Γ 2), (1, vr Γ 3), (2, vr Γ 52), (3, vr Γ 65), (4, vi x4), (5, vi r4), (6, vi r10)]) rfl (by decide) dL_law_2044 ?_
  refine V_aload_n (pc := 2046) C 2 rfl dL_law_2046 ?_
  obtain ⟨M12, r13, hc14, h⟩ := cal_of h
  refine V_callVI (pc := 2047) C (c_X12_thrown l Γ sk hsk.m fu hc14) cf_X12_thrown lk_L_164 ⟨rfl, rfl⟩ ⟨Nat.le_of_ble_eq_true rfl, Nat.le_of_ble_eq_true rfl⟩ e52 rfl rfl rfl (Nat.le_of_ble_eq_true rfl) hf1 rfl dL_law_2047 (fun hr13 => ?_)
  refine V_iload (pc := 2050) C 5 rfl dL_law_2050 ?_
  refine V_icmp_eq (pc := 2052) C 2057 hr13 hr4 dL_law_2052 (by decide) (fun c2052_15 => ?_) (fun c2052_15 => ?_)
  · have h := ite_t h c2052_15
    refine V_iload (pc := 2057) C 5 rfl dL_law_2057 ?_
    refine V_if_ne (pc := 2059) C 2074 hr4 dL_law_2059 (by decide) (fun c2059_16 => ?_) (fun c2059_16 => ?_)
    · have h := ite_f h c2059_16
      refine V_goto (pc := 2074) C 2654 dL_law_2074 (by decide) ?_
      refine V_sub (L' := [(0, vr Γ 2), (1, vr Γ 3), (2, vr Γ 52), (3, vr Γ 65), (4, vi x4)]) [0, 1, 2, 3, 4] rfl (by decide) ?_
      cases h
      exact kk
    · have h := ite_t h c2059_16
      refine V_aload_n (pc := 2062) C 3 rfl dL_law_2062 ?_
      refine V_iconst (pc := 2063) C dL_law_2063 ?_
      refine V_rng fun hM17 => ?_
      refine V_lald (pc := 2064) C e65 (by decide) (by decide) dL_law_2064 ?_
      refine V_iload (pc := 2065) C 6 rfl dL_law_2065 ?_
      refine V_i2l (pc := 2067) C hr10 dL_law_2067 ?_
      refine V_lcmp (pc := 2068) C (hM17 _ _) hr10 dL_law_2068 ?_
      refine V_if_eq (pc := 2069) C 2074 (lcmp_rng _ _) dL_law_2069 (by decide) (fun c2069_18 => ?_) (fun c2069_18 => ?_)
      · have h := ite_t h c2069_18
        refine V_goto (pc := 2074) C 2654 dL_law_2074 (by decide) ?_
        refine V_sub (L' := [(0, vr Γ 2), (1, vr Γ 3), (2, vr Γ 52), (3, vr Γ 65), (4, vi x4)]) [0, 1, 2, 3, 4] rfl (by decide) ?_
        cases h
        exact kk
      · have h := ite_f h c2069_18
        refine V_iconst (pc := 2072) C dL_law_2072 ?_
        cases h
  · have h := ite_f h c2052_15
    refine V_iconst (pc := 2055) C dL_law_2055 ?_
    cases h
set_option maxRecDepth 100000 in
set_option maxHeartbeats 4000000 in
theorem c_L_case37 (l : Launch) (Γ : GG) (sk : List SD) (hsk : ExtL sk) (hl9 : l.stackTraces = false) (fu : Nat) {nS : Nat} (hs2 : sk[2]? = some (.inl (0, nS))) (hnS : nS ≤ 2147483647) {M M' : Mem} {x4 r : Int} (hx4 : rng x4) (hM : mR M) (h : f_L_case37 fu nS M x4 = some (M', r)) {p : Program} {e : Env} {s : State} {m : MethodId} {args : Array Value} {below : List Frame} {meth : Method} {c : Code} {Q : State → Prop} {cells slots : Nat} (hf1 : cells + 1 ≤ room_1.cells ∧ slots + 6 ≤ room_1.slots) (C : CX p s m args c cL_law 9 RL Γ sk) (kk : VV p l e room_1 s m args below meth c Q 9 Γ sk M' (cells + 1) (slots + 6) 2654 [(0, vr Γ 2), (1, vr Γ 3), (2, vr Γ 52), (3, vr Γ 65), (4, vi x4)] []) : VV p l e room_1 s m args below meth c Q 9 Γ sk M cells slots 2077 [(0, vr Γ 2), (1, vr Γ 3), (2, vr Γ 52), (3, vr Γ 65), (4, vi x4)] [] := by
  unfold f_L_case37 at h
  have hf0 : cells ≤ room_1.cells ∧ slots ≤ room_1.slots := ⟨Nat.le_of_succ_le hf1.1, Nat.le_trans (Nat.le_add_right _ 6) hf1.2⟩
  have e3 := hsk 3 _ (by decide) rfl
  have e52 := hsk 52 _ (by decide) rfl
  refine V_aload_n (pc := 2077) C 1 rfl dL_law_2077 ?_
  obtain ⟨M1, r2, hc3, h⟩ := cal_of h
  refine V_callVI (pc := 2078) C (c_X11_largestVersion l Γ sk hsk.m.c fu hc3) cf_X11_largestVersion lk_L_256 ⟨rfl, rfl⟩ ⟨Nat.le_of_ble_eq_true rfl, Nat.le_of_ble_eq_true rfl⟩ e3 rfl rfl rfl (Nat.le_of_ble_eq_true rfl) hf0 rfl dL_law_2078 (fun hr2 => ?_)
  refine V_aload_n (pc := 2081) C 2 rfl dL_law_2081 ?_
  obtain ⟨M4, r5, hc6, h⟩ := cal_of h
  refine V_callVI (pc := 2082) C (c_X12_largestVersion l Γ sk hsk.m fu hc6) cf_X12_largestVersion lk_L_259 ⟨rfl, rfl⟩ ⟨Nat.le_of_ble_eq_true rfl, Nat.le_of_ble_eq_true rfl⟩ e52 rfl rfl rfl (Nat.le_of_ble_eq_true rfl) hf0 rfl dL_law_2082 (fun hr5 => ?_)
  refine V_icmp_eq (pc := 2085) C 2654 hr2 hr5 dL_law_2085 (by decide) (fun c2085_7 => ?_) (fun c2085_7 => ?_)
  · have h := ite_t h c2085_7
    refine V_sub (L' := [(0, vr Γ 2), (1, vr Γ 3), (2, vr Γ 52), (3, vr Γ 65), (4, vi x4)]) [0, 1, 2, 3, 4] rfl (by decide) ?_
    refine V_room (Nat.le_succ _) (Nat.le_add_right _ 6) ?_
    cases h
    exact kk
  · have h := ite_f h c2085_7
    refine V_iconst (pc := 2088) C dL_law_2088 ?_
    cases h
set_option maxRecDepth 100000 in
set_option maxHeartbeats 4000000 in
theorem c_L_case40 (l : Launch) (Γ : GG) (sk : List SD) (hsk : ExtL sk) (hl9 : l.stackTraces = false) (fu : Nat) {nS : Nat} (hs2 : sk[2]? = some (.inl (0, nS))) (hnS : nS ≤ 2147483647) {M M' : Mem} {x4 r : Int} (hx4 : rng x4) (hM : mR M) (h : f_L_case40 fu nS M x4 = some (M', r)) {p : Program} {e : Env} {s : State} {m : MethodId} {args : Array Value} {below : List Frame} {meth : Method} {c : Code} {Q : State → Prop} {cells slots : Nat} (hf1 : cells + 1 ≤ room_1.cells ∧ slots + 6 ≤ room_1.slots) (C : CX p s m args c cL_law 9 RL Γ sk) (kk : VV p l e room_1 s m args below meth c Q 9 Γ sk M' (cells + 1) (slots + 6) 2654 [(0, vr Γ 2), (1, vr Γ 3), (2, vr Γ 52), (3, vr Γ 65), (4, vi x4)] []) : VV p l e room_1 s m args below meth c Q 9 Γ sk M cells slots 2174 [(0, vr Γ 2), (1, vr Γ 3), (2, vr Γ 52), (3, vr Γ 65), (4, vi x4)] [] := by
  unfold f_L_case40 at h
  have hf0 : cells ≤ room_1.cells ∧ slots ≤ room_1.slots := ⟨Nat.le_of_succ_le hf1.1, Nat.le_trans (Nat.le_add_right _ 6) hf1.2⟩
  have e3 := hsk 3 _ (by decide) rfl
  have e52 := hsk 52 _ (by decide) rfl
  refine V_aload_n (pc := 2174) C 1 rfl dL_law_2174 ?_
  obtain ⟨M1, r2, hc3, h⟩ := cal_of h
  refine V_callVI (pc := 2175) C (c_X11_isConsistent l Γ sk hsk.m.c fu hc3) cf_X11_isConsistent lk_L_270 ⟨rfl, rfl⟩ ⟨Nat.le_of_ble_eq_true rfl, Nat.le_of_ble_eq_true rfl⟩ e3 rfl rfl rfl (Nat.le_of_ble_eq_true rfl) hf0 rfl dL_law_2175 (fun hr2 => ?_)
  refine V_aload_n (pc := 2178) C 2 rfl dL_law_2178 ?_
  obtain ⟨M4, r5, hc6, h⟩ := cal_of h
  refine V_callVI (pc := 2179) C (c_X12_isConsistent l Γ sk hsk.m fu hc6) cf_X12_isConsistent lk_L_274 ⟨rfl, rfl⟩ ⟨Nat.le_of_ble_eq_true rfl, Nat.le_of_ble_eq_true rfl⟩ e52 rfl rfl rfl (Nat.le_of_ble_eq_true rfl) hf0 rfl dL_law_2179 (fun hr5 => ?_)
  refine V_icmp_eq (pc := 2182) C 2654 hr2 hr5 dL_law_2182 (by decide) (fun c2182_7 => ?_) (fun c2182_7 => ?_)
  · have h := ite_t h c2182_7
    refine V_sub (L' := [(0, vr Γ 2), (1, vr Γ 3), (2, vr Γ 52), (3, vr Γ 65), (4, vi x4)]) [0, 1, 2, 3, 4] rfl (by decide) ?_
    refine V_room (Nat.le_succ _) (Nat.le_add_right _ 6) ?_
    cases h
    exact kk
  · have h := ite_f h c2182_7
    refine V_iconst (pc := 2185) C dL_law_2185 ?_
    cases h
