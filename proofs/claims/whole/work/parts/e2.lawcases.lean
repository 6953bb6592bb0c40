section
variable {D : va_G} {cy : Nat → ClassId} {p : Program} {l : Launch} {e : Env} {s : State} {m : MethodId} {below : List Frame} {meth : Method} {c : Code} {b L : Nat} {xs : Nat → Int32} {τ : gτ} {n x y o : Nat} {G : gG} {H : Heap} {locs : List Loc} {ls : Array Slot} {cells slots : Nat} {Q : State → Prop} {i : Int32}
set_option maxHeartbeats 4000000 in
set_option maxRecDepth 100000 in
/-- the law's call 22: thrown -/
theorem lz_22 (F : lz_F D cy p l s m meth c b L xs τ n x y o) {a1 a2 a3 a4 a5 : Int32} (A1 : lz_A L xs i 1 a1) (A2 : lz_A L xs i 2 a2) (A3 : lz_A L xs i 3 a3) (A4 : lz_A L xs i 4 a4) (A5 : lz_A L xs i 5 a5) (hw : gHw (D, cy, s) τ G H locs) (hST : ST τ x y G) (hl : lv_has ls 7 [(0, .ref b), (1, .ref x), (2, .ref y), (3, .ref o), (4, .int i)]) (hf : cells + 8 ≤ room_1.cells ∧ slots + 48 ≤ room_1.slots) (kk : ∀ (G : gG) (H : Heap) (locs : List Loc) (ls : Array Slot), gHw (D, cy, s) τ G H locs → ST τ x y G → lv_has ls 7 [(0, .ref b), (1, .ref x), (2, .ref y), (3, .ref o), (4, .int i)] → W p l e room_1 s m #[Value.ref b] below meth c H locs (cells + 8) (slots + 48) Q (F0 m 2614 ls [])) : W p l e room_1 s m #[Value.ref b] below meth c H locs cells slots Q (F0 m 1504 ls []) := by
  obtain ⟨fx, ⟨hS, hN⟩, ⟨hX, hbl⟩, ⟨hx, hm, ho, hτ⟩, ey, eo, hn⟩ := F
  have h5 : 500 < n := Nat.lt_trans (Nat.le_of_ble_eq_true rfl) hn
  obtain ⟨s1, t1, l1, l2, ω, im, me, ta, fa, hC, hM, hI⟩ := hST
  refine lv_aload_n fx.1 fx.2.1 dL_law__1504 rfl (lv_at hl 1 rfl) ?_
  refine lz_rd (j := 1) fx hX hbl hw (lv_at hl 0 rfl) (lv_at hl 4 rfl) A1 dL_law__1505 dL_law__1506 dL_law__1508 rfl dL_law__1509 dL_law__1510 ?_
  refine lz_rd (j := 2) fx hX hbl hw (lv_at hl 0 rfl) (lv_at hl 4 rfl) A2 dL_law__1511 dL_law__1512 dL_law__1514 rfl dL_law__1515 dL_law__1516 ?_
  refine lz_bl fx dL_law__1517 dL_law__1520 dL_law__1521 dL_law__1524 ?_
  refine lv_aload_n fx.1 fx.2.1 dL_law__1525 rfl (lv_at hl 3 rfl) ?_
  obtain ⟨⟨k, G1⟩, h1, ⟨r, G2⟩, h2, e1, e2, hST⟩ := op_cuts ey eo hτ h5 hC hM hI a1 (lz_b a2)
  have h1 : f_L_cuts τ n x a1 (lz_b a2) o G = some (k, G1) := h1
  have h2 : f_X11_cuts τ n y a1 (lz_b a2) G1 = some (r, G2) := h2
  have e1 : k = gi G2 11 0 y := e1
  have e2 : k = 0 → gl G2 o 0 = r.toInt64 := e2
  have hST : ST τ x y G2 := hST
  refine g_callSW (As := [.ref x, .int a1, .int (lz_b a2), .ref o]) (rest := []) fx hw (c_L_cuts l (D, cy, s) τ n hS hN x a1 (lz_b a2) o G hx ho h1) lsw_cuts rfl hl.1 rfl ⟨Nat.le_of_ble_eq_true rfl, Nat.le_of_ble_eq_true rfl⟩ (Nat.le_of_ble_eq_true rfl) ⟨Nat.le_trans (Nat.add_le_add_left (Nat.le_of_ble_eq_true rfl) _) hf.1, Nat.le_trans (Nat.add_le_add_left (Nat.le_of_ble_eq_true rfl) _) hf.2⟩ dL_law__1526 (fun H locs hw => ?_)
  refine lv_istore (lv' := [(5, .int k), (0, .ref b), (1, .ref x), (2, .ref y), (3, .ref o), (4, .int i)]) fx.1 fx.2.1 dL_law__1529 hl (by decide) rfl (fun ls hl => ?_)
  refine lv_aload_n fx.1 fx.2.1 dL_law__1531 rfl (lv_at hl 3 rfl) ?_
  refine lz_rd (j := 1) fx hX hbl hw (lv_at hl 1 rfl) (lv_at hl 5 rfl) A1 dL_law__1532 dL_law__1533 dL_law__1535 rfl dL_law__1536 dL_law__1537 ?_
  refine lz_rd (j := 2) fx hX hbl hw (lv_at hl 1 rfl) (lv_at hl 5 rfl) A2 dL_law__1538 dL_law__1539 dL_law__1541 rfl dL_law__1542 dL_law__1543 ?_
  refine lz_bl fx dL_law__1544 dL_law__1547 dL_law__1548 dL_law__1551 ?_
  refine g_callV0 (κ := 11) (As := [.int a1, .int (lz_b a2)]) (rest := []) fx hw (c_X11_cuts l (D, cy, s) τ n y a1 (lz_b a2) G1 hm h2) lv_RL_206 ⟨rfl, rfl⟩ rfl rfl hm rfl hl.1 rfl ⟨Nat.le_of_ble_eq_true rfl, Nat.le_of_ble_eq_true rfl⟩ (Nat.le_of_ble_eq_true rfl) ⟨Nat.le_trans (Nat.add_le_add_left (Nat.le_of_ble_eq_true rfl) _) hf.1, Nat.le_trans (Nat.add_le_add_left (Nat.le_of_ble_eq_true rfl) _) hf.2⟩ dL_law__1552 (fun H locs hw => ?_)
  refine lv_istore (lv' := [(6, .int r), (5, .int k), (0, .ref b), (1, .ref x), (2, .ref y), (3, .ref o), (4, .int i)]) fx.1 fx.2.1 dL_law__1555 hl (by decide) rfl (fun ls hl => ?_)
  refine lv_aload_n fx.1 fx.2.1 dL_law__1557 rfl (lv_at hl 4 rfl) ?_
  refine g_callV0 (κ := 11) (As := []) (rest := []) fx hw (c_X11_thrown l (D, cy, s) τ y G2 hm (r := gi G2 11 0 y) rfl) lv_RL_136 ⟨rfl, rfl⟩ rfl rfl hm rfl hl.1 rfl ⟨Nat.le_of_ble_eq_true rfl, Nat.le_of_ble_eq_true rfl⟩ (Nat.le_of_ble_eq_true rfl) ⟨Nat.le_trans (Nat.add_le_add_left (Nat.le_of_ble_eq_true rfl) _) hf.1, Nat.le_trans (Nat.add_le_add_left (Nat.le_of_ble_eq_true rfl) _) hf.2⟩ dL_law__1558 (fun H locs hw => ?_)
  refine lv_iload fx.1 fx.2.1 dL_law__1561 (lv_at hl 1 rfl) ?_
  refine lv_icmp_eq (tgt := 1568) fx.1 fx.2.1 dL_law__1563 (by decide) (fun _ => ?_) (fun h => absurd e1.symm h)
  refine lv_iload fx.1 fx.2.1 dL_law__1568 (lv_at hl 1 rfl) ?_
  refine lv_if_ne (tgt := 1585) fx.1 fx.2.1 dL_law__1570 (by decide) (fun _ => ?_) (fun hk => ?_)
  · refine lv_goto (tgt := 2614) fx.1 fx.2.1 dL_law__1585 (by decide) ?_
    refine W.widen (k := cells + 8) (n := slots + 48) (Nat.add_le_add_left (Nat.le_of_ble_eq_true rfl) _) (Nat.add_le_add_left (Nat.le_of_ble_eq_true rfl) _) ?_
    exact kk _ _ _ _ hw hST (lv_sub hl [2, 3, 4, 5, 6] rfl)
  · refine lv_aload_n fx.1 fx.2.1 dL_law__1573 rfl (lv_at hl 5 rfl) ?_
    refine lv_iconst (v := 0) fx.1 fx.2.1 dL_law__1574 rfl ?_
    refine lz_ld fx hw ho hτ dL_law__1575 ?_
    refine lv_iload fx.1 fx.2.1 dL_law__1576 (lv_at hl 0 rfl) ?_
    refine lv_i2l (v := r.toInt64) fx.1 fx.2.1 dL_law__1578 rfl ?_
    refine W.lcmp fx.1 fx.2.1 dL_law__1579 ?_
    rw [lz_cmp (e2 hk)]
    refine lv_if_eq (tgt := 1585) fx.1 fx.2.1 dL_law__1580 (by decide) (fun _ => ?_) (fun h => absurd rfl h)
    refine lv_goto (tgt := 2614) fx.1 fx.2.1 dL_law__1585 (by decide) ?_
    refine W.widen (k := cells + 8) (n := slots + 48) (Nat.add_le_add_left (Nat.le_of_ble_eq_true rfl) _) (Nat.add_le_add_left (Nat.le_of_ble_eq_true rfl) _) ?_
    exact kk _ _ _ _ hw hST (lv_sub hl [2, 3, 4, 5, 6] rfl)
set_option maxHeartbeats 4000000 in
set_option maxRecDepth 100000 in
/-- the law's call 23: thrown -/
theorem lz_23 (F : lz_F D cy p l s m meth c b L xs τ n x y o) {a1 a2 a3 a4 a5 : Int32} (A1 : lz_A L xs i 1 a1) (A2 : lz_A L xs i 2 a2) (A3 : lz_A L xs i 3 a3) (A4 : lz_A L xs i 4 a4) (A5 : lz_A L xs i 5 a5) (hw : gHw (D, cy, s) τ G H locs) (hST : ST τ x y G) (hl : lv_has ls 7 [(0, .ref b), (1, .ref x), (2, .ref y), (3, .ref o), (4, .int i)]) (hf : cells + 8 ≤ room_1.cells ∧ slots + 48 ≤ room_1.slots) (kk : ∀ (G : gG) (H : Heap) (locs : List Loc) (ls : Array Slot), gHw (D, cy, s) τ G H locs → ST τ x y G → lv_has ls 7 [(0, .ref b), (1, .ref x), (2, .ref y), (3, .ref o), (4, .int i)] → W p l e room_1 s m #[Value.ref b] below meth c H locs (cells + 8) (slots + 48) Q (F0 m 2614 ls [])) : W p l e room_1 s m #[Value.ref b] below meth c H locs cells slots Q (F0 m 1588 ls []) := by
  obtain ⟨fx, ⟨hS, hN⟩, ⟨hX, hbl⟩, ⟨hx, hm, ho, hτ⟩, ey, eo, hn⟩ := F
  have h5 : 500 < n := Nat.lt_trans (Nat.le_of_ble_eq_true rfl) hn
  obtain ⟨s1, t1, l1, l2, ω, im, me, ta, fa, hC, hM, hI⟩ := hST
  refine lv_aload_n fx.1 fx.2.1 dL_law__1588 rfl (lv_at hl 1 rfl) ?_
  refine lz_rd (j := 1) fx hX hbl hw (lv_at hl 0 rfl) (lv_at hl 4 rfl) A1 dL_law__1589 dL_law__1590 dL_law__1592 rfl dL_law__1593 dL_law__1594 ?_
  refine lv_aload_n fx.1 fx.2.1 dL_law__1595 rfl (lv_at hl 3 rfl) ?_
  obtain ⟨⟨k, G1⟩, h1, ⟨r, G2⟩, h2, e1, e2, hST⟩ := op_walks ey eo hτ h5 hC hM hI a1
  have h1 : f_L_walks τ n x a1 o G = some (k, G1) := h1
  have h2 : f_X11_walks τ n y a1 G1 = some (r, G2) := h2
  have e1 : k = gi G2 11 0 y := e1
  have e2 : k = 0 → gl G2 o 0 = r.toInt64 := e2
  have hST : ST τ x y G2 := hST
  refine g_callSW (As := [.ref x, .int a1, .ref o]) (rest := []) fx hw (c_L_walks l (D, cy, s) τ n hS hN x a1 o G hx ho h1) lsw_walks rfl hl.1 rfl ⟨Nat.le_of_ble_eq_true rfl, Nat.le_of_ble_eq_true rfl⟩ (Nat.le_of_ble_eq_true rfl) ⟨Nat.le_trans (Nat.add_le_add_left (Nat.le_of_ble_eq_true rfl) _) hf.1, Nat.le_trans (Nat.add_le_add_left (Nat.le_of_ble_eq_true rfl) _) hf.2⟩ dL_law__1596 (fun H locs hw => ?_)
  refine lv_istore (lv' := [(5, .int k), (0, .ref b), (1, .ref x), (2, .ref y), (3, .ref o), (4, .int i)]) fx.1 fx.2.1 dL_law__1599 hl (by decide) rfl (fun ls hl => ?_)
  refine lv_aload_n fx.1 fx.2.1 dL_law__1601 rfl (lv_at hl 3 rfl) ?_
  refine lz_rd (j := 1) fx hX hbl hw (lv_at hl 1 rfl) (lv_at hl 5 rfl) A1 dL_law__1602 dL_law__1603 dL_law__1605 rfl dL_law__1606 dL_law__1607 ?_
  refine g_callV0 (κ := 11) (As := [.int a1]) (rest := []) fx hw (c_X11_walks l (D, cy, s) τ n y a1 G1 hm h2) lv_RL_209 ⟨rfl, rfl⟩ rfl rfl hm rfl hl.1 rfl ⟨Nat.le_of_ble_eq_true rfl, Nat.le_of_ble_eq_true rfl⟩ (Nat.le_of_ble_eq_true rfl) ⟨Nat.le_trans (Nat.add_le_add_left (Nat.le_of_ble_eq_true rfl) _) hf.1, Nat.le_trans (Nat.add_le_add_left (Nat.le_of_ble_eq_true rfl) _) hf.2⟩ dL_law__1608 (fun H locs hw => ?_)
  refine lv_istore (lv' := [(6, .int r), (5, .int k), (0, .ref b), (1, .ref x), (2, .ref y), (3, .ref o), (4, .int i)]) fx.1 fx.2.1 dL_law__1611 hl (by decide) rfl (fun ls hl => ?_)
  refine lv_aload_n fx.1 fx.2.1 dL_law__1613 rfl (lv_at hl 4 rfl) ?_
  refine g_callV0 (κ := 11) (As := []) (rest := []) fx hw (c_X11_thrown l (D, cy, s) τ y G2 hm (r := gi G2 11 0 y) rfl) lv_RL_136 ⟨rfl, rfl⟩ rfl rfl hm rfl hl.1 rfl ⟨Nat.le_of_ble_eq_true rfl, Nat.le_of_ble_eq_true rfl⟩ (Nat.le_of_ble_eq_true rfl) ⟨Nat.le_trans (Nat.add_le_add_left (Nat.le_of_ble_eq_true rfl) _) hf.1, Nat.le_trans (Nat.add_le_add_left (Nat.le_of_ble_eq_true rfl) _) hf.2⟩ dL_law__1614 (fun H locs hw => ?_)
  refine lv_iload fx.1 fx.2.1 dL_law__1617 (lv_at hl 1 rfl) ?_
  refine lv_icmp_eq (tgt := 1624) fx.1 fx.2.1 dL_law__1619 (by decide) (fun _ => ?_) (fun h => absurd e1.symm h)
  refine lv_iload fx.1 fx.2.1 dL_law__1624 (lv_at hl 1 rfl) ?_
  refine lv_if_ne (tgt := 1641) fx.1 fx.2.1 dL_law__1626 (by decide) (fun _ => ?_) (fun hk => ?_)
  · refine lv_goto (tgt := 2614) fx.1 fx.2.1 dL_law__1641 (by decide) ?_
    refine W.widen (k := cells + 8) (n := slots + 48) (Nat.add_le_add_left (Nat.le_of_ble_eq_true rfl) _) (Nat.add_le_add_left (Nat.le_of_ble_eq_true rfl) _) ?_
    exact kk _ _ _ _ hw hST (lv_sub hl [2, 3, 4, 5, 6] rfl)
  · refine lv_aload_n fx.1 fx.2.1 dL_law__1629 rfl (lv_at hl 5 rfl) ?_
    refine lv_iconst (v := 0) fx.1 fx.2.1 dL_law__1630 rfl ?_
    refine lz_ld fx hw ho hτ dL_law__1631 ?_
    refine lv_iload fx.1 fx.2.1 dL_law__1632 (lv_at hl 0 rfl) ?_
    refine lv_i2l (v := r.toInt64) fx.1 fx.2.1 dL_law__1634 rfl ?_
    refine W.lcmp fx.1 fx.2.1 dL_law__1635 ?_
    rw [lz_cmp (e2 hk)]
    refine lv_if_eq (tgt := 1641) fx.1 fx.2.1 dL_law__1636 (by decide) (fun _ => ?_) (fun h => absurd rfl h)
    refine lv_goto (tgt := 2614) fx.1 fx.2.1 dL_law__1641 (by decide) ?_
    refine W.widen (k := cells + 8) (n := slots + 48) (Nat.add_le_add_left (Nat.le_of_ble_eq_true rfl) _) (Nat.add_le_add_left (Nat.le_of_ble_eq_true rfl) _) ?_
    exact kk _ _ _ _ hw hST (lv_sub hl [2, 3, 4, 5, 6] rfl)
set_option maxHeartbeats 4000000 in
set_option maxRecDepth 100000 in
/-- the law's call 24: thrown -/
theorem lz_24 (F : lz_F D cy p l s m meth c b L xs τ n x y o) {a1 a2 a3 a4 a5 : Int32} (A1 : lz_A L xs i 1 a1) (A2 : lz_A L xs i 2 a2) (A3 : lz_A L xs i 3 a3) (A4 : lz_A L xs i 4 a4) (A5 : lz_A L xs i 5 a5) (hw : gHw (D, cy, s) τ G H locs) (hST : ST τ x y G) (hl : lv_has ls 7 [(0, .ref b), (1, .ref x), (2, .ref y), (3, .ref o), (4, .int i)]) (hf : cells + 8 ≤ room_1.cells ∧ slots + 48 ≤ room_1.slots) (kk : ∀ (G : gG) (H : Heap) (locs : List Loc) (ls : Array Slot), gHw (D, cy, s) τ G H locs → ST τ x y G → lv_has ls 7 [(0, .ref b), (1, .ref x), (2, .ref y), (3, .ref o), (4, .int i)] → W p l e room_1 s m #[Value.ref b] below meth c H locs (cells + 8) (slots + 48) Q (F0 m 2614 ls [])) : W p l e room_1 s m #[Value.ref b] below meth c H locs cells slots Q (F0 m 1644 ls []) := by
  obtain ⟨fx, ⟨hS, hN⟩, ⟨hX, hbl⟩, ⟨hx, hm, ho, hτ⟩, ey, eo, hn⟩ := F
  have h5 : 500 < n := Nat.lt_trans (Nat.le_of_ble_eq_true rfl) hn
  obtain ⟨s1, t1, l1, l2, ω, im, me, ta, fa, hC, hM, hI⟩ := hST
  refine lv_aload_n fx.1 fx.2.1 dL_law__1644 rfl (lv_at hl 1 rfl) ?_
  refine lz_rd (j := 1) fx hX hbl hw (lv_at hl 0 rfl) (lv_at hl 4 rfl) A1 dL_law__1645 dL_law__1646 dL_law__1648 rfl dL_law__1649 dL_law__1650 ?_
  refine lz_rd (j := 2) fx hX hbl hw (lv_at hl 0 rfl) (lv_at hl 4 rfl) A2 dL_law__1651 dL_law__1652 dL_law__1654 rfl dL_law__1655 dL_law__1656 ?_
  refine lz_rd (j := 3) fx hX hbl hw (lv_at hl 0 rfl) (lv_at hl 4 rfl) A3 dL_law__1657 dL_law__1658 dL_law__1660 rfl dL_law__1661 dL_law__1662 ?_
  refine lv_aload_n fx.1 fx.2.1 dL_law__1663 rfl (lv_at hl 3 rfl) ?_
  obtain ⟨⟨k, G1⟩, h1, ⟨r, G2⟩, h2, e1, e2, hST⟩ := op_share ey eo hτ h5 hC hM hI a1 a2 a3
  have h1 : f_L_share τ n x a1 a2 a3 o G = some (k, G1) := h1
  have h2 : f_X11_share τ n y a1 a2 a3 G1 = some (r, G2) := h2
  have e1 : k = gi G2 11 0 y := e1
  have e2 : k = 0 → gl G2 o 0 = r.toInt64 := e2
  have hST : ST τ x y G2 := hST
  refine g_callSW (As := [.ref x, .int a1, .int a2, .int a3, .ref o]) (rest := []) fx hw (c_L_share l (D, cy, s) τ n hS hN x a1 a2 a3 o G hx ho h1) lsw_share rfl hl.1 rfl ⟨Nat.le_of_ble_eq_true rfl, Nat.le_of_ble_eq_true rfl⟩ (Nat.le_of_ble_eq_true rfl) ⟨Nat.le_trans (Nat.add_le_add_left (Nat.le_of_ble_eq_true rfl) _) hf.1, Nat.le_trans (Nat.add_le_add_left (Nat.le_of_ble_eq_true rfl) _) hf.2⟩ dL_law__1664 (fun H locs hw => ?_)
  refine lv_istore (lv' := [(5, .int k), (0, .ref b), (1, .ref x), (2, .ref y), (3, .ref o), (4, .int i)]) fx.1 fx.2.1 dL_law__1667 hl (by decide) rfl (fun ls hl => ?_)
  refine lv_aload_n fx.1 fx.2.1 dL_law__1669 rfl (lv_at hl 3 rfl) ?_
  refine lz_rd (j := 1) fx hX hbl hw (lv_at hl 1 rfl) (lv_at hl 5 rfl) A1 dL_law__1670 dL_law__1671 dL_law__1673 rfl dL_law__1674 dL_law__1675 ?_
  refine lz_rd (j := 2) fx hX hbl hw (lv_at hl 1 rfl) (lv_at hl 5 rfl) A2 dL_law__1676 dL_law__1677 dL_law__1679 rfl dL_law__1680 dL_law__1681 ?_
  refine lz_rd (j := 3) fx hX hbl hw (lv_at hl 1 rfl) (lv_at hl 5 rfl) A3 dL_law__1682 dL_law__1683 dL_law__1685 rfl dL_law__1686 dL_law__1687 ?_
  refine g_callV0 (κ := 11) (As := [.int a1, .int a2, .int a3]) (rest := []) fx hw (c_X11_share l (D, cy, s) τ n y a1 a2 a3 G1 hm h2) lv_RL_213 ⟨rfl, rfl⟩ rfl rfl hm rfl hl.1 rfl ⟨Nat.le_of_ble_eq_true rfl, Nat.le_of_ble_eq_true rfl⟩ (Nat.le_of_ble_eq_true rfl) ⟨Nat.le_trans (Nat.add_le_add_left (Nat.le_of_ble_eq_true rfl) _) hf.1, Nat.le_trans (Nat.add_le_add_left (Nat.le_of_ble_eq_true rfl) _) hf.2⟩ dL_law__1688 (fun H locs hw => ?_)
  refine lv_istore (lv' := [(6, .int r), (5, .int k), (0, .ref b), (1, .ref x), (2, .ref y), (3, .ref o), (4, .int i)]) fx.1 fx.2.1 dL_law__1691 hl (by decide) rfl (fun ls hl => ?_)
  refine lv_aload_n fx.1 fx.2.1 dL_law__1693 rfl (lv_at hl 4 rfl) ?_
  refine g_callV0 (κ := 11) (As := []) (rest := []) fx hw (c_X11_thrown l (D, cy, s) τ y G2 hm (r := gi G2 11 0 y) rfl) lv_RL_136 ⟨rfl, rfl⟩ rfl rfl hm rfl hl.1 rfl ⟨Nat.le_of_ble_eq_true rfl, Nat.le_of_ble_eq_true rfl⟩ (Nat.le_of_ble_eq_true rfl) ⟨Nat.le_trans (Nat.add_le_add_left (Nat.le_of_ble_eq_true rfl) _) hf.1, Nat.le_trans (Nat.add_le_add_left (Nat.le_of_ble_eq_true rfl) _) hf.2⟩ dL_law__1694 (fun H locs hw => ?_)
  refine lv_iload fx.1 fx.2.1 dL_law__1697 (lv_at hl 1 rfl) ?_
  refine lv_icmp_eq (tgt := 1704) fx.1 fx.2.1 dL_law__1699 (by decide) (fun _ => ?_) (fun h => absurd e1.symm h)
  refine lv_iload fx.1 fx.2.1 dL_law__1704 (lv_at hl 1 rfl) ?_
  refine lv_if_ne (tgt := 1721) fx.1 fx.2.1 dL_law__1706 (by decide) (fun _ => ?_) (fun hk => ?_)
  · refine lv_goto (tgt := 2614) fx.1 fx.2.1 dL_law__1721 (by decide) ?_
    refine W.widen (k := cells + 8) (n := slots + 48) (Nat.add_le_add_left (Nat.le_of_ble_eq_true rfl) _) (Nat.add_le_add_left (Nat.le_of_ble_eq_true rfl) _) ?_
    exact kk _ _ _ _ hw hST (lv_sub hl [2, 3, 4, 5, 6] rfl)
  · refine lv_aload_n fx.1 fx.2.1 dL_law__1709 rfl (lv_at hl 5 rfl) ?_
    refine lv_iconst (v := 0) fx.1 fx.2.1 dL_law__1710 rfl ?_
    refine lz_ld fx hw ho hτ dL_law__1711 ?_
    refine lv_iload fx.1 fx.2.1 dL_law__1712 (lv_at hl 0 rfl) ?_
    refine lv_i2l (v := r.toInt64) fx.1 fx.2.1 dL_law__1714 rfl ?_
    refine W.lcmp fx.1 fx.2.1 dL_law__1715 ?_
    rw [lz_cmp (e2 hk)]
    refine lv_if_eq (tgt := 1721) fx.1 fx.2.1 dL_law__1716 (by decide) (fun _ => ?_) (fun h => absurd rfl h)
    refine lv_goto (tgt := 2614) fx.1 fx.2.1 dL_law__1721 (by decide) ?_
    refine W.widen (k := cells + 8) (n := slots + 48) (Nat.add_le_add_left (Nat.le_of_ble_eq_true rfl) _) (Nat.add_le_add_left (Nat.le_of_ble_eq_true rfl) _) ?_
    exact kk _ _ _ _ hw hST (lv_sub hl [2, 3, 4, 5, 6] rfl)
set_option maxHeartbeats 4000000 in
set_option maxRecDepth 100000 in
/-- the law's call 25: thrown -/
theorem lz_25 (F : lz_F D cy p l s m meth c b L xs τ n x y o) {a1 a2 a3 a4 a5 : Int32} (A1 : lz_A L xs i 1 a1) (A2 : lz_A L xs i 2 a2) (A3 : lz_A L xs i 3 a3) (A4 : lz_A L xs i 4 a4) (A5 : lz_A L xs i 5 a5) (hw : gHw (D, cy, s) τ G H locs) (hST : ST τ x y G) (hl : lv_has ls 7 [(0, .ref b), (1, .ref x), (2, .ref y), (3, .ref o), (4, .int i)]) (hf : cells + 8 ≤ room_1.cells ∧ slots + 48 ≤ room_1.slots) (kk : ∀ (G : gG) (H : Heap) (locs : List Loc) (ls : Array Slot), gHw (D, cy, s) τ G H locs → ST τ x y G → lv_has ls 7 [(0, .ref b), (1, .ref x), (2, .ref y), (3, .ref o), (4, .int i)] → W p l e room_1 s m #[Value.ref b] below meth c H locs (cells + 8) (slots + 48) Q (F0 m 2614 ls [])) : W p l e room_1 s m #[Value.ref b] below meth c H locs cells slots Q (F0 m 1724 ls []) := by
  obtain ⟨fx, ⟨hS, hN⟩, ⟨hX, hbl⟩, ⟨hx, hm, ho, hτ⟩, ey, eo, hn⟩ := F
  have h5 : 500 < n := Nat.lt_trans (Nat.le_of_ble_eq_true rfl) hn
  obtain ⟨s1, t1, l1, l2, ω, im, me, ta, fa, hC, hM, hI⟩ := hST
  refine lv_aload_n fx.1 fx.2.1 dL_law__1724 rfl (lv_at hl 1 rfl) ?_
  refine lz_rd (j := 1) fx hX hbl hw (lv_at hl 0 rfl) (lv_at hl 4 rfl) A1 dL_law__1725 dL_law__1726 dL_law__1728 rfl dL_law__1729 dL_law__1730 ?_
  refine lz_rd (j := 2) fx hX hbl hw (lv_at hl 0 rfl) (lv_at hl 4 rfl) A2 dL_law__1731 dL_law__1732 dL_law__1734 rfl dL_law__1735 dL_law__1736 ?_
  refine lz_rd (j := 3) fx hX hbl hw (lv_at hl 0 rfl) (lv_at hl 4 rfl) A3 dL_law__1737 dL_law__1738 dL_law__1740 rfl dL_law__1741 dL_law__1742 ?_
  refine lv_aload_n fx.1 fx.2.1 dL_law__1743 rfl (lv_at hl 3 rfl) ?_
  obtain ⟨⟨k, G1⟩, h1, ⟨r, G2⟩, h2, e1, e2, hST⟩ := op_shared ey eo hτ h5 hC hM hI a1 a2 a3
  have h1 : f_L_shared τ n x a1 a2 a3 o G = some (k, G1) := h1
  have h2 : f_X11_shared τ n y a1 a2 a3 G1 = some (r, G2) := h2
  have e1 : k = gi G2 11 0 y := e1
  have e2 : k = 0 → gl G2 o 0 = (if r = 0 then (0 : Int64) else 1) := e2
  have hST : ST τ x y G2 := hST
  refine g_callSW (As := [.ref x, .int a1, .int a2, .int a3, .ref o]) (rest := []) fx hw (c_L_shared l (D, cy, s) τ n hS hN x a1 a2 a3 o G hx ho h1) lsw_shared rfl hl.1 rfl ⟨Nat.le_of_ble_eq_true rfl, Nat.le_of_ble_eq_true rfl⟩ (Nat.le_of_ble_eq_true rfl) ⟨Nat.le_trans (Nat.add_le_add_left (Nat.le_of_ble_eq_true rfl) _) hf.1, Nat.le_trans (Nat.add_le_add_left (Nat.le_of_ble_eq_true rfl) _) hf.2⟩ dL_law__1744 (fun H locs hw => ?_)
  refine lv_istore (lv' := [(5, .int k), (0, .ref b), (1, .ref x), (2, .ref y), (3, .ref o), (4, .int i)]) fx.1 fx.2.1 dL_law__1747 hl (by decide) rfl (fun ls hl => ?_)
  refine lv_aload_n fx.1 fx.2.1 dL_law__1749 rfl (lv_at hl 3 rfl) ?_
  refine lz_rd (j := 1) fx hX hbl hw (lv_at hl 1 rfl) (lv_at hl 5 rfl) A1 dL_law__1750 dL_law__1751 dL_law__1753 rfl dL_law__1754 dL_law__1755 ?_
  refine lz_rd (j := 2) fx hX hbl hw (lv_at hl 1 rfl) (lv_at hl 5 rfl) A2 dL_law__1756 dL_law__1757 dL_law__1759 rfl dL_law__1760 dL_law__1761 ?_
  refine lz_rd (j := 3) fx hX hbl hw (lv_at hl 1 rfl) (lv_at hl 5 rfl) A3 dL_law__1762 dL_law__1763 dL_law__1765 rfl dL_law__1766 dL_law__1767 ?_
  refine g_callV0 (κ := 11) (As := [.int a1, .int a2, .int a3]) (rest := []) fx hw (c_X11_shared l (D, cy, s) τ n y a1 a2 a3 G1 hm h2) lv_RL_216 ⟨rfl, rfl⟩ rfl rfl hm rfl hl.1 rfl ⟨Nat.le_of_ble_eq_true rfl, Nat.le_of_ble_eq_true rfl⟩ (Nat.le_of_ble_eq_true rfl) ⟨Nat.le_trans (Nat.add_le_add_left (Nat.le_of_ble_eq_true rfl) _) hf.1, Nat.le_trans (Nat.add_le_add_left (Nat.le_of_ble_eq_true rfl) _) hf.2⟩ dL_law__1768 (fun H locs hw => ?_)
  refine lv_istore (lv' := [(6, .int r), (5, .int k), (0, .ref b), (1, .ref x), (2, .ref y), (3, .ref o), (4, .int i)]) fx.1 fx.2.1 dL_law__1771 hl (by decide) rfl (fun ls hl => ?_)
  refine lv_aload_n fx.1 fx.2.1 dL_law__1773 rfl (lv_at hl 4 rfl) ?_
  refine g_callV0 (κ := 11) (As := []) (rest := []) fx hw (c_X11_thrown l (D, cy, s) τ y G2 hm (r := gi G2 11 0 y) rfl) lv_RL_136 ⟨rfl, rfl⟩ rfl rfl hm rfl hl.1 rfl ⟨Nat.le_of_ble_eq_true rfl, Nat.le_of_ble_eq_true rfl⟩ (Nat.le_of_ble_eq_true rfl) ⟨Nat.le_trans (Nat.add_le_add_left (Nat.le_of_ble_eq_true rfl) _) hf.1, Nat.le_trans (Nat.add_le_add_left (Nat.le_of_ble_eq_true rfl) _) hf.2⟩ dL_law__1774 (fun H locs hw => ?_)
  refine lv_iload fx.1 fx.2.1 dL_law__1777 (lv_at hl 1 rfl) ?_
  refine lv_icmp_eq (tgt := 1784) fx.1 fx.2.1 dL_law__1779 (by decide) (fun _ => ?_) (fun h => absurd e1.symm h)
  refine lv_iload fx.1 fx.2.1 dL_law__1784 (lv_at hl 1 rfl) ?_
  refine lv_if_ne (tgt := 1808) fx.1 fx.2.1 dL_law__1786 (by decide) (fun _ => ?_) (fun hk => ?_)
  · refine lv_goto (tgt := 2614) fx.1 fx.2.1 dL_law__1808 (by decide) ?_
    refine W.widen (k := cells + 8) (n := slots + 48) (Nat.add_le_add_left (Nat.le_of_ble_eq_true rfl) _) (Nat.add_le_add_left (Nat.le_of_ble_eq_true rfl) _) ?_
    exact kk _ _ _ _ hw hST (lv_sub hl [2, 3, 4, 5, 6] rfl)
  · refine lv_aload_n fx.1 fx.2.1 dL_law__1789 rfl (lv_at hl 5 rfl) ?_
    refine lv_iconst (v := 0) fx.1 fx.2.1 dL_law__1790 rfl ?_
    refine lz_ld fx hw ho hτ dL_law__1791 ?_
    refine lv_iload fx.1 fx.2.1 dL_law__1792 (lv_at hl 0 rfl) ?_
    refine lz_bL fx dL_law__1794 dL_law__1797 dL_law__1798 dL_law__1801 ?_
    refine W.lcmp fx.1 fx.2.1 dL_law__1802 ?_
    rw [lz_cmp (e2 hk)]
    refine lv_if_eq (tgt := 1808) fx.1 fx.2.1 dL_law__1803 (by decide) (fun _ => ?_) (fun h => absurd rfl h)
    refine lv_goto (tgt := 2614) fx.1 fx.2.1 dL_law__1808 (by decide) ?_
    refine W.widen (k := cells + 8) (n := slots + 48) (Nat.add_le_add_left (Nat.le_of_ble_eq_true rfl) _) (Nat.add_le_add_left (Nat.le_of_ble_eq_true rfl) _) ?_
    exact kk _ _ _ _ hw hST (lv_sub hl [2, 3, 4, 5, 6] rfl)
set_option maxHeartbeats 4000000 in
set_option maxRecDepth 100000 in
/-- the law's call 26: thrown -/
theorem lz_26 (F : lz_F D cy p l s m meth c b L xs τ n x y o) {a1 a2 a3 a4 a5 : Int32} (A1 : lz_A L xs i 1 a1) (A2 : lz_A L xs i 2 a2) (A3 : lz_A L xs i 3 a3) (A4 : lz_A L xs i 4 a4) (A5 : lz_A L xs i 5 a5) (hw : gHw (D, cy, s) τ G H locs) (hST : ST τ x y G) (hl : lv_has ls 7 [(0, .ref b), (1, .ref x), (2, .ref y), (3, .ref o), (4, .int i)]) (hf : cells + 8 ≤ room_1.cells ∧ slots + 48 ≤ room_1.slots) (kk : ∀ (G : gG) (H : Heap) (locs : List Loc) (ls : Array Slot), gHw (D, cy, s) τ G H locs → ST τ x y G → lv_has ls 7 [(0, .ref b), (1, .ref x), (2, .ref y), (3, .ref o), (4, .int i)] → W p l e room_1 s m #[Value.ref b] below meth c H locs (cells + 8) (slots + 48) Q (F0 m 2614 ls [])) : W p l e room_1 s m #[Value.ref b] below meth c H locs cells slots Q (F0 m 1811 ls []) := by
  obtain ⟨fx, ⟨hS, hN⟩, ⟨hX, hbl⟩, ⟨hx, hm, ho, hτ⟩, ey, eo, hn⟩ := F
  have h5 : 500 < n := Nat.lt_trans (Nat.le_of_ble_eq_true rfl) hn
  obtain ⟨s1, t1, l1, l2, ω, im, me, ta, fa, hC, hM, hI⟩ := hST
  refine lv_aload_n fx.1 fx.2.1 dL_law__1811 rfl (lv_at hl 1 rfl) ?_
  refine lz_rd (j := 1) fx hX hbl hw (lv_at hl 0 rfl) (lv_at hl 4 rfl) A1 dL_law__1812 dL_law__1813 dL_law__1815 rfl dL_law__1816 dL_law__1817 ?_
  refine lz_rd (j := 2) fx hX hbl hw (lv_at hl 0 rfl) (lv_at hl 4 rfl) A2 dL_law__1818 dL_law__1819 dL_law__1821 rfl dL_law__1822 dL_law__1823 ?_
  refine lz_rd (j := 3) fx hX hbl hw (lv_at hl 0 rfl) (lv_at hl 4 rfl) A3 dL_law__1824 dL_law__1825 dL_law__1827 rfl dL_law__1828 dL_law__1829 ?_
  refine lv_aload_n fx.1 fx.2.1 dL_law__1830 rfl (lv_at hl 3 rfl) ?_
  obtain ⟨⟨k, G1⟩, h1, ⟨r, G2⟩, h2, e1, e2, hST⟩ := op_oakum ey eo hτ h5 hC hM hI a1 a2 a3
  have h1 : f_L_oakum τ n x a1 a2 a3 o G = some (k, G1) := h1
  have h2 : f_X11_oakum τ n y a1 a2 a3 G1 = some (r, G2) := h2
  have e1 : k = gi G2 11 0 y := e1
  have e2 : k = 0 → gl G2 o 0 = r.toInt64 := e2
  have hST : ST τ x y G2 := hST
  refine g_callSW (As := [.ref x, .int a1, .int a2, .int a3, .ref o]) (rest := []) fx hw (c_L_oakum l (D, cy, s) τ n hS hN x a1 a2 a3 o G hx ho h1) lsw_oakum rfl hl.1 rfl ⟨Nat.le_of_ble_eq_true rfl, Nat.le_of_ble_eq_true rfl⟩ (Nat.le_of_ble_eq_true rfl) ⟨Nat.le_trans (Nat.add_le_add_left (Nat.le_of_ble_eq_true rfl) _) hf.1, Nat.le_trans (Nat.add_le_add_left (Nat.le_of_ble_eq_true rfl) _) hf.2⟩ dL_law__1831 (fun H locs hw => ?_)
  refine lv_istore (lv' := [(5, .int k), (0, .ref b), (1, .ref x), (2, .ref y), (3, .ref o), (4, .int i)]) fx.1 fx.2.1 dL_law__1834 hl (by decide) rfl (fun ls hl => ?_)
  refine lv_aload_n fx.1 fx.2.1 dL_law__1836 rfl (lv_at hl 3 rfl) ?_
  refine lz_rd (j := 1) fx hX hbl hw (lv_at hl 1 rfl) (lv_at hl 5 rfl) A1 dL_law__1837 dL_law__1838 dL_law__1840 rfl dL_law__1841 dL_law__1842 ?_
  refine lz_rd (j := 2) fx hX hbl hw (lv_at hl 1 rfl) (lv_at hl 5 rfl) A2 dL_law__1843 dL_law__1844 dL_law__1846 rfl dL_law__1847 dL_law__1848 ?_
  refine lz_rd (j := 3) fx hX hbl hw (lv_at hl 1 rfl) (lv_at hl 5 rfl) A3 dL_law__1849 dL_law__1850 dL_law__1852 rfl dL_law__1853 dL_law__1854 ?_
  refine g_callV0 (κ := 11) (As := [.int a1, .int a2, .int a3]) (rest := []) fx hw (c_X11_oakum l (D, cy, s) τ n y a1 a2 a3 G1 hm h2) lv_RL_219 ⟨rfl, rfl⟩ rfl rfl hm rfl hl.1 rfl ⟨Nat.le_of_ble_eq_true rfl, Nat.le_of_ble_eq_true rfl⟩ (Nat.le_of_ble_eq_true rfl) ⟨Nat.le_trans (Nat.add_le_add_left (Nat.le_of_ble_eq_true rfl) _) hf.1, Nat.le_trans (Nat.add_le_add_left (Nat.le_of_ble_eq_true rfl) _) hf.2⟩ dL_law__1855 (fun H locs hw => ?_)
  refine lv_istore (lv' := [(6, .int r), (5, .int k), (0, .ref b), (1, .ref x), (2, .ref y), (3, .ref o), (4, .int i)]) fx.1 fx.2.1 dL_law__1858 hl (by decide) rfl (fun ls hl => ?_)
  refine lv_aload_n fx.1 fx.2.1 dL_law__1860 rfl (lv_at hl 4 rfl) ?_
  refine g_callV0 (κ := 11) (As := []) (rest := []) fx hw (c_X11_thrown l (D, cy, s) τ y G2 hm (r := gi G2 11 0 y) rfl) lv_RL_136 ⟨rfl, rfl⟩ rfl rfl hm rfl hl.1 rfl ⟨Nat.le_of_ble_eq_true rfl, Nat.le_of_ble_eq_true rfl⟩ (Nat.le_of_ble_eq_true rfl) ⟨Nat.le_trans (Nat.add_le_add_left (Nat.le_of_ble_eq_true rfl) _) hf.1, Nat.le_trans (Nat.add_le_add_left (Nat.le_of_ble_eq_true rfl) _) hf.2⟩ dL_law__1861 (fun H locs hw => ?_)
  refine lv_iload fx.1 fx.2.1 dL_law__1864 (lv_at hl 1 rfl) ?_
  refine lv_icmp_eq (tgt := 1871) fx.1 fx.2.1 dL_law__1866 (by decide) (fun _ => ?_) (fun h => absurd e1.symm h)
  refine lv_iload fx.1 fx.2.1 dL_law__1871 (lv_at hl 1 rfl) ?_
  refine lv_if_ne (tgt := 1888) fx.1 fx.2.1 dL_law__1873 (by decide) (fun _ => ?_) (fun hk => ?_)
  · refine lv_goto (tgt := 2614) fx.1 fx.2.1 dL_law__1888 (by decide) ?_
    refine W.widen (k := cells + 8) (n := slots + 48) (Nat.add_le_add_left (Nat.le_of_ble_eq_true rfl) _) (Nat.add_le_add_left (Nat.le_of_ble_eq_true rfl) _) ?_
    exact kk _ _ _ _ hw hST (lv_sub hl [2, 3, 4, 5, 6] rfl)
  · refine lv_aload_n fx.1 fx.2.1 dL_law__1876 rfl (lv_at hl 5 rfl) ?_
    refine lv_iconst (v := 0) fx.1 fx.2.1 dL_law__1877 rfl ?_
    refine lz_ld fx hw ho hτ dL_law__1878 ?_
    refine lv_iload fx.1 fx.2.1 dL_law__1879 (lv_at hl 0 rfl) ?_
    refine lv_i2l (v := r.toInt64) fx.1 fx.2.1 dL_law__1881 rfl ?_
    refine W.lcmp fx.1 fx.2.1 dL_law__1882 ?_
    rw [lz_cmp (e2 hk)]
    refine lv_if_eq (tgt := 1888) fx.1 fx.2.1 dL_law__1883 (by decide) (fun _ => ?_) (fun h => absurd rfl h)
    refine lv_goto (tgt := 2614) fx.1 fx.2.1 dL_law__1888 (by decide) ?_
    refine W.widen (k := cells + 8) (n := slots + 48) (Nat.add_le_add_left (Nat.le_of_ble_eq_true rfl) _) (Nat.add_le_add_left (Nat.le_of_ble_eq_true rfl) _) ?_
    exact kk _ _ _ _ hw hST (lv_sub hl [2, 3, 4, 5, 6] rfl)
set_option maxHeartbeats 4000000 in
set_option maxRecDepth 100000 in
/-- the law's call 27: thrown -/
theorem lz_27 (F : lz_F D cy p l s m meth c b L xs τ n x y o) {a1 a2 a3 a4 a5 : Int32} (A1 : lz_A L xs i 1 a1) (A2 : lz_A L xs i 2 a2) (A3 : lz_A L xs i 3 a3) (A4 : lz_A L xs i 4 a4) (A5 : lz_A L xs i 5 a5) (hw : gHw (D, cy, s) τ G H locs) (hST : ST τ x y G) (hl : lv_has ls 7 [(0, .ref b), (1, .ref x), (2, .ref y), (3, .ref o), (4, .int i)]) (hf : cells + 8 ≤ room_1.cells ∧ slots + 48 ≤ room_1.slots) (kk : ∀ (G : gG) (H : Heap) (locs : List Loc) (ls : Array Slot), gHw (D, cy, s) τ G H locs → ST τ x y G → lv_has ls 7 [(0, .ref b), (1, .ref x), (2, .ref y), (3, .ref o), (4, .int i)] → W p l e room_1 s m #[Value.ref b] below meth c H locs (cells + 8) (slots + 48) Q (F0 m 2614 ls [])) : W p l e room_1 s m #[Value.ref b] below meth c H locs cells slots Q (F0 m 1891 ls []) := by
  obtain ⟨fx, ⟨hS, hN⟩, ⟨hX, hbl⟩, ⟨hx, hm, ho, hτ⟩, ey, eo, hn⟩ := F
  have h5 : 500 < n := Nat.lt_trans (Nat.le_of_ble_eq_true rfl) hn
  obtain ⟨s1, t1, l1, l2, ω, im, me, ta, fa, hC, hM, hI⟩ := hST
  refine lv_aload_n fx.1 fx.2.1 dL_law__1891 rfl (lv_at hl 1 rfl) ?_
  refine lz_rd (j := 1) fx hX hbl hw (lv_at hl 0 rfl) (lv_at hl 4 rfl) A1 dL_law__1892 dL_law__1893 dL_law__1895 rfl dL_law__1896 dL_law__1897 ?_
  refine lz_rd (j := 2) fx hX hbl hw (lv_at hl 0 rfl) (lv_at hl 4 rfl) A2 dL_law__1898 dL_law__1899 dL_law__1901 rfl dL_law__1902 dL_law__1903 ?_
  refine lz_bl fx dL_law__1904 dL_law__1907 dL_law__1908 dL_law__1911 ?_
  refine lv_aload_n fx.1 fx.2.1 dL_law__1912 rfl (lv_at hl 3 rfl) ?_
  obtain ⟨⟨k, G1⟩, h1, ⟨r, G2⟩, h2, e1, e2, hST⟩ := op_holds ey eo hτ h5 hC hM hI a1 (lz_b a2)
  have h1 : f_L_holds τ n x a1 (lz_b a2) o G = some (k, G1) := h1
  have h2 : f_X11_holds τ n y a1 (lz_b a2) G1 = some (r, G2) := h2
  have e1 : k = gi G2 11 0 y := e1
  have e2 : k = 0 → gl G2 o 0 = r.toInt64 := e2
  have hST : ST τ x y G2 := hST
  refine g_callSW (As := [.ref x, .int a1, .int (lz_b a2), .ref o]) (rest := []) fx hw (c_L_holds l (D, cy, s) τ n hS hN x a1 (lz_b a2) o G hx ho h1) lsw_holds rfl hl.1 rfl ⟨Nat.le_of_ble_eq_true rfl, Nat.le_of_ble_eq_true rfl⟩ (Nat.le_of_ble_eq_true rfl) ⟨Nat.le_trans (Nat.add_le_add_left (Nat.le_of_ble_eq_true rfl) _) hf.1, Nat.le_trans (Nat.add_le_add_left (Nat.le_of_ble_eq_true rfl) _) hf.2⟩ dL_law__1913 (fun H locs hw => ?_)
  refine lv_istore (lv' := [(5, .int k), (0, .ref b), (1, .ref x), (2, .ref y), (3, .ref o), (4, .int i)]) fx.1 fx.2.1 dL_law__1916 hl (by decide) rfl (fun ls hl => ?_)
  refine lv_aload_n fx.1 fx.2.1 dL_law__1918 rfl (lv_at hl 3 rfl) ?_
  refine lz_rd (j := 1) fx hX hbl hw (lv_at hl 1 rfl) (lv_at hl 5 rfl) A1 dL_law__1919 dL_law__1920 dL_law__1922 rfl dL_law__1923 dL_law__1924 ?_
  refine lz_rd (j := 2) fx hX hbl hw (lv_at hl 1 rfl) (lv_at hl 5 rfl) A2 dL_law__1925 dL_law__1926 dL_law__1928 rfl dL_law__1929 dL_law__1930 ?_
  refine lz_bl fx dL_law__1931 dL_law__1934 dL_law__1935 dL_law__1938 ?_
  refine g_callV0 (κ := 11) (As := [.int a1, .int (lz_b a2)]) (rest := []) fx hw (c_X11_holds l (D, cy, s) τ n y a1 (lz_b a2) G1 hm h2) lv_RL_222 ⟨rfl, rfl⟩ rfl rfl hm rfl hl.1 rfl ⟨Nat.le_of_ble_eq_true rfl, Nat.le_of_ble_eq_true rfl⟩ (Nat.le_of_ble_eq_true rfl) ⟨Nat.le_trans (Nat.add_le_add_left (Nat.le_of_ble_eq_true rfl) _) hf.1, Nat.le_trans (Nat.add_le_add_left (Nat.le_of_ble_eq_true rfl) _) hf.2⟩ dL_law__1939 (fun H locs hw => ?_)
  refine lv_istore (lv' := [(6, .int r), (5, .int k), (0, .ref b), (1, .ref x), (2, .ref y), (3, .ref o), (4, .int i)]) fx.1 fx.2.1 dL_law__1942 hl (by decide) rfl (fun ls hl => ?_)
  refine lv_aload_n fx.1 fx.2.1 dL_law__1944 rfl (lv_at hl 4 rfl) ?_
  refine g_callV0 (κ := 11) (As := []) (rest := []) fx hw (c_X11_thrown l (D, cy, s) τ y G2 hm (r := gi G2 11 0 y) rfl) lv_RL_136 ⟨rfl, rfl⟩ rfl rfl hm rfl hl.1 rfl ⟨Nat.le_of_ble_eq_true rfl, Nat.le_of_ble_eq_true rfl⟩ (Nat.le_of_ble_eq_true rfl) ⟨Nat.le_trans (Nat.add_le_add_left (Nat.le_of_ble_eq_true rfl) _) hf.1, Nat.le_trans (Nat.add_le_add_left (Nat.le_of_ble_eq_true rfl) _) hf.2⟩ dL_law__1945 (fun H locs hw => ?_)
  refine lv_iload fx.1 fx.2.1 dL_law__1948 (lv_at hl 1 rfl) ?_
  refine lv_icmp_eq (tgt := 1955) fx.1 fx.2.1 dL_law__1950 (by decide) (fun _ => ?_) (fun h => absurd e1.symm h)
  refine lv_iload fx.1 fx.2.1 dL_law__1955 (lv_at hl 1 rfl) ?_
  refine lv_if_ne (tgt := 1972) fx.1 fx.2.1 dL_law__1957 (by decide) (fun _ => ?_) (fun hk => ?_)
  · refine lv_goto (tgt := 2614) fx.1 fx.2.1 dL_law__1972 (by decide) ?_
    refine W.widen (k := cells + 8) (n := slots + 48) (Nat.add_le_add_left (Nat.le_of_ble_eq_true rfl) _) (Nat.add_le_add_left (Nat.le_of_ble_eq_true rfl) _) ?_
    exact kk _ _ _ _ hw hST (lv_sub hl [2, 3, 4, 5, 6] rfl)
  · refine lv_aload_n fx.1 fx.2.1 dL_law__1960 rfl (lv_at hl 5 rfl) ?_
    refine lv_iconst (v := 0) fx.1 fx.2.1 dL_law__1961 rfl ?_
    refine lz_ld fx hw ho hτ dL_law__1962 ?_
    refine lv_iload fx.1 fx.2.1 dL_law__1963 (lv_at hl 0 rfl) ?_
    refine lv_i2l (v := r.toInt64) fx.1 fx.2.1 dL_law__1965 rfl ?_
    refine W.lcmp fx.1 fx.2.1 dL_law__1966 ?_
    rw [lz_cmp (e2 hk)]
    refine lv_if_eq (tgt := 1972) fx.1 fx.2.1 dL_law__1967 (by decide) (fun _ => ?_) (fun h => absurd rfl h)
    refine lv_goto (tgt := 2614) fx.1 fx.2.1 dL_law__1972 (by decide) ?_
    refine W.widen (k := cells + 8) (n := slots + 48) (Nat.add_le_add_left (Nat.le_of_ble_eq_true rfl) _) (Nat.add_le_add_left (Nat.le_of_ble_eq_true rfl) _) ?_
    exact kk _ _ _ _ hw hST (lv_sub hl [2, 3, 4, 5, 6] rfl)
set_option maxHeartbeats 4000000 in
set_option maxRecDepth 100000 in
/-- the law's call 28: thrown -/
theorem lz_28 (F : lz_F D cy p l s m meth c b L xs τ n x y o) {a1 a2 a3 a4 a5 : Int32} (A1 : lz_A L xs i 1 a1) (A2 : lz_A L xs i 2 a2) (A3 : lz_A L xs i 3 a3) (A4 : lz_A L xs i 4 a4) (A5 : lz_A L xs i 5 a5) (hw : gHw (D, cy, s) τ G H locs) (hST : ST τ x y G) (hl : lv_has ls 7 [(0, .ref b), (1, .ref x), (2, .ref y), (3, .ref o), (4, .int i)]) (hf : cells + 8 ≤ room_1.cells ∧ slots + 48 ≤ room_1.slots) (kk : ∀ (G : gG) (H : Heap) (locs : List Loc) (ls : Array Slot), gHw (D, cy, s) τ G H locs → ST τ x y G → lv_has ls 7 [(0, .ref b), (1, .ref x), (2, .ref y), (3, .ref o), (4, .int i)] → W p l e room_1 s m #[Value.ref b] below meth c H locs (cells + 8) (slots + 48) Q (F0 m 2614 ls [])) : W p l e room_1 s m #[Value.ref b] below meth c H locs cells slots Q (F0 m 1975 ls []) := by
  obtain ⟨fx, ⟨hS, hN⟩, ⟨hX, hbl⟩, ⟨hx, hm, ho, hτ⟩, ey, eo, hn⟩ := F
  have h5 : 500 < n := Nat.lt_trans (Nat.le_of_ble_eq_true rfl) hn
  obtain ⟨s1, t1, l1, l2, ω, im, me, ta, fa, hC, hM, hI⟩ := hST
  refine lv_aload_n fx.1 fx.2.1 dL_law__1975 rfl (lv_at hl 1 rfl) ?_
  refine lz_rd (j := 1) fx hX hbl hw (lv_at hl 0 rfl) (lv_at hl 4 rfl) A1 dL_law__1976 dL_law__1977 dL_law__1979 rfl dL_law__1980 dL_law__1981 ?_
  refine lz_rd (j := 2) fx hX hbl hw (lv_at hl 0 rfl) (lv_at hl 4 rfl) A2 dL_law__1982 dL_law__1983 dL_law__1985 rfl dL_law__1986 dL_law__1987 ?_
  refine lv_aload_n fx.1 fx.2.1 dL_law__1988 rfl (lv_at hl 3 rfl) ?_
  obtain ⟨⟨k, G1⟩, h1, ⟨r, G2⟩, h2, e1, e2, hST⟩ := op_would ey eo hτ h5 hC hM hI a1 a2
  have h1 : f_L_would τ n x a1 a2 o G = some (k, G1) := h1
  have h2 : f_X11_would τ n y a1 a2 G1 = some (r, G2) := h2
  have e1 : k = gi G2 11 0 y := e1
  have e2 : k = 0 → gl G2 o 0 = r.toInt64 := e2
  have hST : ST τ x y G2 := hST
  refine g_callSW (As := [.ref x, .int a1, .int a2, .ref o]) (rest := []) fx hw (c_L_would l (D, cy, s) τ n hS hN x a1 a2 o G hx ho h1) lsw_would rfl hl.1 rfl ⟨Nat.le_of_ble_eq_true rfl, Nat.le_of_ble_eq_true rfl⟩ (Nat.le_of_ble_eq_true rfl) ⟨Nat.le_trans (Nat.add_le_add_left (Nat.le_of_ble_eq_true rfl) _) hf.1, Nat.le_trans (Nat.add_le_add_left (Nat.le_of_ble_eq_true rfl) _) hf.2⟩ dL_law__1989 (fun H locs hw => ?_)
  refine lv_istore (lv' := [(5, .int k), (0, .ref b), (1, .ref x), (2, .ref y), (3, .ref o), (4, .int i)]) fx.1 fx.2.1 dL_law__1992 hl (by decide) rfl (fun ls hl => ?_)
  refine lv_aload_n fx.1 fx.2.1 dL_law__1994 rfl (lv_at hl 3 rfl) ?_
  refine lz_rd (j := 1) fx hX hbl hw (lv_at hl 1 rfl) (lv_at hl 5 rfl) A1 dL_law__1995 dL_law__1996 dL_law__1998 rfl dL_law__1999 dL_law__2000 ?_
  refine lz_rd (j := 2) fx hX hbl hw (lv_at hl 1 rfl) (lv_at hl 5 rfl) A2 dL_law__2001 dL_law__2002 dL_law__2004 rfl dL_law__2005 dL_law__2006 ?_
  refine g_callV0 (κ := 11) (As := [.int a1, .int a2]) (rest := []) fx hw (c_X11_would l (D, cy, s) τ n y a1 a2 G1 hm h2) lv_RL_225 ⟨rfl, rfl⟩ rfl rfl hm rfl hl.1 rfl ⟨Nat.le_of_ble_eq_true rfl, Nat.le_of_ble_eq_true rfl⟩ (Nat.le_of_ble_eq_true rfl) ⟨Nat.le_trans (Nat.add_le_add_left (Nat.le_of_ble_eq_true rfl) _) hf.1, Nat.le_trans (Nat.add_le_add_left (Nat.le_of_ble_eq_true rfl) _) hf.2⟩ dL_law__2007 (fun H locs hw => ?_)
  refine lv_istore (lv' := [(6, .int r), (5, .int k), (0, .ref b), (1, .ref x), (2, .ref y), (3, .ref o), (4, .int i)]) fx.1 fx.2.1 dL_law__2010 hl (by decide) rfl (fun ls hl => ?_)
  refine lv_aload_n fx.1 fx.2.1 dL_law__2012 rfl (lv_at hl 4 rfl) ?_
  refine g_callV0 (κ := 11) (As := []) (rest := []) fx hw (c_X11_thrown l (D, cy, s) τ y G2 hm (r := gi G2 11 0 y) rfl) lv_RL_136 ⟨rfl, rfl⟩ rfl rfl hm rfl hl.1 rfl ⟨Nat.le_of_ble_eq_true rfl, Nat.le_of_ble_eq_true rfl⟩ (Nat.le_of_ble_eq_true rfl) ⟨Nat.le_trans (Nat.add_le_add_left (Nat.le_of_ble_eq_true rfl) _) hf.1, Nat.le_trans (Nat.add_le_add_left (Nat.le_of_ble_eq_true rfl) _) hf.2⟩ dL_law__2013 (fun H locs hw => ?_)
  refine lv_iload fx.1 fx.2.1 dL_law__2016 (lv_at hl 1 rfl) ?_
  refine lv_icmp_eq (tgt := 2023) fx.1 fx.2.1 dL_law__2018 (by decide) (fun _ => ?_) (fun h => absurd e1.symm h)
  refine lv_iload fx.1 fx.2.1 dL_law__2023 (lv_at hl 1 rfl) ?_
  refine lv_if_ne (tgt := 2040) fx.1 fx.2.1 dL_law__2025 (by decide) (fun _ => ?_) (fun hk => ?_)
  · refine lv_goto (tgt := 2614) fx.1 fx.2.1 dL_law__2040 (by decide) ?_
    refine W.widen (k := cells + 8) (n := slots + 48) (Nat.add_le_add_left (Nat.le_of_ble_eq_true rfl) _) (Nat.add_le_add_left (Nat.le_of_ble_eq_true rfl) _) ?_
    exact kk _ _ _ _ hw hST (lv_sub hl [2, 3, 4, 5, 6] rfl)
  · refine lv_aload_n fx.1 fx.2.1 dL_law__2028 rfl (lv_at hl 5 rfl) ?_
    refine lv_iconst (v := 0) fx.1 fx.2.1 dL_law__2029 rfl ?_
    refine lz_ld fx hw ho hτ dL_law__2030 ?_
    refine lv_iload fx.1 fx.2.1 dL_law__2031 (lv_at hl 0 rfl) ?_
    refine lv_i2l (v := r.toInt64) fx.1 fx.2.1 dL_law__2033 rfl ?_
    refine W.lcmp fx.1 fx.2.1 dL_law__2034 ?_
    rw [lz_cmp (e2 hk)]
    refine lv_if_eq (tgt := 2040) fx.1 fx.2.1 dL_law__2035 (by decide) (fun _ => ?_) (fun h => absurd rfl h)
    refine lv_goto (tgt := 2614) fx.1 fx.2.1 dL_law__2040 (by decide) ?_
    refine W.widen (k := cells + 8) (n := slots + 48) (Nat.add_le_add_left (Nat.le_of_ble_eq_true rfl) _) (Nat.add_le_add_left (Nat.le_of_ble_eq_true rfl) _) ?_
    exact kk _ _ _ _ hw hST (lv_sub hl [2, 3, 4, 5, 6] rfl)
set_option maxHeartbeats 4000000 in
set_option maxRecDepth 100000 in
/-- the law's call 29: weakest -/
theorem lz_29 (F : lz_F D cy p l s m meth c b L xs τ n x y o) {a1 a2 a3 a4 a5 : Int32} (A1 : lz_A L xs i 1 a1) (A2 : lz_A L xs i 2 a2) (A3 : lz_A L xs i 3 a3) (A4 : lz_A L xs i 4 a4) (A5 : lz_A L xs i 5 a5) (hw : gHw (D, cy, s) τ G H locs) (hST : ST τ x y G) (hl : lv_has ls 7 [(0, .ref b), (1, .ref x), (2, .ref y), (3, .ref o), (4, .int i)]) (hf : cells + 8 ≤ room_1.cells ∧ slots + 48 ≤ room_1.slots) (kk : ∀ (G : gG) (H : Heap) (locs : List Loc) (ls : Array Slot), gHw (D, cy, s) τ G H locs → ST τ x y G → lv_has ls 7 [(0, .ref b), (1, .ref x), (2, .ref y), (3, .ref o), (4, .int i)] → W p l e room_1 s m #[Value.ref b] below meth c H locs (cells + 8) (slots + 48) Q (F0 m 2614 ls [])) : W p l e room_1 s m #[Value.ref b] below meth c H locs cells slots Q (F0 m 2043 ls []) := by
  obtain ⟨fx, ⟨hS, hN⟩, ⟨hX, hbl⟩, ⟨hx, hm, ho, hτ⟩, ey, eo, hn⟩ := F
  have h5 : 500 < n := Nat.lt_trans (Nat.le_of_ble_eq_true rfl) hn
  obtain ⟨s1, t1, l1, l2, ω, im, me, ta, fa, hC, hM, hI⟩ := hST
  refine lv_aload_n fx.1 fx.2.1 dL_law__2043 rfl (lv_at hl 1 rfl) ?_
  obtain ⟨⟨v, G1⟩, h1, ⟨r, G2⟩, h2, e1, hST⟩ := op_weakest ey h5 hC hM hI 
  have h1 : f_X10_weakest τ n x G = some (v, G1) := h1
  have h2 : f_X11_weakest τ n y G1 = some (r, G2) := h2
  have e1 : v = r := e1
  have hST : ST τ x y G2 := hST
  refine g_callV0 (κ := 10) (As := []) (rest := []) fx hw (c_X10_weakest l (D, cy, s) τ n x G hx h1) lv_RL_226 ⟨rfl, rfl⟩ rfl rfl hx rfl hl.1 rfl ⟨Nat.le_of_ble_eq_true rfl, Nat.le_of_ble_eq_true rfl⟩ (Nat.le_of_ble_eq_true rfl) ⟨Nat.le_trans (Nat.le_add_right _ _) hf.1, Nat.le_trans (Nat.le_add_right _ _) hf.2⟩ dL_law__2044 (fun H locs hw => ?_)
  refine lv_aload_n fx.1 fx.2.1 dL_law__2047 rfl (lv_at hl 2 rfl) ?_
  refine g_callV0 (κ := 11) (As := []) (rest := [.int v]) fx hw (c_X11_weakest l (D, cy, s) τ n y G1 hm h2) lv_RL_229 ⟨rfl, rfl⟩ rfl rfl hm rfl hl.1 rfl ⟨Nat.le_of_ble_eq_true rfl, Nat.le_of_ble_eq_true rfl⟩ (Nat.le_of_ble_eq_true rfl) ⟨Nat.le_trans (Nat.le_add_right _ _) hf.1, Nat.le_trans (Nat.le_add_right _ _) hf.2⟩ dL_law__2048 (fun H locs hw => ?_)
  refine lv_icmp_eq (tgt := 2614) fx.1 fx.2.1 dL_law__2051 (by decide) (fun _ => ?_) (fun h => absurd e1 h)
  refine W.widen (k := cells + 8) (n := slots + 48) (Nat.le_add_right _ _) (Nat.le_add_right _ _) ?_
  exact kk _ _ _ _ hw hST (lv_sub hl [0, 1, 2, 3, 4] rfl)
set_option maxHeartbeats 4000000 in
set_option maxRecDepth 100000 in
/-- the law's call 30: fewest -/
theorem lz_30 (F : lz_F D cy p l s m meth c b L xs τ n x y o) {a1 a2 a3 a4 a5 : Int32} (A1 : lz_A L xs i 1 a1) (A2 : lz_A L xs i 2 a2) (A3 : lz_A L xs i 3 a3) (A4 : lz_A L xs i 4 a4) (A5 : lz_A L xs i 5 a5) (hw : gHw (D, cy, s) τ G H locs) (hST : ST τ x y G) (hl : lv_has ls 7 [(0, .ref b), (1, .ref x), (2, .ref y), (3, .ref o), (4, .int i)]) (hf : cells + 8 ≤ room_1.cells ∧ slots + 48 ≤ room_1.slots) (kk : ∀ (G : gG) (H : Heap) (locs : List Loc) (ls : Array Slot), gHw (D, cy, s) τ G H locs → ST τ x y G → lv_has ls 7 [(0, .ref b), (1, .ref x), (2, .ref y), (3, .ref o), (4, .int i)] → W p l e room_1 s m #[Value.ref b] below meth c H locs (cells + 8) (slots + 48) Q (F0 m 2614 ls [])) : W p l e room_1 s m #[Value.ref b] below meth c H locs cells slots Q (F0 m 2056 ls []) := by
  obtain ⟨fx, ⟨hS, hN⟩, ⟨hX, hbl⟩, ⟨hx, hm, ho, hτ⟩, ey, eo, hn⟩ := F
  have h5 : 500 < n := Nat.lt_trans (Nat.le_of_ble_eq_true rfl) hn
  obtain ⟨s1, t1, l1, l2, ω, im, me, ta, fa, hC, hM, hI⟩ := hST
  refine lv_aload_n fx.1 fx.2.1 dL_law__2056 rfl (lv_at hl 1 rfl) ?_
  obtain ⟨⟨v, G1⟩, h1, ⟨r, G2⟩, h2, e1, hST⟩ := op_fewest ey h5 hC hM hI 
  have h1 : f_X10_fewest τ n x G = some (v, G1) := h1
  have h2 : f_X11_fewest τ n y G1 = some (r, G2) := h2
  have e1 : v = r := e1
  have hST : ST τ x y G2 := hST
  refine g_callV0 (κ := 10) (As := []) (rest := []) fx hw (c_X10_fewest l (D, cy, s) τ n x G hx h1) lv_RL_230 ⟨rfl, rfl⟩ rfl rfl hx rfl hl.1 rfl ⟨Nat.le_of_ble_eq_true rfl, Nat.le_of_ble_eq_true rfl⟩ (Nat.le_of_ble_eq_true rfl) ⟨Nat.le_trans (Nat.le_add_right _ _) hf.1, Nat.le_trans (Nat.le_add_right _ _) hf.2⟩ dL_law__2057 (fun H locs hw => ?_)
  refine lv_aload_n fx.1 fx.2.1 dL_law__2060 rfl (lv_at hl 2 rfl) ?_
  refine g_callV0 (κ := 11) (As := []) (rest := [.int v]) fx hw (c_X11_fewest l (D, cy, s) τ n y G1 hm h2) lv_RL_233 ⟨rfl, rfl⟩ rfl rfl hm rfl hl.1 rfl ⟨Nat.le_of_ble_eq_true rfl, Nat.le_of_ble_eq_true rfl⟩ (Nat.le_of_ble_eq_true rfl) ⟨Nat.le_trans (Nat.le_add_right _ _) hf.1, Nat.le_trans (Nat.le_add_right _ _) hf.2⟩ dL_law__2061 (fun H locs hw => ?_)
  refine lv_icmp_eq (tgt := 2614) fx.1 fx.2.1 dL_law__2064 (by decide) (fun _ => ?_) (fun h => absurd e1 h)
  refine W.widen (k := cells + 8) (n := slots + 48) (Nat.le_add_right _ _) (Nat.le_add_right _ _) ?_
  exact kk _ _ _ _ hw hST (lv_sub hl [0, 1, 2, 3, 4] rfl)
set_option maxHeartbeats 4000000 in
set_option maxRecDepth 100000 in
/-- the law's call 31: thrown -/
theorem lz_31 (F : lz_F D cy p l s m meth c b L xs τ n x y o) {a1 a2 a3 a4 a5 : Int32} (A1 : lz_A L xs i 1 a1) (A2 : lz_A L xs i 2 a2) (A3 : lz_A L xs i 3 a3) (A4 : lz_A L xs i 4 a4) (A5 : lz_A L xs i 5 a5) (hw : gHw (D, cy, s) τ G H locs) (hST : ST τ x y G) (hl : lv_has ls 7 [(0, .ref b), (1, .ref x), (2, .ref y), (3, .ref o), (4, .int i)]) (hf : cells + 8 ≤ room_1.cells ∧ slots + 48 ≤ room_1.slots) (kk : ∀ (G : gG) (H : Heap) (locs : List Loc) (ls : Array Slot), gHw (D, cy, s) τ G H locs → ST τ x y G → lv_has ls 7 [(0, .ref b), (1, .ref x), (2, .ref y), (3, .ref o), (4, .int i)] → W p l e room_1 s m #[Value.ref b] below meth c H locs (cells + 8) (slots + 48) Q (F0 m 2614 ls [])) : W p l e room_1 s m #[Value.ref b] below meth c H locs cells slots Q (F0 m 2069 ls []) := by
  obtain ⟨fx, ⟨hS, hN⟩, ⟨hX, hbl⟩, ⟨hx, hm, ho, hτ⟩, ey, eo, hn⟩ := F
  have h5 : 500 < n := Nat.lt_trans (Nat.le_of_ble_eq_true rfl) hn
  obtain ⟨s1, t1, l1, l2, ω, im, me, ta, fa, hC, hM, hI⟩ := hST
  refine lv_aload_n fx.1 fx.2.1 dL_law__2069 rfl (lv_at hl 1 rfl) ?_
  refine lz_rd (j := 1) fx hX hbl hw (lv_at hl 0 rfl) (lv_at hl 4 rfl) A1 dL_law__2070 dL_law__2071 dL_law__2073 rfl dL_law__2074 dL_law__2075 ?_
  refine lv_aload_n fx.1 fx.2.1 dL_law__2076 rfl (lv_at hl 3 rfl) ?_
  obtain ⟨⟨k, G1⟩, h1, ⟨r, G2⟩, h2, e1, e2, hST⟩ := op_buys ey eo hτ h5 hC hM hI a1
  have h1 : f_L_buys τ n x a1 o G = some (k, G1) := h1
  have h2 : f_X11_buys τ n y a1 G1 = some (r, G2) := h2
  have e1 : k = gi G2 11 0 y := e1
  have e2 : k = 0 → gl G2 o 0 = r.toInt64 := e2
  have hST : ST τ x y G2 := hST
  refine g_callSW (As := [.ref x, .int a1, .ref o]) (rest := []) fx hw (c_L_buys l (D, cy, s) τ n hS hN x a1 o G hx ho h1) lsw_buys rfl hl.1 rfl ⟨Nat.le_of_ble_eq_true rfl, Nat.le_of_ble_eq_true rfl⟩ (Nat.le_of_ble_eq_true rfl) ⟨Nat.le_trans (Nat.add_le_add_left (Nat.le_of_ble_eq_true rfl) _) hf.1, Nat.le_trans (Nat.add_le_add_left (Nat.le_of_ble_eq_true rfl) _) hf.2⟩ dL_law__2077 (fun H locs hw => ?_)
  refine lv_istore (lv' := [(5, .int k), (0, .ref b), (1, .ref x), (2, .ref y), (3, .ref o), (4, .int i)]) fx.1 fx.2.1 dL_law__2080 hl (by decide) rfl (fun ls hl => ?_)
  refine lv_aload_n fx.1 fx.2.1 dL_law__2082 rfl (lv_at hl 3 rfl) ?_
  refine lz_rd (j := 1) fx hX hbl hw (lv_at hl 1 rfl) (lv_at hl 5 rfl) A1 dL_law__2083 dL_law__2084 dL_law__2086 rfl dL_law__2087 dL_law__2088 ?_
  refine g_callV0 (κ := 11) (As := [.int a1]) (rest := []) fx hw (c_X11_buys l (D, cy, s) τ n y a1 G1 hm h2) lv_RL_236 ⟨rfl, rfl⟩ rfl rfl hm rfl hl.1 rfl ⟨Nat.le_of_ble_eq_true rfl, Nat.le_of_ble_eq_true rfl⟩ (Nat.le_of_ble_eq_true rfl) ⟨Nat.le_trans (Nat.add_le_add_left (Nat.le_of_ble_eq_true rfl) _) hf.1, Nat.le_trans (Nat.add_le_add_left (Nat.le_of_ble_eq_true rfl) _) hf.2⟩ dL_law__2089 (fun H locs hw => ?_)
  refine lv_istore (lv' := [(6, .int r), (5, .int k), (0, .ref b), (1, .ref x), (2, .ref y), (3, .ref o), (4, .int i)]) fx.1 fx.2.1 dL_law__2092 hl (by decide) rfl (fun ls hl => ?_)
  refine lv_aload_n fx.1 fx.2.1 dL_law__2094 rfl (lv_at hl 4 rfl) ?_
  refine g_callV0 (κ := 11) (As := []) (rest := []) fx hw (c_X11_thrown l (D, cy, s) τ y G2 hm (r := gi G2 11 0 y) rfl) lv_RL_136 ⟨rfl, rfl⟩ rfl rfl hm rfl hl.1 rfl ⟨Nat.le_of_ble_eq_true rfl, Nat.le_of_ble_eq_true rfl⟩ (Nat.le_of_ble_eq_true rfl) ⟨Nat.le_trans (Nat.add_le_add_left (Nat.le_of_ble_eq_true rfl) _) hf.1, Nat.le_trans (Nat.add_le_add_left (Nat.le_of_ble_eq_true rfl) _) hf.2⟩ dL_law__2095 (fun H locs hw => ?_)
  refine lv_iload fx.1 fx.2.1 dL_law__2098 (lv_at hl 1 rfl) ?_
  refine lv_icmp_eq (tgt := 2105) fx.1 fx.2.1 dL_law__2100 (by decide) (fun _ => ?_) (fun h => absurd e1.symm h)
  refine lv_iload fx.1 fx.2.1 dL_law__2105 (lv_at hl 1 rfl) ?_
  refine lv_if_ne (tgt := 2122) fx.1 fx.2.1 dL_law__2107 (by decide) (fun _ => ?_) (fun hk => ?_)
  · refine lv_goto (tgt := 2614) fx.1 fx.2.1 dL_law__2122 (by decide) ?_
    refine W.widen (k := cells + 8) (n := slots + 48) (Nat.add_le_add_left (Nat.le_of_ble_eq_true rfl) _) (Nat.add_le_add_left (Nat.le_of_ble_eq_true rfl) _) ?_
    exact kk _ _ _ _ hw hST (lv_sub hl [2, 3, 4, 5, 6] rfl)
  · refine lv_aload_n fx.1 fx.2.1 dL_law__2110 rfl (lv_at hl 5 rfl) ?_
    refine lv_iconst (v := 0) fx.1 fx.2.1 dL_law__2111 rfl ?_
    refine lz_ld fx hw ho hτ dL_law__2112 ?_
    refine lv_iload fx.1 fx.2.1 dL_law__2113 (lv_at hl 0 rfl) ?_
    refine lv_i2l (v := r.toInt64) fx.1 fx.2.1 dL_law__2115 rfl ?_
    refine W.lcmp fx.1 fx.2.1 dL_law__2116 ?_
    rw [lz_cmp (e2 hk)]
    refine lv_if_eq (tgt := 2122) fx.1 fx.2.1 dL_law__2117 (by decide) (fun _ => ?_) (fun h => absurd rfl h)
    refine lv_goto (tgt := 2614) fx.1 fx.2.1 dL_law__2122 (by decide) ?_
    refine W.widen (k := cells + 8) (n := slots + 48) (Nat.add_le_add_left (Nat.le_of_ble_eq_true rfl) _) (Nat.add_le_add_left (Nat.le_of_ble_eq_true rfl) _) ?_
    exact kk _ _ _ _ hw hST (lv_sub hl [2, 3, 4, 5, 6] rfl)
set_option maxHeartbeats 4000000 in
set_option maxRecDepth 100000 in
/-- the law's call 32: skips -/
theorem lz_32 (F : lz_F D cy p l s m meth c b L xs τ n x y o) {a1 a2 a3 a4 a5 : Int32} (A1 : lz_A L xs i 1 a1) (A2 : lz_A L xs i 2 a2) (A3 : lz_A L xs i 3 a3) (A4 : lz_A L xs i 4 a4) (A5 : lz_A L xs i 5 a5) (hw : gHw (D, cy, s) τ G H locs) (hST : ST τ x y G) (hl : lv_has ls 7 [(0, .ref b), (1, .ref x), (2, .ref y), (3, .ref o), (4, .int i)]) (hf : cells + 8 ≤ room_1.cells ∧ slots + 48 ≤ room_1.slots) (kk : ∀ (G : gG) (H : Heap) (locs : List Loc) (ls : Array Slot), gHw (D, cy, s) τ G H locs → ST τ x y G → lv_has ls 7 [(0, .ref b), (1, .ref x), (2, .ref y), (3, .ref o), (4, .int i)] → W p l e room_1 s m #[Value.ref b] below meth c H locs (cells + 8) (slots + 48) Q (F0 m 2614 ls [])) : W p l e room_1 s m #[Value.ref b] below meth c H locs cells slots Q (F0 m 2125 ls []) := by
  obtain ⟨fx, ⟨hS, hN⟩, ⟨hX, hbl⟩, ⟨hx, hm, ho, hτ⟩, ey, eo, hn⟩ := F
  have h5 : 500 < n := Nat.lt_trans (Nat.le_of_ble_eq_true rfl) hn
  obtain ⟨s1, t1, l1, l2, ω, im, me, ta, fa, hC, hM, hI⟩ := hST
  refine lv_aload_n fx.1 fx.2.1 dL_law__2125 rfl (lv_at hl 1 rfl) ?_
  obtain ⟨v, h1, ⟨r, G2⟩, h2, e1, hST⟩ := op_skips ey h5 hC hM hI 
  have h2 : f_X11_skips τ n y G = some (r, G2) := h2
  have e1 : v = r := e1
  have hST : ST τ x y G2 := hST
  refine g_callV0 (κ := 10) (As := []) (rest := []) fx hw (c_X10_skips l (D, cy, s) τ n x G hx h1) lv_RL_237 ⟨rfl, rfl⟩ rfl rfl hx rfl hl.1 rfl ⟨Nat.le_of_ble_eq_true rfl, Nat.le_of_ble_eq_true rfl⟩ (Nat.le_of_ble_eq_true rfl) ⟨Nat.le_trans (Nat.le_add_right _ _) hf.1, Nat.le_trans (Nat.le_add_right _ _) hf.2⟩ dL_law__2126 (fun H locs hw => ?_)
  refine lv_aload_n fx.1 fx.2.1 dL_law__2129 rfl (lv_at hl 2 rfl) ?_
  refine g_callV0 (κ := 11) (As := []) (rest := [.int v]) fx hw (c_X11_skips l (D, cy, s) τ n y G hm h2) lv_RL_240 ⟨rfl, rfl⟩ rfl rfl hm rfl hl.1 rfl ⟨Nat.le_of_ble_eq_true rfl, Nat.le_of_ble_eq_true rfl⟩ (Nat.le_of_ble_eq_true rfl) ⟨Nat.le_trans (Nat.le_add_right _ _) hf.1, Nat.le_trans (Nat.le_add_right _ _) hf.2⟩ dL_law__2130 (fun H locs hw => ?_)
  refine lv_icmp_eq (tgt := 2614) fx.1 fx.2.1 dL_law__2133 (by decide) (fun _ => ?_) (fun h => absurd e1 h)
  refine W.widen (k := cells + 8) (n := slots + 48) (Nat.le_add_right _ _) (Nat.le_add_right _ _) ?_
  exact kk _ _ _ _ hw hST (lv_sub hl [0, 1, 2, 3, 4] rfl)
end
