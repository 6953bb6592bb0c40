section
variable {D : va_G} {cy : Nat → ClassId} {p : Program} {l : Launch} {e : Env} {s : State} {m : MethodId} {below : List Frame} {meth : Method} {c : Code} {b L : Nat} {xs : Nat → Int32} {τ : gτ} {n x y o : Nat} {G : gG} {H : Heap} {locs : List Loc} {ls : Array Slot} {cells slots : Nat} {Q : State → Prop} {i : Int32}
set_option maxHeartbeats 4000000 in
set_option maxRecDepth 100000 in
/-- the law's call 11: thrown -/
theorem lz_11 (F : lz_F D cy p l s m meth c b L xs τ n x y o) {a1 a2 a3 a4 a5 : Int32} (A1 : lz_A L xs i 1 a1) (A2 : lz_A L xs i 2 a2) (A3 : lz_A L xs i 3 a3) (A4 : lz_A L xs i 4 a4) (A5 : lz_A L xs i 5 a5) (hw : gHw (D, cy, s) τ G H locs) (hST : ST τ x y G) (hl : lv_has ls 7 [(0, .ref b), (1, .ref x), (2, .ref y), (3, .ref o), (4, .int i)]) (hf : cells + 8 ≤ room_1.cells ∧ slots + 48 ≤ room_1.slots) (kk : ∀ (G : gG) (H : Heap) (locs : List Loc) (ls : Array Slot), gHw (D, cy, s) τ G H locs → ST τ x y G → lv_has ls 7 [(0, .ref b), (1, .ref x), (2, .ref y), (3, .ref o), (4, .int i)] → W p l e room_1 s m #[Value.ref b] below meth c H locs (cells + 8) (slots + 48) Q (F0 m 2614 ls [])) : W p l e room_1 s m #[Value.ref b] below meth c H locs cells slots Q (F0 m 875 ls []) := by
  obtain ⟨fx, ⟨hS, hN⟩, ⟨hX, hbl⟩, ⟨hx, hm, ho, hτ⟩, ey, eo, hn⟩ := F
  have h5 : 500 < n := Nat.lt_trans (Nat.le_of_ble_eq_true rfl) hn
  obtain ⟨s1, t1, l1, l2, ω, im, me, ta, fa, hC, hM, hI⟩ := hST
  refine lv_aload_n fx.1 fx.2.1 dL_law__875 rfl (lv_at hl 1 rfl) ?_
  refine lz_rd (j := 1) fx hX hbl hw (lv_at hl 0 rfl) (lv_at hl 4 rfl) A1 dL_law__876 dL_law__877 dL_law__879 rfl dL_law__880 dL_law__881 ?_
  refine lv_aload_n fx.1 fx.2.1 dL_law__882 rfl (lv_at hl 3 rfl) ?_
  obtain ⟨⟨k, G1⟩, h1, ⟨r, G2⟩, h2, e1, e2, hST⟩ := op_whip ey eo hτ hn hC hM hI a1
  have h1 : f_L_whip τ n x a1 o G = some (k, G1) := h1
  have h2 : f_X11_whip τ n y a1 G1 = some (r, G2) := h2
  have e1 : k = gi G2 11 0 y := e1
  have e2 : k = 0 → gl G2 o 0 = (if r = 0 then (0 : Int64) else 1) := e2
  have hST : ST τ x y G2 := hST
  refine g_callSW (As := [.ref x, .int a1, .ref o]) (rest := []) fx hw (c_L_whip l (D, cy, s) τ n hS hN x a1 o G hx ho h1) lsw_whip rfl hl.1 rfl ⟨Nat.le_of_ble_eq_true rfl, Nat.le_of_ble_eq_true rfl⟩ (Nat.le_of_ble_eq_true rfl) ⟨Nat.le_trans (Nat.add_le_add_left (Nat.le_of_ble_eq_true rfl) _) hf.1, Nat.le_trans (Nat.add_le_add_left (Nat.le_of_ble_eq_true rfl) _) hf.2⟩ dL_law__883 (fun H locs hw => ?_)
  refine lv_istore (lv' := [(5, .int k), (0, .ref b), (1, .ref x), (2, .ref y), (3, .ref o), (4, .int i)]) fx.1 fx.2.1 dL_law__886 hl (by decide) rfl (fun ls hl => ?_)
  refine lv_aload_n fx.1 fx.2.1 dL_law__888 rfl (lv_at hl 3 rfl) ?_
  refine lz_rd (j := 1) fx hX hbl hw (lv_at hl 1 rfl) (lv_at hl 5 rfl) A1 dL_law__889 dL_law__890 dL_law__892 rfl dL_law__893 dL_law__894 ?_
  refine g_callV0 (κ := 11) (As := [.int a1]) (rest := []) fx hw (c_X11_whip l (D, cy, s) τ n y a1 G1 hm h2) lv_RL_169 ⟨rfl, rfl⟩ rfl rfl hm rfl hl.1 rfl ⟨Nat.le_of_ble_eq_true rfl, Nat.le_of_ble_eq_true rfl⟩ (Nat.le_of_ble_eq_true rfl) ⟨Nat.le_trans (Nat.add_le_add_left (Nat.le_of_ble_eq_true rfl) _) hf.1, Nat.le_trans (Nat.add_le_add_left (Nat.le_of_ble_eq_true rfl) _) hf.2⟩ dL_law__895 (fun H locs hw => ?_)
  refine lv_istore (lv' := [(6, .int r), (5, .int k), (0, .ref b), (1, .ref x), (2, .ref y), (3, .ref o), (4, .int i)]) fx.1 fx.2.1 dL_law__898 hl (by decide) rfl (fun ls hl => ?_)
  refine lv_aload_n fx.1 fx.2.1 dL_law__900 rfl (lv_at hl 4 rfl) ?_
  refine g_callV0 (κ := 11) (As := []) (rest := []) fx hw (c_X11_thrown l (D, cy, s) τ y G2 hm (r := gi G2 11 0 y) rfl) lv_RL_136 ⟨rfl, rfl⟩ rfl rfl hm rfl hl.1 rfl ⟨Nat.le_of_ble_eq_true rfl, Nat.le_of_ble_eq_true rfl⟩ (Nat.le_of_ble_eq_true rfl) ⟨Nat.le_trans (Nat.add_le_add_left (Nat.le_of_ble_eq_true rfl) _) hf.1, Nat.le_trans (Nat.add_le_add_left (Nat.le_of_ble_eq_true rfl) _) hf.2⟩ dL_law__901 (fun H locs hw => ?_)
  refine lv_iload fx.1 fx.2.1 dL_law__904 (lv_at hl 1 rfl) ?_
  refine lv_icmp_eq (tgt := 911) fx.1 fx.2.1 dL_law__906 (by decide) (fun _ => ?_) (fun h => absurd e1.symm h)
  refine lv_iload fx.1 fx.2.1 dL_law__911 (lv_at hl 1 rfl) ?_
  refine lv_if_ne (tgt := 935) fx.1 fx.2.1 dL_law__913 (by decide) (fun _ => ?_) (fun hk => ?_)
  · refine lv_goto (tgt := 2614) fx.1 fx.2.1 dL_law__935 (by decide) ?_
    refine W.widen (k := cells + 8) (n := slots + 48) (Nat.add_le_add_left (Nat.le_of_ble_eq_true rfl) _) (Nat.add_le_add_left (Nat.le_of_ble_eq_true rfl) _) ?_
    exact kk _ _ _ _ hw hST (lv_sub hl [2, 3, 4, 5, 6] rfl)
  · refine lv_aload_n fx.1 fx.2.1 dL_law__916 rfl (lv_at hl 5 rfl) ?_
    refine lv_iconst (v := 0) fx.1 fx.2.1 dL_law__917 rfl ?_
    refine lz_ld fx hw ho hτ dL_law__918 ?_
    refine lv_iload fx.1 fx.2.1 dL_law__919 (lv_at hl 0 rfl) ?_
    refine lz_bL fx dL_law__921 dL_law__924 dL_law__925 dL_law__928 ?_
    refine W.lcmp fx.1 fx.2.1 dL_law__929 ?_
    rw [lz_cmp (e2 hk)]
    refine lv_if_eq (tgt := 935) fx.1 fx.2.1 dL_law__930 (by decide) (fun _ => ?_) (fun h => absurd rfl h)
    refine lv_goto (tgt := 2614) fx.1 fx.2.1 dL_law__935 (by decide) ?_
    refine W.widen (k := cells + 8) (n := slots + 48) (Nat.add_le_add_left (Nat.le_of_ble_eq_true rfl) _) (Nat.add_le_add_left (Nat.le_of_ble_eq_true rfl) _) ?_
    exact kk _ _ _ _ hw hST (lv_sub hl [2, 3, 4, 5, 6] rfl)
set_option maxHeartbeats 4000000 in
set_option maxRecDepth 100000 in
/-- the law's call 12: thrown -/
theorem lz_12 (F : lz_F D cy p l s m meth c b L xs τ n x y o) {a1 a2 a3 a4 a5 : Int32} (A1 : lz_A L xs i 1 a1) (A2 : lz_A L xs i 2 a2) (A3 : lz_A L xs i 3 a3) (A4 : lz_A L xs i 4 a4) (A5 : lz_A L xs i 5 a5) (hw : gHw (D, cy, s) τ G H locs) (hST : ST τ x y G) (hl : lv_has ls 7 [(0, .ref b), (1, .ref x), (2, .ref y), (3, .ref o), (4, .int i)]) (hf : cells + 8 ≤ room_1.cells ∧ slots + 48 ≤ room_1.slots) (kk : ∀ (G : gG) (H : Heap) (locs : List Loc) (ls : Array Slot), gHw (D, cy, s) τ G H locs → ST τ x y G → lv_has ls 7 [(0, .ref b), (1, .ref x), (2, .ref y), (3, .ref o), (4, .int i)] → W p l e room_1 s m #[Value.ref b] below meth c H locs (cells + 8) (slots + 48) Q (F0 m 2614 ls [])) : W p l e room_1 s m #[Value.ref b] below meth c H locs cells slots Q (F0 m 938 ls []) := by
  obtain ⟨fx, ⟨hS, hN⟩, ⟨hX, hbl⟩, ⟨hx, hm, ho, hτ⟩, ey, eo, hn⟩ := F
  have h5 : 500 < n := Nat.lt_trans (Nat.le_of_ble_eq_true rfl) hn
  obtain ⟨s1, t1, l1, l2, ω, im, me, ta, fa, hC, hM, hI⟩ := hST
  refine lv_aload_n fx.1 fx.2.1 dL_law__938 rfl (lv_at hl 1 rfl) ?_
  refine lz_rd (j := 1) fx hX hbl hw (lv_at hl 0 rfl) (lv_at hl 4 rfl) A1 dL_law__939 dL_law__940 dL_law__942 rfl dL_law__943 dL_law__944 ?_
  refine lv_aload_n fx.1 fx.2.1 dL_law__945 rfl (lv_at hl 3 rfl) ?_
  obtain ⟨⟨k, G1⟩, h1, ⟨r, G2⟩, h2, e1, e2, hST⟩ := op_twice ey eo hτ hn hC hM hI a1
  have h1 : f_L_twice τ n x a1 o G = some (k, G1) := h1
  have h2 : f_X11_twice τ n y a1 G1 = some (r, G2) := h2
  have e1 : k = gi G2 11 0 y := e1
  have e2 : k = 0 → gl G2 o 0 = r.toInt64 := e2
  have hST : ST τ x y G2 := hST
  refine g_callSW (As := [.ref x, .int a1, .ref o]) (rest := []) fx hw (c_L_twice l (D, cy, s) τ n hS hN x a1 o G hx ho h1) lsw_twice rfl hl.1 rfl ⟨Nat.le_of_ble_eq_true rfl, Nat.le_of_ble_eq_true rfl⟩ (Nat.le_of_ble_eq_true rfl) ⟨Nat.le_trans (Nat.add_le_add_left (Nat.le_of_ble_eq_true rfl) _) hf.1, Nat.le_trans (Nat.add_le_add_left (Nat.le_of_ble_eq_true rfl) _) hf.2⟩ dL_law__946 (fun H locs hw => ?_)
  refine lv_istore (lv' := [(5, .int k), (0, .ref b), (1, .ref x), (2, .ref y), (3, .ref o), (4, .int i)]) fx.1 fx.2.1 dL_law__949 hl (by decide) rfl (fun ls hl => ?_)
  refine lv_aload_n fx.1 fx.2.1 dL_law__951 rfl (lv_at hl 3 rfl) ?_
  refine lz_rd (j := 1) fx hX hbl hw (lv_at hl 1 rfl) (lv_at hl 5 rfl) A1 dL_law__952 dL_law__953 dL_law__955 rfl dL_law__956 dL_law__957 ?_
  refine g_callV0 (κ := 11) (As := [.int a1]) (rest := []) fx hw (c_X11_twice l (D, cy, s) τ n y a1 G1 hm h2) lv_RL_172 ⟨rfl, rfl⟩ rfl rfl hm rfl hl.1 rfl ⟨Nat.le_of_ble_eq_true rfl, Nat.le_of_ble_eq_true rfl⟩ (Nat.le_of_ble_eq_true rfl) ⟨Nat.le_trans (Nat.add_le_add_left (Nat.le_of_ble_eq_true rfl) _) hf.1, Nat.le_trans (Nat.add_le_add_left (Nat.le_of_ble_eq_true rfl) _) hf.2⟩ dL_law__958 (fun H locs hw => ?_)
  refine lv_istore (lv' := [(6, .int r), (5, .int k), (0, .ref b), (1, .ref x), (2, .ref y), (3, .ref o), (4, .int i)]) fx.1 fx.2.1 dL_law__961 hl (by decide) rfl (fun ls hl => ?_)
  refine lv_aload_n fx.1 fx.2.1 dL_law__963 rfl (lv_at hl 4 rfl) ?_
  refine g_callV0 (κ := 11) (As := []) (rest := []) fx hw (c_X11_thrown l (D, cy, s) τ y G2 hm (r := gi G2 11 0 y) rfl) lv_RL_136 ⟨rfl, rfl⟩ rfl rfl hm rfl hl.1 rfl ⟨Nat.le_of_ble_eq_true rfl, Nat.le_of_ble_eq_true rfl⟩ (Nat.le_of_ble_eq_true rfl) ⟨Nat.le_trans (Nat.add_le_add_left (Nat.le_of_ble_eq_true rfl) _) hf.1, Nat.le_trans (Nat.add_le_add_left (Nat.le_of_ble_eq_true rfl) _) hf.2⟩ dL_law__964 (fun H locs hw => ?_)
  refine lv_iload fx.1 fx.2.1 dL_law__967 (lv_at hl 1 rfl) ?_
  refine lv_icmp_eq (tgt := 974) fx.1 fx.2.1 dL_law__969 (by decide) (fun _ => ?_) (fun h => absurd e1.symm h)
  refine lv_iload fx.1 fx.2.1 dL_law__974 (lv_at hl 1 rfl) ?_
  refine lv_if_ne (tgt := 991) fx.1 fx.2.1 dL_law__976 (by decide) (fun _ => ?_) (fun hk => ?_)
  · refine lv_goto (tgt := 2614) fx.1 fx.2.1 dL_law__991 (by decide) ?_
    refine W.widen (k := cells + 8) (n := slots + 48) (Nat.add_le_add_left (Nat.le_of_ble_eq_true rfl) _) (Nat.add_le_add_left (Nat.le_of_ble_eq_true rfl) _) ?_
    exact kk _ _ _ _ hw hST (lv_sub hl [2, 3, 4, 5, 6] rfl)
  · refine lv_aload_n fx.1 fx.2.1 dL_law__979 rfl (lv_at hl 5 rfl) ?_
    refine lv_iconst (v := 0) fx.1 fx.2.1 dL_law__980 rfl ?_
    refine lz_ld fx hw ho hτ dL_law__981 ?_
    refine lv_iload fx.1 fx.2.1 dL_law__982 (lv_at hl 0 rfl) ?_
    refine lv_i2l (v := r.toInt64) fx.1 fx.2.1 dL_law__984 rfl ?_
    refine W.lcmp fx.1 fx.2.1 dL_law__985 ?_
    rw [lz_cmp (e2 hk)]
    refine lv_if_eq (tgt := 991) fx.1 fx.2.1 dL_law__986 (by decide) (fun _ => ?_) (fun h => absurd rfl h)
    refine lv_goto (tgt := 2614) fx.1 fx.2.1 dL_law__991 (by decide) ?_
    refine W.widen (k := cells + 8) (n := slots + 48) (Nat.add_le_add_left (Nat.le_of_ble_eq_true rfl) _) (Nat.add_le_add_left (Nat.le_of_ble_eq_true rfl) _) ?_
    exact kk _ _ _ _ hw hST (lv_sub hl [2, 3, 4, 5, 6] rfl)
set_option maxHeartbeats 4000000 in
set_option maxRecDepth 100000 in
/-- the law's call 13: thrown -/
theorem lz_13 (F : lz_F D cy p l s m meth c b L xs τ n x y o) {a1 a2 a3 a4 a5 : Int32} (A1 : lz_A L xs i 1 a1) (A2 : lz_A L xs i 2 a2) (A3 : lz_A L xs i 3 a3) (A4 : lz_A L xs i 4 a4) (A5 : lz_A L xs i 5 a5) (hw : gHw (D, cy, s) τ G H locs) (hST : ST τ x y G) (hl : lv_has ls 7 [(0, .ref b), (1, .ref x), (2, .ref y), (3, .ref o), (4, .int i)]) (hf : cells + 8 ≤ room_1.cells ∧ slots + 48 ≤ room_1.slots) (kk : ∀ (G : gG) (H : Heap) (locs : List Loc) (ls : Array Slot), gHw (D, cy, s) τ G H locs → ST τ x y G → lv_has ls 7 [(0, .ref b), (1, .ref x), (2, .ref y), (3, .ref o), (4, .int i)] → W p l e room_1 s m #[Value.ref b] below meth c H locs (cells + 8) (slots + 48) Q (F0 m 2614 ls [])) : W p l e room_1 s m #[Value.ref b] below meth c H locs cells slots Q (F0 m 994 ls []) := by
  obtain ⟨fx, ⟨hS, hN⟩, ⟨hX, hbl⟩, ⟨hx, hm, ho, hτ⟩, ey, eo, hn⟩ := F
  have h5 : 500 < n := Nat.lt_trans (Nat.le_of_ble_eq_true rfl) hn
  obtain ⟨s1, t1, l1, l2, ω, im, me, ta, fa, hC, hM, hI⟩ := hST
  refine lv_aload_n fx.1 fx.2.1 dL_law__994 rfl (lv_at hl 1 rfl) ?_
  refine lz_rd (j := 1) fx hX hbl hw (lv_at hl 0 rfl) (lv_at hl 4 rfl) A1 dL_law__995 dL_law__996 dL_law__998 rfl dL_law__999 dL_law__1000 ?_
  refine lz_rd (j := 2) fx hX hbl hw (lv_at hl 0 rfl) (lv_at hl 4 rfl) A2 dL_law__1001 dL_law__1002 dL_law__1004 rfl dL_law__1005 dL_law__1006 ?_
  refine lv_aload_n fx.1 fx.2.1 dL_law__1007 rfl (lv_at hl 3 rfl) ?_
  obtain ⟨⟨k, G1⟩, h1, ⟨r, G2⟩, h2, e1, e2, hST⟩ := op_cut ey eo hτ hn hC hM hI a1 a2
  have h1 : f_L_cut τ n x a1 a2 o G = some (k, G1) := h1
  have h2 : f_X11_cut τ n y a1 a2 G1 = some (r, G2) := h2
  have e1 : k = gi G2 11 0 y := e1
  have e2 : k = 0 → gl G2 o 0 = r.toInt64 := e2
  have hST : ST τ x y G2 := hST
  refine g_callSW (As := [.ref x, .int a1, .int a2, .ref o]) (rest := []) fx hw (c_L_cut l (D, cy, s) τ n hS hN x a1 a2 o G hx ho h1) lsw_cut rfl hl.1 rfl ⟨Nat.le_of_ble_eq_true rfl, Nat.le_of_ble_eq_true rfl⟩ (Nat.le_of_ble_eq_true rfl) ⟨Nat.le_trans (Nat.add_le_add_left (Nat.le_of_ble_eq_true rfl) _) hf.1, Nat.le_trans (Nat.add_le_add_left (Nat.le_of_ble_eq_true rfl) _) hf.2⟩ dL_law__1008 (fun H locs hw => ?_)
  refine lv_istore (lv' := [(5, .int k), (0, .ref b), (1, .ref x), (2, .ref y), (3, .ref o), (4, .int i)]) fx.1 fx.2.1 dL_law__1011 hl (by decide) rfl (fun ls hl => ?_)
  refine lv_aload_n fx.1 fx.2.1 dL_law__1013 rfl (lv_at hl 3 rfl) ?_
  refine lz_rd (j := 1) fx hX hbl hw (lv_at hl 1 rfl) (lv_at hl 5 rfl) A1 dL_law__1014 dL_law__1015 dL_law__1017 rfl dL_law__1018 dL_law__1019 ?_
  refine lz_rd (j := 2) fx hX hbl hw (lv_at hl 1 rfl) (lv_at hl 5 rfl) A2 dL_law__1020 dL_law__1021 dL_law__1023 rfl dL_law__1024 dL_law__1025 ?_
  refine g_callV0 (κ := 11) (As := [.int a1, .int a2]) (rest := []) fx hw (c_X11_cut l (D, cy, s) τ n y a1 a2 G1 hm h2) lv_RL_175 ⟨rfl, rfl⟩ rfl rfl hm rfl hl.1 rfl ⟨Nat.le_of_ble_eq_true rfl, Nat.le_of_ble_eq_true rfl⟩ (Nat.le_of_ble_eq_true rfl) ⟨Nat.le_trans (Nat.add_le_add_left (Nat.le_of_ble_eq_true rfl) _) hf.1, Nat.le_trans (Nat.add_le_add_left (Nat.le_of_ble_eq_true rfl) _) hf.2⟩ dL_law__1026 (fun H locs hw => ?_)
  refine lv_istore (lv' := [(6, .int r), (5, .int k), (0, .ref b), (1, .ref x), (2, .ref y), (3, .ref o), (4, .int i)]) fx.1 fx.2.1 dL_law__1029 hl (by decide) rfl (fun ls hl => ?_)
  refine lv_aload_n fx.1 fx.2.1 dL_law__1031 rfl (lv_at hl 4 rfl) ?_
  refine g_callV0 (κ := 11) (As := []) (rest := []) fx hw (c_X11_thrown l (D, cy, s) τ y G2 hm (r := gi G2 11 0 y) rfl) lv_RL_136 ⟨rfl, rfl⟩ rfl rfl hm rfl hl.1 rfl ⟨Nat.le_of_ble_eq_true rfl, Nat.le_of_ble_eq_true rfl⟩ (Nat.le_of_ble_eq_true rfl) ⟨Nat.le_trans (Nat.add_le_add_left (Nat.le_of_ble_eq_true rfl) _) hf.1, Nat.le_trans (Nat.add_le_add_left (Nat.le_of_ble_eq_true rfl) _) hf.2⟩ dL_law__1032 (fun H locs hw => ?_)
  refine lv_iload fx.1 fx.2.1 dL_law__1035 (lv_at hl 1 rfl) ?_
  refine lv_icmp_eq (tgt := 1042) fx.1 fx.2.1 dL_law__1037 (by decide) (fun _ => ?_) (fun h => absurd e1.symm h)
  refine lv_iload fx.1 fx.2.1 dL_law__1042 (lv_at hl 1 rfl) ?_
  refine lv_if_ne (tgt := 1059) fx.1 fx.2.1 dL_law__1044 (by decide) (fun _ => ?_) (fun hk => ?_)
  · refine lv_goto (tgt := 2614) fx.1 fx.2.1 dL_law__1059 (by decide) ?_
    refine W.widen (k := cells + 8) (n := slots + 48) (Nat.add_le_add_left (Nat.le_of_ble_eq_true rfl) _) (Nat.add_le_add_left (Nat.le_of_ble_eq_true rfl) _) ?_
    exact kk _ _ _ _ hw hST (lv_sub hl [2, 3, 4, 5, 6] rfl)
  · refine lv_aload_n fx.1 fx.2.1 dL_law__1047 rfl (lv_at hl 5 rfl) ?_
    refine lv_iconst (v := 0) fx.1 fx.2.1 dL_law__1048 rfl ?_
    refine lz_ld fx hw ho hτ dL_law__1049 ?_
    refine lv_iload fx.1 fx.2.1 dL_law__1050 (lv_at hl 0 rfl) ?_
    refine lv_i2l (v := r.toInt64) fx.1 fx.2.1 dL_law__1052 rfl ?_
    refine W.lcmp fx.1 fx.2.1 dL_law__1053 ?_
    rw [lz_cmp (e2 hk)]
    refine lv_if_eq (tgt := 1059) fx.1 fx.2.1 dL_law__1054 (by decide) (fun _ => ?_) (fun h => absurd rfl h)
    refine lv_goto (tgt := 2614) fx.1 fx.2.1 dL_law__1059 (by decide) ?_
    refine W.widen (k := cells + 8) (n := slots + 48) (Nat.add_le_add_left (Nat.le_of_ble_eq_true rfl) _) (Nat.add_le_add_left (Nat.le_of_ble_eq_true rfl) _) ?_
    exact kk _ _ _ _ hw hST (lv_sub hl [2, 3, 4, 5, 6] rfl)
set_option maxHeartbeats 4000000 in
set_option maxRecDepth 100000 in
/-- the law's call 14: thrown -/
theorem lz_14 (F : lz_F D cy p l s m meth c b L xs τ n x y o) {a1 a2 a3 a4 a5 : Int32} (A1 : lz_A L xs i 1 a1) (A2 : lz_A L xs i 2 a2) (A3 : lz_A L xs i 3 a3) (A4 : lz_A L xs i 4 a4) (A5 : lz_A L xs i 5 a5) (hw : gHw (D, cy, s) τ G H locs) (hST : ST τ x y G) (hl : lv_has ls 7 [(0, .ref b), (1, .ref x), (2, .ref y), (3, .ref o), (4, .int i)]) (hf : cells + 8 ≤ room_1.cells ∧ slots + 48 ≤ room_1.slots) (kk : ∀ (G : gG) (H : Heap) (locs : List Loc) (ls : Array Slot), gHw (D, cy, s) τ G H locs → ST τ x y G → lv_has ls 7 [(0, .ref b), (1, .ref x), (2, .ref y), (3, .ref o), (4, .int i)] → W p l e room_1 s m #[Value.ref b] below meth c H locs (cells + 8) (slots + 48) Q (F0 m 2614 ls [])) : W p l e room_1 s m #[Value.ref b] below meth c H locs cells slots Q (F0 m 1062 ls []) := by
  obtain ⟨fx, ⟨hS, hN⟩, ⟨hX, hbl⟩, ⟨hx, hm, ho, hτ⟩, ey, eo, hn⟩ := F
  have h5 : 500 < n := Nat.lt_trans (Nat.le_of_ble_eq_true rfl) hn
  obtain ⟨s1, t1, l1, l2, ω, im, me, ta, fa, hC, hM, hI⟩ := hST
  refine lv_aload_n fx.1 fx.2.1 dL_law__1062 rfl (lv_at hl 1 rfl) ?_
  refine lz_rd (j := 1) fx hX hbl hw (lv_at hl 0 rfl) (lv_at hl 4 rfl) A1 dL_law__1063 dL_law__1064 dL_law__1066 rfl dL_law__1067 dL_law__1068 ?_
  refine lz_rd (j := 2) fx hX hbl hw (lv_at hl 0 rfl) (lv_at hl 4 rfl) A2 dL_law__1069 dL_law__1070 dL_law__1072 rfl dL_law__1073 dL_law__1074 ?_
  refine lv_aload_n fx.1 fx.2.1 dL_law__1075 rfl (lv_at hl 3 rfl) ?_
  obtain ⟨⟨k, G1⟩, h1, ⟨r, G2⟩, h2, e1, e2, hST⟩ := op_hang ey eo hτ hn hC hM hI a1 a2
  have h1 : f_L_hang τ n x a1 a2 o G = some (k, G1) := h1
  have h2 : f_X11_hang τ n y a1 a2 G1 = some (r, G2) := h2
  have e1 : k = gi G2 11 0 y := e1
  have e2 : k = 0 → gl G2 o 0 = r.toInt64 := e2
  have hST : ST τ x y G2 := hST
  refine g_callSW (As := [.ref x, .int a1, .int a2, .ref o]) (rest := []) fx hw (c_L_hang l (D, cy, s) τ n hS hN x a1 a2 o G hx ho h1) lsw_hang rfl hl.1 rfl ⟨Nat.le_of_ble_eq_true rfl, Nat.le_of_ble_eq_true rfl⟩ (Nat.le_of_ble_eq_true rfl) ⟨Nat.le_trans (Nat.add_le_add_left (Nat.le_of_ble_eq_true rfl) _) hf.1, Nat.le_trans (Nat.add_le_add_left (Nat.le_of_ble_eq_true rfl) _) hf.2⟩ dL_law__1076 (fun H locs hw => ?_)
  refine lv_istore (lv' := [(5, .int k), (0, .ref b), (1, .ref x), (2, .ref y), (3, .ref o), (4, .int i)]) fx.1 fx.2.1 dL_law__1079 hl (by decide) rfl (fun ls hl => ?_)
  refine lv_aload_n fx.1 fx.2.1 dL_law__1081 rfl (lv_at hl 3 rfl) ?_
  refine lz_rd (j := 1) fx hX hbl hw (lv_at hl 1 rfl) (lv_at hl 5 rfl) A1 dL_law__1082 dL_law__1083 dL_law__1085 rfl dL_law__1086 dL_law__1087 ?_
  refine lz_rd (j := 2) fx hX hbl hw (lv_at hl 1 rfl) (lv_at hl 5 rfl) A2 dL_law__1088 dL_law__1089 dL_law__1091 rfl dL_law__1092 dL_law__1093 ?_
  refine g_callV0 (κ := 11) (As := [.int a1, .int a2]) (rest := []) fx hw (c_X11_hang l (D, cy, s) τ n y a1 a2 G1 hm h2) lv_RL_178 ⟨rfl, rfl⟩ rfl rfl hm rfl hl.1 rfl ⟨Nat.le_of_ble_eq_true rfl, Nat.le_of_ble_eq_true rfl⟩ (Nat.le_of_ble_eq_true rfl) ⟨Nat.le_trans (Nat.add_le_add_left (Nat.le_of_ble_eq_true rfl) _) hf.1, Nat.le_trans (Nat.add_le_add_left (Nat.le_of_ble_eq_true rfl) _) hf.2⟩ dL_law__1094 (fun H locs hw => ?_)
  refine lv_istore (lv' := [(6, .int r), (5, .int k), (0, .ref b), (1, .ref x), (2, .ref y), (3, .ref o), (4, .int i)]) fx.1 fx.2.1 dL_law__1097 hl (by decide) rfl (fun ls hl => ?_)
  refine lv_aload_n fx.1 fx.2.1 dL_law__1099 rfl (lv_at hl 4 rfl) ?_
  refine g_callV0 (κ := 11) (As := []) (rest := []) fx hw (c_X11_thrown l (D, cy, s) τ y G2 hm (r := gi G2 11 0 y) rfl) lv_RL_136 ⟨rfl, rfl⟩ rfl rfl hm rfl hl.1 rfl ⟨Nat.le_of_ble_eq_true rfl, Nat.le_of_ble_eq_true rfl⟩ (Nat.le_of_ble_eq_true rfl) ⟨Nat.le_trans (Nat.add_le_add_left (Nat.le_of_ble_eq_true rfl) _) hf.1, Nat.le_trans (Nat.add_le_add_left (Nat.le_of_ble_eq_true rfl) _) hf.2⟩ dL_law__1100 (fun H locs hw => ?_)
  refine lv_iload fx.1 fx.2.1 dL_law__1103 (lv_at hl 1 rfl) ?_
  refine lv_icmp_eq (tgt := 1110) fx.1 fx.2.1 dL_law__1105 (by decide) (fun _ => ?_) (fun h => absurd e1.symm h)
  refine lv_iload fx.1 fx.2.1 dL_law__1110 (lv_at hl 1 rfl) ?_
  refine lv_if_ne (tgt := 1127) fx.1 fx.2.1 dL_law__1112 (by decide) (fun _ => ?_) (fun hk => ?_)
  · refine lv_goto (tgt := 2614) fx.1 fx.2.1 dL_law__1127 (by decide) ?_
    refine W.widen (k := cells + 8) (n := slots + 48) (Nat.add_le_add_left (Nat.le_of_ble_eq_true rfl) _) (Nat.add_le_add_left (Nat.le_of_ble_eq_true rfl) _) ?_
    exact kk _ _ _ _ hw hST (lv_sub hl [2, 3, 4, 5, 6] rfl)
  · refine lv_aload_n fx.1 fx.2.1 dL_law__1115 rfl (lv_at hl 5 rfl) ?_
    refine lv_iconst (v := 0) fx.1 fx.2.1 dL_law__1116 rfl ?_
    refine lz_ld fx hw ho hτ dL_law__1117 ?_
    refine lv_iload fx.1 fx.2.1 dL_law__1118 (lv_at hl 0 rfl) ?_
    refine lv_i2l (v := r.toInt64) fx.1 fx.2.1 dL_law__1120 rfl ?_
    refine W.lcmp fx.1 fx.2.1 dL_law__1121 ?_
    rw [lz_cmp (e2 hk)]
    refine lv_if_eq (tgt := 1127) fx.1 fx.2.1 dL_law__1122 (by decide) (fun _ => ?_) (fun h => absurd rfl h)
    refine lv_goto (tgt := 2614) fx.1 fx.2.1 dL_law__1127 (by decide) ?_
    refine W.widen (k := cells + 8) (n := slots + 48) (Nat.add_le_add_left (Nat.le_of_ble_eq_true rfl) _) (Nat.add_le_add_left (Nat.le_of_ble_eq_true rfl) _) ?_
    exact kk _ _ _ _ hw hST (lv_sub hl [2, 3, 4, 5, 6] rfl)
set_option maxHeartbeats 4000000 in
set_option maxRecDepth 100000 in
/-- the law's call 15: thrown -/
theorem lz_15 (F : lz_F D cy p l s m meth c b L xs τ n x y o) {a1 a2 a3 a4 a5 : Int32} (A1 : lz_A L xs i 1 a1) (A2 : lz_A L xs i 2 a2) (A3 : lz_A L xs i 3 a3) (A4 : lz_A L xs i 4 a4) (A5 : lz_A L xs i 5 a5) (hw : gHw (D, cy, s) τ G H locs) (hST : ST τ x y G) (hl : lv_has ls 7 [(0, .ref b), (1, .ref x), (2, .ref y), (3, .ref o), (4, .int i)]) (hf : cells + 8 ≤ room_1.cells ∧ slots + 48 ≤ room_1.slots) (kk : ∀ (G : gG) (H : Heap) (locs : List Loc) (ls : Array Slot), gHw (D, cy, s) τ G H locs → ST τ x y G → lv_has ls 7 [(0, .ref b), (1, .ref x), (2, .ref y), (3, .ref o), (4, .int i)] → W p l e room_1 s m #[Value.ref b] below meth c H locs (cells + 8) (slots + 48) Q (F0 m 2614 ls [])) : W p l e room_1 s m #[Value.ref b] below meth c H locs cells slots Q (F0 m 1130 ls []) := by
  obtain ⟨fx, ⟨hS, hN⟩, ⟨hX, hbl⟩, ⟨hx, hm, ho, hτ⟩, ey, eo, hn⟩ := F
  have h5 : 500 < n := Nat.lt_trans (Nat.le_of_ble_eq_true rfl) hn
  obtain ⟨s1, t1, l1, l2, ω, im, me, ta, fa, hC, hM, hI⟩ := hST
  refine lv_aload_n fx.1 fx.2.1 dL_law__1130 rfl (lv_at hl 1 rfl) ?_
  refine lz_rd (j := 1) fx hX hbl hw (lv_at hl 0 rfl) (lv_at hl 4 rfl) A1 dL_law__1131 dL_law__1132 dL_law__1134 rfl dL_law__1135 dL_law__1136 ?_
  refine lz_rd (j := 2) fx hX hbl hw (lv_at hl 0 rfl) (lv_at hl 4 rfl) A2 dL_law__1137 dL_law__1138 dL_law__1140 rfl dL_law__1141 dL_law__1142 ?_
  refine lv_aload_n fx.1 fx.2.1 dL_law__1143 rfl (lv_at hl 3 rfl) ?_
  obtain ⟨⟨k, G1⟩, h1, ⟨r, G2⟩, h2, e1, e2, hST⟩ := op_meet ey eo hτ hn hC hM hI a1 a2
  have h1 : f_L_meet τ n x a1 a2 o G = some (k, G1) := h1
  have h2 : f_X11_meet τ n y a1 a2 G1 = some (r, G2) := h2
  have e1 : k = gi G2 11 0 y := e1
  have e2 : k = 0 → gl G2 o 0 = r.toInt64 := e2
  have hST : ST τ x y G2 := hST
  refine g_callSW (As := [.ref x, .int a1, .int a2, .ref o]) (rest := []) fx hw (c_L_meet l (D, cy, s) τ n hS hN x a1 a2 o G hx ho h1) lsw_meet rfl hl.1 rfl ⟨Nat.le_of_ble_eq_true rfl, Nat.le_of_ble_eq_true rfl⟩ (Nat.le_of_ble_eq_true rfl) ⟨Nat.le_trans (Nat.add_le_add_left (Nat.le_of_ble_eq_true rfl) _) hf.1, Nat.le_trans (Nat.add_le_add_left (Nat.le_of_ble_eq_true rfl) _) hf.2⟩ dL_law__1144 (fun H locs hw => ?_)
  refine lv_istore (lv' := [(5, .int k), (0, .ref b), (1, .ref x), (2, .ref y), (3, .ref o), (4, .int i)]) fx.1 fx.2.1 dL_law__1147 hl (by decide) rfl (fun ls hl => ?_)
  refine lv_aload_n fx.1 fx.2.1 dL_law__1149 rfl (lv_at hl 3 rfl) ?_
  refine lz_rd (j := 1) fx hX hbl hw (lv_at hl 1 rfl) (lv_at hl 5 rfl) A1 dL_law__1150 dL_law__1151 dL_law__1153 rfl dL_law__1154 dL_law__1155 ?_
  refine lz_rd (j := 2) fx hX hbl hw (lv_at hl 1 rfl) (lv_at hl 5 rfl) A2 dL_law__1156 dL_law__1157 dL_law__1159 rfl dL_law__1160 dL_law__1161 ?_
  refine g_callV0 (κ := 11) (As := [.int a1, .int a2]) (rest := []) fx hw (c_X11_meet l (D, cy, s) τ n y a1 a2 G1 hm h2) lv_RL_181 ⟨rfl, rfl⟩ rfl rfl hm rfl hl.1 rfl ⟨Nat.le_of_ble_eq_true rfl, Nat.le_of_ble_eq_true rfl⟩ (Nat.le_of_ble_eq_true rfl) ⟨Nat.le_trans (Nat.add_le_add_left (Nat.le_of_ble_eq_true rfl) _) hf.1, Nat.le_trans (Nat.add_le_add_left (Nat.le_of_ble_eq_true rfl) _) hf.2⟩ dL_law__1162 (fun H locs hw => ?_)
  refine lv_istore (lv' := [(6, .int r), (5, .int k), (0, .ref b), (1, .ref x), (2, .ref y), (3, .ref o), (4, .int i)]) fx.1 fx.2.1 dL_law__1165 hl (by decide) rfl (fun ls hl => ?_)
  refine lv_aload_n fx.1 fx.2.1 dL_law__1167 rfl (lv_at hl 4 rfl) ?_
  refine g_callV0 (κ := 11) (As := []) (rest := []) fx hw (c_X11_thrown l (D, cy, s) τ y G2 hm (r := gi G2 11 0 y) rfl) lv_RL_136 ⟨rfl, rfl⟩ rfl rfl hm rfl hl.1 rfl ⟨Nat.le_of_ble_eq_true rfl, Nat.le_of_ble_eq_true rfl⟩ (Nat.le_of_ble_eq_true rfl) ⟨Nat.le_trans (Nat.add_le_add_left (Nat.le_of_ble_eq_true rfl) _) hf.1, Nat.le_trans (Nat.add_le_add_left (Nat.le_of_ble_eq_true rfl) _) hf.2⟩ dL_law__1168 (fun H locs hw => ?_)
  refine lv_iload fx.1 fx.2.1 dL_law__1171 (lv_at hl 1 rfl) ?_
  refine lv_icmp_eq (tgt := 1178) fx.1 fx.2.1 dL_law__1173 (by decide) (fun _ => ?_) (fun h => absurd e1.symm h)
  refine lv_iload fx.1 fx.2.1 dL_law__1178 (lv_at hl 1 rfl) ?_
  refine lv_if_ne (tgt := 1195) fx.1 fx.2.1 dL_law__1180 (by decide) (fun _ => ?_) (fun hk => ?_)
  · refine lv_goto (tgt := 2614) fx.1 fx.2.1 dL_law__1195 (by decide) ?_
    refine W.widen (k := cells + 8) (n := slots + 48) (Nat.add_le_add_left (Nat.le_of_ble_eq_true rfl) _) (Nat.add_le_add_left (Nat.le_of_ble_eq_true rfl) _) ?_
    exact kk _ _ _ _ hw hST (lv_sub hl [2, 3, 4, 5, 6] rfl)
  · refine lv_aload_n fx.1 fx.2.1 dL_law__1183 rfl (lv_at hl 5 rfl) ?_
    refine lv_iconst (v := 0) fx.1 fx.2.1 dL_law__1184 rfl ?_
    refine lz_ld fx hw ho hτ dL_law__1185 ?_
    refine lv_iload fx.1 fx.2.1 dL_law__1186 (lv_at hl 0 rfl) ?_
    refine lv_i2l (v := r.toInt64) fx.1 fx.2.1 dL_law__1188 rfl ?_
    refine W.lcmp fx.1 fx.2.1 dL_law__1189 ?_
    rw [lz_cmp (e2 hk)]
    refine lv_if_eq (tgt := 1195) fx.1 fx.2.1 dL_law__1190 (by decide) (fun _ => ?_) (fun h => absurd rfl h)
    refine lv_goto (tgt := 2614) fx.1 fx.2.1 dL_law__1195 (by decide) ?_
    refine W.widen (k := cells + 8) (n := slots + 48) (Nat.add_le_add_left (Nat.le_of_ble_eq_true rfl) _) (Nat.add_le_add_left (Nat.le_of_ble_eq_true rfl) _) ?_
    exact kk _ _ _ _ hw hST (lv_sub hl [2, 3, 4, 5, 6] rfl)
set_option maxHeartbeats 4000000 in
set_option maxRecDepth 100000 in
/-- the law's call 16: thrown -/
theorem lz_16 (F : lz_F D cy p l s m meth c b L xs τ n x y o) {a1 a2 a3 a4 a5 : Int32} (A1 : lz_A L xs i 1 a1) (A2 : lz_A L xs i 2 a2) (A3 : lz_A L xs i 3 a3) (A4 : lz_A L xs i 4 a4) (A5 : lz_A L xs i 5 a5) (hw : gHw (D, cy, s) τ G H locs) (hST : ST τ x y G) (hl : lv_has ls 7 [(0, .ref b), (1, .ref x), (2, .ref y), (3, .ref o), (4, .int i)]) (hf : cells + 8 ≤ room_1.cells ∧ slots + 48 ≤ room_1.slots) (kk : ∀ (G : gG) (H : Heap) (locs : List Loc) (ls : Array Slot), gHw (D, cy, s) τ G H locs → ST τ x y G → lv_has ls 7 [(0, .ref b), (1, .ref x), (2, .ref y), (3, .ref o), (4, .int i)] → W p l e room_1 s m #[Value.ref b] below meth c H locs (cells + 8) (slots + 48) Q (F0 m 2614 ls [])) : W p l e room_1 s m #[Value.ref b] below meth c H locs cells slots Q (F0 m 1198 ls []) := by
  obtain ⟨fx, ⟨hS, hN⟩, ⟨hX, hbl⟩, ⟨hx, hm, ho, hτ⟩, ey, eo, hn⟩ := F
  have h5 : 500 < n := Nat.lt_trans (Nat.le_of_ble_eq_true rfl) hn
  obtain ⟨s1, t1, l1, l2, ω, im, me, ta, fa, hC, hM, hI⟩ := hST
  refine lv_aload_n fx.1 fx.2.1 dL_law__1198 rfl (lv_at hl 1 rfl) ?_
  refine lz_rd (j := 1) fx hX hbl hw (lv_at hl 0 rfl) (lv_at hl 4 rfl) A1 dL_law__1199 dL_law__1200 dL_law__1202 rfl dL_law__1203 dL_law__1204 ?_
  refine lv_aload_n fx.1 fx.2.1 dL_law__1205 rfl (lv_at hl 3 rfl) ?_
  obtain ⟨⟨k, G1⟩, h1, ⟨r, G2⟩, h2, e1, e2, hST⟩ := op_pick ey eo hτ hn hC hM hI a1
  have h1 : f_L_pick τ n x a1 o G = some (k, G1) := h1
  have h2 : f_X11_pick τ n y a1 G1 = some (r, G2) := h2
  have e1 : k = gi G2 11 0 y := e1
  have e2 : k = 0 → gl G2 o 0 = r.toInt64 := e2
  have hST : ST τ x y G2 := hST
  refine g_callSW (As := [.ref x, .int a1, .ref o]) (rest := []) fx hw (c_L_pick l (D, cy, s) τ n hS hN x a1 o G hx ho h1) lsw_pick rfl hl.1 rfl ⟨Nat.le_of_ble_eq_true rfl, Nat.le_of_ble_eq_true rfl⟩ (Nat.le_of_ble_eq_true rfl) ⟨Nat.le_trans (Nat.add_le_add_left (Nat.le_of_ble_eq_true rfl) _) hf.1, Nat.le_trans (Nat.add_le_add_left (Nat.le_of_ble_eq_true rfl) _) hf.2⟩ dL_law__1206 (fun H locs hw => ?_)
  refine lv_istore (lv' := [(5, .int k), (0, .ref b), (1, .ref x), (2, .ref y), (3, .ref o), (4, .int i)]) fx.1 fx.2.1 dL_law__1209 hl (by decide) rfl (fun ls hl => ?_)
  refine lv_aload_n fx.1 fx.2.1 dL_law__1211 rfl (lv_at hl 3 rfl) ?_
  refine lz_rd (j := 1) fx hX hbl hw (lv_at hl 1 rfl) (lv_at hl 5 rfl) A1 dL_law__1212 dL_law__1213 dL_law__1215 rfl dL_law__1216 dL_law__1217 ?_
  refine g_callV0 (κ := 11) (As := [.int a1]) (rest := []) fx hw (c_X11_pick l (D, cy, s) τ n y a1 G1 hm h2) lv_RL_184 ⟨rfl, rfl⟩ rfl rfl hm rfl hl.1 rfl ⟨Nat.le_of_ble_eq_true rfl, Nat.le_of_ble_eq_true rfl⟩ (Nat.le_of_ble_eq_true rfl) ⟨Nat.le_trans (Nat.add_le_add_left (Nat.le_of_ble_eq_true rfl) _) hf.1, Nat.le_trans (Nat.add_le_add_left (Nat.le_of_ble_eq_true rfl) _) hf.2⟩ dL_law__1218 (fun H locs hw => ?_)
  refine lv_istore (lv' := [(6, .int r), (5, .int k), (0, .ref b), (1, .ref x), (2, .ref y), (3, .ref o), (4, .int i)]) fx.1 fx.2.1 dL_law__1221 hl (by decide) rfl (fun ls hl => ?_)
  refine lv_aload_n fx.1 fx.2.1 dL_law__1223 rfl (lv_at hl 4 rfl) ?_
  refine g_callV0 (κ := 11) (As := []) (rest := []) fx hw (c_X11_thrown l (D, cy, s) τ y G2 hm (r := gi G2 11 0 y) rfl) lv_RL_136 ⟨rfl, rfl⟩ rfl rfl hm rfl hl.1 rfl ⟨Nat.le_of_ble_eq_true rfl, Nat.le_of_ble_eq_true rfl⟩ (Nat.le_of_ble_eq_true rfl) ⟨Nat.le_trans (Nat.add_le_add_left (Nat.le_of_ble_eq_true rfl) _) hf.1, Nat.le_trans (Nat.add_le_add_left (Nat.le_of_ble_eq_true rfl) _) hf.2⟩ dL_law__1224 (fun H locs hw => ?_)
  refine lv_iload fx.1 fx.2.1 dL_law__1227 (lv_at hl 1 rfl) ?_
  refine lv_icmp_eq (tgt := 1234) fx.1 fx.2.1 dL_law__1229 (by decide) (fun _ => ?_) (fun h => absurd e1.symm h)
  refine lv_iload fx.1 fx.2.1 dL_law__1234 (lv_at hl 1 rfl) ?_
  refine lv_if_ne (tgt := 1251) fx.1 fx.2.1 dL_law__1236 (by decide) (fun _ => ?_) (fun hk => ?_)
  · refine lv_goto (tgt := 2614) fx.1 fx.2.1 dL_law__1251 (by decide) ?_
    refine W.widen (k := cells + 8) (n := slots + 48) (Nat.add_le_add_left (Nat.le_of_ble_eq_true rfl) _) (Nat.add_le_add_left (Nat.le_of_ble_eq_true rfl) _) ?_
    exact kk _ _ _ _ hw hST (lv_sub hl [2, 3, 4, 5, 6] rfl)
  · refine lv_aload_n fx.1 fx.2.1 dL_law__1239 rfl (lv_at hl 5 rfl) ?_
    refine lv_iconst (v := 0) fx.1 fx.2.1 dL_law__1240 rfl ?_
    refine lz_ld fx hw ho hτ dL_law__1241 ?_
    refine lv_iload fx.1 fx.2.1 dL_law__1242 (lv_at hl 0 rfl) ?_
    refine lv_i2l (v := r.toInt64) fx.1 fx.2.1 dL_law__1244 rfl ?_
    refine W.lcmp fx.1 fx.2.1 dL_law__1245 ?_
    rw [lz_cmp (e2 hk)]
    refine lv_if_eq (tgt := 1251) fx.1 fx.2.1 dL_law__1246 (by decide) (fun _ => ?_) (fun h => absurd rfl h)
    refine lv_goto (tgt := 2614) fx.1 fx.2.1 dL_law__1251 (by decide) ?_
    refine W.widen (k := cells + 8) (n := slots + 48) (Nat.add_le_add_left (Nat.le_of_ble_eq_true rfl) _) (Nat.add_le_add_left (Nat.le_of_ble_eq_true rfl) _) ?_
    exact kk _ _ _ _ hw hST (lv_sub hl [2, 3, 4, 5, 6] rfl)
set_option maxHeartbeats 4000000 in
set_option maxRecDepth 100000 in
/-- the law's call 17: thrown -/
theorem lz_17 (F : lz_F D cy p l s m meth c b L xs τ n x y o) {a1 a2 a3 a4 a5 : Int32} (A1 : lz_A L xs i 1 a1) (A2 : lz_A L xs i 2 a2) (A3 : lz_A L xs i 3 a3) (A4 : lz_A L xs i 4 a4) (A5 : lz_A L xs i 5 a5) (hw : gHw (D, cy, s) τ G H locs) (hST : ST τ x y G) (hl : lv_has ls 7 [(0, .ref b), (1, .ref x), (2, .ref y), (3, .ref o), (4, .int i)]) (hf : cells + 8 ≤ room_1.cells ∧ slots + 48 ≤ room_1.slots) (kk : ∀ (G : gG) (H : Heap) (locs : List Loc) (ls : Array Slot), gHw (D, cy, s) τ G H locs → ST τ x y G → lv_has ls 7 [(0, .ref b), (1, .ref x), (2, .ref y), (3, .ref o), (4, .int i)] → W p l e room_1 s m #[Value.ref b] below meth c H locs (cells + 8) (slots + 48) Q (F0 m 2614 ls [])) : W p l e room_1 s m #[Value.ref b] below meth c H locs cells slots Q (F0 m 1254 ls []) := by
  obtain ⟨fx, ⟨hS, hN⟩, ⟨hX, hbl⟩, ⟨hx, hm, ho, hτ⟩, ey, eo, hn⟩ := F
  have h5 : 500 < n := Nat.lt_trans (Nat.le_of_ble_eq_true rfl) hn
  obtain ⟨s1, t1, l1, l2, ω, im, me, ta, fa, hC, hM, hI⟩ := hST
  refine lv_aload_n fx.1 fx.2.1 dL_law__1254 rfl (lv_at hl 1 rfl) ?_
  refine lz_rd (j := 1) fx hX hbl hw (lv_at hl 0 rfl) (lv_at hl 4 rfl) A1 dL_law__1255 dL_law__1256 dL_law__1258 rfl dL_law__1259 dL_law__1260 ?_
  refine lv_aload_n fx.1 fx.2.1 dL_law__1261 rfl (lv_at hl 3 rfl) ?_
  obtain ⟨⟨k, G1⟩, h1, ⟨r, G2⟩, h2, e1, e2, hST⟩ := op_seasons ey eo hτ hn hC hM hI a1
  have h1 : f_L_seasons τ n x a1 o G = some (k, G1) := h1
  have h2 : f_X11_seasons τ n y a1 G1 = some (r, G2) := h2
  have e1 : k = gi G2 11 0 y := e1
  have e2 : k = 0 → gl G2 o 0 = r.toInt64 := e2
  have hST : ST τ x y G2 := hST
  refine g_callSW (As := [.ref x, .int a1, .ref o]) (rest := []) fx hw (c_L_seasons l (D, cy, s) τ n hS hN x a1 o G hx ho h1) lsw_seasons rfl hl.1 rfl ⟨Nat.le_of_ble_eq_true rfl, Nat.le_of_ble_eq_true rfl⟩ (Nat.le_of_ble_eq_true rfl) ⟨Nat.le_trans (Nat.add_le_add_left (Nat.le_of_ble_eq_true rfl) _) hf.1, Nat.le_trans (Nat.add_le_add_left (Nat.le_of_ble_eq_true rfl) _) hf.2⟩ dL_law__1262 (fun H locs hw => ?_)
  refine lv_istore (lv' := [(5, .int k), (0, .ref b), (1, .ref x), (2, .ref y), (3, .ref o), (4, .int i)]) fx.1 fx.2.1 dL_law__1265 hl (by decide) rfl (fun ls hl => ?_)
  refine lv_aload_n fx.1 fx.2.1 dL_law__1267 rfl (lv_at hl 3 rfl) ?_
  refine lz_rd (j := 1) fx hX hbl hw (lv_at hl 1 rfl) (lv_at hl 5 rfl) A1 dL_law__1268 dL_law__1269 dL_law__1271 rfl dL_law__1272 dL_law__1273 ?_
  refine g_callV0 (κ := 11) (As := [.int a1]) (rest := []) fx hw (c_X11_seasons l (D, cy, s) τ n y a1 G1 hm h2) lv_RL_187 ⟨rfl, rfl⟩ rfl rfl hm rfl hl.1 rfl ⟨Nat.le_of_ble_eq_true rfl, Nat.le_of_ble_eq_true rfl⟩ (Nat.le_of_ble_eq_true rfl) ⟨Nat.le_trans (Nat.add_le_add_left (Nat.le_of_ble_eq_true rfl) _) hf.1, Nat.le_trans (Nat.add_le_add_left (Nat.le_of_ble_eq_true rfl) _) hf.2⟩ dL_law__1274 (fun H locs hw => ?_)
  refine lv_istore (lv' := [(6, .int r), (5, .int k), (0, .ref b), (1, .ref x), (2, .ref y), (3, .ref o), (4, .int i)]) fx.1 fx.2.1 dL_law__1277 hl (by decide) rfl (fun ls hl => ?_)
  refine lv_aload_n fx.1 fx.2.1 dL_law__1279 rfl (lv_at hl 4 rfl) ?_
  refine g_callV0 (κ := 11) (As := []) (rest := []) fx hw (c_X11_thrown l (D, cy, s) τ y G2 hm (r := gi G2 11 0 y) rfl) lv_RL_136 ⟨rfl, rfl⟩ rfl rfl hm rfl hl.1 rfl ⟨Nat.le_of_ble_eq_true rfl, Nat.le_of_ble_eq_true rfl⟩ (Nat.le_of_ble_eq_true rfl) ⟨Nat.le_trans (Nat.add_le_add_left (Nat.le_of_ble_eq_true rfl) _) hf.1, Nat.le_trans (Nat.add_le_add_left (Nat.le_of_ble_eq_true rfl) _) hf.2⟩ dL_law__1280 (fun H locs hw => ?_)
  refine lv_iload fx.1 fx.2.1 dL_law__1283 (lv_at hl 1 rfl) ?_
  refine lv_icmp_eq (tgt := 1290) fx.1 fx.2.1 dL_law__1285 (by decide) (fun _ => ?_) (fun h => absurd e1.symm h)
  refine lv_iload fx.1 fx.2.1 dL_law__1290 (lv_at hl 1 rfl) ?_
  refine lv_if_ne (tgt := 1307) fx.1 fx.2.1 dL_law__1292 (by decide) (fun _ => ?_) (fun hk => ?_)
  · refine lv_goto (tgt := 2614) fx.1 fx.2.1 dL_law__1307 (by decide) ?_
    refine W.widen (k := cells + 8) (n := slots + 48) (Nat.add_le_add_left (Nat.le_of_ble_eq_true rfl) _) (Nat.add_le_add_left (Nat.le_of_ble_eq_true rfl) _) ?_
    exact kk _ _ _ _ hw hST (lv_sub hl [2, 3, 4, 5, 6] rfl)
  · refine lv_aload_n fx.1 fx.2.1 dL_law__1295 rfl (lv_at hl 5 rfl) ?_
    refine lv_iconst (v := 0) fx.1 fx.2.1 dL_law__1296 rfl ?_
    refine lz_ld fx hw ho hτ dL_law__1297 ?_
    refine lv_iload fx.1 fx.2.1 dL_law__1298 (lv_at hl 0 rfl) ?_
    refine lv_i2l (v := r.toInt64) fx.1 fx.2.1 dL_law__1300 rfl ?_
    refine W.lcmp fx.1 fx.2.1 dL_law__1301 ?_
    rw [lz_cmp (e2 hk)]
    refine lv_if_eq (tgt := 1307) fx.1 fx.2.1 dL_law__1302 (by decide) (fun _ => ?_) (fun h => absurd rfl h)
    refine lv_goto (tgt := 2614) fx.1 fx.2.1 dL_law__1307 (by decide) ?_
    refine W.widen (k := cells + 8) (n := slots + 48) (Nat.add_le_add_left (Nat.le_of_ble_eq_true rfl) _) (Nat.add_le_add_left (Nat.le_of_ble_eq_true rfl) _) ?_
    exact kk _ _ _ _ hw hST (lv_sub hl [2, 3, 4, 5, 6] rfl)
set_option maxHeartbeats 4000000 in
set_option maxRecDepth 100000 in
/-- the law's call 18: thrown -/
theorem lz_18 (F : lz_F D cy p l s m meth c b L xs τ n x y o) {a1 a2 a3 a4 a5 : Int32} (A1 : lz_A L xs i 1 a1) (A2 : lz_A L xs i 2 a2) (A3 : lz_A L xs i 3 a3) (A4 : lz_A L xs i 4 a4) (A5 : lz_A L xs i 5 a5) (hw : gHw (D, cy, s) τ G H locs) (hST : ST τ x y G) (hl : lv_has ls 7 [(0, .ref b), (1, .ref x), (2, .ref y), (3, .ref o), (4, .int i)]) (hf : cells + 8 ≤ room_1.cells ∧ slots + 48 ≤ room_1.slots) (kk : ∀ (G : gG) (H : Heap) (locs : List Loc) (ls : Array Slot), gHw (D, cy, s) τ G H locs → ST τ x y G → lv_has ls 7 [(0, .ref b), (1, .ref x), (2, .ref y), (3, .ref o), (4, .int i)] → W p l e room_1 s m #[Value.ref b] below meth c H locs (cells + 8) (slots + 48) Q (F0 m 2614 ls [])) : W p l e room_1 s m #[Value.ref b] below meth c H locs cells slots Q (F0 m 1310 ls []) := by
  obtain ⟨fx, ⟨hS, hN⟩, ⟨hX, hbl⟩, ⟨hx, hm, ho, hτ⟩, ey, eo, hn⟩ := F
  have h5 : 500 < n := Nat.lt_trans (Nat.le_of_ble_eq_true rfl) hn
  obtain ⟨s1, t1, l1, l2, ω, im, me, ta, fa, hC, hM, hI⟩ := hST
  refine lv_aload_n fx.1 fx.2.1 dL_law__1310 rfl (lv_at hl 1 rfl) ?_
  refine lz_rd (j := 1) fx hX hbl hw (lv_at hl 0 rfl) (lv_at hl 4 rfl) A1 dL_law__1311 dL_law__1312 dL_law__1314 rfl dL_law__1315 dL_law__1316 ?_
  refine lv_aload_n fx.1 fx.2.1 dL_law__1317 rfl (lv_at hl 3 rfl) ?_
  obtain ⟨⟨k, G1⟩, h1, ⟨r, G2⟩, h2, e1, e2, hST⟩ := op_best ey eo hτ h5 hC hM hI a1
  have h1 : f_L_best τ n x a1 o G = some (k, G1) := h1
  have h2 : f_X11_best τ n y a1 G1 = some (r, G2) := h2
  have e1 : k = gi G2 11 0 y := e1
  have e2 : k = 0 → gl G2 o 0 = r.toInt64 := e2
  have hST : ST τ x y G2 := hST
  refine g_callSW (As := [.ref x, .int a1, .ref o]) (rest := []) fx hw (c_L_best l (D, cy, s) τ n hS hN x a1 o G hx ho h1) lsw_best rfl hl.1 rfl ⟨Nat.le_of_ble_eq_true rfl, Nat.le_of_ble_eq_true rfl⟩ (Nat.le_of_ble_eq_true rfl) ⟨Nat.le_trans (Nat.add_le_add_left (Nat.le_of_ble_eq_true rfl) _) hf.1, Nat.le_trans (Nat.add_le_add_left (Nat.le_of_ble_eq_true rfl) _) hf.2⟩ dL_law__1318 (fun H locs hw => ?_)
  refine lv_istore (lv' := [(5, .int k), (0, .ref b), (1, .ref x), (2, .ref y), (3, .ref o), (4, .int i)]) fx.1 fx.2.1 dL_law__1321 hl (by decide) rfl (fun ls hl => ?_)
  refine lv_aload_n fx.1 fx.2.1 dL_law__1323 rfl (lv_at hl 3 rfl) ?_
  refine lz_rd (j := 1) fx hX hbl hw (lv_at hl 1 rfl) (lv_at hl 5 rfl) A1 dL_law__1324 dL_law__1325 dL_law__1327 rfl dL_law__1328 dL_law__1329 ?_
  refine g_callV0 (κ := 11) (As := [.int a1]) (rest := []) fx hw (c_X11_best l (D, cy, s) τ n y a1 G1 hm h2) lv_RL_190 ⟨rfl, rfl⟩ rfl rfl hm rfl hl.1 rfl ⟨Nat.le_of_ble_eq_true rfl, Nat.le_of_ble_eq_true rfl⟩ (Nat.le_of_ble_eq_true rfl) ⟨Nat.le_trans (Nat.add_le_add_left (Nat.le_of_ble_eq_true rfl) _) hf.1, Nat.le_trans (Nat.add_le_add_left (Nat.le_of_ble_eq_true rfl) _) hf.2⟩ dL_law__1330 (fun H locs hw => ?_)
  refine lv_istore (lv' := [(6, .int r), (5, .int k), (0, .ref b), (1, .ref x), (2, .ref y), (3, .ref o), (4, .int i)]) fx.1 fx.2.1 dL_law__1333 hl (by decide) rfl (fun ls hl => ?_)
  refine lv_aload_n fx.1 fx.2.1 dL_law__1335 rfl (lv_at hl 4 rfl) ?_
  refine g_callV0 (κ := 11) (As := []) (rest := []) fx hw (c_X11_thrown l (D, cy, s) τ y G2 hm (r := gi G2 11 0 y) rfl) lv_RL_136 ⟨rfl, rfl⟩ rfl rfl hm rfl hl.1 rfl ⟨Nat.le_of_ble_eq_true rfl, Nat.le_of_ble_eq_true rfl⟩ (Nat.le_of_ble_eq_true rfl) ⟨Nat.le_trans (Nat.add_le_add_left (Nat.le_of_ble_eq_true rfl) _) hf.1, Nat.le_trans (Nat.add_le_add_left (Nat.le_of_ble_eq_true rfl) _) hf.2⟩ dL_law__1336 (fun H locs hw => ?_)
  refine lv_iload fx.1 fx.2.1 dL_law__1339 (lv_at hl 1 rfl) ?_
  refine lv_icmp_eq (tgt := 1346) fx.1 fx.2.1 dL_law__1341 (by decide) (fun _ => ?_) (fun h => absurd e1.symm h)
  refine lv_iload fx.1 fx.2.1 dL_law__1346 (lv_at hl 1 rfl) ?_
  refine lv_if_ne (tgt := 1363) fx.1 fx.2.1 dL_law__1348 (by decide) (fun _ => ?_) (fun hk => ?_)
  · refine lv_goto (tgt := 2614) fx.1 fx.2.1 dL_law__1363 (by decide) ?_
    refine W.widen (k := cells + 8) (n := slots + 48) (Nat.add_le_add_left (Nat.le_of_ble_eq_true rfl) _) (Nat.add_le_add_left (Nat.le_of_ble_eq_true rfl) _) ?_
    exact kk _ _ _ _ hw hST (lv_sub hl [2, 3, 4, 5, 6] rfl)
  · refine lv_aload_n fx.1 fx.2.1 dL_law__1351 rfl (lv_at hl 5 rfl) ?_
    refine lv_iconst (v := 0) fx.1 fx.2.1 dL_law__1352 rfl ?_
    refine lz_ld fx hw ho hτ dL_law__1353 ?_
    refine lv_iload fx.1 fx.2.1 dL_law__1354 (lv_at hl 0 rfl) ?_
    refine lv_i2l (v := r.toInt64) fx.1 fx.2.1 dL_law__1356 rfl ?_
    refine W.lcmp fx.1 fx.2.1 dL_law__1357 ?_
    rw [lz_cmp (e2 hk)]
    refine lv_if_eq (tgt := 1363) fx.1 fx.2.1 dL_law__1358 (by decide) (fun _ => ?_) (fun h => absurd rfl h)
    refine lv_goto (tgt := 2614) fx.1 fx.2.1 dL_law__1363 (by decide) ?_
    refine W.widen (k := cells + 8) (n := slots + 48) (Nat.add_le_add_left (Nat.le_of_ble_eq_true rfl) _) (Nat.add_le_add_left (Nat.le_of_ble_eq_true rfl) _) ?_
    exact kk _ _ _ _ hw hST (lv_sub hl [2, 3, 4, 5, 6] rfl)
set_option maxHeartbeats 4000000 in
set_option maxRecDepth 100000 in
/-- the law's call 19: thrown -/
theorem lz_19 (F : lz_F D cy p l s m meth c b L xs τ n x y o) {a1 a2 a3 a4 a5 : Int32} (A1 : lz_A L xs i 1 a1) (A2 : lz_A L xs i 2 a2) (A3 : lz_A L xs i 3 a3) (A4 : lz_A L xs i 4 a4) (A5 : lz_A L xs i 5 a5) (hw : gHw (D, cy, s) τ G H locs) (hST : ST τ x y G) (hl : lv_has ls 7 [(0, .ref b), (1, .ref x), (2, .ref y), (3, .ref o), (4, .int i)]) (hf : cells + 8 ≤ room_1.cells ∧ slots + 48 ≤ room_1.slots) (kk : ∀ (G : gG) (H : Heap) (locs : List Loc) (ls : Array Slot), gHw (D, cy, s) τ G H locs → ST τ x y G → lv_has ls 7 [(0, .ref b), (1, .ref x), (2, .ref y), (3, .ref o), (4, .int i)] → W p l e room_1 s m #[Value.ref b] below meth c H locs (cells + 8) (slots + 48) Q (F0 m 2614 ls [])) : W p l e room_1 s m #[Value.ref b] below meth c H locs cells slots Q (F0 m 1366 ls []) := by
  obtain ⟨fx, ⟨hS, hN⟩, ⟨hX, hbl⟩, ⟨hx, hm, ho, hτ⟩, ey, eo, hn⟩ := F
  have h5 : 500 < n := Nat.lt_trans (Nat.le_of_ble_eq_true rfl) hn
  obtain ⟨s1, t1, l1, l2, ω, im, me, ta, fa, hC, hM, hI⟩ := hST
  refine lv_aload_n fx.1 fx.2.1 dL_law__1366 rfl (lv_at hl 1 rfl) ?_
  refine lz_rd (j := 1) fx hX hbl hw (lv_at hl 0 rfl) (lv_at hl 4 rfl) A1 dL_law__1367 dL_law__1368 dL_law__1370 rfl dL_law__1371 dL_law__1372 ?_
  refine lv_aload_n fx.1 fx.2.1 dL_law__1373 rfl (lv_at hl 3 rfl) ?_
  obtain ⟨⟨k, G1⟩, h1, ⟨r, G2⟩, h2, e1, e2, hST⟩ := op_cheapest ey eo hτ h5 hC hM hI a1
  have h1 : f_L_cheapest τ n x a1 o G = some (k, G1) := h1
  have h2 : f_X11_cheapest τ n y a1 G1 = some (r, G2) := h2
  have e1 : k = gi G2 11 0 y := e1
  have e2 : k = 0 → gl G2 o 0 = r.toInt64 := e2
  have hST : ST τ x y G2 := hST
  refine g_callSW (As := [.ref x, .int a1, .ref o]) (rest := []) fx hw (c_L_cheapest l (D, cy, s) τ n hS hN x a1 o G hx ho h1) lsw_cheapest rfl hl.1 rfl ⟨Nat.le_of_ble_eq_true rfl, Nat.le_of_ble_eq_true rfl⟩ (Nat.le_of_ble_eq_true rfl) ⟨Nat.le_trans (Nat.add_le_add_left (Nat.le_of_ble_eq_true rfl) _) hf.1, Nat.le_trans (Nat.add_le_add_left (Nat.le_of_ble_eq_true rfl) _) hf.2⟩ dL_law__1374 (fun H locs hw => ?_)
  refine lv_istore (lv' := [(5, .int k), (0, .ref b), (1, .ref x), (2, .ref y), (3, .ref o), (4, .int i)]) fx.1 fx.2.1 dL_law__1377 hl (by decide) rfl (fun ls hl => ?_)
  refine lv_aload_n fx.1 fx.2.1 dL_law__1379 rfl (lv_at hl 3 rfl) ?_
  refine lz_rd (j := 1) fx hX hbl hw (lv_at hl 1 rfl) (lv_at hl 5 rfl) A1 dL_law__1380 dL_law__1381 dL_law__1383 rfl dL_law__1384 dL_law__1385 ?_
  refine g_callV0 (κ := 11) (As := [.int a1]) (rest := []) fx hw (c_X11_cheapest l (D, cy, s) τ n y a1 G1 hm h2) lv_RL_193 ⟨rfl, rfl⟩ rfl rfl hm rfl hl.1 rfl ⟨Nat.le_of_ble_eq_true rfl, Nat.le_of_ble_eq_true rfl⟩ (Nat.le_of_ble_eq_true rfl) ⟨Nat.le_trans (Nat.add_le_add_left (Nat.le_of_ble_eq_true rfl) _) hf.1, Nat.le_trans (Nat.add_le_add_left (Nat.le_of_ble_eq_true rfl) _) hf.2⟩ dL_law__1386 (fun H locs hw => ?_)
  refine lv_istore (lv' := [(6, .int r), (5, .int k), (0, .ref b), (1, .ref x), (2, .ref y), (3, .ref o), (4, .int i)]) fx.1 fx.2.1 dL_law__1389 hl (by decide) rfl (fun ls hl => ?_)
  refine lv_aload_n fx.1 fx.2.1 dL_law__1391 rfl (lv_at hl 4 rfl) ?_
  refine g_callV0 (κ := 11) (As := []) (rest := []) fx hw (c_X11_thrown l (D, cy, s) τ y G2 hm (r := gi G2 11 0 y) rfl) lv_RL_136 ⟨rfl, rfl⟩ rfl rfl hm rfl hl.1 rfl ⟨Nat.le_of_ble_eq_true rfl, Nat.le_of_ble_eq_true rfl⟩ (Nat.le_of_ble_eq_true rfl) ⟨Nat.le_trans (Nat.add_le_add_left (Nat.le_of_ble_eq_true rfl) _) hf.1, Nat.le_trans (Nat.add_le_add_left (Nat.le_of_ble_eq_true rfl) _) hf.2⟩ dL_law__1392 (fun H locs hw => ?_)
  refine lv_iload fx.1 fx.2.1 dL_law__1395 (lv_at hl 1 rfl) ?_
  refine lv_icmp_eq (tgt := 1402) fx.1 fx.2.1 dL_law__1397 (by decide) (fun _ => ?_) (fun h => absurd e1.symm h)
  refine lv_iload fx.1 fx.2.1 dL_law__1402 (lv_at hl 1 rfl) ?_
  refine lv_if_ne (tgt := 1419) fx.1 fx.2.1 dL_law__1404 (by decide) (fun _ => ?_) (fun hk => ?_)
  · refine lv_goto (tgt := 2614) fx.1 fx.2.1 dL_law__1419 (by decide) ?_
    refine W.widen (k := cells + 8) (n := slots + 48) (Nat.add_le_add_left (Nat.le_of_ble_eq_true rfl) _) (Nat.add_le_add_left (Nat.le_of_ble_eq_true rfl) _) ?_
    exact kk _ _ _ _ hw hST (lv_sub hl [2, 3, 4, 5, 6] rfl)
  · refine lv_aload_n fx.1 fx.2.1 dL_law__1407 rfl (lv_at hl 5 rfl) ?_
    refine lv_iconst (v := 0) fx.1 fx.2.1 dL_law__1408 rfl ?_
    refine lz_ld fx hw ho hτ dL_law__1409 ?_
    refine lv_iload fx.1 fx.2.1 dL_law__1410 (lv_at hl 0 rfl) ?_
    refine lv_i2l (v := r.toInt64) fx.1 fx.2.1 dL_law__1412 rfl ?_
    refine W.lcmp fx.1 fx.2.1 dL_law__1413 ?_
    rw [lz_cmp (e2 hk)]
    refine lv_if_eq (tgt := 1419) fx.1 fx.2.1 dL_law__1414 (by decide) (fun _ => ?_) (fun h => absurd rfl h)
    refine lv_goto (tgt := 2614) fx.1 fx.2.1 dL_law__1419 (by decide) ?_
    refine W.widen (k := cells + 8) (n := slots + 48) (Nat.add_le_add_left (Nat.le_of_ble_eq_true rfl) _) (Nat.add_le_add_left (Nat.le_of_ble_eq_true rfl) _) ?_
    exact kk _ _ _ _ hw hST (lv_sub hl [2, 3, 4, 5, 6] rfl)
set_option maxHeartbeats 4000000 in
set_option maxRecDepth 100000 in
/-- the law's call 20: can -/
theorem lz_20 (F : lz_F D cy p l s m meth c b L xs τ n x y o) {a1 a2 a3 a4 a5 : Int32} (A1 : lz_A L xs i 1 a1) (A2 : lz_A L xs i 2 a2) (A3 : lz_A L xs i 3 a3) (A4 : lz_A L xs i 4 a4) (A5 : lz_A L xs i 5 a5) (hw : gHw (D, cy, s) τ G H locs) (hST : ST τ x y G) (hl : lv_has ls 7 [(0, .ref b), (1, .ref x), (2, .ref y), (3, .ref o), (4, .int i)]) (hf : cells + 8 ≤ room_1.cells ∧ slots + 48 ≤ room_1.slots) (kk : ∀ (G : gG) (H : Heap) (locs : List Loc) (ls : Array Slot), gHw (D, cy, s) τ G H locs → ST τ x y G → lv_has ls 7 [(0, .ref b), (1, .ref x), (2, .ref y), (3, .ref o), (4, .int i)] → W p l e room_1 s m #[Value.ref b] below meth c H locs (cells + 8) (slots + 48) Q (F0 m 2614 ls [])) : W p l e room_1 s m #[Value.ref b] below meth c H locs cells slots Q (F0 m 1422 ls []) := by
  obtain ⟨fx, ⟨hS, hN⟩, ⟨hX, hbl⟩, ⟨hx, hm, ho, hτ⟩, ey, eo, hn⟩ := F
  have h5 : 500 < n := Nat.lt_trans (Nat.le_of_ble_eq_true rfl) hn
  obtain ⟨s1, t1, l1, l2, ω, im, me, ta, fa, hC, hM, hI⟩ := hST
  refine lv_aload_n fx.1 fx.2.1 dL_law__1422 rfl (lv_at hl 1 rfl) ?_
  refine lz_rd (j := 1) fx hX hbl hw (lv_at hl 0 rfl) (lv_at hl 4 rfl) A1 dL_law__1423 dL_law__1424 dL_law__1426 rfl dL_law__1427 dL_law__1428 ?_
  refine lz_bl fx dL_law__1429 dL_law__1432 dL_law__1433 dL_law__1436 ?_
  obtain ⟨⟨v, G1⟩, h1, ⟨r, G2⟩, h2, e1, hST⟩ := op_can ey h5 hC hM hI (lz_b a1)
  have h1 : f_X10_can τ n x (lz_b a1) G = some (v, G1) := h1
  have h2 : f_X11_can τ n y (lz_b a1) G1 = some (r, G2) := h2
  have e1 : v = r := e1
  have hST : ST τ x y G2 := hST
  refine g_callV0 (κ := 10) (As := [.int (lz_b a1)]) (rest := []) fx hw (c_X10_can l (D, cy, s) τ n x (lz_b a1) G hx h1) lv_RL_194 ⟨rfl, rfl⟩ rfl rfl hx rfl hl.1 rfl ⟨Nat.le_of_ble_eq_true rfl, Nat.le_of_ble_eq_true rfl⟩ (Nat.le_of_ble_eq_true rfl) ⟨Nat.le_trans (Nat.le_add_right _ _) hf.1, Nat.le_trans (Nat.le_add_right _ _) hf.2⟩ dL_law__1437 (fun H locs hw => ?_)
  refine lv_aload_n fx.1 fx.2.1 dL_law__1440 rfl (lv_at hl 2 rfl) ?_
  refine lz_rd (j := 1) fx hX hbl hw (lv_at hl 0 rfl) (lv_at hl 4 rfl) A1 dL_law__1441 dL_law__1442 dL_law__1444 rfl dL_law__1445 dL_law__1446 ?_
  refine lz_bl fx dL_law__1447 dL_law__1450 dL_law__1451 dL_law__1454 ?_
  refine g_callV0 (κ := 11) (As := [.int (lz_b a1)]) (rest := [.int v]) fx hw (c_X11_can l (D, cy, s) τ n y (lz_b a1) G1 hm h2) lv_RL_198 ⟨rfl, rfl⟩ rfl rfl hm rfl hl.1 rfl ⟨Nat.le_of_ble_eq_true rfl, Nat.le_of_ble_eq_true rfl⟩ (Nat.le_of_ble_eq_true rfl) ⟨Nat.le_trans (Nat.le_add_right _ _) hf.1, Nat.le_trans (Nat.le_add_right _ _) hf.2⟩ dL_law__1455 (fun H locs hw => ?_)
  refine lv_icmp_eq (tgt := 2614) fx.1 fx.2.1 dL_law__1458 (by decide) (fun _ => ?_) (fun h => absurd e1 h)
  refine W.widen (k := cells + 8) (n := slots + 48) (Nat.le_add_right _ _) (Nat.le_add_right _ _) ?_
  exact kk _ _ _ _ hw hST (lv_sub hl [0, 1, 2, 3, 4] rfl)
set_option maxHeartbeats 4000000 in
set_option maxRecDepth 100000 in
/-- the law's call 21: most -/
theorem lz_21 (F : lz_F D cy p l s m meth c b L xs τ n x y o) {a1 a2 a3 a4 a5 : Int32} (A1 : lz_A L xs i 1 a1) (A2 : lz_A L xs i 2 a2) (A3 : lz_A L xs i 3 a3) (A4 : lz_A L xs i 4 a4) (A5 : lz_A L xs i 5 a5) (hw : gHw (D, cy, s) τ G H locs) (hST : ST τ x y G) (hl : lv_has ls 7 [(0, .ref b), (1, .ref x), (2, .ref y), (3, .ref o), (4, .int i)]) (hf : cells + 8 ≤ room_1.cells ∧ slots + 48 ≤ room_1.slots) (kk : ∀ (G : gG) (H : Heap) (locs : List Loc) (ls : Array Slot), gHw (D, cy, s) τ G H locs → ST τ x y G → lv_has ls 7 [(0, .ref b), (1, .ref x), (2, .ref y), (3, .ref o), (4, .int i)] → W p l e room_1 s m #[Value.ref b] below meth c H locs (cells + 8) (slots + 48) Q (F0 m 2614 ls [])) : W p l e room_1 s m #[Value.ref b] below meth c H locs cells slots Q (F0 m 1463 ls []) := by
  obtain ⟨fx, ⟨hS, hN⟩, ⟨hX, hbl⟩, ⟨hx, hm, ho, hτ⟩, ey, eo, hn⟩ := F
  have h5 : 500 < n := Nat.lt_trans (Nat.le_of_ble_eq_true rfl) hn
  obtain ⟨s1, t1, l1, l2, ω, im, me, ta, fa, hC, hM, hI⟩ := hST
  refine lv_aload_n fx.1 fx.2.1 dL_law__1463 rfl (lv_at hl 1 rfl) ?_
  refine lz_rd (j := 1) fx hX hbl hw (lv_at hl 0 rfl) (lv_at hl 4 rfl) A1 dL_law__1464 dL_law__1465 dL_law__1467 rfl dL_law__1468 dL_law__1469 ?_
  refine lz_bl fx dL_law__1470 dL_law__1473 dL_law__1474 dL_law__1477 ?_
  obtain ⟨⟨v, G1⟩, h1, ⟨r, G2⟩, h2, e1, hST⟩ := op_most ey h5 hC hM hI (lz_b a1)
  have h1 : f_X10_most τ n x (lz_b a1) G = some (v, G1) := h1
  have h2 : f_X11_most τ n y (lz_b a1) G1 = some (r, G2) := h2
  have e1 : v = r := e1
  have hST : ST τ x y G2 := hST
  refine g_callV0 (κ := 10) (As := [.int (lz_b a1)]) (rest := []) fx hw (c_X10_most l (D, cy, s) τ n x (lz_b a1) G hx h1) lv_RL_199 ⟨rfl, rfl⟩ rfl rfl hx rfl hl.1 rfl ⟨Nat.le_of_ble_eq_true rfl, Nat.le_of_ble_eq_true rfl⟩ (Nat.le_of_ble_eq_true rfl) ⟨Nat.le_trans (Nat.le_add_right _ _) hf.1, Nat.le_trans (Nat.le_add_right _ _) hf.2⟩ dL_law__1478 (fun H locs hw => ?_)
  refine lv_aload_n fx.1 fx.2.1 dL_law__1481 rfl (lv_at hl 2 rfl) ?_
  refine lz_rd (j := 1) fx hX hbl hw (lv_at hl 0 rfl) (lv_at hl 4 rfl) A1 dL_law__1482 dL_law__1483 dL_law__1485 rfl dL_law__1486 dL_law__1487 ?_
  refine lz_bl fx dL_law__1488 dL_law__1491 dL_law__1492 dL_law__1495 ?_
  refine g_callV0 (κ := 11) (As := [.int (lz_b a1)]) (rest := [.int v]) fx hw (c_X11_most l (D, cy, s) τ n y (lz_b a1) G1 hm h2) lv_RL_202 ⟨rfl, rfl⟩ rfl rfl hm rfl hl.1 rfl ⟨Nat.le_of_ble_eq_true rfl, Nat.le_of_ble_eq_true rfl⟩ (Nat.le_of_ble_eq_true rfl) ⟨Nat.le_trans (Nat.le_add_right _ _) hf.1, Nat.le_trans (Nat.le_add_right _ _) hf.2⟩ dL_law__1496 (fun H locs hw => ?_)
  refine lv_icmp_eq (tgt := 2614) fx.1 fx.2.1 dL_law__1499 (by decide) (fun _ => ?_) (fun h => absurd e1 h)
  refine W.widen (k := cells + 8) (n := slots + 48) (Nat.le_add_right _ _) (Nat.le_add_right _ _) ?_
  exact kk _ _ _ _ hw hST (lv_sub hl [0, 1, 2, 3, 4] rfl)
end
