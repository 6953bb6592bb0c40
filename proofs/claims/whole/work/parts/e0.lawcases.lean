section
variable {D : va_G} {cy : Nat → ClassId} {p : Program} {l : Launch} {e : Env} {s : State} {m : MethodId} {below : List Frame} {meth : Method} {c : Code} {b L : Nat} {xs : Nat → Int32} {τ : gτ} {n x y o : Nat} {G : gG} {H : Heap} {locs : List Loc} {ls : Array Slot} {cells slots : Nat} {Q : State → Prop} {i : Int32}
set_option maxHeartbeats 4000000 in
set_option maxRecDepth 100000 in
/-- the law's call 0: feed -/
theorem lz_0 (F : lz_F D cy p l s m meth c b L xs τ n x y o) {a1 a2 a3 a4 a5 : Int32} (A1 : lz_A L xs i 1 a1) (A2 : lz_A L xs i 2 a2) (A3 : lz_A L xs i 3 a3) (A4 : lz_A L xs i 4 a4) (A5 : lz_A L xs i 5 a5) (hw : gHw (D, cy, s) τ G H locs) (hST : ST τ x y G) (hl : lv_has ls 7 [(0, .ref b), (1, .ref x), (2, .ref y), (3, .ref o), (4, .int i)]) (hf : cells + 8 ≤ room_1.cells ∧ slots + 48 ≤ room_1.slots) (kk : ∀ (G : gG) (H : Heap) (locs : List Loc) (ls : Array Slot), gHw (D, cy, s) τ G H locs → ST τ x y G → lv_has ls 7 [(0, .ref b), (1, .ref x), (2, .ref y), (3, .ref o), (4, .int i)] → W p l e room_1 s m #[Value.ref b] below meth c H locs (cells + 8) (slots + 48) Q (F0 m 2614 ls [])) : W p l e room_1 s m #[Value.ref b] below meth c H locs cells slots Q (F0 m 232 ls []) := by
  obtain ⟨fx, ⟨hS, hN⟩, ⟨hX, hbl⟩, ⟨hx, hm, ho, hτ⟩, ey, eo, hn⟩ := F
  have h5 : 500 < n := Nat.lt_trans (Nat.le_of_ble_eq_true rfl) hn
  obtain ⟨s1, t1, l1, l2, ω, im, me, ta, fa, hC, hM, hI⟩ := hST
  refine lv_aload_n fx.1 fx.2.1 dL_law__232 rfl (lv_at hl 1 rfl) ?_
  refine lz_rd (j := 1) fx hX hbl hw (lv_at hl 0 rfl) (lv_at hl 4 rfl) A1 dL_law__233 dL_law__234 dL_law__236 rfl dL_law__237 dL_law__238 ?_
  refine lz_rd (j := 2) fx hX hbl hw (lv_at hl 0 rfl) (lv_at hl 4 rfl) A2 dL_law__239 dL_law__240 dL_law__242 rfl dL_law__243 dL_law__244 ?_
  refine lz_rd (j := 3) fx hX hbl hw (lv_at hl 0 rfl) (lv_at hl 4 rfl) A3 dL_law__245 dL_law__246 dL_law__248 rfl dL_law__249 dL_law__250 ?_
  refine lz_rd (j := 4) fx hX hbl hw (lv_at hl 0 rfl) (lv_at hl 4 rfl) A4 dL_law__251 dL_law__252 dL_law__254 rfl dL_law__255 dL_law__256 ?_
  refine lz_rd (j := 5) fx hX hbl hw (lv_at hl 0 rfl) (lv_at hl 4 rfl) A5 dL_law__257 dL_law__258 dL_law__260 rfl dL_law__261 dL_law__262 ?_
  obtain ⟨⟨v, G1⟩, h1, ⟨r, G2⟩, h2, e1, hST⟩ := op_feed ey h5 hC hM hI a1 a2 a3 a4 a5
  have h1 : f_X10_feed τ n x a1 a2 a3 a4 a5 G = some (v, G1) := h1
  have h2 : f_X11_feed τ n y a1 a2 a3 a4 a5 G1 = some (r, G2) := h2
  have e1 : v = r := e1
  have hST : ST τ x y G2 := hST
  refine g_callV0 (κ := 10) (As := [.int a1, .int a2, .int a3, .int a4, .int a5]) (rest := []) fx hw (c_X10_feed l (D, cy, s) τ n x a1 a2 a3 a4 a5 G hx h1) lv_RL_121 ⟨rfl, rfl⟩ rfl rfl hx rfl hl.1 rfl ⟨Nat.le_of_ble_eq_true rfl, Nat.le_of_ble_eq_true rfl⟩ (Nat.le_of_ble_eq_true rfl) ⟨Nat.le_trans (Nat.le_add_right _ _) hf.1, Nat.le_trans (Nat.le_add_right _ _) hf.2⟩ dL_law__263 (fun H locs hw => ?_)
  refine lv_aload_n fx.1 fx.2.1 dL_law__266 rfl (lv_at hl 2 rfl) ?_
  refine lz_rd (j := 1) fx hX hbl hw (lv_at hl 0 rfl) (lv_at hl 4 rfl) A1 dL_law__267 dL_law__268 dL_law__270 rfl dL_law__271 dL_law__272 ?_
  refine lz_rd (j := 2) fx hX hbl hw (lv_at hl 0 rfl) (lv_at hl 4 rfl) A2 dL_law__273 dL_law__274 dL_law__276 rfl dL_law__277 dL_law__278 ?_
  refine lz_rd (j := 3) fx hX hbl hw (lv_at hl 0 rfl) (lv_at hl 4 rfl) A3 dL_law__279 dL_law__280 dL_law__282 rfl dL_law__283 dL_law__284 ?_
  refine lz_rd (j := 4) fx hX hbl hw (lv_at hl 0 rfl) (lv_at hl 4 rfl) A4 dL_law__285 dL_law__286 dL_law__288 rfl dL_law__289 dL_law__290 ?_
  refine lz_rd (j := 5) fx hX hbl hw (lv_at hl 0 rfl) (lv_at hl 4 rfl) A5 dL_law__291 dL_law__292 dL_law__294 rfl dL_law__295 dL_law__296 ?_
  refine g_callV0 (κ := 11) (As := [.int a1, .int a2, .int a3, .int a4, .int a5]) (rest := [.int v]) fx hw (c_X11_feed l (D, cy, s) τ n y a1 a2 a3 a4 a5 G1 hm h2) lv_RL_125 ⟨rfl, rfl⟩ rfl rfl hm rfl hl.1 rfl ⟨Nat.le_of_ble_eq_true rfl, Nat.le_of_ble_eq_true rfl⟩ (Nat.le_of_ble_eq_true rfl) ⟨Nat.le_trans (Nat.le_add_right _ _) hf.1, Nat.le_trans (Nat.le_add_right _ _) hf.2⟩ dL_law__297 (fun H locs hw => ?_)
  refine lv_icmp_eq (tgt := 2614) fx.1 fx.2.1 dL_law__300 (by decide) (fun _ => ?_) (fun h => absurd e1 h)
  refine W.widen (k := cells + 8) (n := slots + 48) (Nat.le_add_right _ _) (Nat.le_add_right _ _) ?_
  exact kk _ _ _ _ hw hST (lv_sub hl [0, 1, 2, 3, 4] rfl)
set_option maxHeartbeats 4000000 in
set_option maxRecDepth 100000 in
/-- the law's call 1: end -/
theorem lz_1 (F : lz_F D cy p l s m meth c b L xs τ n x y o) {a1 a2 a3 a4 a5 : Int32} (A1 : lz_A L xs i 1 a1) (A2 : lz_A L xs i 2 a2) (A3 : lz_A L xs i 3 a3) (A4 : lz_A L xs i 4 a4) (A5 : lz_A L xs i 5 a5) (hw : gHw (D, cy, s) τ G H locs) (hST : ST τ x y G) (hl : lv_has ls 7 [(0, .ref b), (1, .ref x), (2, .ref y), (3, .ref o), (4, .int i)]) (hf : cells + 8 ≤ room_1.cells ∧ slots + 48 ≤ room_1.slots) (kk : ∀ (G : gG) (H : Heap) (locs : List Loc) (ls : Array Slot), gHw (D, cy, s) τ G H locs → ST τ x y G → lv_has ls 7 [(0, .ref b), (1, .ref x), (2, .ref y), (3, .ref o), (4, .int i)] → W p l e room_1 s m #[Value.ref b] below meth c H locs (cells + 8) (slots + 48) Q (F0 m 2614 ls [])) : W p l e room_1 s m #[Value.ref b] below meth c H locs cells slots Q (F0 m 305 ls []) := by
  obtain ⟨fx, ⟨hS, hN⟩, ⟨hX, hbl⟩, ⟨hx, hm, ho, hτ⟩, ey, eo, hn⟩ := F
  have h5 : 500 < n := Nat.lt_trans (Nat.le_of_ble_eq_true rfl) hn
  obtain ⟨s1, t1, l1, l2, ω, im, me, ta, fa, hC, hM, hI⟩ := hST
  refine lv_aload_n fx.1 fx.2.1 dL_law__305 rfl (lv_at hl 1 rfl) ?_
  refine lz_rd (j := 1) fx hX hbl hw (lv_at hl 0 rfl) (lv_at hl 4 rfl) A1 dL_law__306 dL_law__307 dL_law__309 rfl dL_law__310 dL_law__311 ?_
  obtain ⟨⟨v, G1⟩, h1, ⟨r, G2⟩, h2, e1, hST⟩ := op_end ey hC hM hI a1
  have h1 : f_X10_end x a1 G = some (v, G1) := h1
  have h2 : f_X11_end y a1 G1 = some (r, G2) := h2
  have e1 : v = r := e1
  have hST : ST τ x y G2 := hST
  refine g_callV0 (κ := 10) (As := [.int a1]) (rest := []) fx hw (c_X10_end l (D, cy, s) τ x a1 G hx h1) lv_RL_126 ⟨rfl, rfl⟩ rfl rfl hx rfl hl.1 rfl ⟨Nat.le_of_ble_eq_true rfl, Nat.le_of_ble_eq_true rfl⟩ (Nat.le_of_ble_eq_true rfl) ⟨Nat.le_trans (Nat.le_add_right _ _) hf.1, Nat.le_trans (Nat.le_add_right _ _) hf.2⟩ dL_law__312 (fun H locs hw => ?_)
  refine lv_aload_n fx.1 fx.2.1 dL_law__315 rfl (lv_at hl 2 rfl) ?_
  refine lz_rd (j := 1) fx hX hbl hw (lv_at hl 0 rfl) (lv_at hl 4 rfl) A1 dL_law__316 dL_law__317 dL_law__319 rfl dL_law__320 dL_law__321 ?_
  refine g_callV0 (κ := 11) (As := [.int a1]) (rest := [.int v]) fx hw (c_X11_end l (D, cy, s) τ y a1 G1 hm h2) lv_RL_129 ⟨rfl, rfl⟩ rfl rfl hm rfl hl.1 rfl ⟨Nat.le_of_ble_eq_true rfl, Nat.le_of_ble_eq_true rfl⟩ (Nat.le_of_ble_eq_true rfl) ⟨Nat.le_trans (Nat.le_add_right _ _) hf.1, Nat.le_trans (Nat.le_add_right _ _) hf.2⟩ dL_law__322 (fun H locs hw => ?_)
  refine lv_icmp_eq (tgt := 2614) fx.1 fx.2.1 dL_law__325 (by decide) (fun _ => ?_) (fun h => absurd e1 h)
  refine W.widen (k := cells + 8) (n := slots + 48) (Nat.le_add_right _ _) (Nat.le_add_right _ _) ?_
  exact kk _ _ _ _ hw hST (lv_sub hl [0, 1, 2, 3, 4] rfl)
set_option maxHeartbeats 4000000 in
set_option maxRecDepth 100000 in
/-- the law's call 2: thrown -/
theorem lz_2 (F : lz_F D cy p l s m meth c b L xs τ n x y o) {a1 a2 a3 a4 a5 : Int32} (A1 : lz_A L xs i 1 a1) (A2 : lz_A L xs i 2 a2) (A3 : lz_A L xs i 3 a3) (A4 : lz_A L xs i 4 a4) (A5 : lz_A L xs i 5 a5) (hw : gHw (D, cy, s) τ G H locs) (hST : ST τ x y G) (hl : lv_has ls 7 [(0, .ref b), (1, .ref x), (2, .ref y), (3, .ref o), (4, .int i)]) (hf : cells + 8 ≤ room_1.cells ∧ slots + 48 ≤ room_1.slots) (kk : ∀ (G : gG) (H : Heap) (locs : List Loc) (ls : Array Slot), gHw (D, cy, s) τ G H locs → ST τ x y G → lv_has ls 7 [(0, .ref b), (1, .ref x), (2, .ref y), (3, .ref o), (4, .int i)] → W p l e room_1 s m #[Value.ref b] below meth c H locs (cells + 8) (slots + 48) Q (F0 m 2614 ls [])) : W p l e room_1 s m #[Value.ref b] below meth c H locs cells slots Q (F0 m 330 ls []) := by
  obtain ⟨fx, ⟨hS, hN⟩, ⟨hX, hbl⟩, ⟨hx, hm, ho, hτ⟩, ey, eo, hn⟩ := F
  have h5 : 500 < n := Nat.lt_trans (Nat.le_of_ble_eq_true rfl) hn
  obtain ⟨s1, t1, l1, l2, ω, im, me, ta, fa, hC, hM, hI⟩ := hST
  refine lv_aload_n fx.1 fx.2.1 dL_law__330 rfl (lv_at hl 1 rfl) ?_
  refine lv_aload_n fx.1 fx.2.1 dL_law__331 rfl (lv_at hl 3 rfl) ?_
  obtain ⟨⟨k, G1⟩, h1, ⟨r, G2⟩, h2, e1, e2, hST⟩ := op_walk ey eo hτ hn hC hM hI 
  have h1 : f_L_walk τ n x  o G = some (k, G1) := h1
  have h2 : f_X11_walk τ n y G1 = some (r, G2) := h2
  have e1 : k = gi G2 11 0 y := e1
  have e2 : k = 0 → gl G2 o 0 = r.toInt64 := e2
  have hST : ST τ x y G2 := hST
  refine g_callSW (As := [.ref x, .ref o]) (rest := []) fx hw (c_L_walk l (D, cy, s) τ n hS hN x  o G hx ho h1) lsw_walk rfl hl.1 rfl ⟨Nat.le_of_ble_eq_true rfl, Nat.le_of_ble_eq_true rfl⟩ (Nat.le_of_ble_eq_true rfl) ⟨Nat.le_trans (Nat.add_le_add_left (Nat.le_of_ble_eq_true rfl) _) hf.1, Nat.le_trans (Nat.add_le_add_left (Nat.le_of_ble_eq_true rfl) _) hf.2⟩ dL_law__332 (fun H locs hw => ?_)
  refine lv_istore (lv' := [(5, .int k), (0, .ref b), (1, .ref x), (2, .ref y), (3, .ref o), (4, .int i)]) fx.1 fx.2.1 dL_law__335 hl (by decide) rfl (fun ls hl => ?_)
  refine lv_aload_n fx.1 fx.2.1 dL_law__337 rfl (lv_at hl 3 rfl) ?_
  refine g_callV0 (κ := 11) (As := []) (rest := []) fx hw (c_X11_walk l (D, cy, s) τ n hS y G1 hm h2) lv_RL_135 ⟨rfl, rfl⟩ rfl rfl hm rfl hl.1 rfl ⟨Nat.le_of_ble_eq_true rfl, Nat.le_of_ble_eq_true rfl⟩ (Nat.le_of_ble_eq_true rfl) ⟨Nat.le_trans (Nat.add_le_add_left (Nat.le_of_ble_eq_true rfl) _) hf.1, Nat.le_trans (Nat.add_le_add_left (Nat.le_of_ble_eq_true rfl) _) hf.2⟩ dL_law__338 (fun H locs hw => ?_)
  refine lv_istore (lv' := [(6, .int r), (5, .int k), (0, .ref b), (1, .ref x), (2, .ref y), (3, .ref o), (4, .int i)]) fx.1 fx.2.1 dL_law__341 hl (by decide) rfl (fun ls hl => ?_)
  refine lv_aload_n fx.1 fx.2.1 dL_law__343 rfl (lv_at hl 4 rfl) ?_
  refine g_callV0 (κ := 11) (As := []) (rest := []) fx hw (c_X11_thrown l (D, cy, s) τ y G2 hm (r := gi G2 11 0 y) rfl) lv_RL_136 ⟨rfl, rfl⟩ rfl rfl hm rfl hl.1 rfl ⟨Nat.le_of_ble_eq_true rfl, Nat.le_of_ble_eq_true rfl⟩ (Nat.le_of_ble_eq_true rfl) ⟨Nat.le_trans (Nat.add_le_add_left (Nat.le_of_ble_eq_true rfl) _) hf.1, Nat.le_trans (Nat.add_le_add_left (Nat.le_of_ble_eq_true rfl) _) hf.2⟩ dL_law__344 (fun H locs hw => ?_)
  refine lv_iload fx.1 fx.2.1 dL_law__347 (lv_at hl 1 rfl) ?_
  refine lv_icmp_eq (tgt := 354) fx.1 fx.2.1 dL_law__349 (by decide) (fun _ => ?_) (fun h => absurd e1.symm h)
  refine lv_iload fx.1 fx.2.1 dL_law__354 (lv_at hl 1 rfl) ?_
  refine lv_if_ne (tgt := 371) fx.1 fx.2.1 dL_law__356 (by decide) (fun _ => ?_) (fun hk => ?_)
  · refine lv_goto (tgt := 2614) fx.1 fx.2.1 dL_law__371 (by decide) ?_
    refine W.widen (k := cells + 8) (n := slots + 48) (Nat.add_le_add_left (Nat.le_of_ble_eq_true rfl) _) (Nat.add_le_add_left (Nat.le_of_ble_eq_true rfl) _) ?_
    exact kk _ _ _ _ hw hST (lv_sub hl [2, 3, 4, 5, 6] rfl)
  · refine lv_aload_n fx.1 fx.2.1 dL_law__359 rfl (lv_at hl 5 rfl) ?_
    refine lv_iconst (v := 0) fx.1 fx.2.1 dL_law__360 rfl ?_
    refine lz_ld fx hw ho hτ dL_law__361 ?_
    refine lv_iload fx.1 fx.2.1 dL_law__362 (lv_at hl 0 rfl) ?_
    refine lv_i2l (v := r.toInt64) fx.1 fx.2.1 dL_law__364 rfl ?_
    refine W.lcmp fx.1 fx.2.1 dL_law__365 ?_
    rw [lz_cmp (e2 hk)]
    refine lv_if_eq (tgt := 371) fx.1 fx.2.1 dL_law__366 (by decide) (fun _ => ?_) (fun h => absurd rfl h)
    refine lv_goto (tgt := 2614) fx.1 fx.2.1 dL_law__371 (by decide) ?_
    refine W.widen (k := cells + 8) (n := slots + 48) (Nat.add_le_add_left (Nat.le_of_ble_eq_true rfl) _) (Nat.add_le_add_left (Nat.le_of_ble_eq_true rfl) _) ?_
    exact kk _ _ _ _ hw hST (lv_sub hl [2, 3, 4, 5, 6] rfl)
set_option maxHeartbeats 4000000 in
set_option maxRecDepth 100000 in
/-- the law's call 3: thrown -/
theorem lz_3 (F : lz_F D cy p l s m meth c b L xs τ n x y o) {a1 a2 a3 a4 a5 : Int32} (A1 : lz_A L xs i 1 a1) (A2 : lz_A L xs i 2 a2) (A3 : lz_A L xs i 3 a3) (A4 : lz_A L xs i 4 a4) (A5 : lz_A L xs i 5 a5) (hw : gHw (D, cy, s) τ G H locs) (hST : ST τ x y G) (hl : lv_has ls 7 [(0, .ref b), (1, .ref x), (2, .ref y), (3, .ref o), (4, .int i)]) (hf : cells + 8 ≤ room_1.cells ∧ slots + 48 ≤ room_1.slots) (kk : ∀ (G : gG) (H : Heap) (locs : List Loc) (ls : Array Slot), gHw (D, cy, s) τ G H locs → ST τ x y G → lv_has ls 7 [(0, .ref b), (1, .ref x), (2, .ref y), (3, .ref o), (4, .int i)] → W p l e room_1 s m #[Value.ref b] below meth c H locs (cells + 8) (slots + 48) Q (F0 m 2614 ls [])) : W p l e room_1 s m #[Value.ref b] below meth c H locs cells slots Q (F0 m 374 ls []) := by
  obtain ⟨fx, ⟨hS, hN⟩, ⟨hX, hbl⟩, ⟨hx, hm, ho, hτ⟩, ey, eo, hn⟩ := F
  have h5 : 500 < n := Nat.lt_trans (Nat.le_of_ble_eq_true rfl) hn
  obtain ⟨s1, t1, l1, l2, ω, im, me, ta, fa, hC, hM, hI⟩ := hST
  refine lv_aload_n fx.1 fx.2.1 dL_law__374 rfl (lv_at hl 1 rfl) ?_
  refine lv_aload_n fx.1 fx.2.1 dL_law__375 rfl (lv_at hl 3 rfl) ?_
  obtain ⟨⟨k, G1⟩, h1, ⟨r, G2⟩, h2, e1, e2, hST⟩ := op_law ey eo hτ hn hC hM hI 
  have h1 : f_L_law τ n x  o G = some (k, G1) := h1
  have h2 : f_X11_law τ n y G1 = some (r, G2) := h2
  have e1 : k = gi G2 11 0 y := e1
  have e2 : k = 0 → gl G2 o 0 = r.toInt64 := e2
  have hST : ST τ x y G2 := hST
  refine g_callSW (As := [.ref x, .ref o]) (rest := []) fx hw (c_L_law l (D, cy, s) τ n hS hN x  o G hx ho h1) lsw_law rfl hl.1 rfl ⟨Nat.le_of_ble_eq_true rfl, Nat.le_of_ble_eq_true rfl⟩ (Nat.le_of_ble_eq_true rfl) ⟨Nat.le_trans (Nat.add_le_add_left (Nat.le_of_ble_eq_true rfl) _) hf.1, Nat.le_trans (Nat.add_le_add_left (Nat.le_of_ble_eq_true rfl) _) hf.2⟩ dL_law__376 (fun H locs hw => ?_)
  refine lv_istore (lv' := [(5, .int k), (0, .ref b), (1, .ref x), (2, .ref y), (3, .ref o), (4, .int i)]) fx.1 fx.2.1 dL_law__379 hl (by decide) rfl (fun ls hl => ?_)
  refine lv_aload_n fx.1 fx.2.1 dL_law__381 rfl (lv_at hl 3 rfl) ?_
  refine g_callV0 (κ := 11) (As := []) (rest := []) fx hw (c_X11_law l (D, cy, s) τ n hS y G1 hm h2) lv_RL_141 ⟨rfl, rfl⟩ rfl rfl hm rfl hl.1 rfl ⟨Nat.le_of_ble_eq_true rfl, Nat.le_of_ble_eq_true rfl⟩ (Nat.le_of_ble_eq_true rfl) ⟨Nat.le_trans (Nat.add_le_add_left (Nat.le_of_ble_eq_true rfl) _) hf.1, Nat.le_trans (Nat.add_le_add_left (Nat.le_of_ble_eq_true rfl) _) hf.2⟩ dL_law__382 (fun H locs hw => ?_)
  refine lv_istore (lv' := [(6, .int r), (5, .int k), (0, .ref b), (1, .ref x), (2, .ref y), (3, .ref o), (4, .int i)]) fx.1 fx.2.1 dL_law__385 hl (by decide) rfl (fun ls hl => ?_)
  refine lv_aload_n fx.1 fx.2.1 dL_law__387 rfl (lv_at hl 4 rfl) ?_
  refine g_callV0 (κ := 11) (As := []) (rest := []) fx hw (c_X11_thrown l (D, cy, s) τ y G2 hm (r := gi G2 11 0 y) rfl) lv_RL_136 ⟨rfl, rfl⟩ rfl rfl hm rfl hl.1 rfl ⟨Nat.le_of_ble_eq_true rfl, Nat.le_of_ble_eq_true rfl⟩ (Nat.le_of_ble_eq_true rfl) ⟨Nat.le_trans (Nat.add_le_add_left (Nat.le_of_ble_eq_true rfl) _) hf.1, Nat.le_trans (Nat.add_le_add_left (Nat.le_of_ble_eq_true rfl) _) hf.2⟩ dL_law__388 (fun H locs hw => ?_)
  refine lv_iload fx.1 fx.2.1 dL_law__391 (lv_at hl 1 rfl) ?_
  refine lv_icmp_eq (tgt := 398) fx.1 fx.2.1 dL_law__393 (by decide) (fun _ => ?_) (fun h => absurd e1.symm h)
  refine lv_iload fx.1 fx.2.1 dL_law__398 (lv_at hl 1 rfl) ?_
  refine lv_if_ne (tgt := 415) fx.1 fx.2.1 dL_law__400 (by decide) (fun _ => ?_) (fun hk => ?_)
  · refine lv_goto (tgt := 2614) fx.1 fx.2.1 dL_law__415 (by decide) ?_
    refine W.widen (k := cells + 8) (n := slots + 48) (Nat.add_le_add_left (Nat.le_of_ble_eq_true rfl) _) (Nat.add_le_add_left (Nat.le_of_ble_eq_true rfl) _) ?_
    exact kk _ _ _ _ hw hST (lv_sub hl [2, 3, 4, 5, 6] rfl)
  · refine lv_aload_n fx.1 fx.2.1 dL_law__403 rfl (lv_at hl 5 rfl) ?_
    refine lv_iconst (v := 0) fx.1 fx.2.1 dL_law__404 rfl ?_
    refine lz_ld fx hw ho hτ dL_law__405 ?_
    refine lv_iload fx.1 fx.2.1 dL_law__406 (lv_at hl 0 rfl) ?_
    refine lv_i2l (v := r.toInt64) fx.1 fx.2.1 dL_law__408 rfl ?_
    refine W.lcmp fx.1 fx.2.1 dL_law__409 ?_
    rw [lz_cmp (e2 hk)]
    refine lv_if_eq (tgt := 415) fx.1 fx.2.1 dL_law__410 (by decide) (fun _ => ?_) (fun h => absurd rfl h)
    refine lv_goto (tgt := 2614) fx.1 fx.2.1 dL_law__415 (by decide) ?_
    refine W.widen (k := cells + 8) (n := slots + 48) (Nat.add_le_add_left (Nat.le_of_ble_eq_true rfl) _) (Nat.add_le_add_left (Nat.le_of_ble_eq_true rfl) _) ?_
    exact kk _ _ _ _ hw hST (lv_sub hl [2, 3, 4, 5, 6] rfl)
set_option maxHeartbeats 4000000 in
set_option maxRecDepth 100000 in
/-- the law's call 4: fault -/
theorem lz_4 (F : lz_F D cy p l s m meth c b L xs τ n x y o) {a1 a2 a3 a4 a5 : Int32} (A1 : lz_A L xs i 1 a1) (A2 : lz_A L xs i 2 a2) (A3 : lz_A L xs i 3 a3) (A4 : lz_A L xs i 4 a4) (A5 : lz_A L xs i 5 a5) (hw : gHw (D, cy, s) τ G H locs) (hST : ST τ x y G) (hl : lv_has ls 7 [(0, .ref b), (1, .ref x), (2, .ref y), (3, .ref o), (4, .int i)]) (hf : cells + 8 ≤ room_1.cells ∧ slots + 48 ≤ room_1.slots) (kk : ∀ (G : gG) (H : Heap) (locs : List Loc) (ls : Array Slot), gHw (D, cy, s) τ G H locs → ST τ x y G → lv_has ls 7 [(0, .ref b), (1, .ref x), (2, .ref y), (3, .ref o), (4, .int i)] → W p l e room_1 s m #[Value.ref b] below meth c H locs (cells + 8) (slots + 48) Q (F0 m 2614 ls [])) : W p l e room_1 s m #[Value.ref b] below meth c H locs cells slots Q (F0 m 418 ls []) := by
  obtain ⟨fx, ⟨hS, hN⟩, ⟨hX, hbl⟩, ⟨hx, hm, ho, hτ⟩, ey, eo, hn⟩ := F
  have h5 : 500 < n := Nat.lt_trans (Nat.le_of_ble_eq_true rfl) hn
  obtain ⟨s1, t1, l1, l2, ω, im, me, ta, fa, hC, hM, hI⟩ := hST
  refine lv_aload_n fx.1 fx.2.1 dL_law__418 rfl (lv_at hl 1 rfl) ?_
  obtain ⟨v, h1, ⟨r, G2⟩, h2, e1, hST⟩ := op_fault ey hC hM hI 
  have h2 : f_X11_fault y G = some (r, G2) := h2
  have e1 : v = r := e1
  have hST : ST τ x y G2 := hST
  refine g_callV0 (κ := 10) (As := []) (rest := []) fx hw (c_X10_fault l (D, cy, s) τ x G hx h1) lv_RL_142 ⟨rfl, rfl⟩ rfl rfl hx rfl hl.1 rfl ⟨Nat.le_of_ble_eq_true rfl, Nat.le_of_ble_eq_true rfl⟩ (Nat.le_of_ble_eq_true rfl) ⟨Nat.le_trans (Nat.le_add_right _ _) hf.1, Nat.le_trans (Nat.le_add_right _ _) hf.2⟩ dL_law__419 (fun H locs hw => ?_)
  refine lv_aload_n fx.1 fx.2.1 dL_law__422 rfl (lv_at hl 2 rfl) ?_
  refine g_callV0 (κ := 11) (As := []) (rest := [.int v]) fx hw (c_X11_fault l (D, cy, s) τ y G hm h2) lv_RL_145 ⟨rfl, rfl⟩ rfl rfl hm rfl hl.1 rfl ⟨Nat.le_of_ble_eq_true rfl, Nat.le_of_ble_eq_true rfl⟩ (Nat.le_of_ble_eq_true rfl) ⟨Nat.le_trans (Nat.le_add_right _ _) hf.1, Nat.le_trans (Nat.le_add_right _ _) hf.2⟩ dL_law__423 (fun H locs hw => ?_)
  refine lv_icmp_eq (tgt := 2614) fx.1 fx.2.1 dL_law__426 (by decide) (fun _ => ?_) (fun h => absurd e1 h)
  refine W.widen (k := cells + 8) (n := slots + 48) (Nat.le_add_right _ _) (Nat.le_add_right _ _) ?_
  exact kk _ _ _ _ hw hST (lv_sub hl [0, 1, 2, 3, 4] rfl)
set_option maxHeartbeats 4000000 in
set_option maxRecDepth 100000 in
/-- the law's call 5: thrown -/
theorem lz_5 (F : lz_F D cy p l s m meth c b L xs τ n x y o) {a1 a2 a3 a4 a5 : Int32} (A1 : lz_A L xs i 1 a1) (A2 : lz_A L xs i 2 a2) (A3 : lz_A L xs i 3 a3) (A4 : lz_A L xs i 4 a4) (A5 : lz_A L xs i 5 a5) (hw : gHw (D, cy, s) τ G H locs) (hST : ST τ x y G) (hl : lv_has ls 7 [(0, .ref b), (1, .ref x), (2, .ref y), (3, .ref o), (4, .int i)]) (hf : cells + 8 ≤ room_1.cells ∧ slots + 48 ≤ room_1.slots) (kk : ∀ (G : gG) (H : Heap) (locs : List Loc) (ls : Array Slot), gHw (D, cy, s) τ G H locs → ST τ x y G → lv_has ls 7 [(0, .ref b), (1, .ref x), (2, .ref y), (3, .ref o), (4, .int i)] → W p l e room_1 s m #[Value.ref b] below meth c H locs (cells + 8) (slots + 48) Q (F0 m 2614 ls [])) : W p l e room_1 s m #[Value.ref b] below meth c H locs cells slots Q (F0 m 431 ls []) := by
  obtain ⟨fx, ⟨hS, hN⟩, ⟨hX, hbl⟩, ⟨hx, hm, ho, hτ⟩, ey, eo, hn⟩ := F
  have h5 : 500 < n := Nat.lt_trans (Nat.le_of_ble_eq_true rfl) hn
  obtain ⟨s1, t1, l1, l2, ω, im, me, ta, fa, hC, hM, hI⟩ := hST
  refine lv_aload_n fx.1 fx.2.1 dL_law__431 rfl (lv_at hl 1 rfl) ?_
  refine lz_rd (j := 1) fx hX hbl hw (lv_at hl 0 rfl) (lv_at hl 4 rfl) A1 dL_law__432 dL_law__433 dL_law__435 rfl dL_law__436 dL_law__437 ?_
  refine lz_rd (j := 2) fx hX hbl hw (lv_at hl 0 rfl) (lv_at hl 4 rfl) A2 dL_law__438 dL_law__439 dL_law__441 rfl dL_law__442 dL_law__443 ?_
  refine lv_aload_n fx.1 fx.2.1 dL_law__444 rfl (lv_at hl 3 rfl) ?_
  obtain ⟨⟨k, G1⟩, h1, ⟨r, G2⟩, h2, e1, e2, hST⟩ := op_yarn ey eo hτ h5 hC hM hI a1 a2
  have h1 : f_L_yarn τ n x a1 a2 o G = some (k, G1) := h1
  have h2 : f_X11_yarn τ n y a1 a2 G1 = some (r, G2) := h2
  have e1 : k = gi G2 11 0 y := e1
  have e2 : k = 0 → gl G2 o 0 = r.toInt64 := e2
  have hST : ST τ x y G2 := hST
  refine g_callSW (As := [.ref x, .int a1, .int a2, .ref o]) (rest := []) fx hw (c_L_yarn l (D, cy, s) τ n hS hN x a1 a2 o G hx ho h1) lsw_yarn rfl hl.1 rfl ⟨Nat.le_of_ble_eq_true rfl, Nat.le_of_ble_eq_true rfl⟩ (Nat.le_of_ble_eq_true rfl) ⟨Nat.le_trans (Nat.add_le_add_left (Nat.le_of_ble_eq_true rfl) _) hf.1, Nat.le_trans (Nat.add_le_add_left (Nat.le_of_ble_eq_true rfl) _) hf.2⟩ dL_law__445 (fun H locs hw => ?_)
  refine lv_istore (lv' := [(5, .int k), (0, .ref b), (1, .ref x), (2, .ref y), (3, .ref o), (4, .int i)]) fx.1 fx.2.1 dL_law__448 hl (by decide) rfl (fun ls hl => ?_)
  refine lv_aload_n fx.1 fx.2.1 dL_law__450 rfl (lv_at hl 3 rfl) ?_
  refine lz_rd (j := 1) fx hX hbl hw (lv_at hl 1 rfl) (lv_at hl 5 rfl) A1 dL_law__451 dL_law__452 dL_law__454 rfl dL_law__455 dL_law__456 ?_
  refine lz_rd (j := 2) fx hX hbl hw (lv_at hl 1 rfl) (lv_at hl 5 rfl) A2 dL_law__457 dL_law__458 dL_law__460 rfl dL_law__461 dL_law__462 ?_
  refine g_callV0 (κ := 11) (As := [.int a1, .int a2]) (rest := []) fx hw (c_X11_yarn l (D, cy, s) τ n y a1 a2 G1 hm h2) lv_RL_149 ⟨rfl, rfl⟩ rfl rfl hm rfl hl.1 rfl ⟨Nat.le_of_ble_eq_true rfl, Nat.le_of_ble_eq_true rfl⟩ (Nat.le_of_ble_eq_true rfl) ⟨Nat.le_trans (Nat.add_le_add_left (Nat.le_of_ble_eq_true rfl) _) hf.1, Nat.le_trans (Nat.add_le_add_left (Nat.le_of_ble_eq_true rfl) _) hf.2⟩ dL_law__463 (fun H locs hw => ?_)
  refine lv_istore (lv' := [(6, .int r), (5, .int k), (0, .ref b), (1, .ref x), (2, .ref y), (3, .ref o), (4, .int i)]) fx.1 fx.2.1 dL_law__466 hl (by decide) rfl (fun ls hl => ?_)
  refine lv_aload_n fx.1 fx.2.1 dL_law__468 rfl (lv_at hl 4 rfl) ?_
  refine g_callV0 (κ := 11) (As := []) (rest := []) fx hw (c_X11_thrown l (D, cy, s) τ y G2 hm (r := gi G2 11 0 y) rfl) lv_RL_136 ⟨rfl, rfl⟩ rfl rfl hm rfl hl.1 rfl ⟨Nat.le_of_ble_eq_true rfl, Nat.le_of_ble_eq_true rfl⟩ (Nat.le_of_ble_eq_true rfl) ⟨Nat.le_trans (Nat.add_le_add_left (Nat.le_of_ble_eq_true rfl) _) hf.1, Nat.le_trans (Nat.add_le_add_left (Nat.le_of_ble_eq_true rfl) _) hf.2⟩ dL_law__469 (fun H locs hw => ?_)
  refine lv_iload fx.1 fx.2.1 dL_law__472 (lv_at hl 1 rfl) ?_
  refine lv_icmp_eq (tgt := 479) fx.1 fx.2.1 dL_law__474 (by decide) (fun _ => ?_) (fun h => absurd e1.symm h)
  refine lv_iload fx.1 fx.2.1 dL_law__479 (lv_at hl 1 rfl) ?_
  refine lv_if_ne (tgt := 496) fx.1 fx.2.1 dL_law__481 (by decide) (fun _ => ?_) (fun hk => ?_)
  · refine lv_goto (tgt := 2614) fx.1 fx.2.1 dL_law__496 (by decide) ?_
    refine W.widen (k := cells + 8) (n := slots + 48) (Nat.add_le_add_left (Nat.le_of_ble_eq_true rfl) _) (Nat.add_le_add_left (Nat.le_of_ble_eq_true rfl) _) ?_
    exact kk _ _ _ _ hw hST (lv_sub hl [2, 3, 4, 5, 6] rfl)
  · refine lv_aload_n fx.1 fx.2.1 dL_law__484 rfl (lv_at hl 5 rfl) ?_
    refine lv_iconst (v := 0) fx.1 fx.2.1 dL_law__485 rfl ?_
    refine lz_ld fx hw ho hτ dL_law__486 ?_
    refine lv_iload fx.1 fx.2.1 dL_law__487 (lv_at hl 0 rfl) ?_
    refine lv_i2l (v := r.toInt64) fx.1 fx.2.1 dL_law__489 rfl ?_
    refine W.lcmp fx.1 fx.2.1 dL_law__490 ?_
    rw [lz_cmp (e2 hk)]
    refine lv_if_eq (tgt := 496) fx.1 fx.2.1 dL_law__491 (by decide) (fun _ => ?_) (fun h => absurd rfl h)
    refine lv_goto (tgt := 2614) fx.1 fx.2.1 dL_law__496 (by decide) ?_
    refine W.widen (k := cells + 8) (n := slots + 48) (Nat.add_le_add_left (Nat.le_of_ble_eq_true rfl) _) (Nat.add_le_add_left (Nat.le_of_ble_eq_true rfl) _) ?_
    exact kk _ _ _ _ hw hST (lv_sub hl [2, 3, 4, 5, 6] rfl)
set_option maxHeartbeats 4000000 in
set_option maxRecDepth 100000 in
/-- the law's call 6: thrown -/
theorem lz_6 (F : lz_F D cy p l s m meth c b L xs τ n x y o) {a1 a2 a3 a4 a5 : Int32} (A1 : lz_A L xs i 1 a1) (A2 : lz_A L xs i 2 a2) (A3 : lz_A L xs i 3 a3) (A4 : lz_A L xs i 4 a4) (A5 : lz_A L xs i 5 a5) (hw : gHw (D, cy, s) τ G H locs) (hST : ST τ x y G) (hl : lv_has ls 7 [(0, .ref b), (1, .ref x), (2, .ref y), (3, .ref o), (4, .int i)]) (hf : cells + 8 ≤ room_1.cells ∧ slots + 48 ≤ room_1.slots) (kk : ∀ (G : gG) (H : Heap) (locs : List Loc) (ls : Array Slot), gHw (D, cy, s) τ G H locs → ST τ x y G → lv_has ls 7 [(0, .ref b), (1, .ref x), (2, .ref y), (3, .ref o), (4, .int i)] → W p l e room_1 s m #[Value.ref b] below meth c H locs (cells + 8) (slots + 48) Q (F0 m 2614 ls [])) : W p l e room_1 s m #[Value.ref b] below meth c H locs cells slots Q (F0 m 499 ls []) := by
  obtain ⟨fx, ⟨hS, hN⟩, ⟨hX, hbl⟩, ⟨hx, hm, ho, hτ⟩, ey, eo, hn⟩ := F
  have h5 : 500 < n := Nat.lt_trans (Nat.le_of_ble_eq_true rfl) hn
  obtain ⟨s1, t1, l1, l2, ω, im, me, ta, fa, hC, hM, hI⟩ := hST
  refine lv_aload_n fx.1 fx.2.1 dL_law__499 rfl (lv_at hl 1 rfl) ?_
  refine lz_rd (j := 1) fx hX hbl hw (lv_at hl 0 rfl) (lv_at hl 4 rfl) A1 dL_law__500 dL_law__501 dL_law__503 rfl dL_law__504 dL_law__505 ?_
  refine lz_rd (j := 2) fx hX hbl hw (lv_at hl 0 rfl) (lv_at hl 4 rfl) A2 dL_law__506 dL_law__507 dL_law__509 rfl dL_law__510 dL_law__511 ?_
  refine lv_aload_n fx.1 fx.2.1 dL_law__512 rfl (lv_at hl 3 rfl) ?_
  obtain ⟨⟨k, G1⟩, h1, ⟨r, G2⟩, h2, e1, e2, hST⟩ := op_rope ey eo hτ h5 hC hM hI a1 a2
  have h1 : f_L_rope τ n x a1 a2 o G = some (k, G1) := h1
  have h2 : f_X11_rope τ n y a1 a2 G1 = some (r, G2) := h2
  have e1 : k = gi G2 11 0 y := e1
  have e2 : k = 0 → gl G2 o 0 = r.toInt64 := e2
  have hST : ST τ x y G2 := hST
  refine g_callSW (As := [.ref x, .int a1, .int a2, .ref o]) (rest := []) fx hw (c_L_rope l (D, cy, s) τ n hS hN x a1 a2 o G hx ho h1) lsw_rope rfl hl.1 rfl ⟨Nat.le_of_ble_eq_true rfl, Nat.le_of_ble_eq_true rfl⟩ (Nat.le_of_ble_eq_true rfl) ⟨Nat.le_trans (Nat.add_le_add_left (Nat.le_of_ble_eq_true rfl) _) hf.1, Nat.le_trans (Nat.add_le_add_left (Nat.le_of_ble_eq_true rfl) _) hf.2⟩ dL_law__513 (fun H locs hw => ?_)
  refine lv_istore (lv' := [(5, .int k), (0, .ref b), (1, .ref x), (2, .ref y), (3, .ref o), (4, .int i)]) fx.1 fx.2.1 dL_law__516 hl (by decide) rfl (fun ls hl => ?_)
  refine lv_aload_n fx.1 fx.2.1 dL_law__518 rfl (lv_at hl 3 rfl) ?_
  refine lz_rd (j := 1) fx hX hbl hw (lv_at hl 1 rfl) (lv_at hl 5 rfl) A1 dL_law__519 dL_law__520 dL_law__522 rfl dL_law__523 dL_law__524 ?_
  refine lz_rd (j := 2) fx hX hbl hw (lv_at hl 1 rfl) (lv_at hl 5 rfl) A2 dL_law__525 dL_law__526 dL_law__528 rfl dL_law__529 dL_law__530 ?_
  refine g_callV0 (κ := 11) (As := [.int a1, .int a2]) (rest := []) fx hw (c_X11_rope l (D, cy, s) τ n y a1 a2 G1 hm h2) lv_RL_152 ⟨rfl, rfl⟩ rfl rfl hm rfl hl.1 rfl ⟨Nat.le_of_ble_eq_true rfl, Nat.le_of_ble_eq_true rfl⟩ (Nat.le_of_ble_eq_true rfl) ⟨Nat.le_trans (Nat.add_le_add_left (Nat.le_of_ble_eq_true rfl) _) hf.1, Nat.le_trans (Nat.add_le_add_left (Nat.le_of_ble_eq_true rfl) _) hf.2⟩ dL_law__531 (fun H locs hw => ?_)
  refine lv_istore (lv' := [(6, .int r), (5, .int k), (0, .ref b), (1, .ref x), (2, .ref y), (3, .ref o), (4, .int i)]) fx.1 fx.2.1 dL_law__534 hl (by decide) rfl (fun ls hl => ?_)
  refine lv_aload_n fx.1 fx.2.1 dL_law__536 rfl (lv_at hl 4 rfl) ?_
  refine g_callV0 (κ := 11) (As := []) (rest := []) fx hw (c_X11_thrown l (D, cy, s) τ y G2 hm (r := gi G2 11 0 y) rfl) lv_RL_136 ⟨rfl, rfl⟩ rfl rfl hm rfl hl.1 rfl ⟨Nat.le_of_ble_eq_true rfl, Nat.le_of_ble_eq_true rfl⟩ (Nat.le_of_ble_eq_true rfl) ⟨Nat.le_trans (Nat.add_le_add_left (Nat.le_of_ble_eq_true rfl) _) hf.1, Nat.le_trans (Nat.add_le_add_left (Nat.le_of_ble_eq_true rfl) _) hf.2⟩ dL_law__537 (fun H locs hw => ?_)
  refine lv_iload fx.1 fx.2.1 dL_law__540 (lv_at hl 1 rfl) ?_
  refine lv_icmp_eq (tgt := 547) fx.1 fx.2.1 dL_law__542 (by decide) (fun _ => ?_) (fun h => absurd e1.symm h)
  refine lv_iload fx.1 fx.2.1 dL_law__547 (lv_at hl 1 rfl) ?_
  refine lv_if_ne (tgt := 564) fx.1 fx.2.1 dL_law__549 (by decide) (fun _ => ?_) (fun hk => ?_)
  · refine lv_goto (tgt := 2614) fx.1 fx.2.1 dL_law__564 (by decide) ?_
    refine W.widen (k := cells + 8) (n := slots + 48) (Nat.add_le_add_left (Nat.le_of_ble_eq_true rfl) _) (Nat.add_le_add_left (Nat.le_of_ble_eq_true rfl) _) ?_
    exact kk _ _ _ _ hw hST (lv_sub hl [2, 3, 4, 5, 6] rfl)
  · refine lv_aload_n fx.1 fx.2.1 dL_law__552 rfl (lv_at hl 5 rfl) ?_
    refine lv_iconst (v := 0) fx.1 fx.2.1 dL_law__553 rfl ?_
    refine lz_ld fx hw ho hτ dL_law__554 ?_
    refine lv_iload fx.1 fx.2.1 dL_law__555 (lv_at hl 0 rfl) ?_
    refine lv_i2l (v := r.toInt64) fx.1 fx.2.1 dL_law__557 rfl ?_
    refine W.lcmp fx.1 fx.2.1 dL_law__558 ?_
    rw [lz_cmp (e2 hk)]
    refine lv_if_eq (tgt := 564) fx.1 fx.2.1 dL_law__559 (by decide) (fun _ => ?_) (fun h => absurd rfl h)
    refine lv_goto (tgt := 2614) fx.1 fx.2.1 dL_law__564 (by decide) ?_
    refine W.widen (k := cells + 8) (n := slots + 48) (Nat.add_le_add_left (Nat.le_of_ble_eq_true rfl) _) (Nat.add_le_add_left (Nat.le_of_ble_eq_true rfl) _) ?_
    exact kk _ _ _ _ hw hST (lv_sub hl [2, 3, 4, 5, 6] rfl)
set_option maxHeartbeats 4000000 in
set_option maxRecDepth 100000 in
/-- the law's call 7: thrown -/
theorem lz_7 (F : lz_F D cy p l s m meth c b L xs τ n x y o) {a1 a2 a3 a4 a5 : Int32} (A1 : lz_A L xs i 1 a1) (A2 : lz_A L xs i 2 a2) (A3 : lz_A L xs i 3 a3) (A4 : lz_A L xs i 4 a4) (A5 : lz_A L xs i 5 a5) (hw : gHw (D, cy, s) τ G H locs) (hST : ST τ x y G) (hl : lv_has ls 7 [(0, .ref b), (1, .ref x), (2, .ref y), (3, .ref o), (4, .int i)]) (hf : cells + 8 ≤ room_1.cells ∧ slots + 48 ≤ room_1.slots) (kk : ∀ (G : gG) (H : Heap) (locs : List Loc) (ls : Array Slot), gHw (D, cy, s) τ G H locs → ST τ x y G → lv_has ls 7 [(0, .ref b), (1, .ref x), (2, .ref y), (3, .ref o), (4, .int i)] → W p l e room_1 s m #[Value.ref b] below meth c H locs (cells + 8) (slots + 48) Q (F0 m 2614 ls [])) : W p l e room_1 s m #[Value.ref b] below meth c H locs cells slots Q (F0 m 567 ls []) := by
  obtain ⟨fx, ⟨hS, hN⟩, ⟨hX, hbl⟩, ⟨hx, hm, ho, hτ⟩, ey, eo, hn⟩ := F
  have h5 : 500 < n := Nat.lt_trans (Nat.le_of_ble_eq_true rfl) hn
  obtain ⟨s1, t1, l1, l2, ω, im, me, ta, fa, hC, hM, hI⟩ := hST
  refine lv_aload_n fx.1 fx.2.1 dL_law__567 rfl (lv_at hl 1 rfl) ?_
  refine lz_rd (j := 1) fx hX hbl hw (lv_at hl 0 rfl) (lv_at hl 4 rfl) A1 dL_law__568 dL_law__569 dL_law__571 rfl dL_law__572 dL_law__573 ?_
  refine lz_rd (j := 2) fx hX hbl hw (lv_at hl 0 rfl) (lv_at hl 4 rfl) A2 dL_law__574 dL_law__575 dL_law__577 rfl dL_law__578 dL_law__579 ?_
  refine lv_aload_n fx.1 fx.2.1 dL_law__580 rfl (lv_at hl 3 rfl) ?_
  obtain ⟨⟨k, G1⟩, h1, ⟨r, G2⟩, h2, e1, e2, hST⟩ := op_order ey eo hτ h5 hC hM hI a1 a2
  have h1 : f_L_order τ n x a1 a2 o G = some (k, G1) := h1
  have h2 : f_X11_order τ y a1 a2 G1 = some (r, G2) := h2
  have e1 : k = gi G2 11 0 y := e1
  have e2 : k = 0 → gl G2 o 0 = r.toInt64 := e2
  have hST : ST τ x y G2 := hST
  refine g_callSW (As := [.ref x, .int a1, .int a2, .ref o]) (rest := []) fx hw (c_L_order l (D, cy, s) τ n hS hN x a1 a2 o G hx ho h1) lsw_order rfl hl.1 rfl ⟨Nat.le_of_ble_eq_true rfl, Nat.le_of_ble_eq_true rfl⟩ (Nat.le_of_ble_eq_true rfl) ⟨Nat.le_trans (Nat.add_le_add_left (Nat.le_of_ble_eq_true rfl) _) hf.1, Nat.le_trans (Nat.add_le_add_left (Nat.le_of_ble_eq_true rfl) _) hf.2⟩ dL_law__581 (fun H locs hw => ?_)
  refine lv_istore (lv' := [(5, .int k), (0, .ref b), (1, .ref x), (2, .ref y), (3, .ref o), (4, .int i)]) fx.1 fx.2.1 dL_law__584 hl (by decide) rfl (fun ls hl => ?_)
  refine lv_aload_n fx.1 fx.2.1 dL_law__586 rfl (lv_at hl 3 rfl) ?_
  refine lz_rd (j := 1) fx hX hbl hw (lv_at hl 1 rfl) (lv_at hl 5 rfl) A1 dL_law__587 dL_law__588 dL_law__590 rfl dL_law__591 dL_law__592 ?_
  refine lz_rd (j := 2) fx hX hbl hw (lv_at hl 1 rfl) (lv_at hl 5 rfl) A2 dL_law__593 dL_law__594 dL_law__596 rfl dL_law__597 dL_law__598 ?_
  refine g_callV0 (κ := 11) (As := [.int a1, .int a2]) (rest := []) fx hw (c_X11_order l (D, cy, s) τ y a1 a2 G1 hm h2) lv_RL_155 ⟨rfl, rfl⟩ rfl rfl hm rfl hl.1 rfl ⟨Nat.le_of_ble_eq_true rfl, Nat.le_of_ble_eq_true rfl⟩ (Nat.le_of_ble_eq_true rfl) ⟨Nat.le_trans (Nat.add_le_add_left (Nat.le_of_ble_eq_true rfl) _) hf.1, Nat.le_trans (Nat.add_le_add_left (Nat.le_of_ble_eq_true rfl) _) hf.2⟩ dL_law__599 (fun H locs hw => ?_)
  refine lv_istore (lv' := [(6, .int r), (5, .int k), (0, .ref b), (1, .ref x), (2, .ref y), (3, .ref o), (4, .int i)]) fx.1 fx.2.1 dL_law__602 hl (by decide) rfl (fun ls hl => ?_)
  refine lv_aload_n fx.1 fx.2.1 dL_law__604 rfl (lv_at hl 4 rfl) ?_
  refine g_callV0 (κ := 11) (As := []) (rest := []) fx hw (c_X11_thrown l (D, cy, s) τ y G2 hm (r := gi G2 11 0 y) rfl) lv_RL_136 ⟨rfl, rfl⟩ rfl rfl hm rfl hl.1 rfl ⟨Nat.le_of_ble_eq_true rfl, Nat.le_of_ble_eq_true rfl⟩ (Nat.le_of_ble_eq_true rfl) ⟨Nat.le_trans (Nat.add_le_add_left (Nat.le_of_ble_eq_true rfl) _) hf.1, Nat.le_trans (Nat.add_le_add_left (Nat.le_of_ble_eq_true rfl) _) hf.2⟩ dL_law__605 (fun H locs hw => ?_)
  refine lv_iload fx.1 fx.2.1 dL_law__608 (lv_at hl 1 rfl) ?_
  refine lv_icmp_eq (tgt := 615) fx.1 fx.2.1 dL_law__610 (by decide) (fun _ => ?_) (fun h => absurd e1.symm h)
  refine lv_iload fx.1 fx.2.1 dL_law__615 (lv_at hl 1 rfl) ?_
  refine lv_if_ne (tgt := 632) fx.1 fx.2.1 dL_law__617 (by decide) (fun _ => ?_) (fun hk => ?_)
  · refine lv_goto (tgt := 2614) fx.1 fx.2.1 dL_law__632 (by decide) ?_
    refine W.widen (k := cells + 8) (n := slots + 48) (Nat.add_le_add_left (Nat.le_of_ble_eq_true rfl) _) (Nat.add_le_add_left (Nat.le_of_ble_eq_true rfl) _) ?_
    exact kk _ _ _ _ hw hST (lv_sub hl [2, 3, 4, 5, 6] rfl)
  · refine lv_aload_n fx.1 fx.2.1 dL_law__620 rfl (lv_at hl 5 rfl) ?_
    refine lv_iconst (v := 0) fx.1 fx.2.1 dL_law__621 rfl ?_
    refine lz_ld fx hw ho hτ dL_law__622 ?_
    refine lv_iload fx.1 fx.2.1 dL_law__623 (lv_at hl 0 rfl) ?_
    refine lv_i2l (v := r.toInt64) fx.1 fx.2.1 dL_law__625 rfl ?_
    refine W.lcmp fx.1 fx.2.1 dL_law__626 ?_
    rw [lz_cmp (e2 hk)]
    refine lv_if_eq (tgt := 632) fx.1 fx.2.1 dL_law__627 (by decide) (fun _ => ?_) (fun h => absurd rfl h)
    refine lv_goto (tgt := 2614) fx.1 fx.2.1 dL_law__632 (by decide) ?_
    refine W.widen (k := cells + 8) (n := slots + 48) (Nat.add_le_add_left (Nat.le_of_ble_eq_true rfl) _) (Nat.add_le_add_left (Nat.le_of_ble_eq_true rfl) _) ?_
    exact kk _ _ _ _ hw hST (lv_sub hl [2, 3, 4, 5, 6] rfl)
set_option maxHeartbeats 4000000 in
set_option maxRecDepth 100000 in
/-- the law's call 8: thrown -/
theorem lz_8 (F : lz_F D cy p l s m meth c b L xs τ n x y o) {a1 a2 a3 a4 a5 : Int32} (A1 : lz_A L xs i 1 a1) (A2 : lz_A L xs i 2 a2) (A3 : lz_A L xs i 3 a3) (A4 : lz_A L xs i 4 a4) (A5 : lz_A L xs i 5 a5) (hw : gHw (D, cy, s) τ G H locs) (hST : ST τ x y G) (hl : lv_has ls 7 [(0, .ref b), (1, .ref x), (2, .ref y), (3, .ref o), (4, .int i)]) (hf : cells + 8 ≤ room_1.cells ∧ slots + 48 ≤ room_1.slots) (kk : ∀ (G : gG) (H : Heap) (locs : List Loc) (ls : Array Slot), gHw (D, cy, s) τ G H locs → ST τ x y G → lv_has ls 7 [(0, .ref b), (1, .ref x), (2, .ref y), (3, .ref o), (4, .int i)] → W p l e room_1 s m #[Value.ref b] below meth c H locs (cells + 8) (slots + 48) Q (F0 m 2614 ls [])) : W p l e room_1 s m #[Value.ref b] below meth c H locs cells slots Q (F0 m 635 ls []) := by
  obtain ⟨fx, ⟨hS, hN⟩, ⟨hX, hbl⟩, ⟨hx, hm, ho, hτ⟩, ey, eo, hn⟩ := F
  have h5 : 500 < n := Nat.lt_trans (Nat.le_of_ble_eq_true rfl) hn
  obtain ⟨s1, t1, l1, l2, ω, im, me, ta, fa, hC, hM, hI⟩ := hST
  refine lv_aload_n fx.1 fx.2.1 dL_law__635 rfl (lv_at hl 1 rfl) ?_
  refine lz_rd (j := 1) fx hX hbl hw (lv_at hl 0 rfl) (lv_at hl 4 rfl) A1 dL_law__636 dL_law__637 dL_law__639 rfl dL_law__640 dL_law__641 ?_
  refine lz_rd (j := 2) fx hX hbl hw (lv_at hl 0 rfl) (lv_at hl 4 rfl) A2 dL_law__642 dL_law__643 dL_law__645 rfl dL_law__646 dL_law__647 ?_
  refine lz_rd (j := 3) fx hX hbl hw (lv_at hl 0 rfl) (lv_at hl 4 rfl) A3 dL_law__648 dL_law__649 dL_law__651 rfl dL_law__652 dL_law__653 ?_
  refine lz_rd (j := 4) fx hX hbl hw (lv_at hl 0 rfl) (lv_at hl 4 rfl) A4 dL_law__654 dL_law__655 dL_law__657 rfl dL_law__658 dL_law__659 ?_
  refine lv_aload_n fx.1 fx.2.1 dL_law__660 rfl (lv_at hl 3 rfl) ?_
  obtain ⟨⟨k, G1⟩, h1, ⟨r, G2⟩, h2, e1, e2, hST⟩ := op_bears ey eo hτ h5 hC hM hI a1 a2 a3 a4
  have h1 : f_L_bears τ n x a1 a2 a3 a4 o G = some (k, G1) := h1
  have h2 : f_X11_bears τ n y a1 a2 a3 a4 G1 = some (r, G2) := h2
  have e1 : k = gi G2 11 0 y := e1
  have e2 : k = 0 → gl G2 o 0 = r.toInt64 := e2
  have hST : ST τ x y G2 := hST
  refine g_callSW (As := [.ref x, .int a1, .int a2, .int a3, .int a4, .ref o]) (rest := []) fx hw (c_L_bears l (D, cy, s) τ n hS hN x a1 a2 a3 a4 o G hx ho h1) lsw_bears rfl hl.1 rfl ⟨Nat.le_of_ble_eq_true rfl, Nat.le_of_ble_eq_true rfl⟩ (Nat.le_of_ble_eq_true rfl) ⟨Nat.le_trans (Nat.add_le_add_left (Nat.le_of_ble_eq_true rfl) _) hf.1, Nat.le_trans (Nat.add_le_add_left (Nat.le_of_ble_eq_true rfl) _) hf.2⟩ dL_law__661 (fun H locs hw => ?_)
  refine lv_istore (lv' := [(5, .int k), (0, .ref b), (1, .ref x), (2, .ref y), (3, .ref o), (4, .int i)]) fx.1 fx.2.1 dL_law__664 hl (by decide) rfl (fun ls hl => ?_)
  refine lv_aload_n fx.1 fx.2.1 dL_law__666 rfl (lv_at hl 3 rfl) ?_
  refine lz_rd (j := 1) fx hX hbl hw (lv_at hl 1 rfl) (lv_at hl 5 rfl) A1 dL_law__667 dL_law__668 dL_law__670 rfl dL_law__671 dL_law__672 ?_
  refine lz_rd (j := 2) fx hX hbl hw (lv_at hl 1 rfl) (lv_at hl 5 rfl) A2 dL_law__673 dL_law__674 dL_law__676 rfl dL_law__677 dL_law__678 ?_
  refine lz_rd (j := 3) fx hX hbl hw (lv_at hl 1 rfl) (lv_at hl 5 rfl) A3 dL_law__679 dL_law__680 dL_law__682 rfl dL_law__683 dL_law__684 ?_
  refine lz_rd (j := 4) fx hX hbl hw (lv_at hl 1 rfl) (lv_at hl 5 rfl) A4 dL_law__685 dL_law__686 dL_law__688 rfl dL_law__689 dL_law__690 ?_
  refine g_callV0 (κ := 11) (As := [.int a1, .int a2, .int a3, .int a4]) (rest := []) fx hw (c_X11_bears l (D, cy, s) τ n y a1 a2 a3 a4 G1 hm h2) lv_RL_159 ⟨rfl, rfl⟩ rfl rfl hm rfl hl.1 rfl ⟨Nat.le_of_ble_eq_true rfl, Nat.le_of_ble_eq_true rfl⟩ (Nat.le_of_ble_eq_true rfl) ⟨Nat.le_trans (Nat.add_le_add_left (Nat.le_of_ble_eq_true rfl) _) hf.1, Nat.le_trans (Nat.add_le_add_left (Nat.le_of_ble_eq_true rfl) _) hf.2⟩ dL_law__691 (fun H locs hw => ?_)
  refine lv_istore (lv' := [(6, .int r), (5, .int k), (0, .ref b), (1, .ref x), (2, .ref y), (3, .ref o), (4, .int i)]) fx.1 fx.2.1 dL_law__694 hl (by decide) rfl (fun ls hl => ?_)
  refine lv_aload_n fx.1 fx.2.1 dL_law__696 rfl (lv_at hl 4 rfl) ?_
  refine g_callV0 (κ := 11) (As := []) (rest := []) fx hw (c_X11_thrown l (D, cy, s) τ y G2 hm (r := gi G2 11 0 y) rfl) lv_RL_136 ⟨rfl, rfl⟩ rfl rfl hm rfl hl.1 rfl ⟨Nat.le_of_ble_eq_true rfl, Nat.le_of_ble_eq_true rfl⟩ (Nat.le_of_ble_eq_true rfl) ⟨Nat.le_trans (Nat.add_le_add_left (Nat.le_of_ble_eq_true rfl) _) hf.1, Nat.le_trans (Nat.add_le_add_left (Nat.le_of_ble_eq_true rfl) _) hf.2⟩ dL_law__697 (fun H locs hw => ?_)
  refine lv_iload fx.1 fx.2.1 dL_law__700 (lv_at hl 1 rfl) ?_
  refine lv_icmp_eq (tgt := 707) fx.1 fx.2.1 dL_law__702 (by decide) (fun _ => ?_) (fun h => absurd e1.symm h)
  refine lv_iload fx.1 fx.2.1 dL_law__707 (lv_at hl 1 rfl) ?_
  refine lv_if_ne (tgt := 724) fx.1 fx.2.1 dL_law__709 (by decide) (fun _ => ?_) (fun hk => ?_)
  · refine lv_goto (tgt := 2614) fx.1 fx.2.1 dL_law__724 (by decide) ?_
    refine W.widen (k := cells + 8) (n := slots + 48) (Nat.add_le_add_left (Nat.le_of_ble_eq_true rfl) _) (Nat.add_le_add_left (Nat.le_of_ble_eq_true rfl) _) ?_
    exact kk _ _ _ _ hw hST (lv_sub hl [2, 3, 4, 5, 6] rfl)
  · refine lv_aload_n fx.1 fx.2.1 dL_law__712 rfl (lv_at hl 5 rfl) ?_
    refine lv_iconst (v := 0) fx.1 fx.2.1 dL_law__713 rfl ?_
    refine lz_ld fx hw ho hτ dL_law__714 ?_
    refine lv_iload fx.1 fx.2.1 dL_law__715 (lv_at hl 0 rfl) ?_
    refine lv_i2l (v := r.toInt64) fx.1 fx.2.1 dL_law__717 rfl ?_
    refine W.lcmp fx.1 fx.2.1 dL_law__718 ?_
    rw [lz_cmp (e2 hk)]
    refine lv_if_eq (tgt := 724) fx.1 fx.2.1 dL_law__719 (by decide) (fun _ => ?_) (fun h => absurd rfl h)
    refine lv_goto (tgt := 2614) fx.1 fx.2.1 dL_law__724 (by decide) ?_
    refine W.widen (k := cells + 8) (n := slots + 48) (Nat.add_le_add_left (Nat.le_of_ble_eq_true rfl) _) (Nat.add_le_add_left (Nat.le_of_ble_eq_true rfl) _) ?_
    exact kk _ _ _ _ hw hST (lv_sub hl [2, 3, 4, 5, 6] rfl)
set_option maxHeartbeats 4000000 in
set_option maxRecDepth 100000 in
/-- the law's call 9: thrown -/
theorem lz_9 (F : lz_F D cy p l s m meth c b L xs τ n x y o) {a1 a2 a3 a4 a5 : Int32} (A1 : lz_A L xs i 1 a1) (A2 : lz_A L xs i 2 a2) (A3 : lz_A L xs i 3 a3) (A4 : lz_A L xs i 4 a4) (A5 : lz_A L xs i 5 a5) (hw : gHw (D, cy, s) τ G H locs) (hST : ST τ x y G) (hl : lv_has ls 7 [(0, .ref b), (1, .ref x), (2, .ref y), (3, .ref o), (4, .int i)]) (hf : cells + 8 ≤ room_1.cells ∧ slots + 48 ≤ room_1.slots) (kk : ∀ (G : gG) (H : Heap) (locs : List Loc) (ls : Array Slot), gHw (D, cy, s) τ G H locs → ST τ x y G → lv_has ls 7 [(0, .ref b), (1, .ref x), (2, .ref y), (3, .ref o), (4, .int i)] → W p l e room_1 s m #[Value.ref b] below meth c H locs (cells + 8) (slots + 48) Q (F0 m 2614 ls [])) : W p l e room_1 s m #[Value.ref b] below meth c H locs cells slots Q (F0 m 727 ls []) := by
  obtain ⟨fx, ⟨hS, hN⟩, ⟨hX, hbl⟩, ⟨hx, hm, ho, hτ⟩, ey, eo, hn⟩ := F
  have h5 : 500 < n := Nat.lt_trans (Nat.le_of_ble_eq_true rfl) hn
  obtain ⟨s1, t1, l1, l2, ω, im, me, ta, fa, hC, hM, hI⟩ := hST
  refine lv_aload_n fx.1 fx.2.1 dL_law__727 rfl (lv_at hl 1 rfl) ?_
  refine lz_rd (j := 1) fx hX hbl hw (lv_at hl 0 rfl) (lv_at hl 4 rfl) A1 dL_law__728 dL_law__729 dL_law__731 rfl dL_law__732 dL_law__733 ?_
  refine lz_rd (j := 2) fx hX hbl hw (lv_at hl 0 rfl) (lv_at hl 4 rfl) A2 dL_law__734 dL_law__735 dL_law__737 rfl dL_law__738 dL_law__739 ?_
  refine lz_rd (j := 3) fx hX hbl hw (lv_at hl 0 rfl) (lv_at hl 4 rfl) A3 dL_law__740 dL_law__741 dL_law__743 rfl dL_law__744 dL_law__745 ?_
  refine lz_rd (j := 4) fx hX hbl hw (lv_at hl 0 rfl) (lv_at hl 4 rfl) A4 dL_law__746 dL_law__747 dL_law__749 rfl dL_law__750 dL_law__751 ?_
  refine lv_aload_n fx.1 fx.2.1 dL_law__752 rfl (lv_at hl 3 rfl) ?_
  obtain ⟨⟨k, G1⟩, h1, ⟨r, G2⟩, h2, e1, e2, hST⟩ := op_lay ey eo hτ hn hC hM hI a1 a2 a3 a4
  have h1 : f_L_lay τ n x a1 a2 a3 a4 o G = some (k, G1) := h1
  have h2 : f_X11_lay τ n y a1 a2 a3 a4 G1 = some (r, G2) := h2
  have e1 : k = gi G2 11 0 y := e1
  have e2 : k = 0 → gl G2 o 0 = r.toInt64 := e2
  have hST : ST τ x y G2 := hST
  refine g_callSW (As := [.ref x, .int a1, .int a2, .int a3, .int a4, .ref o]) (rest := []) fx hw (c_L_lay l (D, cy, s) τ n hS hN x a1 a2 a3 a4 o G hx ho h1) lsw_lay rfl hl.1 rfl ⟨Nat.le_of_ble_eq_true rfl, Nat.le_of_ble_eq_true rfl⟩ (Nat.le_of_ble_eq_true rfl) ⟨Nat.le_trans (Nat.add_le_add_left (Nat.le_of_ble_eq_true rfl) _) hf.1, Nat.le_trans (Nat.add_le_add_left (Nat.le_of_ble_eq_true rfl) _) hf.2⟩ dL_law__753 (fun H locs hw => ?_)
  refine lv_istore (lv' := [(5, .int k), (0, .ref b), (1, .ref x), (2, .ref y), (3, .ref o), (4, .int i)]) fx.1 fx.2.1 dL_law__756 hl (by decide) rfl (fun ls hl => ?_)
  refine lv_aload_n fx.1 fx.2.1 dL_law__758 rfl (lv_at hl 3 rfl) ?_
  refine lz_rd (j := 1) fx hX hbl hw (lv_at hl 1 rfl) (lv_at hl 5 rfl) A1 dL_law__759 dL_law__760 dL_law__762 rfl dL_law__763 dL_law__764 ?_
  refine lz_rd (j := 2) fx hX hbl hw (lv_at hl 1 rfl) (lv_at hl 5 rfl) A2 dL_law__765 dL_law__766 dL_law__768 rfl dL_law__769 dL_law__770 ?_
  refine lz_rd (j := 3) fx hX hbl hw (lv_at hl 1 rfl) (lv_at hl 5 rfl) A3 dL_law__771 dL_law__772 dL_law__774 rfl dL_law__775 dL_law__776 ?_
  refine lz_rd (j := 4) fx hX hbl hw (lv_at hl 1 rfl) (lv_at hl 5 rfl) A4 dL_law__777 dL_law__778 dL_law__780 rfl dL_law__781 dL_law__782 ?_
  refine g_callV0 (κ := 11) (As := [.int a1, .int a2, .int a3, .int a4]) (rest := []) fx hw (c_X11_lay l (D, cy, s) τ n y a1 a2 a3 a4 G1 hm h2) lv_RL_162 ⟨rfl, rfl⟩ rfl rfl hm rfl hl.1 rfl ⟨Nat.le_of_ble_eq_true rfl, Nat.le_of_ble_eq_true rfl⟩ (Nat.le_of_ble_eq_true rfl) ⟨Nat.le_trans (Nat.add_le_add_left (Nat.le_of_ble_eq_true rfl) _) hf.1, Nat.le_trans (Nat.add_le_add_left (Nat.le_of_ble_eq_true rfl) _) hf.2⟩ dL_law__783 (fun H locs hw => ?_)
  refine lv_istore (lv' := [(6, .int r), (5, .int k), (0, .ref b), (1, .ref x), (2, .ref y), (3, .ref o), (4, .int i)]) fx.1 fx.2.1 dL_law__786 hl (by decide) rfl (fun ls hl => ?_)
  refine lv_aload_n fx.1 fx.2.1 dL_law__788 rfl (lv_at hl 4 rfl) ?_
  refine g_callV0 (κ := 11) (As := []) (rest := []) fx hw (c_X11_thrown l (D, cy, s) τ y G2 hm (r := gi G2 11 0 y) rfl) lv_RL_136 ⟨rfl, rfl⟩ rfl rfl hm rfl hl.1 rfl ⟨Nat.le_of_ble_eq_true rfl, Nat.le_of_ble_eq_true rfl⟩ (Nat.le_of_ble_eq_true rfl) ⟨Nat.le_trans (Nat.add_le_add_left (Nat.le_of_ble_eq_true rfl) _) hf.1, Nat.le_trans (Nat.add_le_add_left (Nat.le_of_ble_eq_true rfl) _) hf.2⟩ dL_law__789 (fun H locs hw => ?_)
  refine lv_iload fx.1 fx.2.1 dL_law__792 (lv_at hl 1 rfl) ?_
  refine lv_icmp_eq (tgt := 799) fx.1 fx.2.1 dL_law__794 (by decide) (fun _ => ?_) (fun h => absurd e1.symm h)
  refine lv_iload fx.1 fx.2.1 dL_law__799 (lv_at hl 1 rfl) ?_
  refine lv_if_ne (tgt := 816) fx.1 fx.2.1 dL_law__801 (by decide) (fun _ => ?_) (fun hk => ?_)
  · refine lv_goto (tgt := 2614) fx.1 fx.2.1 dL_law__816 (by decide) ?_
    refine W.widen (k := cells + 8) (n := slots + 48) (Nat.add_le_add_left (Nat.le_of_ble_eq_true rfl) _) (Nat.add_le_add_left (Nat.le_of_ble_eq_true rfl) _) ?_
    exact kk _ _ _ _ hw hST (lv_sub hl [2, 3, 4, 5, 6] rfl)
  · refine lv_aload_n fx.1 fx.2.1 dL_law__804 rfl (lv_at hl 5 rfl) ?_
    refine lv_iconst (v := 0) fx.1 fx.2.1 dL_law__805 rfl ?_
    refine lz_ld fx hw ho hτ dL_law__806 ?_
    refine lv_iload fx.1 fx.2.1 dL_law__807 (lv_at hl 0 rfl) ?_
    refine lv_i2l (v := r.toInt64) fx.1 fx.2.1 dL_law__809 rfl ?_
    refine W.lcmp fx.1 fx.2.1 dL_law__810 ?_
    rw [lz_cmp (e2 hk)]
    refine lv_if_eq (tgt := 816) fx.1 fx.2.1 dL_law__811 (by decide) (fun _ => ?_) (fun h => absurd rfl h)
    refine lv_goto (tgt := 2614) fx.1 fx.2.1 dL_law__816 (by decide) ?_
    refine W.widen (k := cells + 8) (n := slots + 48) (Nat.add_le_add_left (Nat.le_of_ble_eq_true rfl) _) (Nat.add_le_add_left (Nat.le_of_ble_eq_true rfl) _) ?_
    exact kk _ _ _ _ hw hST (lv_sub hl [2, 3, 4, 5, 6] rfl)
set_option maxHeartbeats 4000000 in
set_option maxRecDepth 100000 in
/-- the law's call 10: thrown -/
theorem lz_10 (F : lz_F D cy p l s m meth c b L xs τ n x y o) {a1 a2 a3 a4 a5 : Int32} (A1 : lz_A L xs i 1 a1) (A2 : lz_A L xs i 2 a2) (A3 : lz_A L xs i 3 a3) (A4 : lz_A L xs i 4 a4) (A5 : lz_A L xs i 5 a5) (hw : gHw (D, cy, s) τ G H locs) (hST : ST τ x y G) (hl : lv_has ls 7 [(0, .ref b), (1, .ref x), (2, .ref y), (3, .ref o), (4, .int i)]) (hf : cells + 8 ≤ room_1.cells ∧ slots + 48 ≤ room_1.slots) (kk : ∀ (G : gG) (H : Heap) (locs : List Loc) (ls : Array Slot), gHw (D, cy, s) τ G H locs → ST τ x y G → lv_has ls 7 [(0, .ref b), (1, .ref x), (2, .ref y), (3, .ref o), (4, .int i)] → W p l e room_1 s m #[Value.ref b] below meth c H locs (cells + 8) (slots + 48) Q (F0 m 2614 ls [])) : W p l e room_1 s m #[Value.ref b] below meth c H locs cells slots Q (F0 m 819 ls []) := by
  obtain ⟨fx, ⟨hS, hN⟩, ⟨hX, hbl⟩, ⟨hx, hm, ho, hτ⟩, ey, eo, hn⟩ := F
  have h5 : 500 < n := Nat.lt_trans (Nat.le_of_ble_eq_true rfl) hn
  obtain ⟨s1, t1, l1, l2, ω, im, me, ta, fa, hC, hM, hI⟩ := hST
  refine lv_aload_n fx.1 fx.2.1 dL_law__819 rfl (lv_at hl 1 rfl) ?_
  refine lz_rd (j := 1) fx hX hbl hw (lv_at hl 0 rfl) (lv_at hl 4 rfl) A1 dL_law__820 dL_law__821 dL_law__823 rfl dL_law__824 dL_law__825 ?_
  refine lv_aload_n fx.1 fx.2.1 dL_law__826 rfl (lv_at hl 3 rfl) ?_
  obtain ⟨⟨k, G1⟩, h1, ⟨r, G2⟩, h2, e1, e2, hST⟩ := op_tar ey eo hτ hn hC hM hI a1
  have h1 : f_L_tar τ n x a1 o G = some (k, G1) := h1
  have h2 : f_X11_tar τ n y a1 G1 = some (r, G2) := h2
  have e1 : k = gi G2 11 0 y := e1
  have e2 : k = 0 → gl G2 o 0 = r.toInt64 := e2
  have hST : ST τ x y G2 := hST
  refine g_callSW (As := [.ref x, .int a1, .ref o]) (rest := []) fx hw (c_L_tar l (D, cy, s) τ n hS hN x a1 o G hx ho h1) lsw_tar rfl hl.1 rfl ⟨Nat.le_of_ble_eq_true rfl, Nat.le_of_ble_eq_true rfl⟩ (Nat.le_of_ble_eq_true rfl) ⟨Nat.le_trans (Nat.add_le_add_left (Nat.le_of_ble_eq_true rfl) _) hf.1, Nat.le_trans (Nat.add_le_add_left (Nat.le_of_ble_eq_true rfl) _) hf.2⟩ dL_law__827 (fun H locs hw => ?_)
  refine lv_istore (lv' := [(5, .int k), (0, .ref b), (1, .ref x), (2, .ref y), (3, .ref o), (4, .int i)]) fx.1 fx.2.1 dL_law__830 hl (by decide) rfl (fun ls hl => ?_)
  refine lv_aload_n fx.1 fx.2.1 dL_law__832 rfl (lv_at hl 3 rfl) ?_
  refine lz_rd (j := 1) fx hX hbl hw (lv_at hl 1 rfl) (lv_at hl 5 rfl) A1 dL_law__833 dL_law__834 dL_law__836 rfl dL_law__837 dL_law__838 ?_
  refine g_callV0 (κ := 11) (As := [.int a1]) (rest := []) fx hw (c_X11_tar l (D, cy, s) τ n y a1 G1 hm h2) lv_RL_166 ⟨rfl, rfl⟩ rfl rfl hm rfl hl.1 rfl ⟨Nat.le_of_ble_eq_true rfl, Nat.le_of_ble_eq_true rfl⟩ (Nat.le_of_ble_eq_true rfl) ⟨Nat.le_trans (Nat.add_le_add_left (Nat.le_of_ble_eq_true rfl) _) hf.1, Nat.le_trans (Nat.add_le_add_left (Nat.le_of_ble_eq_true rfl) _) hf.2⟩ dL_law__839 (fun H locs hw => ?_)
  refine lv_istore (lv' := [(6, .int r), (5, .int k), (0, .ref b), (1, .ref x), (2, .ref y), (3, .ref o), (4, .int i)]) fx.1 fx.2.1 dL_law__842 hl (by decide) rfl (fun ls hl => ?_)
  refine lv_aload_n fx.1 fx.2.1 dL_law__844 rfl (lv_at hl 4 rfl) ?_
  refine g_callV0 (κ := 11) (As := []) (rest := []) fx hw (c_X11_thrown l (D, cy, s) τ y G2 hm (r := gi G2 11 0 y) rfl) lv_RL_136 ⟨rfl, rfl⟩ rfl rfl hm rfl hl.1 rfl ⟨Nat.le_of_ble_eq_true rfl, Nat.le_of_ble_eq_true rfl⟩ (Nat.le_of_ble_eq_true rfl) ⟨Nat.le_trans (Nat.add_le_add_left (Nat.le_of_ble_eq_true rfl) _) hf.1, Nat.le_trans (Nat.add_le_add_left (Nat.le_of_ble_eq_true rfl) _) hf.2⟩ dL_law__845 (fun H locs hw => ?_)
  refine lv_iload fx.1 fx.2.1 dL_law__848 (lv_at hl 1 rfl) ?_
  refine lv_icmp_eq (tgt := 855) fx.1 fx.2.1 dL_law__850 (by decide) (fun _ => ?_) (fun h => absurd e1.symm h)
  refine lv_iload fx.1 fx.2.1 dL_law__855 (lv_at hl 1 rfl) ?_
  refine lv_if_ne (tgt := 872) fx.1 fx.2.1 dL_law__857 (by decide) (fun _ => ?_) (fun hk => ?_)
  · refine lv_goto (tgt := 2614) fx.1 fx.2.1 dL_law__872 (by decide) ?_
    refine W.widen (k := cells + 8) (n := slots + 48) (Nat.add_le_add_left (Nat.le_of_ble_eq_true rfl) _) (Nat.add_le_add_left (Nat.le_of_ble_eq_true rfl) _) ?_
    exact kk _ _ _ _ hw hST (lv_sub hl [2, 3, 4, 5, 6] rfl)
  · refine lv_aload_n fx.1 fx.2.1 dL_law__860 rfl (lv_at hl 5 rfl) ?_
    refine lv_iconst (v := 0) fx.1 fx.2.1 dL_law__861 rfl ?_
    refine lz_ld fx hw ho hτ dL_law__862 ?_
    refine lv_iload fx.1 fx.2.1 dL_law__863 (lv_at hl 0 rfl) ?_
    refine lv_i2l (v := r.toInt64) fx.1 fx.2.1 dL_law__865 rfl ?_
    refine W.lcmp fx.1 fx.2.1 dL_law__866 ?_
    rw [lz_cmp (e2 hk)]
    refine lv_if_eq (tgt := 872) fx.1 fx.2.1 dL_law__867 (by decide) (fun _ => ?_) (fun h => absurd rfl h)
    refine lv_goto (tgt := 2614) fx.1 fx.2.1 dL_law__872 (by decide) ?_
    refine W.widen (k := cells + 8) (n := slots + 48) (Nat.add_le_add_left (Nat.le_of_ble_eq_true rfl) _) (Nat.add_le_add_left (Nat.le_of_ble_eq_true rfl) _) ?_
    exact kk _ _ _ _ hw hST (lv_sub hl [2, 3, 4, 5, 6] rfl)
end
