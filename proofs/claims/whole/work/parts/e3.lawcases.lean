section
variable {D : va_G} {cy : Nat → ClassId} {p : Program} {l : Launch} {e : Env} {s : State} {m : MethodId} {below : List Frame} {meth : Method} {c : Code} {b L : Nat} {xs : Nat → Int32} {τ : gτ} {n x y o : Nat} {G : gG} {H : Heap} {locs : List Loc} {ls : Array Slot} {cells slots : Nat} {Q : State → Prop} {i : Int32}
set_option maxHeartbeats 4000000 in
set_option maxRecDepth 100000 in
/-- the law's call 33: loose -/
theorem lz_33 (F : lz_F D cy p l s m meth c b L xs τ n x y o) {a1 a2 a3 a4 a5 : Int32} (A1 : lz_A L xs i 1 a1) (A2 : lz_A L xs i 2 a2) (A3 : lz_A L xs i 3 a3) (A4 : lz_A L xs i 4 a4) (A5 : lz_A L xs i 5 a5) (hw : gHw (D, cy, s) τ G H locs) (hST : ST τ x y G) (hl : lv_has ls 7 [(0, .ref b), (1, .ref x), (2, .ref y), (3, .ref o), (4, .int i)]) (hf : cells + 8 ≤ room_1.cells ∧ slots + 48 ≤ room_1.slots) (kk : ∀ (G : gG) (H : Heap) (locs : List Loc) (ls : Array Slot), gHw (D, cy, s) τ G H locs → ST τ x y G → lv_has ls 7 [(0, .ref b), (1, .ref x), (2, .ref y), (3, .ref o), (4, .int i)] → W p l e room_1 s m #[Value.ref b] below meth c H locs (cells + 8) (slots + 48) Q (F0 m 2614 ls [])) : W p l e room_1 s m #[Value.ref b] below meth c H locs cells slots Q (F0 m 2138 ls []) := by
  obtain ⟨fx, ⟨hS, hN⟩, ⟨hX, hbl⟩, ⟨hx, hm, ho, hτ⟩, ey, eo, hn⟩ := F
  have h5 : 500 < n := Nat.lt_trans (Nat.le_of_ble_eq_true rfl) hn
  obtain ⟨s1, t1, l1, l2, ω, im, me, ta, fa, hC, hM, hI⟩ := hST
  refine lv_aload_n fx.1 fx.2.1 dL_law__2138 rfl (lv_at hl 1 rfl) ?_
  obtain ⟨v, h1, ⟨r, G2⟩, h2, e1, hST⟩ := op_loose ey h5 hC hM hI 
  have h2 : f_X11_loose τ n y G = some (r, G2) := h2
  have e1 : v = r := e1
  have hST : ST τ x y G2 := hST
  refine g_callV0 (κ := 10) (As := []) (rest := []) fx hw (c_X10_loose l (D, cy, s) τ n x G hx h1) lv_RL_241 ⟨rfl, rfl⟩ rfl rfl hx rfl hl.1 rfl ⟨Nat.le_of_ble_eq_true rfl, Nat.le_of_ble_eq_true rfl⟩ (Nat.le_of_ble_eq_true rfl) ⟨Nat.le_trans (Nat.le_add_right _ _) hf.1, Nat.le_trans (Nat.le_add_right _ _) hf.2⟩ dL_law__2139 (fun H locs hw => ?_)
  refine lv_aload_n fx.1 fx.2.1 dL_law__2142 rfl (lv_at hl 2 rfl) ?_
  refine g_callV0 (κ := 11) (As := []) (rest := [.int v]) fx hw (c_X11_loose l (D, cy, s) τ n y G hm h2) lv_RL_244 ⟨rfl, rfl⟩ rfl rfl hm rfl hl.1 rfl ⟨Nat.le_of_ble_eq_true rfl, Nat.le_of_ble_eq_true rfl⟩ (Nat.le_of_ble_eq_true rfl) ⟨Nat.le_trans (Nat.le_add_right _ _) hf.1, Nat.le_trans (Nat.le_add_right _ _) hf.2⟩ dL_law__2143 (fun H locs hw => ?_)
  refine lv_icmp_eq (tgt := 2614) fx.1 fx.2.1 dL_law__2146 (by decide) (fun _ => ?_) (fun h => absurd e1 h)
  refine W.widen (k := cells + 8) (n := slots + 48) (Nat.le_add_right _ _) (Nat.le_add_right _ _) ?_
  exact kk _ _ _ _ hw hST (lv_sub hl [0, 1, 2, 3, 4] rfl)
set_option maxHeartbeats 4000000 in
set_option maxRecDepth 100000 in
/-- the law's call 34: thrown -/
theorem lz_34 (F : lz_F D cy p l s m meth c b L xs τ n x y o) {a1 a2 a3 a4 a5 : Int32} (A1 : lz_A L xs i 1 a1) (A2 : lz_A L xs i 2 a2) (A3 : lz_A L xs i 3 a3) (A4 : lz_A L xs i 4 a4) (A5 : lz_A L xs i 5 a5) (hw : gHw (D, cy, s) τ G H locs) (hST : ST τ x y G) (hl : lv_has ls 7 [(0, .ref b), (1, .ref x), (2, .ref y), (3, .ref o), (4, .int i)]) (hf : cells + 8 ≤ room_1.cells ∧ slots + 48 ≤ room_1.slots) (kk : ∀ (G : gG) (H : Heap) (locs : List Loc) (ls : Array Slot), gHw (D, cy, s) τ G H locs → ST τ x y G → lv_has ls 7 [(0, .ref b), (1, .ref x), (2, .ref y), (3, .ref o), (4, .int i)] → W p l e room_1 s m #[Value.ref b] below meth c H locs (cells + 8) (slots + 48) Q (F0 m 2614 ls [])) : W p l e room_1 s m #[Value.ref b] below meth c H locs cells slots Q (F0 m 2151 ls []) := by
  obtain ⟨fx, ⟨hS, hN⟩, ⟨hX, hbl⟩, ⟨hx, hm, ho, hτ⟩, ey, eo, hn⟩ := F
  have h5 : 500 < n := Nat.lt_trans (Nat.le_of_ble_eq_true rfl) hn
  obtain ⟨s1, t1, l1, l2, ω, im, me, ta, fa, hC, hM, hI⟩ := hST
  refine lv_aload_n fx.1 fx.2.1 dL_law__2151 rfl (lv_at hl 1 rfl) ?_
  refine lz_rd (j := 1) fx hX hbl hw (lv_at hl 0 rfl) (lv_at hl 4 rfl) A1 dL_law__2152 dL_law__2153 dL_law__2155 rfl dL_law__2156 dL_law__2157 ?_
  refine lv_aload_n fx.1 fx.2.1 dL_law__2158 rfl (lv_at hl 3 rfl) ?_
  obtain ⟨⟨k, G1⟩, h1, ⟨r, G2⟩, h2, e1, e2, hST⟩ := op_lasts ey eo hτ hn hC hM hI a1
  have h1 : f_L_lasts τ n x a1 o G = some (k, G1) := h1
  have h2 : f_X11_lasts τ n y a1 G1 = some (r, G2) := h2
  have e1 : k = gi G2 11 0 y := e1
  have e2 : k = 0 → gl G2 o 0 = r.toInt64 := e2
  have hST : ST τ x y G2 := hST
  refine g_callSW (As := [.ref x, .int a1, .ref o]) (rest := []) fx hw (c_L_lasts l (D, cy, s) τ n hS hN x a1 o G hx ho h1) lsw_lasts rfl hl.1 rfl ⟨Nat.le_of_ble_eq_true rfl, Nat.le_of_ble_eq_true rfl⟩ (Nat.le_of_ble_eq_true rfl) ⟨Nat.le_trans (Nat.add_le_add_left (Nat.le_of_ble_eq_true rfl) _) hf.1, Nat.le_trans (Nat.add_le_add_left (Nat.le_of_ble_eq_true rfl) _) hf.2⟩ dL_law__2159 (fun H locs hw => ?_)
  refine lv_istore (lv' := [(5, .int k), (0, .ref b), (1, .ref x), (2, .ref y), (3, .ref o), (4, .int i)]) fx.1 fx.2.1 dL_law__2162 hl (by decide) rfl (fun ls hl => ?_)
  refine lv_aload_n fx.1 fx.2.1 dL_law__2164 rfl (lv_at hl 3 rfl) ?_
  refine lz_rd (j := 1) fx hX hbl hw (lv_at hl 1 rfl) (lv_at hl 5 rfl) A1 dL_law__2165 dL_law__2166 dL_law__2168 rfl dL_law__2169 dL_law__2170 ?_
  refine g_callV0 (κ := 11) (As := [.int a1]) (rest := []) fx hw (c_X11_lasts l (D, cy, s) τ n y a1 G1 hm h2) lv_RL_247 ⟨rfl, rfl⟩ rfl rfl hm rfl hl.1 rfl ⟨Nat.le_of_ble_eq_true rfl, Nat.le_of_ble_eq_true rfl⟩ (Nat.le_of_ble_eq_true rfl) ⟨Nat.le_trans (Nat.add_le_add_left (Nat.le_of_ble_eq_true rfl) _) hf.1, Nat.le_trans (Nat.add_le_add_left (Nat.le_of_ble_eq_true rfl) _) hf.2⟩ dL_law__2171 (fun H locs hw => ?_)
  refine lv_istore (lv' := [(6, .int r), (5, .int k), (0, .ref b), (1, .ref x), (2, .ref y), (3, .ref o), (4, .int i)]) fx.1 fx.2.1 dL_law__2174 hl (by decide) rfl (fun ls hl => ?_)
  refine lv_aload_n fx.1 fx.2.1 dL_law__2176 rfl (lv_at hl 4 rfl) ?_
  refine g_callV0 (κ := 11) (As := []) (rest := []) fx hw (c_X11_thrown l (D, cy, s) τ y G2 hm (r := gi G2 11 0 y) rfl) lv_RL_136 ⟨rfl, rfl⟩ rfl rfl hm rfl hl.1 rfl ⟨Nat.le_of_ble_eq_true rfl, Nat.le_of_ble_eq_true rfl⟩ (Nat.le_of_ble_eq_true rfl) ⟨Nat.le_trans (Nat.add_le_add_left (Nat.le_of_ble_eq_true rfl) _) hf.1, Nat.le_trans (Nat.add_le_add_left (Nat.le_of_ble_eq_true rfl) _) hf.2⟩ dL_law__2177 (fun H locs hw => ?_)
  refine lv_iload fx.1 fx.2.1 dL_law__2180 (lv_at hl 1 rfl) ?_
  refine lv_icmp_eq (tgt := 2187) fx.1 fx.2.1 dL_law__2182 (by decide) (fun _ => ?_) (fun h => absurd e1.symm h)
  refine lv_iload fx.1 fx.2.1 dL_law__2187 (lv_at hl 1 rfl) ?_
  refine lv_if_ne (tgt := 2204) fx.1 fx.2.1 dL_law__2189 (by decide) (fun _ => ?_) (fun hk => ?_)
  · refine lv_goto (tgt := 2614) fx.1 fx.2.1 dL_law__2204 (by decide) ?_
    refine W.widen (k := cells + 8) (n := slots + 48) (Nat.add_le_add_left (Nat.le_of_ble_eq_true rfl) _) (Nat.add_le_add_left (Nat.le_of_ble_eq_true rfl) _) ?_
    exact kk _ _ _ _ hw hST (lv_sub hl [2, 3, 4, 5, 6] rfl)
  · refine lv_aload_n fx.1 fx.2.1 dL_law__2192 rfl (lv_at hl 5 rfl) ?_
    refine lv_iconst (v := 0) fx.1 fx.2.1 dL_law__2193 rfl ?_
    refine lz_ld fx hw ho hτ dL_law__2194 ?_
    refine lv_iload fx.1 fx.2.1 dL_law__2195 (lv_at hl 0 rfl) ?_
    refine lv_i2l (v := r.toInt64) fx.1 fx.2.1 dL_law__2197 rfl ?_
    refine W.lcmp fx.1 fx.2.1 dL_law__2198 ?_
    rw [lz_cmp (e2 hk)]
    refine lv_if_eq (tgt := 2204) fx.1 fx.2.1 dL_law__2199 (by decide) (fun _ => ?_) (fun h => absurd rfl h)
    refine lv_goto (tgt := 2614) fx.1 fx.2.1 dL_law__2204 (by decide) ?_
    refine W.widen (k := cells + 8) (n := slots + 48) (Nat.add_le_add_left (Nat.le_of_ble_eq_true rfl) _) (Nat.add_le_add_left (Nat.le_of_ble_eq_true rfl) _) ?_
    exact kk _ _ _ _ hw hST (lv_sub hl [2, 3, 4, 5, 6] rfl)
set_option maxHeartbeats 4000000 in
set_option maxRecDepth 100000 in
/-- the law's call 35: thrown -/
theorem lz_35 (F : lz_F D cy p l s m meth c b L xs τ n x y o) {a1 a2 a3 a4 a5 : Int32} (A1 : lz_A L xs i 1 a1) (A2 : lz_A L xs i 2 a2) (A3 : lz_A L xs i 3 a3) (A4 : lz_A L xs i 4 a4) (A5 : lz_A L xs i 5 a5) (hw : gHw (D, cy, s) τ G H locs) (hST : ST τ x y G) (hl : lv_has ls 7 [(0, .ref b), (1, .ref x), (2, .ref y), (3, .ref o), (4, .int i)]) (hf : cells + 8 ≤ room_1.cells ∧ slots + 48 ≤ room_1.slots) (kk : ∀ (G : gG) (H : Heap) (locs : List Loc) (ls : Array Slot), gHw (D, cy, s) τ G H locs → ST τ x y G → lv_has ls 7 [(0, .ref b), (1, .ref x), (2, .ref y), (3, .ref o), (4, .int i)] → W p l e room_1 s m #[Value.ref b] below meth c H locs (cells + 8) (slots + 48) Q (F0 m 2614 ls [])) : W p l e room_1 s m #[Value.ref b] below meth c H locs cells slots Q (F0 m 2207 ls []) := by
  obtain ⟨fx, ⟨hS, hN⟩, ⟨hX, hbl⟩, ⟨hx, hm, ho, hτ⟩, ey, eo, hn⟩ := F
  have h5 : 500 < n := Nat.lt_trans (Nat.le_of_ble_eq_true rfl) hn
  obtain ⟨s1, t1, l1, l2, ω, im, me, ta, fa, hC, hM, hI⟩ := hST
  refine lv_aload_n fx.1 fx.2.1 dL_law__2207 rfl (lv_at hl 1 rfl) ?_
  refine lz_rd (j := 1) fx hX hbl hw (lv_at hl 0 rfl) (lv_at hl 4 rfl) A1 dL_law__2208 dL_law__2209 dL_law__2211 rfl dL_law__2212 dL_law__2213 ?_
  refine lz_rd (j := 2) fx hX hbl hw (lv_at hl 0 rfl) (lv_at hl 4 rfl) A2 dL_law__2214 dL_law__2215 dL_law__2217 rfl dL_law__2218 dL_law__2219 ?_
  refine lz_bl fx dL_law__2220 dL_law__2223 dL_law__2224 dL_law__2227 ?_
  refine lv_aload_n fx.1 fx.2.1 dL_law__2228 rfl (lv_at hl 3 rfl) ?_
  obtain ⟨⟨k, G1⟩, h1, ⟨r, G2⟩, h2, e1, e2, hST⟩ := op_trial ey eo hτ h5 hC hM hI a1 (lz_b a2)
  have h1 : f_L_trial τ n x a1 (lz_b a2) o G = some (k, G1) := h1
  have h2 : f_X11_trial τ n y a1 (lz_b a2) G1 = some (r, G2) := h2
  have e1 : k = gi G2 11 0 y := e1
  have e2 : k = 0 → gl G2 o 0 = r.toInt64 := e2
  have hST : ST τ x y G2 := hST
  refine g_callSW (As := [.ref x, .int a1, .int (lz_b a2), .ref o]) (rest := []) fx hw (c_L_trial l (D, cy, s) τ n hS hN x a1 (lz_b a2) o G hx ho h1) lsw_trial rfl hl.1 rfl ⟨Nat.le_of_ble_eq_true rfl, Nat.le_of_ble_eq_true rfl⟩ (Nat.le_of_ble_eq_true rfl) ⟨Nat.le_trans (Nat.add_le_add_left (Nat.le_of_ble_eq_true rfl) _) hf.1, Nat.le_trans (Nat.add_le_add_left (Nat.le_of_ble_eq_true rfl) _) hf.2⟩ dL_law__2229 (fun H locs hw => ?_)
  refine lv_istore (lv' := [(5, .int k), (0, .ref b), (1, .ref x), (2, .ref y), (3, .ref o), (4, .int i)]) fx.1 fx.2.1 dL_law__2232 hl (by decide) rfl (fun ls hl => ?_)
  refine lv_aload_n fx.1 fx.2.1 dL_law__2234 rfl (lv_at hl 3 rfl) ?_
  refine lz_rd (j := 1) fx hX hbl hw (lv_at hl 1 rfl) (lv_at hl 5 rfl) A1 dL_law__2235 dL_law__2236 dL_law__2238 rfl dL_law__2239 dL_law__2240 ?_
  refine lz_rd (j := 2) fx hX hbl hw (lv_at hl 1 rfl) (lv_at hl 5 rfl) A2 dL_law__2241 dL_law__2242 dL_law__2244 rfl dL_law__2245 dL_law__2246 ?_
  refine lz_bl fx dL_law__2247 dL_law__2250 dL_law__2251 dL_law__2254 ?_
  refine g_callV0 (κ := 11) (As := [.int a1, .int (lz_b a2)]) (rest := []) fx hw (c_X11_trial l (D, cy, s) τ n y a1 (lz_b a2) G1 hm h2) lv_RL_250 ⟨rfl, rfl⟩ rfl rfl hm rfl hl.1 rfl ⟨Nat.le_of_ble_eq_true rfl, Nat.le_of_ble_eq_true rfl⟩ (Nat.le_of_ble_eq_true rfl) ⟨Nat.le_trans (Nat.add_le_add_left (Nat.le_of_ble_eq_true rfl) _) hf.1, Nat.le_trans (Nat.add_le_add_left (Nat.le_of_ble_eq_true rfl) _) hf.2⟩ dL_law__2255 (fun H locs hw => ?_)
  refine lv_istore (lv' := [(6, .int r), (5, .int k), (0, .ref b), (1, .ref x), (2, .ref y), (3, .ref o), (4, .int i)]) fx.1 fx.2.1 dL_law__2258 hl (by decide) rfl (fun ls hl => ?_)
  refine lv_aload_n fx.1 fx.2.1 dL_law__2260 rfl (lv_at hl 4 rfl) ?_
  refine g_callV0 (κ := 11) (As := []) (rest := []) fx hw (c_X11_thrown l (D, cy, s) τ y G2 hm (r := gi G2 11 0 y) rfl) lv_RL_136 ⟨rfl, rfl⟩ rfl rfl hm rfl hl.1 rfl ⟨Nat.le_of_ble_eq_true rfl, Nat.le_of_ble_eq_true rfl⟩ (Nat.le_of_ble_eq_true rfl) ⟨Nat.le_trans (Nat.add_le_add_left (Nat.le_of_ble_eq_true rfl) _) hf.1, Nat.le_trans (Nat.add_le_add_left (Nat.le_of_ble_eq_true rfl) _) hf.2⟩ dL_law__2261 (fun H locs hw => ?_)
  refine lv_iload fx.1 fx.2.1 dL_law__2264 (lv_at hl 1 rfl) ?_
  refine lv_icmp_eq (tgt := 2271) fx.1 fx.2.1 dL_law__2266 (by decide) (fun _ => ?_) (fun h => absurd e1.symm h)
  refine lv_iload fx.1 fx.2.1 dL_law__2271 (lv_at hl 1 rfl) ?_
  refine lv_if_ne (tgt := 2288) fx.1 fx.2.1 dL_law__2273 (by decide) (fun _ => ?_) (fun hk => ?_)
  · refine lv_goto (tgt := 2614) fx.1 fx.2.1 dL_law__2288 (by decide) ?_
    refine W.widen (k := cells + 8) (n := slots + 48) (Nat.add_le_add_left (Nat.le_of_ble_eq_true rfl) _) (Nat.add_le_add_left (Nat.le_of_ble_eq_true rfl) _) ?_
    exact kk _ _ _ _ hw hST (lv_sub hl [2, 3, 4, 5, 6] rfl)
  · refine lv_aload_n fx.1 fx.2.1 dL_law__2276 rfl (lv_at hl 5 rfl) ?_
    refine lv_iconst (v := 0) fx.1 fx.2.1 dL_law__2277 rfl ?_
    refine lz_ld fx hw ho hτ dL_law__2278 ?_
    refine lv_iload fx.1 fx.2.1 dL_law__2279 (lv_at hl 0 rfl) ?_
    refine lv_i2l (v := r.toInt64) fx.1 fx.2.1 dL_law__2281 rfl ?_
    refine W.lcmp fx.1 fx.2.1 dL_law__2282 ?_
    rw [lz_cmp (e2 hk)]
    refine lv_if_eq (tgt := 2288) fx.1 fx.2.1 dL_law__2283 (by decide) (fun _ => ?_) (fun h => absurd rfl h)
    refine lv_goto (tgt := 2614) fx.1 fx.2.1 dL_law__2288 (by decide) ?_
    refine W.widen (k := cells + 8) (n := slots + 48) (Nat.add_le_add_left (Nat.le_of_ble_eq_true rfl) _) (Nat.add_le_add_left (Nat.le_of_ble_eq_true rfl) _) ?_
    exact kk _ _ _ _ hw hST (lv_sub hl [2, 3, 4, 5, 6] rfl)
set_option maxHeartbeats 4000000 in
set_option maxRecDepth 100000 in
/-- the law's call 36: thrown -/
theorem lz_36 (F : lz_F D cy p l s m meth c b L xs τ n x y o) {a1 a2 a3 a4 a5 : Int32} (A1 : lz_A L xs i 1 a1) (A2 : lz_A L xs i 2 a2) (A3 : lz_A L xs i 3 a3) (A4 : lz_A L xs i 4 a4) (A5 : lz_A L xs i 5 a5) (hw : gHw (D, cy, s) τ G H locs) (hST : ST τ x y G) (hl : lv_has ls 7 [(0, .ref b), (1, .ref x), (2, .ref y), (3, .ref o), (4, .int i)]) (hf : cells + 8 ≤ room_1.cells ∧ slots + 48 ≤ room_1.slots) (kk : ∀ (G : gG) (H : Heap) (locs : List Loc) (ls : Array Slot), gHw (D, cy, s) τ G H locs → ST τ x y G → lv_has ls 7 [(0, .ref b), (1, .ref x), (2, .ref y), (3, .ref o), (4, .int i)] → W p l e room_1 s m #[Value.ref b] below meth c H locs (cells + 8) (slots + 48) Q (F0 m 2614 ls [])) : W p l e room_1 s m #[Value.ref b] below meth c H locs cells slots Q (F0 m 2291 ls []) := by
  obtain ⟨fx, ⟨hS, hN⟩, ⟨hX, hbl⟩, ⟨hx, hm, ho, hτ⟩, ey, eo, hn⟩ := F
  have h5 : 500 < n := Nat.lt_trans (Nat.le_of_ble_eq_true rfl) hn
  obtain ⟨s1, t1, l1, l2, ω, im, me, ta, fa, hC, hM, hI⟩ := hST
  refine lv_aload_n fx.1 fx.2.1 dL_law__2291 rfl (lv_at hl 1 rfl) ?_
  refine lz_rd (j := 1) fx hX hbl hw (lv_at hl 0 rfl) (lv_at hl 4 rfl) A1 dL_law__2292 dL_law__2293 dL_law__2295 rfl dL_law__2296 dL_law__2297 ?_
  refine lz_rd (j := 2) fx hX hbl hw (lv_at hl 0 rfl) (lv_at hl 4 rfl) A2 dL_law__2298 dL_law__2299 dL_law__2301 rfl dL_law__2302 dL_law__2303 ?_
  refine lz_bl fx dL_law__2304 dL_law__2307 dL_law__2308 dL_law__2311 ?_
  refine lv_aload_n fx.1 fx.2.1 dL_law__2312 rfl (lv_at hl 3 rfl) ?_
  obtain ⟨⟨k, G1⟩, h1, ⟨r, G2⟩, h2, e1, e2, hST⟩ := op_span ey eo hτ h5 hC hM hI a1 (lz_b a2)
  have h1 : f_L_span τ n x a1 (lz_b a2) o G = some (k, G1) := h1
  have h2 : f_X11_span τ n y a1 (lz_b a2) G1 = some (r, G2) := h2
  have e1 : k = gi G2 11 0 y := e1
  have e2 : k = 0 → gl G2 o 0 = r.toInt64 := e2
  have hST : ST τ x y G2 := hST
  refine g_callSW (As := [.ref x, .int a1, .int (lz_b a2), .ref o]) (rest := []) fx hw (c_L_span l (D, cy, s) τ n hS hN x a1 (lz_b a2) o G hx ho h1) lsw_span rfl hl.1 rfl ⟨Nat.le_of_ble_eq_true rfl, Nat.le_of_ble_eq_true rfl⟩ (Nat.le_of_ble_eq_true rfl) ⟨Nat.le_trans (Nat.add_le_add_left (Nat.le_of_ble_eq_true rfl) _) hf.1, Nat.le_trans (Nat.add_le_add_left (Nat.le_of_ble_eq_true rfl) _) hf.2⟩ dL_law__2313 (fun H locs hw => ?_)
  refine lv_istore (lv' := [(5, .int k), (0, .ref b), (1, .ref x), (2, .ref y), (3, .ref o), (4, .int i)]) fx.1 fx.2.1 dL_law__2316 hl (by decide) rfl (fun ls hl => ?_)
  refine lv_aload_n fx.1 fx.2.1 dL_law__2318 rfl (lv_at hl 3 rfl) ?_
  refine lz_rd (j := 1) fx hX hbl hw (lv_at hl 1 rfl) (lv_at hl 5 rfl) A1 dL_law__2319 dL_law__2320 dL_law__2322 rfl dL_law__2323 dL_law__2324 ?_
  refine lz_rd (j := 2) fx hX hbl hw (lv_at hl 1 rfl) (lv_at hl 5 rfl) A2 dL_law__2325 dL_law__2326 dL_law__2328 rfl dL_law__2329 dL_law__2330 ?_
  refine lz_bl fx dL_law__2331 dL_law__2334 dL_law__2335 dL_law__2338 ?_
  refine g_callV0 (κ := 11) (As := [.int a1, .int (lz_b a2)]) (rest := []) fx hw (c_X11_span l (D, cy, s) τ n y a1 (lz_b a2) G1 hm h2) lv_RL_253 ⟨rfl, rfl⟩ rfl rfl hm rfl hl.1 rfl ⟨Nat.le_of_ble_eq_true rfl, Nat.le_of_ble_eq_true rfl⟩ (Nat.le_of_ble_eq_true rfl) ⟨Nat.le_trans (Nat.add_le_add_left (Nat.le_of_ble_eq_true rfl) _) hf.1, Nat.le_trans (Nat.add_le_add_left (Nat.le_of_ble_eq_true rfl) _) hf.2⟩ dL_law__2339 (fun H locs hw => ?_)
  refine lv_istore (lv' := [(6, .int r), (5, .int k), (0, .ref b), (1, .ref x), (2, .ref y), (3, .ref o), (4, .int i)]) fx.1 fx.2.1 dL_law__2342 hl (by decide) rfl (fun ls hl => ?_)
  refine lv_aload_n fx.1 fx.2.1 dL_law__2344 rfl (lv_at hl 4 rfl) ?_
  refine g_callV0 (κ := 11) (As := []) (rest := []) fx hw (c_X11_thrown l (D, cy, s) τ y G2 hm (r := gi G2 11 0 y) rfl) lv_RL_136 ⟨rfl, rfl⟩ rfl rfl hm rfl hl.1 rfl ⟨Nat.le_of_ble_eq_true rfl, Nat.le_of_ble_eq_true rfl⟩ (Nat.le_of_ble_eq_true rfl) ⟨Nat.le_trans (Nat.add_le_add_left (Nat.le_of_ble_eq_true rfl) _) hf.1, Nat.le_trans (Nat.add_le_add_left (Nat.le_of_ble_eq_true rfl) _) hf.2⟩ dL_law__2345 (fun H locs hw => ?_)
  refine lv_iload fx.1 fx.2.1 dL_law__2348 (lv_at hl 1 rfl) ?_
  refine lv_icmp_eq (tgt := 2355) fx.1 fx.2.1 dL_law__2350 (by decide) (fun _ => ?_) (fun h => absurd e1.symm h)
  refine lv_iload fx.1 fx.2.1 dL_law__2355 (lv_at hl 1 rfl) ?_
  refine lv_if_ne (tgt := 2372) fx.1 fx.2.1 dL_law__2357 (by decide) (fun _ => ?_) (fun hk => ?_)
  · refine lv_goto (tgt := 2614) fx.1 fx.2.1 dL_law__2372 (by decide) ?_
    refine W.widen (k := cells + 8) (n := slots + 48) (Nat.add_le_add_left (Nat.le_of_ble_eq_true rfl) _) (Nat.add_le_add_left (Nat.le_of_ble_eq_true rfl) _) ?_
    exact kk _ _ _ _ hw hST (lv_sub hl [2, 3, 4, 5, 6] rfl)
  · refine lv_aload_n fx.1 fx.2.1 dL_law__2360 rfl (lv_at hl 5 rfl) ?_
    refine lv_iconst (v := 0) fx.1 fx.2.1 dL_law__2361 rfl ?_
    refine lz_ld fx hw ho hτ dL_law__2362 ?_
    refine lv_iload fx.1 fx.2.1 dL_law__2363 (lv_at hl 0 rfl) ?_
    refine lv_i2l (v := r.toInt64) fx.1 fx.2.1 dL_law__2365 rfl ?_
    refine W.lcmp fx.1 fx.2.1 dL_law__2366 ?_
    rw [lz_cmp (e2 hk)]
    refine lv_if_eq (tgt := 2372) fx.1 fx.2.1 dL_law__2367 (by decide) (fun _ => ?_) (fun h => absurd rfl h)
    refine lv_goto (tgt := 2614) fx.1 fx.2.1 dL_law__2372 (by decide) ?_
    refine W.widen (k := cells + 8) (n := slots + 48) (Nat.add_le_add_left (Nat.le_of_ble_eq_true rfl) _) (Nat.add_le_add_left (Nat.le_of_ble_eq_true rfl) _) ?_
    exact kk _ _ _ _ hw hST (lv_sub hl [2, 3, 4, 5, 6] rfl)
set_option maxHeartbeats 4000000 in
set_option maxRecDepth 100000 in
/-- the law's call 37: thrown -/
theorem lz_37 (F : lz_F D cy p l s m meth c b L xs τ n x y o) {a1 a2 a3 a4 a5 : Int32} (A1 : lz_A L xs i 1 a1) (A2 : lz_A L xs i 2 a2) (A3 : lz_A L xs i 3 a3) (A4 : lz_A L xs i 4 a4) (A5 : lz_A L xs i 5 a5) (hw : gHw (D, cy, s) τ G H locs) (hST : ST τ x y G) (hl : lv_has ls 7 [(0, .ref b), (1, .ref x), (2, .ref y), (3, .ref o), (4, .int i)]) (hf : cells + 8 ≤ room_1.cells ∧ slots + 48 ≤ room_1.slots) (kk : ∀ (G : gG) (H : Heap) (locs : List Loc) (ls : Array Slot), gHw (D, cy, s) τ G H locs → ST τ x y G → lv_has ls 7 [(0, .ref b), (1, .ref x), (2, .ref y), (3, .ref o), (4, .int i)] → W p l e room_1 s m #[Value.ref b] below meth c H locs (cells + 8) (slots + 48) Q (F0 m 2614 ls [])) : W p l e room_1 s m #[Value.ref b] below meth c H locs cells slots Q (F0 m 2375 ls []) := by
  obtain ⟨fx, ⟨hS, hN⟩, ⟨hX, hbl⟩, ⟨hx, hm, ho, hτ⟩, ey, eo, hn⟩ := F
  have h5 : 500 < n := Nat.lt_trans (Nat.le_of_ble_eq_true rfl) hn
  obtain ⟨s1, t1, l1, l2, ω, im, me, ta, fa, hC, hM, hI⟩ := hST
  refine lv_aload_n fx.1 fx.2.1 dL_law__2375 rfl (lv_at hl 1 rfl) ?_
  refine lz_rd (j := 1) fx hX hbl hw (lv_at hl 0 rfl) (lv_at hl 4 rfl) A1 dL_law__2376 dL_law__2377 dL_law__2379 rfl dL_law__2380 dL_law__2381 ?_
  refine lz_rd (j := 2) fx hX hbl hw (lv_at hl 0 rfl) (lv_at hl 4 rfl) A2 dL_law__2382 dL_law__2383 dL_law__2385 rfl dL_law__2386 dL_law__2387 ?_
  refine lz_bl fx dL_law__2388 dL_law__2391 dL_law__2392 dL_law__2395 ?_
  refine lv_aload_n fx.1 fx.2.1 dL_law__2396 rfl (lv_at hl 3 rfl) ?_
  obtain ⟨⟨k, G1⟩, h1, ⟨r, G2⟩, h2, e1, e2, hST⟩ := op_led ey eo hτ h5 hC hM hI a1 (lz_b a2)
  have h1 : f_L_led τ n x a1 (lz_b a2) o G = some (k, G1) := h1
  have h2 : f_X11_led τ n y a1 (lz_b a2) G1 = some (r, G2) := h2
  have e1 : k = gi G2 11 0 y := e1
  have e2 : k = 0 → gl G2 o 0 = r.toInt64 := e2
  have hST : ST τ x y G2 := hST
  refine g_callSW (As := [.ref x, .int a1, .int (lz_b a2), .ref o]) (rest := []) fx hw (c_L_led l (D, cy, s) τ n hS hN x a1 (lz_b a2) o G hx ho h1) lsw_led rfl hl.1 rfl ⟨Nat.le_of_ble_eq_true rfl, Nat.le_of_ble_eq_true rfl⟩ (Nat.le_of_ble_eq_true rfl) ⟨Nat.le_trans (Nat.add_le_add_left (Nat.le_of_ble_eq_true rfl) _) hf.1, Nat.le_trans (Nat.add_le_add_left (Nat.le_of_ble_eq_true rfl) _) hf.2⟩ dL_law__2397 (fun H locs hw => ?_)
  refine lv_istore (lv' := [(5, .int k), (0, .ref b), (1, .ref x), (2, .ref y), (3, .ref o), (4, .int i)]) fx.1 fx.2.1 dL_law__2400 hl (by decide) rfl (fun ls hl => ?_)
  refine lv_aload_n fx.1 fx.2.1 dL_law__2402 rfl (lv_at hl 3 rfl) ?_
  refine lz_rd (j := 1) fx hX hbl hw (lv_at hl 1 rfl) (lv_at hl 5 rfl) A1 dL_law__2403 dL_law__2404 dL_law__2406 rfl dL_law__2407 dL_law__2408 ?_
  refine lz_rd (j := 2) fx hX hbl hw (lv_at hl 1 rfl) (lv_at hl 5 rfl) A2 dL_law__2409 dL_law__2410 dL_law__2412 rfl dL_law__2413 dL_law__2414 ?_
  refine lz_bl fx dL_law__2415 dL_law__2418 dL_law__2419 dL_law__2422 ?_
  refine g_callV0 (κ := 11) (As := [.int a1, .int (lz_b a2)]) (rest := []) fx hw (c_X11_led l (D, cy, s) τ n y a1 (lz_b a2) G1 hm h2) lv_RL_256 ⟨rfl, rfl⟩ rfl rfl hm rfl hl.1 rfl ⟨Nat.le_of_ble_eq_true rfl, Nat.le_of_ble_eq_true rfl⟩ (Nat.le_of_ble_eq_true rfl) ⟨Nat.le_trans (Nat.add_le_add_left (Nat.le_of_ble_eq_true rfl) _) hf.1, Nat.le_trans (Nat.add_le_add_left (Nat.le_of_ble_eq_true rfl) _) hf.2⟩ dL_law__2423 (fun H locs hw => ?_)
  refine lv_istore (lv' := [(6, .int r), (5, .int k), (0, .ref b), (1, .ref x), (2, .ref y), (3, .ref o), (4, .int i)]) fx.1 fx.2.1 dL_law__2426 hl (by decide) rfl (fun ls hl => ?_)
  refine lv_aload_n fx.1 fx.2.1 dL_law__2428 rfl (lv_at hl 4 rfl) ?_
  refine g_callV0 (κ := 11) (As := []) (rest := []) fx hw (c_X11_thrown l (D, cy, s) τ y G2 hm (r := gi G2 11 0 y) rfl) lv_RL_136 ⟨rfl, rfl⟩ rfl rfl hm rfl hl.1 rfl ⟨Nat.le_of_ble_eq_true rfl, Nat.le_of_ble_eq_true rfl⟩ (Nat.le_of_ble_eq_true rfl) ⟨Nat.le_trans (Nat.add_le_add_left (Nat.le_of_ble_eq_true rfl) _) hf.1, Nat.le_trans (Nat.add_le_add_left (Nat.le_of_ble_eq_true rfl) _) hf.2⟩ dL_law__2429 (fun H locs hw => ?_)
  refine lv_iload fx.1 fx.2.1 dL_law__2432 (lv_at hl 1 rfl) ?_
  refine lv_icmp_eq (tgt := 2439) fx.1 fx.2.1 dL_law__2434 (by decide) (fun _ => ?_) (fun h => absurd e1.symm h)
  refine lv_iload fx.1 fx.2.1 dL_law__2439 (lv_at hl 1 rfl) ?_
  refine lv_if_ne (tgt := 2456) fx.1 fx.2.1 dL_law__2441 (by decide) (fun _ => ?_) (fun hk => ?_)
  · refine lv_goto (tgt := 2614) fx.1 fx.2.1 dL_law__2456 (by decide) ?_
    refine W.widen (k := cells + 8) (n := slots + 48) (Nat.add_le_add_left (Nat.le_of_ble_eq_true rfl) _) (Nat.add_le_add_left (Nat.le_of_ble_eq_true rfl) _) ?_
    exact kk _ _ _ _ hw hST (lv_sub hl [2, 3, 4, 5, 6] rfl)
  · refine lv_aload_n fx.1 fx.2.1 dL_law__2444 rfl (lv_at hl 5 rfl) ?_
    refine lv_iconst (v := 0) fx.1 fx.2.1 dL_law__2445 rfl ?_
    refine lz_ld fx hw ho hτ dL_law__2446 ?_
    refine lv_iload fx.1 fx.2.1 dL_law__2447 (lv_at hl 0 rfl) ?_
    refine lv_i2l (v := r.toInt64) fx.1 fx.2.1 dL_law__2449 rfl ?_
    refine W.lcmp fx.1 fx.2.1 dL_law__2450 ?_
    rw [lz_cmp (e2 hk)]
    refine lv_if_eq (tgt := 2456) fx.1 fx.2.1 dL_law__2451 (by decide) (fun _ => ?_) (fun h => absurd rfl h)
    refine lv_goto (tgt := 2614) fx.1 fx.2.1 dL_law__2456 (by decide) ?_
    refine W.widen (k := cells + 8) (n := slots + 48) (Nat.add_le_add_left (Nat.le_of_ble_eq_true rfl) _) (Nat.add_le_add_left (Nat.le_of_ble_eq_true rfl) _) ?_
    exact kk _ _ _ _ hw hST (lv_sub hl [2, 3, 4, 5, 6] rfl)
set_option maxHeartbeats 4000000 in
set_option maxRecDepth 100000 in
/-- the law's call 38: thrown -/
theorem lz_38 (F : lz_F D cy p l s m meth c b L xs τ n x y o) {a1 a2 a3 a4 a5 : Int32} (A1 : lz_A L xs i 1 a1) (A2 : lz_A L xs i 2 a2) (A3 : lz_A L xs i 3 a3) (A4 : lz_A L xs i 4 a4) (A5 : lz_A L xs i 5 a5) (hw : gHw (D, cy, s) τ G H locs) (hST : ST τ x y G) (hl : lv_has ls 7 [(0, .ref b), (1, .ref x), (2, .ref y), (3, .ref o), (4, .int i)]) (hf : cells + 8 ≤ room_1.cells ∧ slots + 48 ≤ room_1.slots) (kk : ∀ (G : gG) (H : Heap) (locs : List Loc) (ls : Array Slot), gHw (D, cy, s) τ G H locs → ST τ x y G → lv_has ls 7 [(0, .ref b), (1, .ref x), (2, .ref y), (3, .ref o), (4, .int i)] → W p l e room_1 s m #[Value.ref b] below meth c H locs (cells + 8) (slots + 48) Q (F0 m 2614 ls [])) : W p l e room_1 s m #[Value.ref b] below meth c H locs cells slots Q (F0 m 2459 ls []) := by
  obtain ⟨fx, ⟨hS, hN⟩, ⟨hX, hbl⟩, ⟨hx, hm, ho, hτ⟩, ey, eo, hn⟩ := F
  have h5 : 500 < n := Nat.lt_trans (Nat.le_of_ble_eq_true rfl) hn
  obtain ⟨s1, t1, l1, l2, ω, im, me, ta, fa, hC, hM, hI⟩ := hST
  refine lv_aload_n fx.1 fx.2.1 dL_law__2459 rfl (lv_at hl 1 rfl) ?_
  refine lz_rd (j := 1) fx hX hbl hw (lv_at hl 0 rfl) (lv_at hl 4 rfl) A1 dL_law__2460 dL_law__2461 dL_law__2463 rfl dL_law__2464 dL_law__2465 ?_
  refine lz_rd (j := 2) fx hX hbl hw (lv_at hl 0 rfl) (lv_at hl 4 rfl) A2 dL_law__2466 dL_law__2467 dL_law__2469 rfl dL_law__2470 dL_law__2471 ?_
  refine lv_aload_n fx.1 fx.2.1 dL_law__2472 rfl (lv_at hl 3 rfl) ?_
  obtain ⟨⟨k, G1⟩, h1, ⟨r, G2⟩, h2, e1, e2, hST⟩ := op_log ey eo hτ hC hM hI a1 a2
  have h1 : f_L_log τ n x a1 a2 o G = some (k, G1) := h1
  have h2 : f_X11_log τ y a1 a2 G1 = some (r, G2) := h2
  have e1 : k = gi G2 11 0 y := e1
  have e2 : k = 0 → gl G2 o 0 = r.toInt64 := e2
  have hST : ST τ x y G2 := hST
  refine g_callSW (As := [.ref x, .int a1, .int a2, .ref o]) (rest := []) fx hw (c_L_log l (D, cy, s) τ n hS hN x a1 a2 o G hx ho h1) lsw_log rfl hl.1 rfl ⟨Nat.le_of_ble_eq_true rfl, Nat.le_of_ble_eq_true rfl⟩ (Nat.le_of_ble_eq_true rfl) ⟨Nat.le_trans (Nat.add_le_add_left (Nat.le_of_ble_eq_true rfl) _) hf.1, Nat.le_trans (Nat.add_le_add_left (Nat.le_of_ble_eq_true rfl) _) hf.2⟩ dL_law__2473 (fun H locs hw => ?_)
  refine lv_istore (lv' := [(5, .int k), (0, .ref b), (1, .ref x), (2, .ref y), (3, .ref o), (4, .int i)]) fx.1 fx.2.1 dL_law__2476 hl (by decide) rfl (fun ls hl => ?_)
  refine lv_aload_n fx.1 fx.2.1 dL_law__2478 rfl (lv_at hl 3 rfl) ?_
  refine lz_rd (j := 1) fx hX hbl hw (lv_at hl 1 rfl) (lv_at hl 5 rfl) A1 dL_law__2479 dL_law__2480 dL_law__2482 rfl dL_law__2483 dL_law__2484 ?_
  refine lz_rd (j := 2) fx hX hbl hw (lv_at hl 1 rfl) (lv_at hl 5 rfl) A2 dL_law__2485 dL_law__2486 dL_law__2488 rfl dL_law__2489 dL_law__2490 ?_
  refine g_callV0 (κ := 11) (As := [.int a1, .int a2]) (rest := []) fx hw (c_X11_log l (D, cy, s) τ y a1 a2 G1 hm h2) lv_RL_259 ⟨rfl, rfl⟩ rfl rfl hm rfl hl.1 rfl ⟨Nat.le_of_ble_eq_true rfl, Nat.le_of_ble_eq_true rfl⟩ (Nat.le_of_ble_eq_true rfl) ⟨Nat.le_trans (Nat.add_le_add_left (Nat.le_of_ble_eq_true rfl) _) hf.1, Nat.le_trans (Nat.add_le_add_left (Nat.le_of_ble_eq_true rfl) _) hf.2⟩ dL_law__2491 (fun H locs hw => ?_)
  refine lv_istore (lv' := [(6, .int r), (5, .int k), (0, .ref b), (1, .ref x), (2, .ref y), (3, .ref o), (4, .int i)]) fx.1 fx.2.1 dL_law__2494 hl (by decide) rfl (fun ls hl => ?_)
  refine lv_aload_n fx.1 fx.2.1 dL_law__2496 rfl (lv_at hl 4 rfl) ?_
  refine g_callV0 (κ := 11) (As := []) (rest := []) fx hw (c_X11_thrown l (D, cy, s) τ y G2 hm (r := gi G2 11 0 y) rfl) lv_RL_136 ⟨rfl, rfl⟩ rfl rfl hm rfl hl.1 rfl ⟨Nat.le_of_ble_eq_true rfl, Nat.le_of_ble_eq_true rfl⟩ (Nat.le_of_ble_eq_true rfl) ⟨Nat.le_trans (Nat.add_le_add_left (Nat.le_of_ble_eq_true rfl) _) hf.1, Nat.le_trans (Nat.add_le_add_left (Nat.le_of_ble_eq_true rfl) _) hf.2⟩ dL_law__2497 (fun H locs hw => ?_)
  refine lv_iload fx.1 fx.2.1 dL_law__2500 (lv_at hl 1 rfl) ?_
  refine lv_icmp_eq (tgt := 2507) fx.1 fx.2.1 dL_law__2502 (by decide) (fun _ => ?_) (fun h => absurd e1.symm h)
  refine lv_iload fx.1 fx.2.1 dL_law__2507 (lv_at hl 1 rfl) ?_
  refine lv_if_ne (tgt := 2524) fx.1 fx.2.1 dL_law__2509 (by decide) (fun _ => ?_) (fun hk => ?_)
  · refine lv_goto (tgt := 2614) fx.1 fx.2.1 dL_law__2524 (by decide) ?_
    refine W.widen (k := cells + 8) (n := slots + 48) (Nat.add_le_add_left (Nat.le_of_ble_eq_true rfl) _) (Nat.add_le_add_left (Nat.le_of_ble_eq_true rfl) _) ?_
    exact kk _ _ _ _ hw hST (lv_sub hl [2, 3, 4, 5, 6] rfl)
  · refine lv_aload_n fx.1 fx.2.1 dL_law__2512 rfl (lv_at hl 5 rfl) ?_
    refine lv_iconst (v := 0) fx.1 fx.2.1 dL_law__2513 rfl ?_
    refine lz_ld fx hw ho hτ dL_law__2514 ?_
    refine lv_iload fx.1 fx.2.1 dL_law__2515 (lv_at hl 0 rfl) ?_
    refine lv_i2l (v := r.toInt64) fx.1 fx.2.1 dL_law__2517 rfl ?_
    refine W.lcmp fx.1 fx.2.1 dL_law__2518 ?_
    rw [lz_cmp (e2 hk)]
    refine lv_if_eq (tgt := 2524) fx.1 fx.2.1 dL_law__2519 (by decide) (fun _ => ?_) (fun h => absurd rfl h)
    refine lv_goto (tgt := 2614) fx.1 fx.2.1 dL_law__2524 (by decide) ?_
    refine W.widen (k := cells + 8) (n := slots + 48) (Nat.add_le_add_left (Nat.le_of_ble_eq_true rfl) _) (Nat.add_le_add_left (Nat.le_of_ble_eq_true rfl) _) ?_
    exact kk _ _ _ _ hw hST (lv_sub hl [2, 3, 4, 5, 6] rfl)
set_option maxHeartbeats 4000000 in
set_option maxRecDepth 100000 in
/-- the law's call 39: seed -/
theorem lz_39 (F : lz_F D cy p l s m meth c b L xs τ n x y o) {a1 a2 a3 a4 a5 : Int32} (A1 : lz_A L xs i 1 a1) (A2 : lz_A L xs i 2 a2) (A3 : lz_A L xs i 3 a3) (A4 : lz_A L xs i 4 a4) (A5 : lz_A L xs i 5 a5) (hw : gHw (D, cy, s) τ G H locs) (hST : ST τ x y G) (hl : lv_has ls 7 [(0, .ref b), (1, .ref x), (2, .ref y), (3, .ref o), (4, .int i)]) (hf : cells + 8 ≤ room_1.cells ∧ slots + 48 ≤ room_1.slots) (kk : ∀ (G : gG) (H : Heap) (locs : List Loc) (ls : Array Slot), gHw (D, cy, s) τ G H locs → ST τ x y G → lv_has ls 7 [(0, .ref b), (1, .ref x), (2, .ref y), (3, .ref o), (4, .int i)] → W p l e room_1 s m #[Value.ref b] below meth c H locs (cells + 8) (slots + 48) Q (F0 m 2614 ls [])) : W p l e room_1 s m #[Value.ref b] below meth c H locs cells slots Q (F0 m 2527 ls []) := by
  obtain ⟨fx, ⟨hS, hN⟩, ⟨hX, hbl⟩, ⟨hx, hm, ho, hτ⟩, ey, eo, hn⟩ := F
  have h5 : 500 < n := Nat.lt_trans (Nat.le_of_ble_eq_true rfl) hn
  obtain ⟨s1, t1, l1, l2, ω, im, me, ta, fa, hC, hM, hI⟩ := hST
  refine lv_aload_n fx.1 fx.2.1 dL_law__2527 rfl (lv_at hl 1 rfl) ?_
  refine lz_rd (j := 1) fx hX hbl hw (lv_at hl 0 rfl) (lv_at hl 4 rfl) A1 dL_law__2528 dL_law__2529 dL_law__2531 rfl dL_law__2532 dL_law__2533 ?_
  obtain ⟨⟨v, G1⟩, h1, ⟨r, G2⟩, h2, e1, hST⟩ := op_seed ey hC hM hI a1
  have h1 : f_X10_seed x a1 G = some (v, G1) := h1
  have h2 : f_X11_seed τ y a1 G1 = some (r, G2) := h2
  have e1 : v = r := e1
  have hST : ST τ x y G2 := hST
  refine g_callV0 (κ := 10) (As := [.int a1]) (rest := []) fx hw (c_X10_seed l (D, cy, s) τ x a1 G hx h1) lv_RL_260 ⟨rfl, rfl⟩ rfl rfl hx rfl hl.1 rfl ⟨Nat.le_of_ble_eq_true rfl, Nat.le_of_ble_eq_true rfl⟩ (Nat.le_of_ble_eq_true rfl) ⟨Nat.le_trans (Nat.le_add_right _ _) hf.1, Nat.le_trans (Nat.le_add_right _ _) hf.2⟩ dL_law__2534 (fun H locs hw => ?_)
  refine lv_aload_n fx.1 fx.2.1 dL_law__2537 rfl (lv_at hl 2 rfl) ?_
  refine lz_rd (j := 1) fx hX hbl hw (lv_at hl 0 rfl) (lv_at hl 4 rfl) A1 dL_law__2538 dL_law__2539 dL_law__2541 rfl dL_law__2542 dL_law__2543 ?_
  refine g_callV0 (κ := 11) (As := [.int a1]) (rest := [.int v]) fx hw (c_X11_seed l (D, cy, s) τ y a1 G1 hm h2) lv_RL_263 ⟨rfl, rfl⟩ rfl rfl hm rfl hl.1 rfl ⟨Nat.le_of_ble_eq_true rfl, Nat.le_of_ble_eq_true rfl⟩ (Nat.le_of_ble_eq_true rfl) ⟨Nat.le_trans (Nat.le_add_right _ _) hf.1, Nat.le_trans (Nat.le_add_right _ _) hf.2⟩ dL_law__2544 (fun H locs hw => ?_)
  refine lv_icmp_eq (tgt := 2614) fx.1 fx.2.1 dL_law__2547 (by decide) (fun _ => ?_) (fun h => absurd e1 h)
  refine W.widen (k := cells + 8) (n := slots + 48) (Nat.le_add_right _ _) (Nat.le_add_right _ _) ?_
  exact kk _ _ _ _ hw hST (lv_sub hl [0, 1, 2, 3, 4] rfl)
set_option maxHeartbeats 4000000 in
set_option maxRecDepth 100000 in
/-- the law's call 40: undo -/
theorem lz_40 (F : lz_F D cy p l s m meth c b L xs τ n x y o) {a1 a2 a3 a4 a5 : Int32} (A1 : lz_A L xs i 1 a1) (A2 : lz_A L xs i 2 a2) (A3 : lz_A L xs i 3 a3) (A4 : lz_A L xs i 4 a4) (A5 : lz_A L xs i 5 a5) (hw : gHw (D, cy, s) τ G H locs) (hST : ST τ x y G) (hl : lv_has ls 7 [(0, .ref b), (1, .ref x), (2, .ref y), (3, .ref o), (4, .int i)]) (hf : cells + 8 ≤ room_1.cells ∧ slots + 48 ≤ room_1.slots) (kk : ∀ (G : gG) (H : Heap) (locs : List Loc) (ls : Array Slot), gHw (D, cy, s) τ G H locs → ST τ x y G → lv_has ls 7 [(0, .ref b), (1, .ref x), (2, .ref y), (3, .ref o), (4, .int i)] → W p l e room_1 s m #[Value.ref b] below meth c H locs (cells + 8) (slots + 48) Q (F0 m 2614 ls [])) : W p l e room_1 s m #[Value.ref b] below meth c H locs cells slots Q (F0 m 2552 ls []) := by
  obtain ⟨fx, ⟨hS, hN⟩, ⟨hX, hbl⟩, ⟨hx, hm, ho, hτ⟩, ey, eo, hn⟩ := F
  have h5 : 500 < n := Nat.lt_trans (Nat.le_of_ble_eq_true rfl) hn
  obtain ⟨s1, t1, l1, l2, ω, im, me, ta, fa, hC, hM, hI⟩ := hST
  refine lv_aload_n fx.1 fx.2.1 dL_law__2552 rfl (lv_at hl 1 rfl) ?_
  obtain ⟨⟨v, G1⟩, h1, ⟨r, G2⟩, h2, e1, hST⟩ := op_undo ey hn hC hM hI 
  have h1 : f_X10_undo τ n x G = some (v, G1) := h1
  have h2 : f_X11_undo τ n y G1 = some (r, G2) := h2
  have e1 : v = r := e1
  have hST : ST τ x y G2 := hST
  refine g_callV0 (κ := 10) (As := []) (rest := []) fx hw (c_X10_undo l (D, cy, s) τ n x G hx h1) lv_RL_264 ⟨rfl, rfl⟩ rfl rfl hx rfl hl.1 rfl ⟨Nat.le_of_ble_eq_true rfl, Nat.le_of_ble_eq_true rfl⟩ (Nat.le_of_ble_eq_true rfl) ⟨Nat.le_trans (Nat.le_add_right _ _) hf.1, Nat.le_trans (Nat.le_add_right _ _) hf.2⟩ dL_law__2553 (fun H locs hw => ?_)
  refine lv_aload_n fx.1 fx.2.1 dL_law__2556 rfl (lv_at hl 2 rfl) ?_
  refine g_callV0 (κ := 11) (As := []) (rest := [.int v]) fx hw (c_X11_undo l (D, cy, s) τ n y G1 hm h2) lv_RL_268 ⟨rfl, rfl⟩ rfl rfl hm rfl hl.1 rfl ⟨Nat.le_of_ble_eq_true rfl, Nat.le_of_ble_eq_true rfl⟩ (Nat.le_of_ble_eq_true rfl) ⟨Nat.le_trans (Nat.le_add_right _ _) hf.1, Nat.le_trans (Nat.le_add_right _ _) hf.2⟩ dL_law__2557 (fun H locs hw => ?_)
  refine lv_icmp_eq (tgt := 2614) fx.1 fx.2.1 dL_law__2560 (by decide) (fun _ => ?_) (fun h => absurd e1 h)
  refine W.widen (k := cells + 8) (n := slots + 48) (Nat.le_add_right _ _) (Nat.le_add_right _ _) ?_
  exact kk _ _ _ _ hw hST (lv_sub hl [0, 1, 2, 3, 4] rfl)
set_option maxHeartbeats 4000000 in
set_option maxRecDepth 100000 in
/-- the law's call 41: image -/
theorem lz_41 (F : lz_F D cy p l s m meth c b L xs τ n x y o) {a1 a2 a3 a4 a5 : Int32} (A1 : lz_A L xs i 1 a1) (A2 : lz_A L xs i 2 a2) (A3 : lz_A L xs i 3 a3) (A4 : lz_A L xs i 4 a4) (A5 : lz_A L xs i 5 a5) (hw : gHw (D, cy, s) τ G H locs) (hST : ST τ x y G) (hl : lv_has ls 7 [(0, .ref b), (1, .ref x), (2, .ref y), (3, .ref o), (4, .int i)]) (hf : cells + 8 ≤ room_1.cells ∧ slots + 48 ≤ room_1.slots) (kk : ∀ (G : gG) (H : Heap) (locs : List Loc) (ls : Array Slot), gHw (D, cy, s) τ G H locs → ST τ x y G → lv_has ls 7 [(0, .ref b), (1, .ref x), (2, .ref y), (3, .ref o), (4, .int i)] → W p l e room_1 s m #[Value.ref b] below meth c H locs (cells + 8) (slots + 48) Q (F0 m 2614 ls [])) : W p l e room_1 s m #[Value.ref b] below meth c H locs cells slots Q (F0 m 2565 ls []) := by
  obtain ⟨fx, ⟨hS, hN⟩, ⟨hX, hbl⟩, ⟨hx, hm, ho, hτ⟩, ey, eo, hn⟩ := F
  have h5 : 500 < n := Nat.lt_trans (Nat.le_of_ble_eq_true rfl) hn
  obtain ⟨s1, t1, l1, l2, ω, im, me, ta, fa, hC, hM, hI⟩ := hST
  refine lv_aload_n fx.1 fx.2.1 dL_law__2565 rfl (lv_at hl 1 rfl) ?_
  obtain ⟨G1, h1, G2, h2, hST⟩ := op_image ey hn hC hM hI 
  have hST : ST τ x y G2 := hST
  refine g_callV0 (κ := 10) (As := []) (rest := []) fx hw (c_X10_image l (D, cy, s) τ n x G hx h1) lv_RL_269 ⟨rfl, rfl⟩ rfl rfl hx rfl hl.1 rfl ⟨Nat.le_of_ble_eq_true rfl, Nat.le_of_ble_eq_true rfl⟩ (Nat.le_of_ble_eq_true rfl) ⟨Nat.le_trans (Nat.le_add_right _ _) hf.1, Nat.le_trans (Nat.le_add_right _ _) hf.2⟩ dL_law__2566 (fun H locs hw => ?_)
  refine lv_aload_n fx.1 fx.2.1 dL_law__2569 rfl (lv_at hl 2 rfl) ?_
  refine g_callV0 (κ := 11) (As := []) (rest := []) fx hw (c_X11_image l (D, cy, s) τ n y G1 hm h2) lv_RL_272 ⟨rfl, rfl⟩ rfl rfl hm rfl hl.1 rfl ⟨Nat.le_of_ble_eq_true rfl, Nat.le_of_ble_eq_true rfl⟩ (Nat.le_of_ble_eq_true rfl) ⟨Nat.le_trans (Nat.le_add_right _ _) hf.1, Nat.le_trans (Nat.le_add_right _ _) hf.2⟩ dL_law__2570 (fun H locs hw => ?_)
  refine lv_goto (tgt := 2614) fx.1 fx.2.1 dL_law__2573 (by decide) ?_
  refine W.widen (k := cells + 8) (n := slots + 48) (Nat.le_add_right _ _) (Nat.le_add_right _ _) ?_
  exact kk _ _ _ _ hw hST (lv_sub hl [0, 1, 2, 3, 4] rfl)
set_option maxHeartbeats 4000000 in
set_option maxRecDepth 100000 in
/-- the law's call 42: back -/
theorem lz_42 (F : lz_F D cy p l s m meth c b L xs τ n x y o) {a1 a2 a3 a4 a5 : Int32} (A1 : lz_A L xs i 1 a1) (A2 : lz_A L xs i 2 a2) (A3 : lz_A L xs i 3 a3) (A4 : lz_A L xs i 4 a4) (A5 : lz_A L xs i 5 a5) (hw : gHw (D, cy, s) τ G H locs) (hST : ST τ x y G) (hl : lv_has ls 7 [(0, .ref b), (1, .ref x), (2, .ref y), (3, .ref o), (4, .int i)]) (hf : cells + 8 ≤ room_1.cells ∧ slots + 48 ≤ room_1.slots) (kk : ∀ (G : gG) (H : Heap) (locs : List Loc) (ls : Array Slot), gHw (D, cy, s) τ G H locs → ST τ x y G → lv_has ls 7 [(0, .ref b), (1, .ref x), (2, .ref y), (3, .ref o), (4, .int i)] → W p l e room_1 s m #[Value.ref b] below meth c H locs (cells + 8) (slots + 48) Q (F0 m 2614 ls [])) : W p l e room_1 s m #[Value.ref b] below meth c H locs cells slots Q (F0 m 2576 ls []) := by
  obtain ⟨fx, ⟨hS, hN⟩, ⟨hX, hbl⟩, ⟨hx, hm, ho, hτ⟩, ey, eo, hn⟩ := F
  have h5 : 500 < n := Nat.lt_trans (Nat.le_of_ble_eq_true rfl) hn
  obtain ⟨s1, t1, l1, l2, ω, im, me, ta, fa, hC, hM, hI⟩ := hST
  refine lv_aload_n fx.1 fx.2.1 dL_law__2576 rfl (lv_at hl 1 rfl) ?_
  obtain ⟨⟨v, G1⟩, h1, ⟨r, G2⟩, h2, e1, hST⟩ := op_back ey hn hC hM hI 
  have h1 : f_X10_back τ n x G = some (v, G1) := h1
  have h2 : f_X11_back τ n y G1 = some (r, G2) := h2
  have e1 : v = r := e1
  have hST : ST τ x y G2 := hST
  refine g_callV0 (κ := 10) (As := []) (rest := []) fx hw (c_X10_back l (D, cy, s) τ n x G hx h1) lv_RL_273 ⟨rfl, rfl⟩ rfl rfl hx rfl hl.1 rfl ⟨Nat.le_of_ble_eq_true rfl, Nat.le_of_ble_eq_true rfl⟩ (Nat.le_of_ble_eq_true rfl) ⟨Nat.le_trans (Nat.le_add_right _ _) hf.1, Nat.le_trans (Nat.le_add_right _ _) hf.2⟩ dL_law__2577 (fun H locs hw => ?_)
  refine lv_aload_n fx.1 fx.2.1 dL_law__2580 rfl (lv_at hl 2 rfl) ?_
  refine g_callV0 (κ := 11) (As := []) (rest := [.int v]) fx hw (c_X11_back l (D, cy, s) τ n y G1 hm h2) lv_RL_276 ⟨rfl, rfl⟩ rfl rfl hm rfl hl.1 rfl ⟨Nat.le_of_ble_eq_true rfl, Nat.le_of_ble_eq_true rfl⟩ (Nat.le_of_ble_eq_true rfl) ⟨Nat.le_trans (Nat.le_add_right _ _) hf.1, Nat.le_trans (Nat.le_add_right _ _) hf.2⟩ dL_law__2581 (fun H locs hw => ?_)
  refine lv_icmp_eq (tgt := 2614) fx.1 fx.2.1 dL_law__2584 (by decide) (fun _ => ?_) (fun h => absurd e1 h)
  refine W.widen (k := cells + 8) (n := slots + 48) (Nat.le_add_right _ _) (Nat.le_add_right _ _) ?_
  exact kk _ _ _ _ hw hST (lv_sub hl [0, 1, 2, 3, 4] rfl)
set_option maxHeartbeats 4000000 in
set_option maxRecDepth 100000 in
/-- the law's call 43: count -/
theorem lz_43 (F : lz_F D cy p l s m meth c b L xs τ n x y o) {a1 a2 a3 a4 a5 : Int32} (A1 : lz_A L xs i 1 a1) (A2 : lz_A L xs i 2 a2) (A3 : lz_A L xs i 3 a3) (A4 : lz_A L xs i 4 a4) (A5 : lz_A L xs i 5 a5) (hw : gHw (D, cy, s) τ G H locs) (hST : ST τ x y G) (hl : lv_has ls 7 [(0, .ref b), (1, .ref x), (2, .ref y), (3, .ref o), (4, .int i)]) (hf : cells + 8 ≤ room_1.cells ∧ slots + 48 ≤ room_1.slots) (kk : ∀ (G : gG) (H : Heap) (locs : List Loc) (ls : Array Slot), gHw (D, cy, s) τ G H locs → ST τ x y G → lv_has ls 7 [(0, .ref b), (1, .ref x), (2, .ref y), (3, .ref o), (4, .int i)] → W p l e room_1 s m #[Value.ref b] below meth c H locs (cells + 8) (slots + 48) Q (F0 m 2614 ls [])) : W p l e room_1 s m #[Value.ref b] below meth c H locs cells slots Q (F0 m 2589 ls []) := by
  obtain ⟨fx, ⟨hS, hN⟩, ⟨hX, hbl⟩, ⟨hx, hm, ho, hτ⟩, ey, eo, hn⟩ := F
  have h5 : 500 < n := Nat.lt_trans (Nat.le_of_ble_eq_true rfl) hn
  obtain ⟨s1, t1, l1, l2, ω, im, me, ta, fa, hC, hM, hI⟩ := hST
  refine lv_aload_n fx.1 fx.2.1 dL_law__2589 rfl (lv_at hl 1 rfl) ?_
  refine lz_rd (j := 1) fx hX hbl hw (lv_at hl 0 rfl) (lv_at hl 4 rfl) A1 dL_law__2590 dL_law__2591 dL_law__2593 rfl dL_law__2594 dL_law__2595 ?_
  obtain ⟨v, h1, ⟨r, G2⟩, h2, e1, hST⟩ := op_count ey h5 hC hM hI a1
  have h2 : f_X11_count τ n y a1 G = some (r, G2) := h2
  have e1 : v = r := e1
  have hST : ST τ x y G2 := hST
  refine g_callV0 (κ := 10) (As := [.int a1]) (rest := []) fx hw (c_X10_count l (D, cy, s) τ n x a1 G hx h1) lv_RL_277 ⟨rfl, rfl⟩ rfl rfl hx rfl hl.1 rfl ⟨Nat.le_of_ble_eq_true rfl, Nat.le_of_ble_eq_true rfl⟩ (Nat.le_of_ble_eq_true rfl) ⟨Nat.le_trans (Nat.le_add_right _ _) hf.1, Nat.le_trans (Nat.le_add_right _ _) hf.2⟩ dL_law__2596 (fun H locs hw => ?_)
  refine lv_aload_n fx.1 fx.2.1 dL_law__2599 rfl (lv_at hl 2 rfl) ?_
  refine lz_rd (j := 1) fx hX hbl hw (lv_at hl 0 rfl) (lv_at hl 4 rfl) A1 dL_law__2600 dL_law__2601 dL_law__2603 rfl dL_law__2604 dL_law__2605 ?_
  refine g_callV0 (κ := 11) (As := [.int a1]) (rest := [.int v]) fx hw (c_X11_count l (D, cy, s) τ n y a1 G hm h2) lv_RL_280 ⟨rfl, rfl⟩ rfl rfl hm rfl hl.1 rfl ⟨Nat.le_of_ble_eq_true rfl, Nat.le_of_ble_eq_true rfl⟩ (Nat.le_of_ble_eq_true rfl) ⟨Nat.le_trans (Nat.le_add_right _ _) hf.1, Nat.le_trans (Nat.le_add_right _ _) hf.2⟩ dL_law__2606 (fun H locs hw => ?_)
  refine lv_icmp_eq (tgt := 2614) fx.1 fx.2.1 dL_law__2609 (by decide) (fun _ => ?_) (fun h => absurd e1 h)
  refine W.widen (k := cells + 8) (n := slots + 48) (Nat.le_add_right _ _) (Nat.le_add_right _ _) ?_
  exact kk _ _ _ _ hw hST (lv_sub hl [0, 1, 2, 3, 4] rfl)
end
