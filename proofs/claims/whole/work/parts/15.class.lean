theorem dX8_read_0 : decode cX8_read 0 = .ok (.aload_n 0, 1) := by decide +kernel
theorem dX8_read_1 : decode cX8_read 1 = .ok (.aload_n 1, 1) := by decide +kernel
theorem dX8_read_2 : decode cX8_read 2 = .ok (.putfield 15, 3) := by decide +kernel
theorem dX8_read_5 : decode cX8_read 5 = .ok (.aload_n 0, 1) := by decide +kernel
theorem dX8_read_6 : decode cX8_read 6 = .ok (.getfield 9, 3) := by decide +kernel
theorem dX8_read_9 : decode cX8_read 9 = .ok (.invokevirtual 19, 3) := by decide +kernel
theorem dX8_read_12 : decode cX8_read 12 = .ok (.aload_n 0, 1) := by decide +kernel
theorem dX8_read_13 : decode cX8_read 13 = .ok (.getfield 9, 3) := by decide +kernel
theorem dX8_read_16 : decode cX8_read 16 = .ok (.invokevirtual 24, 3) := by decide +kernel
theorem dX8_read_19 : decode cX8_read 19 = .ok (.ifCond .ne 7, 3) := by decide +kernel
theorem dX8_read_22 : decode cX8_read 22 = .ok (.iconst 1, 1) := by decide +kernel
theorem dX8_read_23 : decode cX8_read 23 = .ok (.goto 4, 3) := by decide +kernel
theorem dX8_read_26 : decode cX8_read 26 = .ok (.iconst 0, 1) := by decide +kernel
theorem dX8_read_27 : decode cX8_read 27 = .ok (.istore_n 2, 1) := by decide +kernel
theorem dX8_read_28 : decode cX8_read 28 = .ok (.iconst 0, 1) := by decide +kernel
theorem dX8_read_29 : decode cX8_read 29 = .ok (.istore_n 3, 1) := by decide +kernel
theorem dX8_read_30 : decode cX8_read 30 = .ok (.iload_n 3, 1) := by decide +kernel
theorem dX8_read_31 : decode cX8_read 31 = .ok (.bipush 14, 2) := by decide +kernel
theorem dX8_read_33 : decode cX8_read 33 = .ok (.if_icmp .ge 25, 3) := by decide +kernel
theorem dX8_read_36 : decode cX8_read 36 = .ok (.iload_n 2, 1) := by decide +kernel
theorem dX8_read_37 : decode cX8_read 37 = .ok (.ifCond .eq 21, 3) := by decide +kernel
theorem dX8_read_40 : decode cX8_read 40 = .ok (.aload_n 0, 1) := by decide +kernel
theorem dX8_read_41 : decode cX8_read 41 = .ok (.invokevirtual 28, 3) := by decide +kernel
theorem dX8_read_44 : decode cX8_read 44 = .ok (.aload_n 0, 1) := by decide +kernel
theorem dX8_read_45 : decode cX8_read 45 = .ok (.getfield 9, 3) := by decide +kernel
theorem dX8_read_48 : decode cX8_read 48 = .ok (.invokevirtual 31, 3) := by decide +kernel
theorem dX8_read_51 : decode cX8_read 51 = .ok (.istore_n 2, 1) := by decide +kernel
theorem dX8_read_52 : decode cX8_read 52 = .ok (.iinc 3 1, 3) := by decide +kernel
theorem dX8_read_55 : decode cX8_read 55 = .ok (.goto (-25), 3) := by decide +kernel
theorem dX8_read_58 : decode cX8_read 58 = .ok (.iload_n 2, 1) := by decide +kernel
theorem dX8_read_59 : decode cX8_read 59 = .ok (.ifCond .eq 10, 3) := by decide +kernel
theorem dX8_read_62 : decode cX8_read 62 = .ok (.aload_n 0, 1) := by decide +kernel
theorem dX8_read_63 : decode cX8_read 63 = .ok (.getfield 9, 3) := by decide +kernel
theorem dX8_read_66 : decode cX8_read 66 = .ok (.invokevirtual 34, 3) := by decide +kernel
theorem dX8_read_69 : decode cX8_read 69 = .ok (.aload_n 0, 1) := by decide +kernel
theorem dX8_read_70 : decode cX8_read 70 = .ok (.getfield 9, 3) := by decide +kernel
theorem dX8_read_73 : decode cX8_read 73 = .ok (.invokevirtual 37, 3) := by decide +kernel
theorem dX8_read_76 : decode cX8_read 76 = .ok (.ireturn, 1) := by decide +kernel
theorem lp_RX8_15 : gLp RX8 15 8 1 := ⟨(RX8, TX8, 2), rfl, by decide, wA_t (wt1 (List.mem_of_getElem? (i := 73) (by decide +kernel))) (by decide +kernel), rfl, rfl⟩
theorem lv_RX8_19 : gLv RX8 19 RX7 yX7_beginText cX7_beginText 1 none 0 := gLv_of (wA_t (wt3 (List.mem_of_getElem? (i := 153) (by decide +kernel))) (by decide +kernel)) (wA_t (wt3 (List.mem_of_getElem? (i := 154) (by decide +kernel))) (by decide +kernel)) (wA_t (wt3 (List.mem_of_getElem? (i := 155) (by decide +kernel))) (by decide +kernel)) (wA_t (wt1 (List.mem_of_getElem? (i := 2) (by decide +kernel))) (by decide +kernel)) (wA_t (wt3 (List.mem_of_getElem? (i := 156) (by decide +kernel))) (by decide +kernel)) ⟨rfl, by decide +kernel, by decide +kernel, by decide +kernel⟩
theorem lv_RX8_24 : gLv RX8 24 RX7 yX7_isAtEnd cX7_isAtEnd 1 (some .boolean) 0 := gLv_of (wA_t (wt3 (List.mem_of_getElem? (i := 161) (by decide +kernel))) (by decide +kernel)) (wA_t (wt3 (List.mem_of_getElem? (i := 162) (by decide +kernel))) (by decide +kernel)) (wA_t (wt3 (List.mem_of_getElem? (i := 163) (by decide +kernel))) (by decide +kernel)) (wA_t (wt1 (List.mem_of_getElem? (i := 2) (by decide +kernel))) (by decide +kernel)) (wA_t (wt3 (List.mem_of_getElem? (i := 164) (by decide +kernel))) (by decide +kernel)) ⟨rfl, by decide +kernel, by decide +kernel, by decide +kernel⟩
theorem lv_RX8_28 : gLv RX8 28 RX8 yX8_readLine cX8_readLine 1 none 0 := gLv_of (wA_t (wt3 (List.mem_of_getElem? (i := 165) (by decide +kernel))) (by decide +kernel)) (wA_t (wt3 (List.mem_of_getElem? (i := 167) (by decide +kernel))) (by decide +kernel)) (wA_of (List.mem_append_left _ (List.mem_map.mpr ⟨(⟨"YearRope$WalkReader", "readLine", "()V"⟩, 2), wp1 (List.mem_of_getElem? (i := 9) (by decide +kernel)), rfl⟩)) (by decide +kernel)) (wA_t (wt1 (List.mem_of_getElem? (i := 3) (by decide +kernel))) (by decide +kernel)) (wA_t (wt3 (List.mem_of_getElem? (i := 168) (by decide +kernel))) (by decide +kernel)) ⟨rfl, by decide +kernel, by decide +kernel, by decide +kernel⟩
theorem lv_RX8_31 : gLv RX8 31 RX7 yX7_takeLineEnd cX7_takeLineEnd 1 (some .boolean) 0 := gLv_of (wA_t (wt4 (List.mem_of_getElem? (i := 57) (by decide +kernel))) (by decide +kernel)) (wA_t (wt4 (List.mem_of_getElem? (i := 58) (by decide +kernel))) (by decide +kernel)) (wA_t (wt4 (List.mem_of_getElem? (i := 59) (by decide +kernel))) (by decide +kernel)) (wA_t (wt1 (List.mem_of_getElem? (i := 2) (by decide +kernel))) (by decide +kernel)) (wA_t (wt4 (List.mem_of_getElem? (i := 60) (by decide +kernel))) (by decide +kernel)) ⟨rfl, by decide +kernel, by decide +kernel, by decide +kernel⟩
def rm_X8_read : Room := { frames := 8, cells := 0, slots := 0, locals := 247 }
def b_X8_read_30 (τ : gτ) (n : Nat) (x0 : Nat) (x2 : Int32) (x3 : Int32) (G : gG) : Option ((Int32 × Int32 × gG) ⊕ ((Int32 × gG))) :=
  if (14 : Int32) ≤ x3 then (some (.inr (x2, G)))
  else (if x2 = 0 then (some (.inr (x2, G)))
  else ((f_X8_readLine τ n x0 G).bind fun G6 =>
  (gr G6 8 0 x0).bind fun a7 =>
  gBind2 (f_X7_takeLineEnd τ n a7 G6) fun v8 G9 =>
  gLet (x3 + 1) fun v10 =>
  some (.inl (v8, v10, G9))))
def l_X8_read_30 (τ : gτ) (n : Nat) (x0 : Nat) (x2 : Int32) (x3 : Int32) (G : gG) : Option ((Int32 × gG)) :=
  gIter (fun (q : Int32 × Int32 × gG) => b_X8_read_30 τ n x0 q.1 q.2.1 q.2.2) n (x2, x3, G)
def k_X8_read_69 (τ : gτ) (n : Nat) (x0 : Nat)  (G : gG) : Option (Int32 × gG) :=
  (gr G 8 0 x0).bind fun a13 =>
  (f_X7_isRight a13 G).bind fun v14 =>
  gchk (v14 = 0 ∨ v14 = 1) <| some (v14, G)
def k_X8_read_58 (τ : gτ) (n : Nat) (x0 : Nat) (x2 : Int32)  (G : gG) : Option (Int32 × gG) :=
  if x2 = 0 then (k_X8_read_69 τ n x0  G)
  else ((gr G 8 0 x0).bind fun a15 =>
  (f_X7_refuse a15 G).bind fun G16 =>
  k_X8_read_69 τ n x0  G16)
def k_X8_read_27 (τ : gτ) (n : Nat) (x0 : Nat) (s0 : Int32) (G : gG) : Option (Int32 × gG) :=
  (l_X8_read_30 τ n x0 s0 (0 : Int32) G).bind fun q => gLet q.1 fun z11 => gLet q.2 fun G12 => 
  k_X8_read_58 τ n x0 z11  G12
def f_X8_read (τ : gτ) (n : Nat) (x0 : Nat) (x1 : Nat) (G : gG) : Option (Int32 × gG) :=
  gLet (gsr G 8 1 x0 (some x1)) fun G1 =>
  (gr G1 8 0 x0).bind fun a2 =>
  (f_X7_beginText τ n a2 G1).bind fun G3 =>
  (gr G3 8 0 x0).bind fun a4 =>
  (f_X7_isAtEnd a4 G3).bind fun v5 =>
  if v5 = 0 then (k_X8_read_27 τ n x0 (1 : Int32) G3)
  else (k_X8_read_27 τ n x0 (0 : Int32) G3)
set_option maxHeartbeats 4000000 in
set_option maxRecDepth 100000 in
theorem w_b_X8_read_30 {X : gX} {τ : gτ} {p : Program} {l : Launch} {e : Env} {s : State} {m : MethodId} {args : Array Value} {below : List Frame} {meth : Method} {c : Code} (fx : gFx X p s m args meth c cX8_read 4 RX8) (hS : gS0 l X) (n : Nat) (x0 : Nat) (x2 : Int32) (x3 : Int32) (h0 : gK τ x0 8) {Q : State → Prop} {K : ((Int32 × Int32 × gG) ⊕ ((Int32 × gG))) → Prop} {G : gG} {H : Heap} {locs : List Loc} {ls : Array Slot} (hw : gHw X τ G H locs) (hl : lv_has ls 4 [(0, .ref x0), (2, .int x2), (3, .int x3)]) (hok : gOk (b_X8_read_30 τ n x0 x2 x3 G) K) (hc : ∀ (y2 : Int32) (y3 : Int32) (G : gG) (H : Heap) (locs : List Loc) (ls : Array Slot), gHw X τ G H locs → lv_has ls 4 [(0, .ref x0), (2, .int y2), (3, .int y3)] → K (.inl (y2, y3, G)) → W p l e rm_X8_read s m args below meth c H locs 0 0 Q (F0 m 30 ls [])) (hx0 : ∀ (y2 : Int32) (G : gG) (H : Heap) (locs : List Loc) (ls : Array Slot), gHw X τ G H locs → lv_has ls 4 [(0, .ref x0), (2, .int y2)] → K (.inr (y2, G)) → W p l e rm_X8_read s m args below meth c H locs 0 0 Q (F0 m 58 ls [])) : W p l e rm_X8_read s m args below meth c H locs 0 0 Q (F0 m 30 ls []) := by
  unfold b_X8_read_30 at hok
  refine lv_iload_n fx.1 fx.2.1 dX8_read_30 rfl (lv_at hl 2 rfl) ?_
  refine lv_bipush (v := 14) fx.1 fx.2.1 dX8_read_31 (by decide) ?_
  refine g_icmp_ge (tgt := 58) fx dX8_read_33 (by decide) hok (fun hok => ?_) (fun hok => ?_)
  · exact hx0 x2 G _ _ _  hw (lv_sub hl [0, 1] rfl) (gOk_some hok)
  · refine lv_iload_n fx.1 fx.2.1 dX8_read_36 rfl (lv_at hl 1 rfl) ?_
    refine g_if_eq (tgt := 58) fx dX8_read_37 (by decide) hok (fun hok => ?_) (fun hok => ?_)
    · exact hx0 x2 G _ _ _  hw (lv_sub hl [0, 1] rfl) (gOk_some hok)
    · refine lv_aload_n fx.1 fx.2.1 dX8_read_40 rfl (lv_at hl 0 rfl) ?_
      obtain ⟨G6, hf, hok⟩ := gOk_bind hok
      refine g_callV0 (κ := 8) fx hw (c_X8_readLine l X τ n hS x0 G h0 hf) lv_RX8_28 ⟨rfl, rfl⟩ rfl rfl h0 rfl hl.1 rfl ⟨Nat.le_of_ble_eq_true rfl, Nat.le_of_ble_eq_true rfl⟩ (Nat.le_of_ble_eq_true rfl) ⟨Nat.le_of_ble_eq_true rfl, Nat.le_of_ble_eq_true rfl⟩ dX8_read_41 (fun H locs hw => ?_)
      refine lv_aload_n fx.1 fx.2.1 dX8_read_44 rfl (lv_at hl 0 rfl) ?_
      refine g_getr fx hw h0 lf_RX8_9 rfl dX8_read_45 hok (fun a7 h_a7 hok => ?_)
      obtain ⟨v8, G9, hf, hok⟩ := gOk_bind2 hok
      refine g_callV0 (κ := 7) fx hw (c_X7_takeLineEnd l X τ n a7 G6 h_a7 hf) lv_RX8_31 ⟨rfl, rfl⟩ rfl rfl h_a7 rfl hl.1 rfl ⟨Nat.le_of_ble_eq_true rfl, Nat.le_of_ble_eq_true rfl⟩ (Nat.le_of_ble_eq_true rfl) ⟨Nat.le_of_ble_eq_true rfl, Nat.le_of_ble_eq_true rfl⟩ dX8_read_48 (fun H locs hw => ?_)
      refine lv_istore_n (lv' := [(2, .int v8), (0, .ref x0), (3, .int x3)]) fx.1 fx.2.1 dX8_read_51 rfl hl (by decide) rfl (fun ls hl => ?_)
      obtain ⟨v10, e_v10, hok⟩ := gOk_let hok
      refine lv_iinc (v := v10) (lv' := [(3, .int v10), (2, .int v8), (0, .ref x0)]) fx.1 fx.2.1 dX8_read_52 hl (k := 2) rfl (by rw [e_v10]; rfl) (by decide) rfl (fun ls hl => ?_)
      refine lv_goto (tgt := 30) fx.1 fx.2.1 dX8_read_55 (by decide) ?_
      exact hc v8 v10 G9 _ _ _  hw (lv_sub hl [2, 1, 0] rfl) (gOk_some hok)
theorem w_l_X8_read_30 {X : gX} {τ : gτ} {p : Program} {l : Launch} {e : Env} {s : State} {m : MethodId} {args : Array Value} {below : List Frame} {meth : Method} {c : Code} (fx : gFx X p s m args meth c cX8_read 4 RX8) (hS : gS0 l X) (n : Nat) (x0 : Nat) (h0 : gK τ x0 8) {Q : State → Prop} {K : ((Int32 × gG)) → Prop} (hx0 : ∀ (y2 : Int32) (G : gG) (H : Heap) (locs : List Loc) (ls : Array Slot), gHw X τ G H locs → lv_has ls 4 [(0, .ref x0), (2, .int y2)] → K (y2, G) → W p l e rm_X8_read s m args below meth c H locs 0 0 Q (F0 m 58 ls [])) : ∀ (k : Nat) (x2 : Int32) (x3 : Int32) (G : gG) (H : Heap) (locs : List Loc) (ls : Array Slot), gHw X τ G H locs → lv_has ls 4 [(0, .ref x0), (2, .int x2), (3, .int x3)] → gOk (gIter (fun (q : Int32 × Int32 × gG) => b_X8_read_30 τ n x0 q.1 q.2.1 q.2.2) k (x2, x3, G)) K → W p l e rm_X8_read s m args below meth c H locs 0 0 Q (F0 m 30 ls []) := by
  intro k
  induction k with
  | zero =>
    intro x2 x3 G H locs ls hw hl hok
    exact gOk_iter0 hok
  | succ k hc =>
    intro x2 x3 G H locs ls hw hl hok
    exact w_b_X8_read_30 fx hS n x0 x2 x3 h0 hw hl (gOk_iter hok) hc hx0
set_option maxHeartbeats 4000000 in
set_option maxRecDepth 100000 in
theorem w_X8_read_69 {X : gX} {τ : gτ} {p : Program} {l : Launch} {e : Env} {s : State} {m : MethodId} {args : Array Value} {below : List Frame} {meth : Method} {c : Code} (fx : gFx X p s m args meth c cX8_read 4 RX8) (hS : gS0 l X) (n : Nat) (x0 : Nat)  (h0 : gK τ x0 8)  (hr : meth.sig.returnType = (some .boolean)) {r : Int32} {G' : gG} {G : gG} {H : Heap} {locs : List Loc} {ls : Array Slot} (hw : gHw X τ G H locs) (hl : lv_has ls 4 [(0, .ref x0)]) (hok : gOk (k_X8_read_69 τ n x0  G) (fun q => q = (r, G')))  : W p l e rm_X8_read s m args below meth c H locs 0 0 (MQ below (gQ X τ (some (.int r)) G') args s 0 0 (gFree X)) (F0 m 69 ls []) := by
  unfold k_X8_read_69 at hok
  refine lv_aload_n fx.1 fx.2.1 dX8_read_69 rfl (lv_at hl 0 rfl) ?_
  refine g_getr fx hw h0 lf_RX8_9 rfl dX8_read_70 hok (fun a13 h_a13 hok => ?_)
  obtain ⟨v14, hf, hok⟩ := gOk_bind hok
  refine g_callV0 (κ := 7) fx hw (c_X7_isRight l X τ a13 G h_a13 hf) lv_RX8_37 ⟨rfl, rfl⟩ rfl rfl h_a13 rfl hl.1 rfl ⟨Nat.le_of_ble_eq_true rfl, Nat.le_of_ble_eq_true rfl⟩ (Nat.le_of_ble_eq_true rfl) ⟨Nat.le_of_ble_eq_true rfl, Nat.le_of_ble_eq_true rfl⟩ dX8_read_73 (fun H locs hw => ?_)
  obtain ⟨hz, hok⟩ := gOk_chk hok
  cases gOk_some hok
  exact g_zret fx hw hr hz dX8_read_76
set_option maxHeartbeats 4000000 in
set_option maxRecDepth 100000 in
theorem w_X8_read_58 {X : gX} {τ : gτ} {p : Program} {l : Launch} {e : Env} {s : State} {m : MethodId} {args : Array Value} {below : List Frame} {meth : Method} {c : Code} (fx : gFx X p s m args meth c cX8_read 4 RX8) (hS : gS0 l X) (n : Nat) (x0 : Nat) (x2 : Int32)  (h0 : gK τ x0 8)  (hr : meth.sig.returnType = (some .boolean)) {r : Int32} {G' : gG} {G : gG} {H : Heap} {locs : List Loc} {ls : Array Slot} (hw : gHw X τ G H locs) (hl : lv_has ls 4 [(0, .ref x0), (2, .int x2)]) (hok : gOk (k_X8_read_58 τ n x0 x2  G) (fun q => q = (r, G')))  : W p l e rm_X8_read s m args below meth c H locs 0 0 (MQ below (gQ X τ (some (.int r)) G') args s 0 0 (gFree X)) (F0 m 58 ls []) := by
  unfold k_X8_read_58 at hok
  refine lv_iload_n fx.1 fx.2.1 dX8_read_58 rfl (lv_at hl 1 rfl) ?_
  refine g_if_eq (tgt := 69) fx dX8_read_59 (by decide) hok (fun hok => ?_) (fun hok => ?_)
  · exact w_X8_read_69 fx hS n x0  h0  hr hw (lv_sub hl [0] rfl) hok
  · refine lv_aload_n fx.1 fx.2.1 dX8_read_62 rfl (lv_at hl 0 rfl) ?_
    refine g_getr fx hw h0 lf_RX8_9 rfl dX8_read_63 hok (fun a15 h_a15 hok => ?_)
    obtain ⟨G16, hf, hok⟩ := gOk_bind hok
    refine g_callV0 (κ := 7) fx hw (c_X7_refuse l X τ a15 G h_a15 hf) lv_RX8_34 ⟨rfl, rfl⟩ rfl rfl h_a15 rfl hl.1 rfl ⟨Nat.le_of_ble_eq_true rfl, Nat.le_of_ble_eq_true rfl⟩ (Nat.le_of_ble_eq_true rfl) ⟨Nat.le_of_ble_eq_true rfl, Nat.le_of_ble_eq_true rfl⟩ dX8_read_66 (fun H locs hw => ?_)
    exact w_X8_read_69 fx hS n x0  h0  hr hw (lv_sub hl [0] rfl) hok
set_option maxHeartbeats 4000000 in
set_option maxRecDepth 100000 in
theorem w_X8_read_27 {X : gX} {τ : gτ} {p : Program} {l : Launch} {e : Env} {s : State} {m : MethodId} {args : Array Value} {below : List Frame} {meth : Method} {c : Code} (fx : gFx X p s m args meth c cX8_read 4 RX8) (hS : gS0 l X) (n : Nat) (x0 : Nat) (s0 : Int32) (h0 : gK τ x0 8)  (hr : meth.sig.returnType = (some .boolean)) {r : Int32} {G' : gG} {G : gG} {H : Heap} {locs : List Loc} {ls : Array Slot} (hw : gHw X τ G H locs) (hl : lv_has ls 4 [(0, .ref x0)]) (hok : gOk (k_X8_read_27 τ n x0 s0 G) (fun q => q = (r, G')))  : W p l e rm_X8_read s m args below meth c H locs 0 0 (MQ below (gQ X τ (some (.int r)) G') args s 0 0 (gFree X)) (F0 m 27 ls [.int s0]) := by
  unfold k_X8_read_27 at hok
  refine lv_istore_n (lv' := [(2, .int s0), (0, .ref x0)]) fx.1 fx.2.1 dX8_read_27 rfl hl (by decide) rfl (fun ls hl => ?_)
  refine lv_iconst (v := 0) fx.1 fx.2.1 dX8_read_28 (by decide) ?_
  refine lv_istore_n (lv' := [(3, .int (0 : Int32)), (2, .int s0), (0, .ref x0)]) fx.1 fx.2.1 dX8_read_29 rfl hl (by decide) rfl (fun ls hl => ?_)
  refine w_l_X8_read_30 fx hS n x0 h0 ?_ n s0 (0 : Int32) G _ _ _  hw (lv_sub hl [2, 1, 0] rfl) (gOk_bindK hok)
  intro z11 G12 H locs ls hw hl hok
  have hok : gOk (ρ := Int32 × gG) (k_X8_read_58 τ n x0 z11  G12) _ := hok
  exact w_X8_read_58 fx hS n x0 z11  h0  hr hw (lv_sub hl [0, 1] rfl) hok
set_option maxHeartbeats 4000000 in
set_option maxRecDepth 100000 in
theorem c_X8_read (l : Launch) (X : gX) (τ : gτ) (n : Nat) (hS : gS0 l X) (x0 : Nat) (x1 : Nat) (G : gG) (h0 : gK τ x0 8) (h1 : gK τ x1 6) {r : Int32} {G' : gG} (h : f_X8_read τ n x0 x1 G = some (r, G')) : gM l X τ yX8_read cX8_read 4 (some .boolean) rm_X8_read [.ref x0, .ref x1] G (some (.int r)) G' := by
  refine g_body (by decide +kernel) (Nat.le_of_ble_eq_true rfl) ?_
  intro p e s m args below meth c ls fx hr hw hl
  have fx : gFx X p s m args meth c cX8_read 4 RX8 := fx
  have hl : lv_has ls 4 [(0, .ref x0), (1, .ref x1)] := hl
  have hok : gOk (f_X8_read τ n x0 x1 G) (fun q => q = (r, G')) := ⟨_, h, rfl⟩
  unfold f_X8_read at hok
  show W p l e rm_X8_read s m args below meth c s.heap [] 0 0 (MQ below (gQ X τ (some (.int r)) G') args s 0 0 (gFree X)) _
  refine lv_aload_n fx.1 fx.2.1 dX8_read_0 rfl (lv_at hl 0 rfl) ?_
  refine lv_aload_n fx.1 fx.2.1 dX8_read_1 rfl (lv_at hl 1 rfl) ?_
  refine g_putr fx hw h0 lp_RX8_15 rfl rfl h1 dX8_read_2 hok (fun G1 H locs hw hok => ?_)
  refine lv_aload_n fx.1 fx.2.1 dX8_read_5 rfl (lv_at hl 0 rfl) ?_
  refine g_getr fx hw h0 lf_RX8_9 rfl dX8_read_6 hok (fun a2 h_a2 hok => ?_)
  obtain ⟨G3, hf, hok⟩ := gOk_bind hok
  refine g_callV0 (κ := 7) fx hw (c_X7_beginText l X τ n a2 G1 h_a2 hf) lv_RX8_19 ⟨rfl, rfl⟩ rfl rfl h_a2 rfl hl.1 rfl ⟨Nat.le_of_ble_eq_true rfl, Nat.le_of_ble_eq_true rfl⟩ (Nat.le_of_ble_eq_true rfl) ⟨Nat.le_of_ble_eq_true rfl, Nat.le_of_ble_eq_true rfl⟩ dX8_read_9 (fun H locs hw => ?_)
  refine lv_aload_n fx.1 fx.2.1 dX8_read_12 rfl (lv_at hl 0 rfl) ?_
  refine g_getr fx hw h0 lf_RX8_9 rfl dX8_read_13 hok (fun a4 h_a4 hok => ?_)
  obtain ⟨v5, hf, hok⟩ := gOk_bind hok
  refine g_callV0 (κ := 7) fx hw (c_X7_isAtEnd l X τ a4 G3 h_a4 hf) lv_RX8_24 ⟨rfl, rfl⟩ rfl rfl h_a4 rfl hl.1 rfl ⟨Nat.le_of_ble_eq_true rfl, Nat.le_of_ble_eq_true rfl⟩ (Nat.le_of_ble_eq_true rfl) ⟨Nat.le_of_ble_eq_true rfl, Nat.le_of_ble_eq_true rfl⟩ dX8_read_16 (fun H locs hw => ?_)
  refine g_if_ne (tgt := 26) fx dX8_read_19 (by decide) hok (fun hok => ?_) (fun hok => ?_)
  · refine lv_iconst (v := 1) fx.1 fx.2.1 dX8_read_22 (by decide) ?_
    refine lv_goto (tgt := 27) fx.1 fx.2.1 dX8_read_23 (by decide) ?_
    exact w_X8_read_27 fx hS n x0 (1 : Int32) h0  hr hw (lv_sub hl [0] rfl) hok
  · refine lv_iconst (v := 0) fx.1 fx.2.1 dX8_read_26 (by decide) ?_
    exact w_X8_read_27 fx hS n x0 (0 : Int32) h0  hr hw (lv_sub hl [0] rfl) hok
theorem dX10_feed_0 : decode cX10_feed 0 = .ok (.aload_n 0, 1) := by decide +kernel
theorem dX10_feed_1 : decode cX10_feed 1 = .ok (.getfield 10, 3) := by decide +kernel
theorem dX10_feed_4 : decode cX10_feed 4 = .ok (.getfield 82, 3) := by decide +kernel
theorem dX10_feed_7 : decode cX10_feed 7 = .ok (.bipush 20, 2) := by decide +kernel
theorem dX10_feed_9 : decode cX10_feed 9 = .ok (.iadd, 1) := by decide +kernel
theorem dX10_feed_10 : decode cX10_feed 10 = .ok (.sipush 400, 3) := by decide +kernel
theorem dX10_feed_13 : decode cX10_feed 13 = .ok (.if_icmp .le 5, 3) := by decide +kernel
theorem dX10_feed_16 : decode cX10_feed 16 = .ok (.iconst (-1), 1) := by decide +kernel
theorem dX10_feed_17 : decode cX10_feed 17 = .ok (.ireturn, 1) := by decide +kernel
theorem dX10_feed_18 : decode cX10_feed 18 = .ok (.aload_n 0, 1) := by decide +kernel
theorem dX10_feed_19 : decode cX10_feed 19 = .ok (.getfield 10, 3) := by decide +kernel
theorem dX10_feed_22 : decode cX10_feed 22 = .ok (.iload_n 1, 1) := by decide +kernel
theorem dX10_feed_23 : decode cX10_feed 23 = .ok (.invokevirtual 86, 3) := by decide +kernel
theorem dX10_feed_26 : decode cX10_feed 26 = .ok (.aload_n 0, 1) := by decide +kernel
theorem dX10_feed_27 : decode cX10_feed 27 = .ok (.getfield 10, 3) := by decide +kernel
theorem dX10_feed_30 : decode cX10_feed 30 = .ok (.iload_n 2, 1) := by decide +kernel
theorem dX10_feed_31 : decode cX10_feed 31 = .ok (.invokevirtual 86, 3) := by decide +kernel
theorem dX10_feed_34 : decode cX10_feed 34 = .ok (.aload_n 0, 1) := by decide +kernel
theorem dX10_feed_35 : decode cX10_feed 35 = .ok (.getfield 10, 3) := by decide +kernel
theorem dX10_feed_38 : decode cX10_feed 38 = .ok (.iload_n 3, 1) := by decide +kernel
theorem dX10_feed_39 : decode cX10_feed 39 = .ok (.invokevirtual 86, 3) := by decide +kernel
theorem dX10_feed_42 : decode cX10_feed 42 = .ok (.aload_n 0, 1) := by decide +kernel
theorem dX10_feed_43 : decode cX10_feed 43 = .ok (.getfield 10, 3) := by decide +kernel
theorem dX10_feed_46 : decode cX10_feed 46 = .ok (.iload 4, 2) := by decide +kernel
theorem dX10_feed_48 : decode cX10_feed 48 = .ok (.invokevirtual 86, 3) := by decide +kernel
theorem dX10_feed_51 : decode cX10_feed 51 = .ok (.aload_n 0, 1) := by decide +kernel
theorem dX10_feed_52 : decode cX10_feed 52 = .ok (.getfield 10, 3) := by decide +kernel
theorem dX10_feed_55 : decode cX10_feed 55 = .ok (.iload 5, 2) := by decide +kernel
theorem dX10_feed_57 : decode cX10_feed 57 = .ok (.invokevirtual 86, 3) := by decide +kernel
theorem dX10_feed_60 : decode cX10_feed 60 = .ok (.aload_n 0, 1) := by decide +kernel
theorem dX10_feed_61 : decode cX10_feed 61 = .ok (.getfield 10, 3) := by decide +kernel
theorem dX10_feed_64 : decode cX10_feed 64 = .ok (.getfield 82, 3) := by decide +kernel
theorem dX10_feed_67 : decode cX10_feed 67 = .ok (.ireturn, 1) := by decide +kernel
theorem lf_RX10_10 : gLf RX10 10 10 0 := ⟨(RX10, TX10, 15), rfl, by decide, wA_t (wt2 (List.mem_of_getElem? (i := 126) (by decide +kernel))) (by decide +kernel), rfl⟩
theorem lf_RX10_82 : gLf RX10 82 7 1 := ⟨(RX7, TX7, 6), rfl, by decide, wA_t (wt1 (List.mem_of_getElem? (i := 43) (by decide +kernel))) (by decide +kernel), rfl⟩
theorem lv_RX10_86 : gLv RX10 86 RX7 yX7_append cX7_append 3 none 1 := gLv_of (wA_t (wt2 (List.mem_of_getElem? (i := 176) (by decide +kernel))) (by decide +kernel)) (wA_t (wt2 (List.mem_of_getElem? (i := 177) (by decide +kernel))) (by decide +kernel)) (wA_t (wt2 (List.mem_of_getElem? (i := 178) (by decide +kernel))) (by decide +kernel)) (wA_t (wt1 (List.mem_of_getElem? (i := 2) (by decide +kernel))) (by decide +kernel)) (wA_t (wt2 (List.mem_of_getElem? (i := 179) (by decide +kernel))) (by decide +kernel)) ⟨rfl, by decide +kernel, by decide +kernel, by decide +kernel⟩
def rm_X10_feed : Room := { frames := 1, cells := 0, slots := 0, locals := 22 }
def f_X10_feed (τ : gτ) (n : Nat) (x0 : Nat) (x1 : Int32) (x2 : Int32) (x3 : Int32) (x4 : Int32) (x5 : Int32) (G : gG) : Option (Int32 × gG) :=
  (gr G 10 0 x0).bind fun a1 =>
  if ((gi G 7 1 a1) + (20 : Int32)) ≤ (400 : Int32) then ((gr G 10 0 x0).bind fun a2 =>
  (f_X7_append τ n a2 x1 G).bind fun G3 =>
  (gr G3 10 0 x0).bind fun a4 =>
  (f_X7_append τ n a4 x2 G3).bind fun G5 =>
  (gr G5 10 0 x0).bind fun a6 =>
  (f_X7_append τ n a6 x3 G5).bind fun G7 =>
  (gr G7 10 0 x0).bind fun a8 =>
  (f_X7_append τ n a8 x4 G7).bind fun G9 =>
  (gr G9 10 0 x0).bind fun a10 =>
  (f_X7_append τ n a10 x5 G9).bind fun G11 =>
  (gr G11 10 0 x0).bind fun a12 =>
  some (gi G11 7 1 a12, G11))
  else (some ((-1), G))
set_option maxHeartbeats 4000000 in
set_option maxRecDepth 100000 in
theorem c_X10_feed (l : Launch) (X : gX) (τ : gτ) (n : Nat) (x0 : Nat) (x1 : Int32) (x2 : Int32) (x3 : Int32) (x4 : Int32) (x5 : Int32) (G : gG) (h0 : gK τ x0 10) {r : Int32} {G' : gG} (h : f_X10_feed τ n x0 x1 x2 x3 x4 x5 G = some (r, G')) : gM l X τ yX10_feed cX10_feed 6 (some .int) rm_X10_feed [.ref x0, .int x1, .int x2, .int x3, .int x4, .int x5] G (some (.int r)) G' := by
  refine g_body (by decide +kernel) (Nat.le_of_ble_eq_true rfl) ?_
  intro p e s m args below meth c ls fx hr hw hl
  have fx : gFx X p s m args meth c cX10_feed 6 RX10 := fx
  have hl : lv_has ls 6 [(0, .ref x0), (1, .int x1), (2, .int x2), (3, .int x3), (4, .int x4), (5, .int x5)] := hl
  have hok : gOk (f_X10_feed τ n x0 x1 x2 x3 x4 x5 G) (fun q => q = (r, G')) := ⟨_, h, rfl⟩
  unfold f_X10_feed at hok
  show W p l e rm_X10_feed s m args below meth c s.heap [] 0 0 (MQ below (gQ X τ (some (.int r)) G') args s 0 0 (gFree X)) _
  refine lv_aload_n fx.1 fx.2.1 dX10_feed_0 rfl (lv_at hl 0 rfl) ?_
  refine g_getr fx hw h0 lf_RX10_10 rfl dX10_feed_1 hok (fun a1 h_a1 hok => ?_)
  refine g_geti fx hw h_a1 lf_RX10_82 rfl dX10_feed_4 ?_
  refine lv_bipush (v := 20) fx.1 fx.2.1 dX10_feed_7 (by decide) ?_
  refine lv_iadd fx.1 fx.2.1 dX10_feed_9 ?_
  refine lv_sipush (v := 400) fx.1 fx.2.1 dX10_feed_10 (by decide) ?_
  refine g_icmp_le (tgt := 18) fx dX10_feed_13 (by decide) hok (fun hok => ?_) (fun hok => ?_)
  · refine lv_aload_n fx.1 fx.2.1 dX10_feed_18 rfl (lv_at hl 0 rfl) ?_
    refine g_getr fx hw h0 lf_RX10_10 rfl dX10_feed_19 hok (fun a2 h_a2 hok => ?_)
    refine lv_iload_n fx.1 fx.2.1 dX10_feed_22 rfl (lv_at hl 1 rfl) ?_
    obtain ⟨G3, hf, hok⟩ := gOk_bind hok
    refine g_callV0 (κ := 7) fx hw (c_X7_append l X τ n a2 x1 G h_a2 hf) lv_RX10_86 ⟨rfl, rfl⟩ rfl rfl h_a2 rfl hl.1 rfl ⟨Nat.le_of_ble_eq_true rfl, Nat.le_of_ble_eq_true rfl⟩ (Nat.le_of_ble_eq_true rfl) ⟨Nat.le_of_ble_eq_true rfl, Nat.le_of_ble_eq_true rfl⟩ dX10_feed_23 (fun H locs hw => ?_)
    refine lv_aload_n fx.1 fx.2.1 dX10_feed_26 rfl (lv_at hl 0 rfl) ?_
    refine g_getr fx hw h0 lf_RX10_10 rfl dX10_feed_27 hok (fun a4 h_a4 hok => ?_)
    refine lv_iload_n fx.1 fx.2.1 dX10_feed_30 rfl (lv_at hl 2 rfl) ?_
    obtain ⟨G5, hf, hok⟩ := gOk_bind hok
    refine g_callV0 (κ := 7) fx hw (c_X7_append l X τ n a4 x2 G3 h_a4 hf) lv_RX10_86 ⟨rfl, rfl⟩ rfl rfl h_a4 rfl hl.1 rfl ⟨Nat.le_of_ble_eq_true rfl, Nat.le_of_ble_eq_true rfl⟩ (Nat.le_of_ble_eq_true rfl) ⟨Nat.le_of_ble_eq_true rfl, Nat.le_of_ble_eq_true rfl⟩ dX10_feed_31 (fun H locs hw => ?_)
    refine lv_aload_n fx.1 fx.2.1 dX10_feed_34 rfl (lv_at hl 0 rfl) ?_
    refine g_getr fx hw h0 lf_RX10_10 rfl dX10_feed_35 hok (fun a6 h_a6 hok => ?_)
    refine lv_iload_n fx.1 fx.2.1 dX10_feed_38 rfl (lv_at hl 3 rfl) ?_
    obtain ⟨G7, hf, hok⟩ := gOk_bind hok
    refine g_callV0 (κ := 7) fx hw (c_X7_append l X τ n a6 x3 G5 h_a6 hf) lv_RX10_86 ⟨rfl, rfl⟩ rfl rfl h_a6 rfl hl.1 rfl ⟨Nat.le_of_ble_eq_true rfl, Nat.le_of_ble_eq_true rfl⟩ (Nat.le_of_ble_eq_true rfl) ⟨Nat.le_of_ble_eq_true rfl, Nat.le_of_ble_eq_true rfl⟩ dX10_feed_39 (fun H locs hw => ?_)
    refine lv_aload_n fx.1 fx.2.1 dX10_feed_42 rfl (lv_at hl 0 rfl) ?_
    refine g_getr fx hw h0 lf_RX10_10 rfl dX10_feed_43 hok (fun a8 h_a8 hok => ?_)
    refine lv_iload fx.1 fx.2.1 dX10_feed_46 (lv_at hl 4 rfl) ?_
    obtain ⟨G9, hf, hok⟩ := gOk_bind hok
    refine g_callV0 (κ := 7) fx hw (c_X7_append l X τ n a8 x4 G7 h_a8 hf) lv_RX10_86 ⟨rfl, rfl⟩ rfl rfl h_a8 rfl hl.1 rfl ⟨Nat.le_of_ble_eq_true rfl, Nat.le_of_ble_eq_true rfl⟩ (Nat.le_of_ble_eq_true rfl) ⟨Nat.le_of_ble_eq_true rfl, Nat.le_of_ble_eq_true rfl⟩ dX10_feed_48 (fun H locs hw => ?_)
    refine lv_aload_n fx.1 fx.2.1 dX10_feed_51 rfl (lv_at hl 0 rfl) ?_
    refine g_getr fx hw h0 lf_RX10_10 rfl dX10_feed_52 hok (fun a10 h_a10 hok => ?_)
    refine lv_iload fx.1 fx.2.1 dX10_feed_55 (lv_at hl 5 rfl) ?_
    obtain ⟨G11, hf, hok⟩ := gOk_bind hok
    refine g_callV0 (κ := 7) fx hw (c_X7_append l X τ n a10 x5 G9 h_a10 hf) lv_RX10_86 ⟨rfl, rfl⟩ rfl rfl h_a10 rfl hl.1 rfl ⟨Nat.le_of_ble_eq_true rfl, Nat.le_of_ble_eq_true rfl⟩ (Nat.le_of_ble_eq_true rfl) ⟨Nat.le_of_ble_eq_true rfl, Nat.le_of_ble_eq_true rfl⟩ dX10_feed_57 (fun H locs hw => ?_)
    refine lv_aload_n fx.1 fx.2.1 dX10_feed_60 rfl (lv_at hl 0 rfl) ?_
    refine g_getr fx hw h0 lf_RX10_10 rfl dX10_feed_61 hok (fun a12 h_a12 hok => ?_)
    refine g_geti fx hw h_a12 lf_RX10_82 rfl dX10_feed_64 ?_
    cases gOk_some hok
    exact g_iret fx hw hr dX10_feed_67
  · refine lv_iconst (v := (-1)) fx.1 fx.2.1 dX10_feed_16 (by decide) ?_
    cases gOk_some hok
    exact g_iret fx hw hr dX10_feed_17
theorem dX10_end_0 : decode cX10_end 0 = .ok (.iload_n 1, 1) := by decide +kernel
theorem dX10_end_1 : decode cX10_end 1 = .ok (.ifCond .lt 14, 3) := by decide +kernel
theorem dX10_end_4 : decode cX10_end 4 = .ok (.iload_n 1, 1) := by decide +kernel
theorem dX10_end_5 : decode cX10_end 5 = .ok (.aload_n 0, 1) := by decide +kernel
theorem dX10_end_6 : decode cX10_end 6 = .ok (.getfield 10, 3) := by decide +kernel
theorem dX10_end_9 : decode cX10_end 9 = .ok (.getfield 82, 3) := by decide +kernel
theorem dX10_end_12 : decode cX10_end 12 = .ok (.if_icmp .le 5, 3) := by decide +kernel
theorem dX10_end_15 : decode cX10_end 15 = .ok (.iconst 0, 1) := by decide +kernel
theorem dX10_end_16 : decode cX10_end 16 = .ok (.ireturn, 1) := by decide +kernel
theorem dX10_end_17 : decode cX10_end 17 = .ok (.aload_n 0, 1) := by decide +kernel
theorem dX10_end_18 : decode cX10_end 18 = .ok (.getfield 10, 3) := by decide +kernel
theorem dX10_end_21 : decode cX10_end 21 = .ok (.iload_n 1, 1) := by decide +kernel
theorem dX10_end_22 : decode cX10_end 22 = .ok (.putfield 82, 3) := by decide +kernel
theorem dX10_end_25 : decode cX10_end 25 = .ok (.iconst 1, 1) := by decide +kernel
theorem dX10_end_26 : decode cX10_end 26 = .ok (.ireturn, 1) := by decide +kernel
theorem lp_RX10_82 : gLp RX10 82 7 1 := ⟨(RX7, TX7, 6), rfl, by decide, wA_t (wt1 (List.mem_of_getElem? (i := 43) (by decide +kernel))) (by decide +kernel), rfl, rfl⟩
def rm_X10_end : Room := { frames := 0, cells := 0, slots := 0, locals := 0 }
def f_X10_end (x0 : Nat) (x1 : Int32) (G : gG) : Option (Int32 × gG) :=
  if x1 < 0 then (some (0, G))
  else ((gr G 10 0 x0).bind fun a1 =>
  if x1 ≤ (gi G 7 1 a1) then ((gr G 10 0 x0).bind fun a2 =>
  gLet (gsi G 7 1 a2 x1) fun G3 =>
  some (1, G3))
  else (some (0, G)))
set_option maxHeartbeats 4000000 in
set_option maxRecDepth 100000 in
theorem c_X10_end (l : Launch) (X : gX) (τ : gτ) (x0 : Nat) (x1 : Int32) (G : gG) (h0 : gK τ x0 10) {r : Int32} {G' : gG} (h : f_X10_end x0 x1 G = some (r, G')) : gM l X τ yX10_end cX10_end 2 (some .boolean) rm_X10_end [.ref x0, .int x1] G (some (.int r)) G' := by
  refine g_body (by decide +kernel) (Nat.le_of_ble_eq_true rfl) ?_
  intro p e s m args below meth c ls fx hr hw hl
  have fx : gFx X p s m args meth c cX10_end 2 RX10 := fx
  have hl : lv_has ls 2 [(0, .ref x0), (1, .int x1)] := hl
  have hok : gOk (f_X10_end x0 x1 G) (fun q => q = (r, G')) := ⟨_, h, rfl⟩
  unfold f_X10_end at hok
  show W p l e rm_X10_end s m args below meth c s.heap [] 0 0 (MQ below (gQ X τ (some (.int r)) G') args s 0 0 (gFree X)) _
  refine lv_iload_n fx.1 fx.2.1 dX10_end_0 rfl (lv_at hl 1 rfl) ?_
  refine g_if_lt (tgt := 15) fx dX10_end_1 (by decide) hok (fun hok => ?_) (fun hok => ?_)
  · refine lv_iconst (v := 0) fx.1 fx.2.1 dX10_end_15 (by decide) ?_
    cases gOk_some hok
    exact g_zret fx hw hr (by decide) dX10_end_16
  · refine lv_iload_n fx.1 fx.2.1 dX10_end_4 rfl (lv_at hl 1 rfl) ?_
    refine lv_aload_n fx.1 fx.2.1 dX10_end_5 rfl (lv_at hl 0 rfl) ?_
    refine g_getr fx hw h0 lf_RX10_10 rfl dX10_end_6 hok (fun a1 h_a1 hok => ?_)
    refine g_geti fx hw h_a1 lf_RX10_82 rfl dX10_end_9 ?_
    refine g_icmp_le (tgt := 17) fx dX10_end_12 (by decide) hok (fun hok => ?_) (fun hok => ?_)
    · refine lv_aload_n fx.1 fx.2.1 dX10_end_17 rfl (lv_at hl 0 rfl) ?_
      refine g_getr fx hw h0 lf_RX10_10 rfl dX10_end_18 hok (fun a2 h_a2 hok => ?_)
      refine lv_iload_n fx.1 fx.2.1 dX10_end_21 rfl (lv_at hl 1 rfl) ?_
      refine g_puti fx hw h_a2 lp_RX10_82 rfl rfl dX10_end_22 hok (fun G3 H locs hw hok => ?_)
      refine lv_iconst (v := 1) fx.1 fx.2.1 dX10_end_25 (by decide) ?_
      cases gOk_some hok
      exact g_zret fx hw hr (by decide) dX10_end_26
    · refine lv_iconst (v := 0) fx.1 fx.2.1 dX10_end_15 (by decide) ?_
      cases gOk_some hok
      exact g_zret fx hw hr (by decide) dX10_end_16
theorem dX10_walk_0 : decode cX10_walk 0 = .ok (.aload_n 0, 1) := by decide +kernel
theorem dX10_walk_1 : decode cX10_walk 1 = .ok (.getfield 73, 3) := by decide +kernel
theorem dX10_walk_4 : decode cX10_walk 4 = .ok (.aload_n 0, 1) := by decide +kernel
theorem dX10_walk_5 : decode cX10_walk 5 = .ok (.getfield 70, 3) := by decide +kernel
theorem dX10_walk_8 : decode cX10_walk 8 = .ok (.invokevirtual 90, 3) := by decide +kernel
theorem dX10_walk_11 : decode cX10_walk 11 = .ok (.aload_n 0, 1) := by decide +kernel
theorem dX10_walk_12 : decode cX10_walk 12 = .ok (.getfield 21, 3) := by decide +kernel
theorem dX10_walk_15 : decode cX10_walk 15 = .ok (.aload_n 0, 1) := by decide +kernel
theorem dX10_walk_16 : decode cX10_walk 16 = .ok (.getfield 73, 3) := by decide +kernel
theorem dX10_walk_19 : decode cX10_walk 19 = .ok (.invokevirtual 94, 3) := by decide +kernel
theorem dX10_walk_22 : decode cX10_walk 22 = .ok (.istore_n 1, 1) := by decide +kernel
theorem dX10_walk_23 : decode cX10_walk 23 = .ok (.aload_n 0, 1) := by decide +kernel
theorem dX10_walk_24 : decode cX10_walk 24 = .ok (.getfield 10, 3) := by decide +kernel
theorem dX10_walk_27 : decode cX10_walk 27 = .ok (.iconst 0, 1) := by decide +kernel
theorem dX10_walk_28 : decode cX10_walk 28 = .ok (.putfield 82, 3) := by decide +kernel
theorem dX10_walk_31 : decode cX10_walk 31 = .ok (.iload_n 1, 1) := by decide +kernel
theorem dX10_walk_32 : decode cX10_walk 32 = .ok (.ifCond .ne 13, 3) := by decide +kernel
theorem dX10_walk_35 : decode cX10_walk 35 = .ok (.new 98, 3) := by decide +kernel
theorem dX10_walk_38 : decode cX10_walk 38 = .ok (.dup, 1) := by decide +kernel
theorem dX10_walk_39 : decode cX10_walk 39 = .ok (.ldc 100, 2) := by decide +kernel
theorem dX10_walk_41 : decode cX10_walk 41 = .ok (.invokespecial 102, 3) := by decide +kernel
theorem dX10_walk_44 : decode cX10_walk 44 = .ok (.athrow, 1) := by decide +kernel
theorem dX10_walk_45 : decode cX10_walk 45 = .ok (.aload_n 0, 1) := by decide +kernel
theorem dX10_walk_46 : decode cX10_walk 46 = .ok (.getfield 70, 3) := by decide +kernel
theorem dX10_walk_49 : decode cX10_walk 49 = .ok (.getfield 105, 3) := by decide +kernel
theorem dX10_walk_52 : decode cX10_walk 52 = .ok (.bipush 12, 2) := by decide +kernel
theorem dX10_walk_54 : decode cX10_walk 54 = .ok (.if_icmp .lt 13, 3) := by decide +kernel
theorem dX10_walk_57 : decode cX10_walk 57 = .ok (.new 108, 3) := by decide +kernel
theorem dX10_walk_60 : decode cX10_walk 60 = .ok (.dup, 1) := by decide +kernel
theorem dX10_walk_61 : decode cX10_walk 61 = .ok (.ldc 110, 2) := by decide +kernel
theorem dX10_walk_63 : decode cX10_walk 63 = .ok (.invokespecial 112, 3) := by decide +kernel
theorem dX10_walk_66 : decode cX10_walk 66 = .ok (.athrow, 1) := by decide +kernel
theorem dX10_walk_67 : decode cX10_walk 67 = .ok (.aload_n 0, 1) := by decide +kernel
theorem dX10_walk_68 : decode cX10_walk 68 = .ok (.getfield 70, 3) := by decide +kernel
theorem dX10_walk_71 : decode cX10_walk 71 = .ok (.astore_n 2, 1) := by decide +kernel
theorem dX10_walk_72 : decode cX10_walk 72 = .ok (.aload_n 0, 1) := by decide +kernel
theorem dX10_walk_73 : decode cX10_walk 73 = .ok (.aload_n 0, 1) := by decide +kernel
theorem dX10_walk_74 : decode cX10_walk 74 = .ok (.getfield 73, 3) := by decide +kernel
theorem dX10_walk_77 : decode cX10_walk 77 = .ok (.putfield 70, 3) := by decide +kernel
theorem dX10_walk_80 : decode cX10_walk 80 = .ok (.aload_n 0, 1) := by decide +kernel
theorem dX10_walk_81 : decode cX10_walk 81 = .ok (.aload_n 2, 1) := by decide +kernel
theorem dX10_walk_82 : decode cX10_walk 82 = .ok (.putfield 73, 3) := by decide +kernel
theorem dX10_walk_85 : decode cX10_walk 85 = .ok (.aload_n 0, 1) := by decide +kernel
theorem dX10_walk_86 : decode cX10_walk 86 = .ok (.getfield 70, 3) := by decide +kernel
theorem dX10_walk_89 : decode cX10_walk 89 = .ok (.dup, 1) := by decide +kernel
theorem dX10_walk_90 : decode cX10_walk 90 = .ok (.getfield 105, 3) := by decide +kernel
theorem dX10_walk_93 : decode cX10_walk 93 = .ok (.iconst 1, 1) := by decide +kernel
theorem dX10_walk_94 : decode cX10_walk 94 = .ok (.iadd, 1) := by decide +kernel
theorem dX10_walk_95 : decode cX10_walk 95 = .ok (.putfield 105, 3) := by decide +kernel
theorem dX10_walk_98 : decode cX10_walk 98 = .ok (.aload_n 0, 1) := by decide +kernel
theorem dX10_walk_99 : decode cX10_walk 99 = .ok (.getfield 35, 3) := by decide +kernel
theorem dX10_walk_102 : decode cX10_walk 102 = .ok (.invokevirtual 113, 3) := by decide +kernel
theorem dX10_walk_105 : decode cX10_walk 105 = .ok (.aload_n 0, 1) := by decide +kernel
theorem dX10_walk_106 : decode cX10_walk 106 = .ok (.getfield 70, 3) := by decide +kernel
theorem dX10_walk_109 : decode cX10_walk 109 = .ok (.getfield 105, 3) := by decide +kernel
theorem dX10_walk_112 : decode cX10_walk 112 = .ok (.ireturn, 1) := by decide +kernel
theorem lf_RX10_73 : gLf RX10 73 10 11 := ⟨(RX10, TX10, 15), rfl, by decide, wA_t (wt2 (List.mem_of_getElem? (i := 137) (by decide +kernel))) (by decide +kernel), rfl⟩
theorem lf_RX10_70 : gLf RX10 70 10 10 := ⟨(RX10, TX10, 15), rfl, by decide, wA_t (wt2 (List.mem_of_getElem? (i := 136) (by decide +kernel))) (by decide +kernel), rfl⟩
theorem lv_RX10_90 : gLv RX10 90 RX6 yX6_become cX6_become 3 none 1 := gLv_of (wA_t (wt3 (List.mem_of_getElem? (i := 122) (by decide +kernel))) (by decide +kernel)) (wA_t (wt3 (List.mem_of_getElem? (i := 96) (by decide +kernel))) (by decide +kernel)) (wA_t (wt3 (List.mem_of_getElem? (i := 97) (by decide +kernel))) (by decide +kernel)) (wA_t (wt1 (List.mem_of_getElem? (i := 6) (by decide +kernel))) (by decide +kernel)) (wA_t (wt3 (List.mem_of_getElem? (i := 98) (by decide +kernel))) (by decide +kernel)) ⟨rfl, by decide +kernel, by decide +kernel, by decide +kernel⟩
theorem lf_RX10_21 : gLf RX10 21 10 1 := ⟨(RX10, TX10, 15), rfl, by decide, wA_t (wt2 (List.mem_of_getElem? (i := 127) (by decide +kernel))) (by decide +kernel), rfl⟩
theorem lv_RX10_94 : gLv RX10 94 RX8 yX8_read cX8_read 4 (some .boolean) 1 := gLv_of (wA_t (wt3 (List.mem_of_getElem? (i := 149) (by decide +kernel))) (by decide +kernel)) (wA_t (wt3 (List.mem_of_getElem? (i := 150) (by decide +kernel))) (by decide +kernel)) (wA_t (wt3 (List.mem_of_getElem? (i := 151) (by decide +kernel))) (by decide +kernel)) (wA_t (wt1 (List.mem_of_getElem? (i := 3) (by decide +kernel))) (by decide +kernel)) (wA_t (wt3 (List.mem_of_getElem? (i := 152) (by decide +kernel))) (by decide +kernel)) ⟨rfl, by decide +kernel, by decide +kernel, by decide +kernel⟩
theorem lx_RX10_98 : gLx RX10 98 102 x_IAE := gLx_of (by decide +kernel) (by decide +kernel) (by decide +kernel)
theorem lf_RX10_105 : gLf RX10 105 6 7 := ⟨(RX6, TX6, 15), rfl, by decide, wA_t (wt2 (List.mem_of_getElem? (i := 26) (by decide +kernel))) (by decide +kernel), rfl⟩
theorem lp_RX10_70 : gLp RX10 70 10 10 := ⟨(RX10, TX10, 15), rfl, by decide, wA_t (wt2 (List.mem_of_getElem? (i := 136) (by decide +kernel))) (by decide +kernel), rfl, rfl⟩
theorem lp_RX10_73 : gLp RX10 73 10 11 := ⟨(RX10, TX10, 15), rfl, by decide, wA_t (wt2 (List.mem_of_getElem? (i := 137) (by decide +kernel))) (by decide +kernel), rfl, rfl⟩
theorem lp_RX10_105 : gLp RX10 105 6 7 := ⟨(RX6, TX6, 15), rfl, by decide, wA_t (wt2 (List.mem_of_getElem? (i := 26) (by decide +kernel))) (by decide +kernel), rfl, rfl⟩
theorem lf_RX10_35 : gLf RX10 35 10 3 := ⟨(RX10, TX10, 15), rfl, by decide, wA_t (wt2 (List.mem_of_getElem? (i := 129) (by decide +kernel))) (by decide +kernel), rfl⟩
theorem lv_RX10_113 : gLv RX10 113 RX3 yX3_forget cX3_forget 1 none 0 := gLv_of (wA_t (wt3 (List.mem_of_getElem? (i := 132) (by decide +kernel))) (by decide +kernel)) (wA_t (wt3 (List.mem_of_getElem? (i := 133) (by decide +kernel))) (by decide +kernel)) (wA_t (wt3 (List.mem_of_getElem? (i := 134) (by decide +kernel))) (by decide +kernel)) (wA_t (wt1 (List.mem_of_getElem? (i := 5) (by decide +kernel))) (by decide +kernel)) (wA_t (wt3 (List.mem_of_getElem? (i := 135) (by decide +kernel))) (by decide +kernel)) ⟨rfl, by decide +kernel, by decide +kernel, by decide +kernel⟩
theorem lx_RX10_108 : gLx RX10 108 112 x_UOE := gLx_of (by decide +kernel) (by decide +kernel) (by decide +kernel)
def rm_X10_walk : Room := { frames := 9, cells := 1, slots := 6, locals := 270 }
def f_X10_walk (τ : gτ) (n : Nat) (x0 : Nat) (G : gG) : Option ((String ⊕ Int32) × gG) :=
  (gr G 10 11 x0).bind fun a1 =>
  (gr G 10 10 x0).bind fun a2 =>
  (f_X6_become τ n a1 a2 G).bind fun G3 =>
  (gr G3 10 1 x0).bind fun a4 =>
  (gr G3 10 11 x0).bind fun a5 =>
  gBind2 (f_X8_read τ n a4 a5 G3) fun v6 G7 =>
  (gr G7 10 0 x0).bind fun a8 =>
  gLet (gsi G7 7 1 a8 (0 : Int32)) fun G9 =>
  if v6 = 0 then (some (.inl x_IAE, G9))
  else ((gr G9 10 10 x0).bind fun a10 =>
  if (gi G9 6 7 a10) < (12 : Int32) then ((gr G9 10 10 x0).bind fun a11 =>
  (gr G9 10 11 x0).bind fun a12 =>
  gLet (gsr G9 10 10 x0 (some a12)) fun G13 =>
  gLet (gsr G13 10 11 x0 (some a11)) fun G14 =>
  (gr G14 10 10 x0).bind fun a15 =>
  gLet (gsi G14 6 7 a15 ((gi G14 6 7 a15) + (1 : Int32))) fun G16 =>
  (gr G16 10 3 x0).bind fun a17 =>
  (f_X3_forget a17 G16).bind fun G18 =>
  (gr G18 10 10 x0).bind fun a19 =>
  some (.inr (gi G18 6 7 a19), G18))
  else (some (.inl x_UOE, G9)))
set_option maxHeartbeats 4000000 in
set_option maxRecDepth 100000 in
theorem c_X10_walk (l : Launch) (X : gX) (τ : gτ) (n : Nat) (hS : gS0 l X) (x0 : Nat) (G : gG) (h0 : gK τ x0 10) {r : String ⊕ Int32} {G' : gG} (h : f_X10_walk τ n x0 G = some (r, G')) : gMX l X τ yX10_walk cX10_walk 3 (some .int) rm_X10_walk [.ref x0] G (gOi r) G' := by
  refine g_bodyX (by decide +kernel) (Nat.le_of_ble_eq_true rfl) ?_
  intro p e s m args below meth c ls fx hr hxt hw hl
  have fx : gFx X p s m args meth c cX10_walk 3 RX10 := fx
  have hl : lv_has ls 3 [(0, .ref x0)] := hl
  have hok : gOk (f_X10_walk τ n x0 G) (fun q => q = (r, G')) := ⟨_, h, rfl⟩
  unfold f_X10_walk at hok
  show W p l e rm_X10_walk s m args below meth c s.heap [] 0 0 (vx_MQ below (gQX X τ (gOi r) G') (gXC X τ (gOi r) G') args s rm_X10_walk.cells rm_X10_walk.slots (gFree X)) _
  refine lv_aload_n fx.1 fx.2.1 dX10_walk_0 rfl (lv_at hl 0 rfl) ?_
  refine g_getr fx hw h0 lf_RX10_73 rfl dX10_walk_1 hok (fun a1 h_a1 hok => ?_)
  refine lv_aload_n fx.1 fx.2.1 dX10_walk_4 rfl (lv_at hl 0 rfl) ?_
  refine g_getr fx hw h0 lf_RX10_70 rfl dX10_walk_5 hok (fun a2 h_a2 hok => ?_)
  obtain ⟨G3, hf, hok⟩ := gOk_bind hok
  refine g_callV0 (κ := 6) fx hw (c_X6_become l X τ n a1 a2 G h_a1 h_a2 hf) lv_RX10_90 ⟨rfl, rfl⟩ rfl rfl h_a1 rfl hl.1 rfl ⟨Nat.le_of_ble_eq_true rfl, Nat.le_of_ble_eq_true rfl⟩ (Nat.le_of_ble_eq_true rfl) ⟨Nat.le_of_ble_eq_true rfl, Nat.le_of_ble_eq_true rfl⟩ dX10_walk_8 (fun H locs hw => ?_)
  refine lv_aload_n fx.1 fx.2.1 dX10_walk_11 rfl (lv_at hl 0 rfl) ?_
  refine g_getr fx hw h0 lf_RX10_21 rfl dX10_walk_12 hok (fun a4 h_a4 hok => ?_)
  refine lv_aload_n fx.1 fx.2.1 dX10_walk_15 rfl (lv_at hl 0 rfl) ?_
  refine g_getr fx hw h0 lf_RX10_73 rfl dX10_walk_16 hok (fun a5 h_a5 hok => ?_)
  obtain ⟨v6, G7, hf, hok⟩ := gOk_bind2 hok
  refine g_callV0 (κ := 8) fx hw (c_X8_read l X τ n hS a4 a5 G3 h_a4 h_a5 hf) lv_RX10_94 ⟨rfl, rfl⟩ rfl rfl h_a4 rfl hl.1 rfl ⟨Nat.le_of_ble_eq_true rfl, Nat.le_of_ble_eq_true rfl⟩ (Nat.le_of_ble_eq_true rfl) ⟨Nat.le_of_ble_eq_true rfl, Nat.le_of_ble_eq_true rfl⟩ dX10_walk_19 (fun H locs hw => ?_)
  refine lv_istore_n (lv' := [(1, .int v6), (0, .ref x0)]) fx.1 fx.2.1 dX10_walk_22 rfl hl (by decide) rfl (fun ls hl => ?_)
  refine lv_aload_n fx.1 fx.2.1 dX10_walk_23 rfl (lv_at hl 1 rfl) ?_
  refine g_getr fx hw h0 lf_RX10_10 rfl dX10_walk_24 hok (fun a8 h_a8 hok => ?_)
  refine lv_iconst (v := 0) fx.1 fx.2.1 dX10_walk_27 (by decide) ?_
  refine g_puti fx hw h_a8 lp_RX10_82 rfl rfl dX10_walk_28 hok (fun G9 H locs hw hok => ?_)
  refine lv_iload_n fx.1 fx.2.1 dX10_walk_31 rfl (lv_at hl 0 rfl) ?_
  refine g_if_ne (tgt := 45) fx dX10_walk_32 (by decide) hok (fun hok => ?_) (fun hok => ?_)
  · cases gOk_some hok
    exact g_throwS fx hw hS hl.1 hxt lx_RX10_98 gt_RX10_100 dX10_walk_35 dX10_walk_38 dX10_walk_39 dX10_walk_41 dX10_walk_44 ⟨Nat.le_of_ble_eq_true rfl, Nat.le_of_ble_eq_true rfl, Nat.le_of_ble_eq_true rfl, Nat.le_of_ble_eq_true rfl⟩ ⟨Nat.le_of_ble_eq_true rfl, Nat.le_of_ble_eq_true rfl⟩
  · refine lv_aload_n fx.1 fx.2.1 dX10_walk_45 rfl (lv_at hl 1 rfl) ?_
    refine g_getr fx hw h0 lf_RX10_70 rfl dX10_walk_46 hok (fun a10 h_a10 hok => ?_)
    refine g_geti fx hw h_a10 lf_RX10_105 rfl dX10_walk_49 ?_
    refine lv_bipush (v := 12) fx.1 fx.2.1 dX10_walk_52 (by decide) ?_
    refine g_icmp_lt (tgt := 67) fx dX10_walk_54 (by decide) hok (fun hok => ?_) (fun hok => ?_)
    · refine lv_aload_n fx.1 fx.2.1 dX10_walk_67 rfl (lv_at hl 1 rfl) ?_
      refine g_getr fx hw h0 lf_RX10_70 rfl dX10_walk_68 hok (fun a11 h_a11 hok => ?_)
      refine lv_astore_n (lv' := [(2, .ref a11), (1, .int v6), (0, .ref x0)]) fx.1 fx.2.1 dX10_walk_71 rfl hl (by decide) rfl (fun ls hl => ?_)
      refine lv_aload_n fx.1 fx.2.1 dX10_walk_72 rfl (lv_at hl 2 rfl) ?_
      refine lv_aload_n fx.1 fx.2.1 dX10_walk_73 rfl (lv_at hl 2 rfl) ?_
      refine g_getr fx hw h0 lf_RX10_73 rfl dX10_walk_74 hok (fun a12 h_a12 hok => ?_)
      refine g_putr fx hw h0 lp_RX10_70 rfl rfl h_a12 dX10_walk_77 hok (fun G13 H locs hw hok => ?_)
      refine lv_aload_n fx.1 fx.2.1 dX10_walk_80 rfl (lv_at hl 2 rfl) ?_
      refine lv_aload_n fx.1 fx.2.1 dX10_walk_81 rfl (lv_at hl 0 rfl) ?_
      refine g_putr fx hw h0 lp_RX10_73 rfl rfl h_a11 dX10_walk_82 hok (fun G14 H locs hw hok => ?_)
      refine lv_aload_n fx.1 fx.2.1 dX10_walk_85 rfl (lv_at hl 2 rfl) ?_
      refine g_getr fx hw h0 lf_RX10_70 rfl dX10_walk_86 hok (fun a15 h_a15 hok => ?_)
      refine lv_dup fx.1 fx.2.1 dX10_walk_89 rfl ?_
      refine g_geti fx hw h_a15 lf_RX10_105 rfl dX10_walk_90 ?_
      refine lv_iconst (v := 1) fx.1 fx.2.1 dX10_walk_93 (by decide) ?_
      refine lv_iadd fx.1 fx.2.1 dX10_walk_94 ?_
      refine g_puti fx hw h_a15 lp_RX10_105 rfl rfl dX10_walk_95 hok (fun G16 H locs hw hok => ?_)
      refine lv_aload_n fx.1 fx.2.1 dX10_walk_98 rfl (lv_at hl 2 rfl) ?_
      refine g_getr fx hw h0 lf_RX10_35 rfl dX10_walk_99 hok (fun a17 h_a17 hok => ?_)
      obtain ⟨G18, hf, hok⟩ := gOk_bind hok
      refine g_callV0 (κ := 3) fx hw (c_X3_forget l X τ a17 G16 h_a17 hf) lv_RX10_113 ⟨rfl, rfl⟩ rfl rfl h_a17 rfl hl.1 rfl ⟨Nat.le_of_ble_eq_true rfl, Nat.le_of_ble_eq_true rfl⟩ (Nat.le_of_ble_eq_true rfl) ⟨Nat.le_of_ble_eq_true rfl, Nat.le_of_ble_eq_true rfl⟩ dX10_walk_102 (fun H locs hw => ?_)
      refine lv_aload_n fx.1 fx.2.1 dX10_walk_105 rfl (lv_at hl 2 rfl) ?_
      refine g_getr fx hw h0 lf_RX10_70 rfl dX10_walk_106 hok (fun a19 h_a19 hok => ?_)
      refine g_geti fx hw h_a19 lf_RX10_105 rfl dX10_walk_109 ?_
      cases gOk_some hok
      exact g_iretX fx hw hr ⟨Nat.le_of_ble_eq_true rfl, Nat.le_of_ble_eq_true rfl⟩ dX10_walk_112
    · cases gOk_some hok
      exact g_throwS fx hw hS hl.1 hxt lx_RX10_108 gt_RX10_110 dX10_walk_57 dX10_walk_60 dX10_walk_61 dX10_walk_63 dX10_walk_66 ⟨Nat.le_of_ble_eq_true rfl, Nat.le_of_ble_eq_true rfl, Nat.le_of_ble_eq_true rfl, Nat.le_of_ble_eq_true rfl⟩ ⟨Nat.le_of_ble_eq_true rfl, Nat.le_of_ble_eq_true rfl⟩
theorem dX10_law_0 : decode cX10_law 0 = .ok (.aload_n 0, 1) := by decide +kernel
theorem dX10_law_1 : decode cX10_law 1 = .ok (.getfield 28, 3) := by decide +kernel
theorem dX10_law_4 : decode cX10_law 4 = .ok (.aload_n 0, 1) := by decide +kernel
theorem dX10_law_5 : decode cX10_law 5 = .ok (.getfield 79, 3) := by decide +kernel
theorem dX10_law_8 : decode cX10_law 8 = .ok (.invokevirtual 116, 3) := by decide +kernel
theorem dX10_law_11 : decode cX10_law 11 = .ok (.istore_n 1, 1) := by decide +kernel
theorem dX10_law_12 : decode cX10_law 12 = .ok (.aload_n 0, 1) := by decide +kernel
theorem dX10_law_13 : decode cX10_law 13 = .ok (.getfield 10, 3) := by decide +kernel
theorem dX10_law_16 : decode cX10_law 16 = .ok (.iconst 0, 1) := by decide +kernel
theorem dX10_law_17 : decode cX10_law 17 = .ok (.putfield 82, 3) := by decide +kernel
theorem dX10_law_20 : decode cX10_law 20 = .ok (.iload_n 1, 1) := by decide +kernel
theorem dX10_law_21 : decode cX10_law 21 = .ok (.ifCond .ne 13, 3) := by decide +kernel
theorem dX10_law_24 : decode cX10_law 24 = .ok (.new 98, 3) := by decide +kernel
theorem dX10_law_27 : decode cX10_law 27 = .ok (.dup, 1) := by decide +kernel
theorem dX10_law_28 : decode cX10_law 28 = .ok (.ldc 119, 2) := by decide +kernel
theorem dX10_law_30 : decode cX10_law 30 = .ok (.invokespecial 102, 3) := by decide +kernel
theorem dX10_law_33 : decode cX10_law 33 = .ok (.athrow, 1) := by decide +kernel
theorem dX10_law_34 : decode cX10_law 34 = .ok (.aload_n 0, 1) := by decide +kernel
theorem dX10_law_35 : decode cX10_law 35 = .ok (.getfield 76, 3) := by decide +kernel
theorem dX10_law_38 : decode cX10_law 38 = .ok (.astore_n 2, 1) := by decide +kernel
theorem dX10_law_39 : decode cX10_law 39 = .ok (.aload_n 0, 1) := by decide +kernel
theorem dX10_law_40 : decode cX10_law 40 = .ok (.aload_n 0, 1) := by decide +kernel
theorem dX10_law_41 : decode cX10_law 41 = .ok (.getfield 79, 3) := by decide +kernel
theorem dX10_law_44 : decode cX10_law 44 = .ok (.putfield 76, 3) := by decide +kernel
theorem dX10_law_47 : decode cX10_law 47 = .ok (.aload_n 0, 1) := by decide +kernel
theorem dX10_law_48 : decode cX10_law 48 = .ok (.aload_n 2, 1) := by decide +kernel
theorem dX10_law_49 : decode cX10_law 49 = .ok (.putfield 79, 3) := by decide +kernel
theorem dX10_law_52 : decode cX10_law 52 = .ok (.aload_n 0, 1) := by decide +kernel
theorem dX10_law_53 : decode cX10_law 53 = .ok (.getfield 35, 3) := by decide +kernel
theorem dX10_law_56 : decode cX10_law 56 = .ok (.invokevirtual 113, 3) := by decide +kernel
theorem dX10_law_59 : decode cX10_law 59 = .ok (.aload_n 0, 1) := by decide +kernel
theorem dX10_law_60 : decode cX10_law 60 = .ok (.getfield 76, 3) := by decide +kernel
theorem dX10_law_63 : decode cX10_law 63 = .ok (.getfield 121, 3) := by decide +kernel
theorem dX10_law_66 : decode cX10_law 66 = .ok (.ireturn, 1) := by decide +kernel
theorem lf_RX10_28 : gLf RX10 28 10 2 := ⟨(RX10, TX10, 15), rfl, by decide, wA_t (wt2 (List.mem_of_getElem? (i := 128) (by decide +kernel))) (by decide +kernel), rfl⟩
theorem lf_RX10_79 : gLf RX10 79 10 13 := ⟨(RX10, TX10, 15), rfl, by decide, wA_t (wt2 (List.mem_of_getElem? (i := 139) (by decide +kernel))) (by decide +kernel), rfl⟩
theorem lv_RX10_116 : gLv RX10 116 RX2 yX2_read cX2_read 7 (some .boolean) 1 := gLv_of (wA_t (wt4 (List.mem_of_getElem? (i := 164) (by decide +kernel))) (by decide +kernel)) (wA_t (wt4 (List.mem_of_getElem? (i := 165) (by decide +kernel))) (by decide +kernel)) (wA_t (wt4 (List.mem_of_getElem? (i := 166) (by decide +kernel))) (by decide +kernel)) (wA_t (wt1 (List.mem_of_getElem? (i := 4) (by decide +kernel))) (by decide +kernel)) (wA_t (wt4 (List.mem_of_getElem? (i := 167) (by decide +kernel))) (by decide +kernel)) ⟨rfl, by decide +kernel, by decide +kernel, by decide +kernel⟩
theorem lf_RX10_76 : gLf RX10 76 10 12 := ⟨(RX10, TX10, 15), rfl, by decide, wA_t (wt2 (List.mem_of_getElem? (i := 138) (by decide +kernel))) (by decide +kernel), rfl⟩
theorem lp_RX10_76 : gLp RX10 76 10 12 := ⟨(RX10, TX10, 15), rfl, by decide, wA_t (wt2 (List.mem_of_getElem? (i := 138) (by decide +kernel))) (by decide +kernel), rfl, rfl⟩
theorem lp_RX10_79 : gLp RX10 79 10 13 := ⟨(RX10, TX10, 15), rfl, by decide, wA_t (wt2 (List.mem_of_getElem? (i := 139) (by decide +kernel))) (by decide +kernel), rfl, rfl⟩
theorem lf_RX10_121 : gLf RX10 121 1 6 := ⟨(RX1, TX1, 9), rfl, by decide, wA_t (wt2 (List.mem_of_getElem? (i := 100) (by decide +kernel))) (by decide +kernel), rfl⟩
def rm_X10_law : Room := { frames := 38, cells := 1, slots := 6, locals := 1089 }
def f_X10_law (τ : gτ) (n : Nat) (x0 : Nat) (G : gG) : Option ((String ⊕ Int32) × gG) :=
  (gr G 10 2 x0).bind fun a1 =>
  (gr G 10 13 x0).bind fun a2 =>
  gBind2 (f_X2_read τ n a1 a2 G) fun v3 G4 =>
  (gr G4 10 0 x0).bind fun a5 =>
  gLet (gsi G4 7 1 a5 (0 : Int32)) fun G6 =>
  if v3 = 0 then (some (.inl x_IAE, G6))
  else ((gr G6 10 12 x0).bind fun a7 =>
  (gr G6 10 13 x0).bind fun a8 =>
  gLet (gsr G6 10 12 x0 (some a8)) fun G9 =>
  gLet (gsr G9 10 13 x0 (some a7)) fun G10 =>
  (gr G10 10 3 x0).bind fun a11 =>
  (f_X3_forget a11 G10).bind fun G12 =>
  (gr G12 10 12 x0).bind fun a13 =>
  some (.inr (gi G12 1 6 a13), G12))
set_option maxHeartbeats 4000000 in
set_option maxRecDepth 100000 in
theorem c_X10_law (l : Launch) (X : gX) (τ : gτ) (n : Nat) (hS : gS0 l X) (x0 : Nat) (G : gG) (h0 : gK τ x0 10) {r : String ⊕ Int32} {G' : gG} (h : f_X10_law τ n x0 G = some (r, G')) : gMX l X τ yX10_law cX10_law 3 (some .int) rm_X10_law [.ref x0] G (gOi r) G' := by
  refine g_bodyX (by decide +kernel) (Nat.le_of_ble_eq_true rfl) ?_
  intro p e s m args below meth c ls fx hr hxt hw hl
  have fx : gFx X p s m args meth c cX10_law 3 RX10 := fx
  have hl : lv_has ls 3 [(0, .ref x0)] := hl
  have hok : gOk (f_X10_law τ n x0 G) (fun q => q = (r, G')) := ⟨_, h, rfl⟩
  unfold f_X10_law at hok
  show W p l e rm_X10_law s m args below meth c s.heap [] 0 0 (vx_MQ below (gQX X τ (gOi r) G') (gXC X τ (gOi r) G') args s rm_X10_law.cells rm_X10_law.slots (gFree X)) _
  refine lv_aload_n fx.1 fx.2.1 dX10_law_0 rfl (lv_at hl 0 rfl) ?_
  refine g_getr fx hw h0 lf_RX10_28 rfl dX10_law_1 hok (fun a1 h_a1 hok => ?_)
  refine lv_aload_n fx.1 fx.2.1 dX10_law_4 rfl (lv_at hl 0 rfl) ?_
  refine g_getr fx hw h0 lf_RX10_79 rfl dX10_law_5 hok (fun a2 h_a2 hok => ?_)
  obtain ⟨v3, G4, hf, hok⟩ := gOk_bind2 hok
  refine g_callV0 (κ := 2) fx hw (c_X2_read l X τ n hS a1 a2 G h_a1 h_a2 hf) lv_RX10_116 ⟨rfl, rfl⟩ rfl rfl h_a1 rfl hl.1 rfl ⟨Nat.le_of_ble_eq_true rfl, Nat.le_of_ble_eq_true rfl⟩ (Nat.le_of_ble_eq_true rfl) ⟨Nat.le_of_ble_eq_true rfl, Nat.le_of_ble_eq_true rfl⟩ dX10_law_8 (fun H locs hw => ?_)
  refine lv_istore_n (lv' := [(1, .int v3), (0, .ref x0)]) fx.1 fx.2.1 dX10_law_11 rfl hl (by decide) rfl (fun ls hl => ?_)
  refine lv_aload_n fx.1 fx.2.1 dX10_law_12 rfl (lv_at hl 1 rfl) ?_
  refine g_getr fx hw h0 lf_RX10_10 rfl dX10_law_13 hok (fun a5 h_a5 hok => ?_)
  refine lv_iconst (v := 0) fx.1 fx.2.1 dX10_law_16 (by decide) ?_
  refine g_puti fx hw h_a5 lp_RX10_82 rfl rfl dX10_law_17 hok (fun G6 H locs hw hok => ?_)
  refine lv_iload_n fx.1 fx.2.1 dX10_law_20 rfl (lv_at hl 0 rfl) ?_
  refine g_if_ne (tgt := 34) fx dX10_law_21 (by decide) hok (fun hok => ?_) (fun hok => ?_)
  · cases gOk_some hok
    exact g_throwS fx hw hS hl.1 hxt lx_RX10_98 gt_RX10_119 dX10_law_24 dX10_law_27 dX10_law_28 dX10_law_30 dX10_law_33 ⟨Nat.le_of_ble_eq_true rfl, Nat.le_of_ble_eq_true rfl, Nat.le_of_ble_eq_true rfl, Nat.le_of_ble_eq_true rfl⟩ ⟨Nat.le_of_ble_eq_true rfl, Nat.le_of_ble_eq_true rfl⟩
  · refine lv_aload_n fx.1 fx.2.1 dX10_law_34 rfl (lv_at hl 1 rfl) ?_
    refine g_getr fx hw h0 lf_RX10_76 rfl dX10_law_35 hok (fun a7 h_a7 hok => ?_)
    refine lv_astore_n (lv' := [(2, .ref a7), (1, .int v3), (0, .ref x0)]) fx.1 fx.2.1 dX10_law_38 rfl hl (by decide) rfl (fun ls hl => ?_)
    refine lv_aload_n fx.1 fx.2.1 dX10_law_39 rfl (lv_at hl 2 rfl) ?_
    refine lv_aload_n fx.1 fx.2.1 dX10_law_40 rfl (lv_at hl 2 rfl) ?_
    refine g_getr fx hw h0 lf_RX10_79 rfl dX10_law_41 hok (fun a8 h_a8 hok => ?_)
    refine g_putr fx hw h0 lp_RX10_76 rfl rfl h_a8 dX10_law_44 hok (fun G9 H locs hw hok => ?_)
    refine lv_aload_n fx.1 fx.2.1 dX10_law_47 rfl (lv_at hl 2 rfl) ?_
    refine lv_aload_n fx.1 fx.2.1 dX10_law_48 rfl (lv_at hl 0 rfl) ?_
    refine g_putr fx hw h0 lp_RX10_79 rfl rfl h_a7 dX10_law_49 hok (fun G10 H locs hw hok => ?_)
    refine lv_aload_n fx.1 fx.2.1 dX10_law_52 rfl (lv_at hl 2 rfl) ?_
    refine g_getr fx hw h0 lf_RX10_35 rfl dX10_law_53 hok (fun a11 h_a11 hok => ?_)
    obtain ⟨G12, hf, hok⟩ := gOk_bind hok
    refine g_callV0 (κ := 3) fx hw (c_X3_forget l X τ a11 G10 h_a11 hf) lv_RX10_113 ⟨rfl, rfl⟩ rfl rfl h_a11 rfl hl.1 rfl ⟨Nat.le_of_ble_eq_true rfl, Nat.le_of_ble_eq_true rfl⟩ (Nat.le_of_ble_eq_true rfl) ⟨Nat.le_of_ble_eq_true rfl, Nat.le_of_ble_eq_true rfl⟩ dX10_law_56 (fun H locs hw => ?_)
    refine lv_aload_n fx.1 fx.2.1 dX10_law_59 rfl (lv_at hl 2 rfl) ?_
    refine g_getr fx hw h0 lf_RX10_76 rfl dX10_law_60 hok (fun a13 h_a13 hok => ?_)
    refine g_geti fx hw h_a13 lf_RX10_121 rfl dX10_law_63 ?_
    cases gOk_some hok
    exact g_iretX fx hw hr ⟨Nat.le_of_ble_eq_true rfl, Nat.le_of_ble_eq_true rfl⟩ dX10_law_66
theorem dX10_fault_0 : decode cX10_fault 0 = .ok (.aload_n 0, 1) := by decide +kernel
theorem dX10_fault_1 : decode cX10_fault 1 = .ok (.getfield 10, 3) := by decide +kernel
theorem dX10_fault_4 : decode cX10_fault 4 = .ok (.getfield 124, 3) := by decide +kernel
theorem dX10_fault_7 : decode cX10_fault 7 = .ok (.ireturn, 1) := by decide +kernel
theorem lf_RX10_124 : gLf RX10 124 7 2 := ⟨(RX7, TX7, 6), rfl, by decide, wA_t (wt1 (List.mem_of_getElem? (i := 46) (by decide +kernel))) (by decide +kernel), rfl⟩
def rm_X10_fault : Room := { frames := 0, cells := 0, slots := 0, locals := 0 }
def f_X10_fault (x0 : Nat) (G : gG) : Option (Int32) :=
  (gr G 10 0 x0).bind fun a1 =>
  some (gi G 7 2 a1)
set_option maxHeartbeats 4000000 in
set_option maxRecDepth 100000 in
theorem c_X10_fault (l : Launch) (X : gX) (τ : gτ) (x0 : Nat) (G : gG) (h0 : gK τ x0 10) {r : Int32}  (h : f_X10_fault x0 G = some r) : gM l X τ yX10_fault cX10_fault 1 (some .int) rm_X10_fault [.ref x0] G (some (.int r)) G := by
  refine g_body (by decide +kernel) (Nat.le_of_ble_eq_true rfl) ?_
  intro p e s m args below meth c ls fx hr hw hl
  have fx : gFx X p s m args meth c cX10_fault 1 RX10 := fx
  have hl : lv_has ls 1 [(0, .ref x0)] := hl
  have hok : gOk (f_X10_fault x0 G) (fun q => q = r) := ⟨_, h, rfl⟩
  unfold f_X10_fault at hok
  show W p l e rm_X10_fault s m args below meth c s.heap [] 0 0 (MQ below (gQ X τ (some (.int r)) G) args s 0 0 (gFree X)) _
  refine lv_aload_n fx.1 fx.2.1 dX10_fault_0 rfl (lv_at hl 0 rfl) ?_
  refine g_getr fx hw h0 lf_RX10_10 rfl dX10_fault_1 hok (fun a1 h_a1 hok => ?_)
  refine g_geti fx hw h_a1 lf_RX10_124 rfl dX10_fault_4 ?_
  cases gOk_some hok
  exact g_iret fx hw hr dX10_fault_7
theorem dX10_yarnOf_0 : decode cX10_yarnOf 0 = .ok (.iload_n 1, 1) := by decide +kernel
theorem dX10_yarnOf_1 : decode cX10_yarnOf 1 = .ok (.ifCond .lt 14, 3) := by decide +kernel
theorem dX10_yarnOf_4 : decode cX10_yarnOf 4 = .ok (.iload_n 1, 1) := by decide +kernel
theorem dX10_yarnOf_5 : decode cX10_yarnOf 5 = .ok (.aload_n 0, 1) := by decide +kernel
theorem dX10_yarnOf_6 : decode cX10_yarnOf 6 = .ok (.getfield 70, 3) := by decide +kernel
theorem dX10_yarnOf_9 : decode cX10_yarnOf 9 = .ok (.getfield 296, 3) := by decide +kernel
theorem dX10_yarnOf_12 : decode cX10_yarnOf 12 = .ok (.if_icmp .lt 14, 3) := by decide +kernel
theorem dX10_yarnOf_15 : decode cX10_yarnOf 15 = .ok (.new 453, 3) := by decide +kernel
theorem dX10_yarnOf_18 : decode cX10_yarnOf 18 = .ok (.dup, 1) := by decide +kernel
theorem dX10_yarnOf_19 : decode cX10_yarnOf 19 = .ok (.ldc_w 455, 3) := by decide +kernel
theorem dX10_yarnOf_22 : decode cX10_yarnOf 22 = .ok (.invokespecial 457, 3) := by decide +kernel
theorem dX10_yarnOf_25 : decode cX10_yarnOf 25 = .ok (.athrow, 1) := by decide +kernel
theorem dX10_yarnOf_26 : decode cX10_yarnOf 26 = .ok (.aload_n 0, 1) := by decide +kernel
theorem dX10_yarnOf_27 : decode cX10_yarnOf 27 = .ok (.getfield 70, 3) := by decide +kernel
theorem dX10_yarnOf_30 : decode cX10_yarnOf 30 = .ok (.getfield 318, 3) := by decide +kernel
theorem dX10_yarnOf_33 : decode cX10_yarnOf 33 = .ok (.iload_n 1, 1) := by decide +kernel
theorem dX10_yarnOf_34 : decode cX10_yarnOf 34 = .ok (.aaload, 1) := by decide +kernel
theorem dX10_yarnOf_35 : decode cX10_yarnOf 35 = .ok (.areturn, 1) := by decide +kernel
theorem lx_RX10_453 : gLx RX10 453 457 x_IOE := gLx_of (by decide +kernel) (by decide +kernel) (by decide +kernel)
theorem lf_RX10_296 : gLf RX10 296 6 4 := ⟨(RX6, TX6, 15), rfl, by decide, wA_t (wt2 (List.mem_of_getElem? (i := 18) (by decide +kernel))) (by decide +kernel), rfl⟩
theorem lf_RX10_318 : gLf RX10 318 6 0 := ⟨(RX6, TX6, 15), rfl, by decide, wA_t (wt2 (List.mem_of_getElem? (i := 8) (by decide +kernel))) (by decide +kernel), rfl⟩
def rm_X10_yarnOf : Room := { frames := 6, cells := 1, slots := 6, locals := 120 }
def f_X10_yarnOf (τ : gτ) (x0 : Nat) (x1 : Int32) (G : gG) : Option ((String ⊕ Nat) × gG) :=
  if x1 < 0 then (some (.inl x_IOE, G))
  else ((gr G 10 10 x0).bind fun a1 =>
  if x1 < (gi G 6 4 a1) then ((gr G 10 10 x0).bind fun a2 =>
  (gr G 6 0 a2).bind fun a3 =>
  gchk (gIn x1 (gn τ a3)) <| (gq G a3 (Int32.toNatClampNeg x1)).bind fun a4 =>
  some (.inr a4, G))
  else (some (.inl x_IOE, G)))
set_option maxHeartbeats 4000000 in
set_option maxRecDepth 100000 in
theorem c_X10_yarnOf (l : Launch) (X : gX) (τ : gτ) (hS : gS0 l X) (x0 : Nat) (x1 : Int32) (G : gG) (h0 : gK τ x0 10) {r : String ⊕ Nat} {G' : gG} (h : f_X10_yarnOf τ x0 x1 G = some (r, G')) : gMX l X τ yX10_yarnOf cX10_yarnOf 2 (some (.object "YearRope$Yarn")) rm_X10_yarnOf [.ref x0, .int x1] G (gOr r) G' := by
  refine g_bodyX (by decide +kernel) (Nat.le_of_ble_eq_true rfl) ?_
  intro p e s m args below meth c ls fx hr hxt hw hl
  have fx : gFx X p s m args meth c cX10_yarnOf 2 RX10 := fx
  have hl : lv_has ls 2 [(0, .ref x0), (1, .int x1)] := hl
  have hok : gOk (f_X10_yarnOf τ x0 x1 G) (fun q => q = (r, G')) := ⟨_, h, rfl⟩
  unfold f_X10_yarnOf at hok
  show W p l e rm_X10_yarnOf s m args below meth c s.heap [] 0 0 (vx_MQ below (gQX X τ (gOr r) G') (gXC X τ (gOr r) G') args s rm_X10_yarnOf.cells rm_X10_yarnOf.slots (gFree X)) _
  refine lv_iload_n fx.1 fx.2.1 dX10_yarnOf_0 rfl (lv_at hl 1 rfl) ?_
  refine g_if_lt (tgt := 15) fx dX10_yarnOf_1 (by decide) hok (fun hok => ?_) (fun hok => ?_)
  · cases gOk_some hok
    exact g_throwSW fx hw hS hl.1 hxt lx_RX10_453 gt_RX10_455 dX10_yarnOf_15 dX10_yarnOf_18 dX10_yarnOf_19 dX10_yarnOf_22 dX10_yarnOf_25 ⟨Nat.le_of_ble_eq_true rfl, Nat.le_of_ble_eq_true rfl, Nat.le_of_ble_eq_true rfl, Nat.le_of_ble_eq_true rfl⟩ ⟨Nat.le_of_ble_eq_true rfl, Nat.le_of_ble_eq_true rfl⟩
  · refine lv_iload_n fx.1 fx.2.1 dX10_yarnOf_4 rfl (lv_at hl 1 rfl) ?_
    refine lv_aload_n fx.1 fx.2.1 dX10_yarnOf_5 rfl (lv_at hl 0 rfl) ?_
    refine g_getr fx hw h0 lf_RX10_70 rfl dX10_yarnOf_6 hok (fun a1 h_a1 hok => ?_)
    refine g_geti fx hw h_a1 lf_RX10_296 rfl dX10_yarnOf_9 ?_
    refine g_icmp_lt (tgt := 26) fx dX10_yarnOf_12 (by decide) hok (fun hok => ?_) (fun hok => ?_)
    · refine lv_aload_n fx.1 fx.2.1 dX10_yarnOf_26 rfl (lv_at hl 0 rfl) ?_
      refine g_getr fx hw h0 lf_RX10_70 rfl dX10_yarnOf_27 hok (fun a2 h_a2 hok => ?_)
      refine g_getr fx hw h_a2 lf_RX10_318 rfl dX10_yarnOf_30 hok (fun a3 h_a3 hok => ?_)
      refine lv_iload_n fx.1 fx.2.1 dX10_yarnOf_33 rfl (lv_at hl 1 rfl) ?_
      refine g_aald fx hw 17 5 h_a3 (by decide) (by decide) rfl (κ' := 9) rfl dX10_yarnOf_34 hok (fun a4 h_a4 hok => ?_)
      cases gOk_some hok
      exact g_aretX fx hw hr ⟨Nat.le_of_ble_eq_true rfl, Nat.le_of_ble_eq_true rfl⟩ dX10_yarnOf_35
    · cases gOk_some hok
      exact g_throwSW fx hw hS hl.1 hxt lx_RX10_453 gt_RX10_455 dX10_yarnOf_15 dX10_yarnOf_18 dX10_yarnOf_19 dX10_yarnOf_22 dX10_yarnOf_25 ⟨Nat.le_of_ble_eq_true rfl, Nat.le_of_ble_eq_true rfl, Nat.le_of_ble_eq_true rfl, Nat.le_of_ble_eq_true rfl⟩ ⟨Nat.le_of_ble_eq_true rfl, Nat.le_of_ble_eq_true rfl⟩
theorem dX10_yarn_0 : decode cX10_yarn 0 = .ok (.aload_n 0, 1) := by decide +kernel
theorem dX10_yarn_1 : decode cX10_yarn 1 = .ok (.iload_n 1, 1) := by decide +kernel
theorem dX10_yarn_2 : decode cX10_yarn 2 = .ok (.invokevirtual 127, 3) := by decide +kernel
theorem dX10_yarn_5 : decode cX10_yarn 5 = .ok (.astore_n 3, 1) := by decide +kernel
theorem dX10_yarn_6 : decode cX10_yarn 6 = .ok (.iload_n 2, 1) := by decide +kernel
theorem dX10_yarn_7 : decode cX10_yarn 7 = .ok (.tableswitch 71 0 5 #[37, 42, 47, 52, 57, 62], 37) := by decide +kernel
theorem dX10_yarn_44 : decode cX10_yarn 44 = .ok (.aload_n 3, 1) := by decide +kernel
theorem dX10_yarn_45 : decode cX10_yarn 45 = .ok (.getfield 131, 3) := by decide +kernel
theorem dX10_yarn_48 : decode cX10_yarn 48 = .ok (.ireturn, 1) := by decide +kernel
theorem dX10_yarn_49 : decode cX10_yarn 49 = .ok (.aload_n 3, 1) := by decide +kernel
theorem dX10_yarn_50 : decode cX10_yarn 50 = .ok (.getfield 136, 3) := by decide +kernel
theorem dX10_yarn_53 : decode cX10_yarn 53 = .ok (.ireturn, 1) := by decide +kernel
theorem dX10_yarn_54 : decode cX10_yarn 54 = .ok (.aload_n 3, 1) := by decide +kernel
theorem dX10_yarn_55 : decode cX10_yarn 55 = .ok (.getfield 137, 3) := by decide +kernel
theorem dX10_yarn_58 : decode cX10_yarn 58 = .ok (.ireturn, 1) := by decide +kernel
theorem dX10_yarn_59 : decode cX10_yarn 59 = .ok (.aload_n 3, 1) := by decide +kernel
theorem dX10_yarn_60 : decode cX10_yarn 60 = .ok (.getfield 140, 3) := by decide +kernel
theorem dX10_yarn_63 : decode cX10_yarn 63 = .ok (.ireturn, 1) := by decide +kernel
theorem dX10_yarn_64 : decode cX10_yarn 64 = .ok (.aload_n 3, 1) := by decide +kernel
theorem dX10_yarn_65 : decode cX10_yarn 65 = .ok (.invokevirtual 143, 3) := by decide +kernel
theorem dX10_yarn_68 : decode cX10_yarn 68 = .ok (.ireturn, 1) := by decide +kernel
theorem dX10_yarn_69 : decode cX10_yarn 69 = .ok (.aload_n 0, 1) := by decide +kernel
theorem dX10_yarn_70 : decode cX10_yarn 70 = .ok (.getfield 70, 3) := by decide +kernel
theorem dX10_yarn_73 : decode cX10_yarn 73 = .ok (.iload_n 1, 1) := by decide +kernel
theorem dX10_yarn_74 : decode cX10_yarn 74 = .ok (.invokevirtual 147, 3) := by decide +kernel
theorem dX10_yarn_77 : decode cX10_yarn 77 = .ok (.ireturn, 1) := by decide +kernel
theorem dX10_yarn_78 : decode cX10_yarn 78 = .ok (.new 151, 3) := by decide +kernel
theorem dX10_yarn_81 : decode cX10_yarn 81 = .ok (.dup, 1) := by decide +kernel
theorem dX10_yarn_82 : decode cX10_yarn 82 = .ok (.ldc 153, 2) := by decide +kernel
theorem dX10_yarn_84 : decode cX10_yarn 84 = .ok (.invokespecial 155, 3) := by decide +kernel
theorem dX10_yarn_87 : decode cX10_yarn 87 = .ok (.athrow, 1) := by decide +kernel
theorem lv_RX10_127 : gLv RX10 127 RX10 yX10_yarnOf cX10_yarnOf 2 (some (.object "YearRope$Yarn")) 1 := gLv_of (wA_t (wt5 (List.mem_of_getElem? (i := 2) (by decide +kernel))) (by decide +kernel)) (wA_t (wt5 (List.mem_of_getElem? (i := 4) (by decide +kernel))) (by decide +kernel)) (wA_of (List.mem_append_left _ (List.mem_map.mpr ⟨(⟨"YearRope", "yarnOf", "(I)LYearRope$Yarn;"⟩, 15), wp2 (List.mem_of_getElem? (i := 8) (by decide +kernel)), rfl⟩)) (by decide +kernel)) (wA_t (wt1 (List.mem_of_getElem? (i := 1) (by decide +kernel))) (by decide +kernel)) (wA_t (wt5 (List.mem_of_getElem? (i := 5) (by decide +kernel))) (by decide +kernel)) ⟨rfl, by decide +kernel, by decide +kernel, by decide +kernel⟩
theorem lf_RX10_131 : gLf RX10 131 9 0 := ⟨(RX9, TX9, 4), rfl, by decide, wA_t (wt1 (List.mem_of_getElem? (i := 136) (by decide +kernel))) (by decide +kernel), rfl⟩
theorem lf_RX10_136 : gLf RX10 136 9 1 := ⟨(RX9, TX9, 4), rfl, by decide, wA_t (wt1 (List.mem_of_getElem? (i := 139) (by decide +kernel))) (by decide +kernel), rfl⟩
theorem lf_RX10_137 : gLf RX10 137 9 2 := ⟨(RX9, TX9, 4), rfl, by decide, wA_t (wt1 (List.mem_of_getElem? (i := 143) (by decide +kernel))) (by decide +kernel), rfl⟩
theorem lf_RX10_140 : gLf RX10 140 9 3 := ⟨(RX9, TX9, 4), rfl, by decide, wA_t (wt1 (List.mem_of_getElem? (i := 147) (by decide +kernel))) (by decide +kernel), rfl⟩
theorem lv_RX10_143 : gLv RX10 143 RX9 yX9_price cX9_price 1 (some .int) 0 := gLv_of (wA_t (wt5 (List.mem_of_getElem? (i := 22) (by decide +kernel))) (by decide +kernel)) (wA_t (wt5 (List.mem_of_getElem? (i := 23) (by decide +kernel))) (by decide +kernel)) (wA_t (wt5 (List.mem_of_getElem? (i := 24) (by decide +kernel))) (by decide +kernel)) (wA_t (wt1 (List.mem_of_getElem? (i := 8) (by decide +kernel))) (by decide +kernel)) (wA_t (wt5 (List.mem_of_getElem? (i := 25) (by decide +kernel))) (by decide +kernel)) ⟨rfl, by decide +kernel, by decide +kernel, by decide +kernel⟩
theorem lv_RX10_147 : gLv RX10 147 RX6 yX6_usesOf cX6_usesOf 4 (some .int) 1 := gLv_of (wA_t (wt5 (List.mem_of_getElem? (i := 26) (by decide +kernel))) (by decide +kernel)) (wA_t (wt5 (List.mem_of_getElem? (i := 27) (by decide +kernel))) (by decide +kernel)) (wA_t (wt5 (List.mem_of_getElem? (i := 28) (by decide +kernel))) (by decide +kernel)) (wA_t (wt1 (List.mem_of_getElem? (i := 6) (by decide +kernel))) (by decide +kernel)) (wA_t (wt5 (List.mem_of_getElem? (i := 29) (by decide +kernel))) (by decide +kernel)) ⟨rfl, by decide +kernel, by decide +kernel, by decide +kernel⟩
theorem lxn_RX10_151 : gLxN RX10 151 155 := gLxN_of (by decide +kernel) (by decide +kernel)
def rm_X10_yarn : Room := { frames := 7, cells := 2, slots := 12, locals := 141 }
def f_X10_yarn (τ : gτ) (n : Nat) (x0 : Nat) (x1 : Int32) (x2 : Int32) (G : gG) : Option ((String ⊕ Int32) × gG) :=
  gBindX (f_X10_yarnOf τ x0 x1 G) fun a1 G2 =>
  gchk (gkd τ a1 9) <|
  if x2 = 0 then (some (.inr (gi G2 9 0 a1), G2))
  else if x2 = 1 then (some (.inr (gi G2 9 1 a1), G2))
  else if x2 = 2 then (some (.inr (gi G2 9 2 a1), G2))
  else if x2 = 3 then (some (.inr (gi G2 9 3 a1), G2))
  else if x2 = 4 then ((f_X9_price a1 G2).bind fun v3 =>
  some (.inr v3, G2))
  else if x2 = 5 then ((gr G2 10 10 x0).bind fun a4 =>
  (f_X6_usesOf τ n a4 x1 G2).bind fun v5 =>
  some (.inr v5, G2))
  else (some (.inl x_NSE, G2))
set_option maxHeartbeats 4000000 in
set_option maxRecDepth 100000 in
theorem c_X10_yarn (l : Launch) (X : gX) (τ : gτ) (n : Nat) (hS : gS0 l X) (x0 : Nat) (x1 : Int32) (x2 : Int32) (G : gG) (h0 : gK τ x0 10) {r : String ⊕ Int32} {G' : gG} (h : f_X10_yarn τ n x0 x1 x2 G = some (r, G')) : gMX l X τ yX10_yarn cX10_yarn 4 (some .int) rm_X10_yarn [.ref x0, .int x1, .int x2] G (gOi r) G' := by
  refine g_bodyX (by decide +kernel) (Nat.le_of_ble_eq_true rfl) ?_
  intro p e s m args below meth c ls fx hr hxt hw hl
  have fx : gFx X p s m args meth c cX10_yarn 4 RX10 := fx
  have hl : lv_has ls 4 [(0, .ref x0), (1, .int x1), (2, .int x2)] := hl
  have hok : gOk (f_X10_yarn τ n x0 x1 x2 G) (fun q => q = (r, G')) := ⟨_, h, rfl⟩
  unfold f_X10_yarn at hok
  show W p l e rm_X10_yarn s m args below meth c s.heap [] 0 0 (vx_MQ below (gQX X τ (gOi r) G') (gXC X τ (gOi r) G') args s rm_X10_yarn.cells rm_X10_yarn.slots (gFree X)) _
  refine lv_aload_n fx.1 fx.2.1 dX10_yarn_0 rfl (lv_at hl 0 rfl) ?_
  refine lv_iload_n fx.1 fx.2.1 dX10_yarn_1 rfl (lv_at hl 1 rfl) ?_
  rcases gOk_bindX hok with ⟨E, G9, hf, hK⟩ | ⟨a1, G2, hf, hok⟩
  · have hK : (Sum.inl E, G9) = (r, G') := hK
    cases hK
    refine g_callVX (κ := 10) (As := [.int x1]) fx hw hxt (c_X10_yarnOf l X τ hS x0 x1 G h0 hf) lv_RX10_127 rfl rfl h0 rfl hl.1 rfl ⟨Nat.le_of_ble_eq_true rfl, Nat.le_of_ble_eq_true rfl⟩ (Nat.le_of_ble_eq_true rfl) ⟨Nat.le_of_ble_eq_true rfl, Nat.le_of_ble_eq_true rfl⟩ ⟨Nat.le_of_ble_eq_true rfl, Nat.le_of_ble_eq_true rfl⟩ dX10_yarn_2 (fun u H locs hv hw => ?_) (fun E9 hE => ?_)
    · have hv : (Sum.inl E : String ⊕ Option Value) = Sum.inr u := hv
      cases hv
    · have hE : (Sum.inl E : String ⊕ Option Value) = Sum.inl E9 := hE
      cases hE
      exact ⟨rfl, rfl⟩
  refine g_callVX (κ := 10) (As := [.int x1]) fx hw hxt (c_X10_yarnOf l X τ hS x0 x1 G h0 hf) lv_RX10_127 rfl rfl h0 rfl hl.1 rfl ⟨Nat.le_of_ble_eq_true rfl, Nat.le_of_ble_eq_true rfl⟩ (Nat.le_of_ble_eq_true rfl) ⟨Nat.le_of_ble_eq_true rfl, Nat.le_of_ble_eq_true rfl⟩ ⟨Nat.le_of_ble_eq_true rfl, Nat.le_of_ble_eq_true rfl⟩ dX10_yarn_2 (fun u9 H locs hv hw => ?_) (fun E9 hE => by have hE : (Sum.inr (some (.ref a1)) : String ⊕ Option Value) = Sum.inl E9 := hE; cases hE)
  have hv : (Sum.inr (some (.ref a1)) : String ⊕ Option Value) = Sum.inr u9 := hv
  cases hv
  obtain ⟨h_a1, hok⟩ := gOk_chk hok
  have h_a1 : gK τ a1 9 := gkd_K h_a1
  refine lv_astore_n (lv' := [(3, .ref a1), (0, .ref x0), (1, .int x1), (2, .int x2)]) fx.1 fx.2.1 dX10_yarn_5 rfl hl (by decide) rfl (fun ls hl => ?_)
  refine lv_iload_n fx.1 fx.2.1 dX10_yarn_6 rfl (lv_at hl 3 rfl) ?_
  by_cases hc0 : x2 = 0
  · have hok := gOk_t hok hc0
    refine lv_tableIn (tgt := 44) fx.1 fx.2.1 dX10_yarn_7 (by rw [hc0]; decide) (by rw [hc0]; decide) (by rw [hc0]; rfl) (by decide) ?_
    refine lv_aload_n fx.1 fx.2.1 dX10_yarn_44 rfl (lv_at hl 0 rfl) ?_
    refine g_geti fx hw h_a1 lf_RX10_131 rfl dX10_yarn_45 ?_
    cases gOk_some hok
    exact g_iretX fx hw hr ⟨Nat.le_of_ble_eq_true rfl, Nat.le_of_ble_eq_true rfl⟩ dX10_yarn_48
  have hok := gOk_f hok hc0
  by_cases hc1 : x2 = 1
  · have hok := gOk_t hok hc1
    refine lv_tableIn (tgt := 49) fx.1 fx.2.1 dX10_yarn_7 (by rw [hc1]; decide) (by rw [hc1]; decide) (by rw [hc1]; rfl) (by decide) ?_
    refine lv_aload_n fx.1 fx.2.1 dX10_yarn_49 rfl (lv_at hl 0 rfl) ?_
    refine g_geti fx hw h_a1 lf_RX10_136 rfl dX10_yarn_50 ?_
    cases gOk_some hok
    exact g_iretX fx hw hr ⟨Nat.le_of_ble_eq_true rfl, Nat.le_of_ble_eq_true rfl⟩ dX10_yarn_53
  have hok := gOk_f hok hc1
  by_cases hc2 : x2 = 2
  · have hok := gOk_t hok hc2
    refine lv_tableIn (tgt := 54) fx.1 fx.2.1 dX10_yarn_7 (by rw [hc2]; decide) (by rw [hc2]; decide) (by rw [hc2]; rfl) (by decide) ?_
    refine lv_aload_n fx.1 fx.2.1 dX10_yarn_54 rfl (lv_at hl 0 rfl) ?_
    refine g_geti fx hw h_a1 lf_RX10_137 rfl dX10_yarn_55 ?_
    cases gOk_some hok
    exact g_iretX fx hw hr ⟨Nat.le_of_ble_eq_true rfl, Nat.le_of_ble_eq_true rfl⟩ dX10_yarn_58
  have hok := gOk_f hok hc2
  by_cases hc3 : x2 = 3
  · have hok := gOk_t hok hc3
    refine lv_tableIn (tgt := 59) fx.1 fx.2.1 dX10_yarn_7 (by rw [hc3]; decide) (by rw [hc3]; decide) (by rw [hc3]; rfl) (by decide) ?_
    refine lv_aload_n fx.1 fx.2.1 dX10_yarn_59 rfl (lv_at hl 0 rfl) ?_
    refine g_geti fx hw h_a1 lf_RX10_140 rfl dX10_yarn_60 ?_
    cases gOk_some hok
    exact g_iretX fx hw hr ⟨Nat.le_of_ble_eq_true rfl, Nat.le_of_ble_eq_true rfl⟩ dX10_yarn_63
  have hok := gOk_f hok hc3
  by_cases hc4 : x2 = 4
  · have hok := gOk_t hok hc4
    refine lv_tableIn (tgt := 64) fx.1 fx.2.1 dX10_yarn_7 (by rw [hc4]; decide) (by rw [hc4]; decide) (by rw [hc4]; rfl) (by decide) ?_
    refine lv_aload_n fx.1 fx.2.1 dX10_yarn_64 rfl (lv_at hl 0 rfl) ?_
    obtain ⟨v3, hf, hok⟩ := gOk_bind hok
    refine g_callV0 (κ := 9) fx hw (c_X9_price l X τ a1 G2 h_a1 hf) lv_RX10_143 ⟨rfl, rfl⟩ rfl rfl h_a1 rfl hl.1 rfl ⟨Nat.le_of_ble_eq_true rfl, Nat.le_of_ble_eq_true rfl⟩ (Nat.le_of_ble_eq_true rfl) ⟨Nat.le_of_ble_eq_true rfl, Nat.le_of_ble_eq_true rfl⟩ dX10_yarn_65 (fun H locs hw => ?_)
    cases gOk_some hok
    exact g_iretX fx hw hr ⟨Nat.le_of_ble_eq_true rfl, Nat.le_of_ble_eq_true rfl⟩ dX10_yarn_68
  have hok := gOk_f hok hc4
  by_cases hc5 : x2 = 5
  · have hok := gOk_t hok hc5
    refine lv_tableIn (tgt := 69) fx.1 fx.2.1 dX10_yarn_7 (by rw [hc5]; decide) (by rw [hc5]; decide) (by rw [hc5]; rfl) (by decide) ?_
    refine lv_aload_n fx.1 fx.2.1 dX10_yarn_69 rfl (lv_at hl 1 rfl) ?_
    refine g_getr fx hw h0 lf_RX10_70 rfl dX10_yarn_70 hok (fun a4 h_a4 hok => ?_)
    refine lv_iload_n fx.1 fx.2.1 dX10_yarn_73 rfl (lv_at hl 2 rfl) ?_
    obtain ⟨v5, hf, hok⟩ := gOk_bind hok
    refine g_callV0 (κ := 6) fx hw (c_X6_usesOf l X τ n a4 x1 G2 h_a4 hf) lv_RX10_147 ⟨rfl, rfl⟩ rfl rfl h_a4 rfl hl.1 rfl ⟨Nat.le_of_ble_eq_true rfl, Nat.le_of_ble_eq_true rfl⟩ (Nat.le_of_ble_eq_true rfl) ⟨Nat.le_of_ble_eq_true rfl, Nat.le_of_ble_eq_true rfl⟩ dX10_yarn_74 (fun H locs hw => ?_)
    cases gOk_some hok
    exact g_iretX fx hw hr ⟨Nat.le_of_ble_eq_true rfl, Nat.le_of_ble_eq_true rfl⟩ dX10_yarn_77
  have hok := gOk_f hok hc5
  refine lv_tableOut (tgt := 78) fx.1 fx.2.1 dX10_yarn_7 (gOut 0 6 (by decide) (by decide) (by decide) (by decide) (fun j hj => ?_)) (by decide) ?_
  · match j, hj with
    | 0, _ => exact hc0
    | 1, _ => exact hc1
    | 2, _ => exact hc2
    | 3, _ => exact hc3
    | 4, _ => exact hc4
    | 5, _ => exact hc5
  · cases gOk_some hok
    exact g_throwN fx hw hS hl.1 hxt lxn_RX10_151 gt_RX10_153 dX10_yarn_78 dX10_yarn_81 dX10_yarn_82 dX10_yarn_84 dX10_yarn_87 ⟨Nat.le_of_ble_eq_true rfl, Nat.le_of_ble_eq_true rfl, Nat.le_of_ble_eq_true rfl, Nat.le_of_ble_eq_true rfl⟩ ⟨Nat.le_of_ble_eq_true rfl, Nat.le_of_ble_eq_true rfl⟩
theorem dX10_ropeOf_0 : decode cX10_ropeOf 0 = .ok (.iload_n 1, 1) := by decide +kernel
theorem dX10_ropeOf_1 : decode cX10_ropeOf 1 = .ok (.ifCond .lt 14, 3) := by decide +kernel
theorem dX10_ropeOf_4 : decode cX10_ropeOf 4 = .ok (.iload_n 1, 1) := by decide +kernel
theorem dX10_ropeOf_5 : decode cX10_ropeOf 5 = .ok (.aload_n 0, 1) := by decide +kernel
theorem dX10_ropeOf_6 : decode cX10_ropeOf 6 = .ok (.getfield 70, 3) := by decide +kernel
theorem dX10_ropeOf_9 : decode cX10_ropeOf 9 = .ok (.getfield 286, 3) := by decide +kernel
theorem dX10_ropeOf_12 : decode cX10_ropeOf 12 = .ok (.if_icmp .lt 14, 3) := by decide +kernel
theorem dX10_ropeOf_15 : decode cX10_ropeOf 15 = .ok (.new 453, 3) := by decide +kernel
theorem dX10_ropeOf_18 : decode cX10_ropeOf 18 = .ok (.dup, 1) := by decide +kernel
theorem dX10_ropeOf_19 : decode cX10_ropeOf 19 = .ok (.ldc_w 458, 3) := by decide +kernel
theorem dX10_ropeOf_22 : decode cX10_ropeOf 22 = .ok (.invokespecial 457, 3) := by decide +kernel
theorem dX10_ropeOf_25 : decode cX10_ropeOf 25 = .ok (.athrow, 1) := by decide +kernel
theorem dX10_ropeOf_26 : decode cX10_ropeOf 26 = .ok (.aload_n 0, 1) := by decide +kernel
theorem dX10_ropeOf_27 : decode cX10_ropeOf 27 = .ok (.getfield 70, 3) := by decide +kernel
theorem dX10_ropeOf_30 : decode cX10_ropeOf 30 = .ok (.getfield 325, 3) := by decide +kernel
theorem dX10_ropeOf_33 : decode cX10_ropeOf 33 = .ok (.iload_n 1, 1) := by decide +kernel
theorem dX10_ropeOf_34 : decode cX10_ropeOf 34 = .ok (.aaload, 1) := by decide +kernel
theorem dX10_ropeOf_35 : decode cX10_ropeOf 35 = .ok (.areturn, 1) := by decide +kernel
theorem lf_RX10_286 : gLf RX10 286 6 5 := ⟨(RX6, TX6, 15), rfl, by decide, wA_t (wt2 (List.mem_of_getElem? (i := 21) (by decide +kernel))) (by decide +kernel), rfl⟩
theorem lf_RX10_325 : gLf RX10 325 6 1 := ⟨(RX6, TX6, 15), rfl, by decide, wA_t (wt2 (List.mem_of_getElem? (i := 11) (by decide +kernel))) (by decide +kernel), rfl⟩
def rm_X10_ropeOf : Room := { frames := 6, cells := 1, slots := 6, locals := 120 }
def f_X10_ropeOf (τ : gτ) (x0 : Nat) (x1 : Int32) (G : gG) : Option ((String ⊕ Nat) × gG) :=
  if x1 < 0 then (some (.inl x_IOE, G))
  else ((gr G 10 10 x0).bind fun a1 =>
  if x1 < (gi G 6 5 a1) then ((gr G 10 10 x0).bind fun a2 =>
  (gr G 6 1 a2).bind fun a3 =>
  gchk (gIn x1 (gn τ a3)) <| (gq G a3 (Int32.toNatClampNeg x1)).bind fun a4 =>
  some (.inr a4, G))
  else (some (.inl x_IOE, G)))
set_option maxHeartbeats 4000000 in
set_option maxRecDepth 100000 in
theorem c_X10_ropeOf (l : Launch) (X : gX) (τ : gτ) (hS : gS0 l X) (x0 : Nat) (x1 : Int32) (G : gG) (h0 : gK τ x0 10) {r : String ⊕ Nat} {G' : gG} (h : f_X10_ropeOf τ x0 x1 G = some (r, G')) : gMX l X τ yX10_ropeOf cX10_ropeOf 2 (some (.object "YearRope$Rope")) rm_X10_ropeOf [.ref x0, .int x1] G (gOr r) G' := by
  refine g_bodyX (by decide +kernel) (Nat.le_of_ble_eq_true rfl) ?_
  intro p e s m args below meth c ls fx hr hxt hw hl
  have fx : gFx X p s m args meth c cX10_ropeOf 2 RX10 := fx
  have hl : lv_has ls 2 [(0, .ref x0), (1, .int x1)] := hl
  have hok : gOk (f_X10_ropeOf τ x0 x1 G) (fun q => q = (r, G')) := ⟨_, h, rfl⟩
  unfold f_X10_ropeOf at hok
  show W p l e rm_X10_ropeOf s m args below meth c s.heap [] 0 0 (vx_MQ below (gQX X τ (gOr r) G') (gXC X τ (gOr r) G') args s rm_X10_ropeOf.cells rm_X10_ropeOf.slots (gFree X)) _
  refine lv_iload_n fx.1 fx.2.1 dX10_ropeOf_0 rfl (lv_at hl 1 rfl) ?_
  refine g_if_lt (tgt := 15) fx dX10_ropeOf_1 (by decide) hok (fun hok => ?_) (fun hok => ?_)
  · cases gOk_some hok
    exact g_throwSW fx hw hS hl.1 hxt lx_RX10_453 gt_RX10_458 dX10_ropeOf_15 dX10_ropeOf_18 dX10_ropeOf_19 dX10_ropeOf_22 dX10_ropeOf_25 ⟨Nat.le_of_ble_eq_true rfl, Nat.le_of_ble_eq_true rfl, Nat.le_of_ble_eq_true rfl, Nat.le_of_ble_eq_true rfl⟩ ⟨Nat.le_of_ble_eq_true rfl, Nat.le_of_ble_eq_true rfl⟩
  · refine lv_iload_n fx.1 fx.2.1 dX10_ropeOf_4 rfl (lv_at hl 1 rfl) ?_
    refine lv_aload_n fx.1 fx.2.1 dX10_ropeOf_5 rfl (lv_at hl 0 rfl) ?_
    refine g_getr fx hw h0 lf_RX10_70 rfl dX10_ropeOf_6 hok (fun a1 h_a1 hok => ?_)
    refine g_geti fx hw h_a1 lf_RX10_286 rfl dX10_ropeOf_9 ?_
    refine g_icmp_lt (tgt := 26) fx dX10_ropeOf_12 (by decide) hok (fun hok => ?_) (fun hok => ?_)
    · refine lv_aload_n fx.1 fx.2.1 dX10_ropeOf_26 rfl (lv_at hl 0 rfl) ?_
      refine g_getr fx hw h0 lf_RX10_70 rfl dX10_ropeOf_27 hok (fun a2 h_a2 hok => ?_)
      refine g_getr fx hw h_a2 lf_RX10_325 rfl dX10_ropeOf_30 hok (fun a3 h_a3 hok => ?_)
      refine lv_iload_n fx.1 fx.2.1 dX10_ropeOf_33 rfl (lv_at hl 1 rfl) ?_
      refine g_aald fx hw 15 3 h_a3 (by decide) (by decide) rfl (κ' := 5) rfl dX10_ropeOf_34 hok (fun a4 h_a4 hok => ?_)
      cases gOk_some hok
      exact g_aretX fx hw hr ⟨Nat.le_of_ble_eq_true rfl, Nat.le_of_ble_eq_true rfl⟩ dX10_ropeOf_35
    · cases gOk_some hok
      exact g_throwSW fx hw hS hl.1 hxt lx_RX10_453 gt_RX10_458 dX10_ropeOf_15 dX10_ropeOf_18 dX10_ropeOf_19 dX10_ropeOf_22 dX10_ropeOf_25 ⟨Nat.le_of_ble_eq_true rfl, Nat.le_of_ble_eq_true rfl, Nat.le_of_ble_eq_true rfl, Nat.le_of_ble_eq_true rfl⟩ ⟨Nat.le_of_ble_eq_true rfl, Nat.le_of_ble_eq_true rfl⟩
theorem dX10_rope_0 : decode cX10_rope 0 = .ok (.aload_n 0, 1) := by decide +kernel
theorem dX10_rope_1 : decode cX10_rope 1 = .ok (.iload_n 1, 1) := by decide +kernel
theorem dX10_rope_2 : decode cX10_rope 2 = .ok (.invokevirtual 156, 3) := by decide +kernel
theorem dX10_rope_5 : decode cX10_rope 5 = .ok (.astore_n 3, 1) := by decide +kernel
theorem dX10_rope_6 : decode cX10_rope 6 = .ok (.iload_n 2, 1) := by decide +kernel
theorem dX10_rope_7 : decode cX10_rope 7 = .ok (.tableswitch 179 0 13 #[69, 74, 79, 84, 89, 94, 99, 112, 117, 130, 135, 148, 161, 170], 69) := by decide +kernel
theorem dX10_rope_76 : decode cX10_rope 76 = .ok (.aload_n 3, 1) := by decide +kernel
theorem dX10_rope_77 : decode cX10_rope 77 = .ok (.getfield 160, 3) := by decide +kernel
theorem dX10_rope_80 : decode cX10_rope 80 = .ok (.ireturn, 1) := by decide +kernel
theorem dX10_rope_81 : decode cX10_rope 81 = .ok (.aload_n 3, 1) := by decide +kernel
theorem dX10_rope_82 : decode cX10_rope 82 = .ok (.getfield 163, 3) := by decide +kernel
theorem dX10_rope_85 : decode cX10_rope 85 = .ok (.ireturn, 1) := by decide +kernel
theorem dX10_rope_86 : decode cX10_rope 86 = .ok (.aload_n 3, 1) := by decide +kernel
theorem dX10_rope_87 : decode cX10_rope 87 = .ok (.getfield 166, 3) := by decide +kernel
theorem dX10_rope_90 : decode cX10_rope 90 = .ok (.ireturn, 1) := by decide +kernel
theorem dX10_rope_91 : decode cX10_rope 91 = .ok (.aload_n 3, 1) := by decide +kernel
theorem dX10_rope_92 : decode cX10_rope 92 = .ok (.getfield 169, 3) := by decide +kernel
theorem dX10_rope_95 : decode cX10_rope 95 = .ok (.ireturn, 1) := by decide +kernel
theorem dX10_rope_96 : decode cX10_rope 96 = .ok (.aload_n 3, 1) := by decide +kernel
theorem dX10_rope_97 : decode cX10_rope 97 = .ok (.getfield 172, 3) := by decide +kernel
theorem dX10_rope_100 : decode cX10_rope 100 = .ok (.ireturn, 1) := by decide +kernel
theorem dX10_rope_101 : decode cX10_rope 101 = .ok (.aload_n 3, 1) := by decide +kernel
theorem dX10_rope_102 : decode cX10_rope 102 = .ok (.getfield 175, 3) := by decide +kernel
theorem dX10_rope_105 : decode cX10_rope 105 = .ok (.ireturn, 1) := by decide +kernel
theorem dX10_rope_106 : decode cX10_rope 106 = .ok (.aload_n 3, 1) := by decide +kernel
theorem dX10_rope_107 : decode cX10_rope 107 = .ok (.getfield 178, 3) := by decide +kernel
theorem dX10_rope_110 : decode cX10_rope 110 = .ok (.ifCond .eq 7, 3) := by decide +kernel
theorem dX10_rope_113 : decode cX10_rope 113 = .ok (.iconst 1, 1) := by decide +kernel
theorem dX10_rope_114 : decode cX10_rope 114 = .ok (.goto 4, 3) := by decide +kernel
theorem dX10_rope_117 : decode cX10_rope 117 = .ok (.iconst 0, 1) := by decide +kernel
theorem dX10_rope_118 : decode cX10_rope 118 = .ok (.ireturn, 1) := by decide +kernel
theorem dX10_rope_119 : decode cX10_rope 119 = .ok (.aload_n 3, 1) := by decide +kernel
theorem dX10_rope_120 : decode cX10_rope 120 = .ok (.getfield 182, 3) := by decide +kernel
theorem dX10_rope_123 : decode cX10_rope 123 = .ok (.ireturn, 1) := by decide +kernel
theorem dX10_rope_124 : decode cX10_rope 124 = .ok (.aload_n 3, 1) := by decide +kernel
theorem dX10_rope_125 : decode cX10_rope 125 = .ok (.getfield 185, 3) := by decide +kernel
theorem dX10_rope_128 : decode cX10_rope 128 = .ok (.ifCond .eq 7, 3) := by decide +kernel
theorem dX10_rope_131 : decode cX10_rope 131 = .ok (.iconst 1, 1) := by decide +kernel
theorem dX10_rope_132 : decode cX10_rope 132 = .ok (.goto 4, 3) := by decide +kernel
theorem dX10_rope_135 : decode cX10_rope 135 = .ok (.iconst 0, 1) := by decide +kernel
theorem dX10_rope_136 : decode cX10_rope 136 = .ok (.ireturn, 1) := by decide +kernel
theorem dX10_rope_137 : decode cX10_rope 137 = .ok (.aload_n 3, 1) := by decide +kernel
theorem dX10_rope_138 : decode cX10_rope 138 = .ok (.getfield 188, 3) := by decide +kernel
theorem dX10_rope_141 : decode cX10_rope 141 = .ok (.ireturn, 1) := by decide +kernel
theorem dX10_rope_142 : decode cX10_rope 142 = .ok (.aload_n 0, 1) := by decide +kernel
theorem dX10_rope_143 : decode cX10_rope 143 = .ok (.getfield 70, 3) := by decide +kernel
theorem dX10_rope_146 : decode cX10_rope 146 = .ok (.aload_n 3, 1) := by decide +kernel
theorem dX10_rope_147 : decode cX10_rope 147 = .ok (.aload_n 0, 1) := by decide +kernel
theorem dX10_rope_148 : decode cX10_rope 148 = .ok (.getfield 76, 3) := by decide +kernel
theorem dX10_rope_151 : decode cX10_rope 151 = .ok (.invokevirtual 191, 3) := by decide +kernel
theorem dX10_rope_154 : decode cX10_rope 154 = .ok (.ireturn, 1) := by decide +kernel
theorem dX10_rope_155 : decode cX10_rope 155 = .ok (.aload_n 0, 1) := by decide +kernel
theorem dX10_rope_156 : decode cX10_rope 156 = .ok (.getfield 70, 3) := by decide +kernel
theorem dX10_rope_159 : decode cX10_rope 159 = .ok (.aload_n 3, 1) := by decide +kernel
theorem dX10_rope_160 : decode cX10_rope 160 = .ok (.aload_n 0, 1) := by decide +kernel
theorem dX10_rope_161 : decode cX10_rope 161 = .ok (.getfield 76, 3) := by decide +kernel
theorem dX10_rope_164 : decode cX10_rope 164 = .ok (.invokevirtual 195, 3) := by decide +kernel
theorem dX10_rope_167 : decode cX10_rope 167 = .ok (.ireturn, 1) := by decide +kernel
theorem dX10_rope_168 : decode cX10_rope 168 = .ok (.aload_n 0, 1) := by decide +kernel
theorem dX10_rope_169 : decode cX10_rope 169 = .ok (.getfield 70, 3) := by decide +kernel
theorem dX10_rope_172 : decode cX10_rope 172 = .ok (.aload_n 3, 1) := by decide +kernel
theorem dX10_rope_173 : decode cX10_rope 173 = .ok (.invokevirtual 198, 3) := by decide +kernel
theorem dX10_rope_176 : decode cX10_rope 176 = .ok (.ireturn, 1) := by decide +kernel
theorem dX10_rope_177 : decode cX10_rope 177 = .ok (.aload_n 0, 1) := by decide +kernel
theorem dX10_rope_178 : decode cX10_rope 178 = .ok (.getfield 70, 3) := by decide +kernel
theorem dX10_rope_181 : decode cX10_rope 181 = .ok (.iload_n 1, 1) := by decide +kernel
theorem dX10_rope_182 : decode cX10_rope 182 = .ok (.invokevirtual 202, 3) := by decide +kernel
theorem dX10_rope_185 : decode cX10_rope 185 = .ok (.ireturn, 1) := by decide +kernel
theorem dX10_rope_186 : decode cX10_rope 186 = .ok (.new 151, 3) := by decide +kernel
theorem dX10_rope_189 : decode cX10_rope 189 = .ok (.dup, 1) := by decide +kernel
theorem dX10_rope_190 : decode cX10_rope 190 = .ok (.ldc 205, 2) := by decide +kernel
theorem dX10_rope_192 : decode cX10_rope 192 = .ok (.invokespecial 155, 3) := by decide +kernel
theorem dX10_rope_195 : decode cX10_rope 195 = .ok (.athrow, 1) := by decide +kernel
theorem lv_RX10_156 : gLv RX10 156 RX10 yX10_ropeOf cX10_ropeOf 2 (some (.object "YearRope$Rope")) 1 := gLv_of (wA_t (wt5 (List.mem_of_getElem? (i := 57) (by decide +kernel))) (by decide +kernel)) (wA_t (wt5 (List.mem_of_getElem? (i := 59) (by decide +kernel))) (by decide +kernel)) (wA_of (List.mem_append_left _ (List.mem_map.mpr ⟨(⟨"YearRope", "ropeOf", "(I)LYearRope$Rope;"⟩, 15), wp2 (List.mem_of_getElem? (i := 9) (by decide +kernel)), rfl⟩)) (by decide +kernel)) (wA_t (wt1 (List.mem_of_getElem? (i := 1) (by decide +kernel))) (by decide +kernel)) (wA_t (wt5 (List.mem_of_getElem? (i := 60) (by decide +kernel))) (by decide +kernel)) ⟨rfl, by decide +kernel, by decide +kernel, by decide +kernel⟩
theorem lf_RX10_160 : gLf RX10 160 5 0 := ⟨(RX5, TX5, 10), rfl, by decide, wA_t (wt1 (List.mem_of_getElem? (i := 164) (by decide +kernel))) (by decide +kernel), rfl⟩
theorem lf_RX10_163 : gLf RX10 163 5 1 := ⟨(RX5, TX5, 10), rfl, by decide, wA_t (wt1 (List.mem_of_getElem? (i := 168) (by decide +kernel))) (by decide +kernel), rfl⟩
theorem lf_RX10_166 : gLf RX10 166 5 2 := ⟨(RX5, TX5, 10), rfl, by decide, wA_t (wt1 (List.mem_of_getElem? (i := 172) (by decide +kernel))) (by decide +kernel), rfl⟩
theorem lf_RX10_169 : gLf RX10 169 5 3 := ⟨(RX5, TX5, 10), rfl, by decide, wA_t (wt1 (List.mem_of_getElem? (i := 176) (by decide +kernel))) (by decide +kernel), rfl⟩
theorem lf_RX10_172 : gLf RX10 172 5 4 := ⟨(RX5, TX5, 10), rfl, by decide, wA_t (wt1 (List.mem_of_getElem? (i := 180) (by decide +kernel))) (by decide +kernel), rfl⟩
theorem lf_RX10_175 : gLf RX10 175 5 5 := ⟨(RX5, TX5, 10), rfl, by decide, wA_t (wt1 (List.mem_of_getElem? (i := 184) (by decide +kernel))) (by decide +kernel), rfl⟩
theorem lf_RX10_178 : gLf RX10 178 5 8 := ⟨(RX5, TX5, 10), rfl, by decide, wA_t (wt1 (List.mem_of_getElem? (i := 198) (by decide +kernel))) (by decide +kernel), rfl⟩
theorem lf_RX10_182 : gLf RX10 182 5 6 := ⟨(RX5, TX5, 10), rfl, by decide, wA_t (wt1 (List.mem_of_getElem? (i := 188) (by decide +kernel))) (by decide +kernel), rfl⟩
theorem lf_RX10_185 : gLf RX10 185 5 9 := ⟨(RX5, TX5, 10), rfl, by decide, wA_t (wt1 (List.mem_of_getElem? (i := 202) (by decide +kernel))) (by decide +kernel), rfl⟩
theorem lf_RX10_188 : gLf RX10 188 5 7 := ⟨(RX5, TX5, 10), rfl, by decide, wA_t (wt1 (List.mem_of_getElem? (i := 194) (by decide +kernel))) (by decide +kernel), rfl⟩
theorem lv_RX10_191 : gLv RX10 191 RX6 yX6_bearing cX6_bearing 7 (some .int) 2 := gLv_of (wA_t (wt2 (List.mem_of_getElem? (i := 200) (by decide +kernel))) (by decide +kernel)) (wA_t (wt2 (List.mem_of_getElem? (i := 201) (by decide +kernel))) (by decide +kernel)) (wA_t (wt2 (List.mem_of_getElem? (i := 202) (by decide +kernel))) (by decide +kernel)) (wA_t (wt1 (List.mem_of_getElem? (i := 6) (by decide +kernel))) (by decide +kernel)) (wA_t (wt2 (List.mem_of_getElem? (i := 203) (by decide +kernel))) (by decide +kernel)) ⟨rfl, by decide +kernel, by decide +kernel, by decide +kernel⟩
theorem lv_RX10_195 : gLv RX10 195 RX6 yX6_wearing cX6_wearing 3 (some .int) 2 := gLv_of (wA_t (wt5 (List.mem_of_getElem? (i := 62) (by decide +kernel))) (by decide +kernel)) (wA_t (wt5 (List.mem_of_getElem? (i := 63) (by decide +kernel))) (by decide +kernel)) (wA_t (wt5 (List.mem_of_getElem? (i := 64) (by decide +kernel))) (by decide +kernel)) (wA_t (wt1 (List.mem_of_getElem? (i := 6) (by decide +kernel))) (by decide +kernel)) (wA_t (wt5 (List.mem_of_getElem? (i := 65) (by decide +kernel))) (by decide +kernel)) ⟨rfl, by decide +kernel, by decide +kernel, by decide +kernel⟩
theorem lv_RX10_198 : gLv RX10 198 RX6 yX6_priceOf cX6_priceOf 3 (some .int) 1 := gLv_of (wA_t (wt5 (List.mem_of_getElem? (i := 66) (by decide +kernel))) (by decide +kernel)) (wA_t (wt5 (List.mem_of_getElem? (i := 67) (by decide +kernel))) (by decide +kernel)) (wA_t (wt5 (List.mem_of_getElem? (i := 68) (by decide +kernel))) (by decide +kernel)) (wA_t (wt1 (List.mem_of_getElem? (i := 6) (by decide +kernel))) (by decide +kernel)) (wA_t (wt5 (List.mem_of_getElem? (i := 69) (by decide +kernel))) (by decide +kernel)) ⟨rfl, by decide +kernel, by decide +kernel, by decide +kernel⟩
theorem lv_RX10_202 : gLv RX10 202 RX6 yX6_twinsOf cX6_twinsOf 6 (some .int) 1 := gLv_of (wA_t (wt5 (List.mem_of_getElem? (i := 71) (by decide +kernel))) (by decide +kernel)) (wA_t (wt5 (List.mem_of_getElem? (i := 72) (by decide +kernel))) (by decide +kernel)) (wA_t (wt5 (List.mem_of_getElem? (i := 73) (by decide +kernel))) (by decide +kernel)) (wA_t (wt1 (List.mem_of_getElem? (i := 6) (by decide +kernel))) (by decide +kernel)) (wA_t (wt5 (List.mem_of_getElem? (i := 74) (by decide +kernel))) (by decide +kernel)) ⟨rfl, by decide +kernel, by decide +kernel, by decide +kernel⟩
def rm_X10_rope : Room := { frames := 7, cells := 2, slots := 12, locals := 141 }
def f_X10_rope (τ : gτ) (n : Nat) (x0 : Nat) (x1 : Int32) (x2 : Int32) (G : gG) : Option ((String ⊕ Int32) × gG) :=
  gBindX (f_X10_ropeOf τ x0 x1 G) fun a1 G2 =>
  gchk (gkd τ a1 5) <|
  if x2 = 0 then (some (.inr (gi G2 5 0 a1), G2))
  else if x2 = 1 then (some (.inr (gi G2 5 1 a1), G2))
  else if x2 = 2 then (some (.inr (gi G2 5 2 a1), G2))
  else if x2 = 3 then (some (.inr (gi G2 5 3 a1), G2))
  else if x2 = 4 then (some (.inr (gi G2 5 4 a1), G2))
  else if x2 = 5 then (some (.inr (gi G2 5 5 a1), G2))
  else if x2 = 6 then (if (gi G2 5 8 a1) = 0 then (some (.inr (0 : Int32), G2))
  else (some (.inr (1 : Int32), G2)))
  else if x2 = 7 then (some (.inr (gi G2 5 6 a1), G2))
  else if x2 = 8 then (if (gi G2 5 9 a1) = 0 then (some (.inr (0 : Int32), G2))
  else (some (.inr (1 : Int32), G2)))
  else if x2 = 9 then (some (.inr (gi G2 5 7 a1), G2))
  else if x2 = 10 then ((gr G2 10 10 x0).bind fun a3 =>
  (gr G2 10 12 x0).bind fun a4 =>
  gBind2 (f_X6_bearing τ n a3 a1 a4 G2) fun v5 G6 =>
  some (.inr v5, G6))
  else if x2 = 11 then ((gr G2 10 10 x0).bind fun a7 =>
  (gr G2 10 12 x0).bind fun a8 =>
  gBind2 (f_X6_wearing τ n a7 a1 a8 G2) fun v9 G10 =>
  some (.inr v9, G10))
  else if x2 = 12 then ((gr G2 10 10 x0).bind fun a11 =>
  (f_X6_priceOf τ a11 a1 G2).bind fun v12 =>
  some (.inr v12, G2))
  else if x2 = 13 then ((gr G2 10 10 x0).bind fun a13 =>
  (f_X6_twinsOf τ n a13 x1 G2).bind fun v14 =>
  some (.inr v14, G2))
  else (some (.inl x_NSE, G2))
set_option maxHeartbeats 4000000 in
set_option maxRecDepth 100000 in
theorem c_X10_rope (l : Launch) (X : gX) (τ : gτ) (n : Nat) (hS : gS0 l X) (x0 : Nat) (x1 : Int32) (x2 : Int32) (G : gG) (h0 : gK τ x0 10) {r : String ⊕ Int32} {G' : gG} (h : f_X10_rope τ n x0 x1 x2 G = some (r, G')) : gMX l X τ yX10_rope cX10_rope 4 (some .int) rm_X10_rope [.ref x0, .int x1, .int x2] G (gOi r) G' := by
  refine g_bodyX (by decide +kernel) (Nat.le_of_ble_eq_true rfl) ?_
  intro p e s m args below meth c ls fx hr hxt hw hl
  have fx : gFx X p s m args meth c cX10_rope 4 RX10 := fx
  have hl : lv_has ls 4 [(0, .ref x0), (1, .int x1), (2, .int x2)] := hl
  have hok : gOk (f_X10_rope τ n x0 x1 x2 G) (fun q => q = (r, G')) := ⟨_, h, rfl⟩
  unfold f_X10_rope at hok
  show W p l e rm_X10_rope s m args below meth c s.heap [] 0 0 (vx_MQ below (gQX X τ (gOi r) G') (gXC X τ (gOi r) G') args s rm_X10_rope.cells rm_X10_rope.slots (gFree X)) _
  refine lv_aload_n fx.1 fx.2.1 dX10_rope_0 rfl (lv_at hl 0 rfl) ?_
  refine lv_iload_n fx.1 fx.2.1 dX10_rope_1 rfl (lv_at hl 1 rfl) ?_
  rcases gOk_bindX hok with ⟨E, G9, hf, hK⟩ | ⟨a1, G2, hf, hok⟩
  · have hK : (Sum.inl E, G9) = (r, G') := hK
    cases hK
    refine g_callVX (κ := 10) (As := [.int x1]) fx hw hxt (c_X10_ropeOf l X τ hS x0 x1 G h0 hf) lv_RX10_156 rfl rfl h0 rfl hl.1 rfl ⟨Nat.le_of_ble_eq_true rfl, Nat.le_of_ble_eq_true rfl⟩ (Nat.le_of_ble_eq_true rfl) ⟨Nat.le_of_ble_eq_true rfl, Nat.le_of_ble_eq_true rfl⟩ ⟨Nat.le_of_ble_eq_true rfl, Nat.le_of_ble_eq_true rfl⟩ dX10_rope_2 (fun u H locs hv hw => ?_) (fun E9 hE => ?_)
    · have hv : (Sum.inl E : String ⊕ Option Value) = Sum.inr u := hv
      cases hv
    · have hE : (Sum.inl E : String ⊕ Option Value) = Sum.inl E9 := hE
      cases hE
      exact ⟨rfl, rfl⟩
  refine g_callVX (κ := 10) (As := [.int x1]) fx hw hxt (c_X10_ropeOf l X τ hS x0 x1 G h0 hf) lv_RX10_156 rfl rfl h0 rfl hl.1 rfl ⟨Nat.le_of_ble_eq_true rfl, Nat.le_of_ble_eq_true rfl⟩ (Nat.le_of_ble_eq_true rfl) ⟨Nat.le_of_ble_eq_true rfl, Nat.le_of_ble_eq_true rfl⟩ ⟨Nat.le_of_ble_eq_true rfl, Nat.le_of_ble_eq_true rfl⟩ dX10_rope_2 (fun u9 H locs hv hw => ?_) (fun E9 hE => by have hE : (Sum.inr (some (.ref a1)) : String ⊕ Option Value) = Sum.inl E9 := hE; cases hE)
  have hv : (Sum.inr (some (.ref a1)) : String ⊕ Option Value) = Sum.inr u9 := hv
  cases hv
  obtain ⟨h_a1, hok⟩ := gOk_chk hok
  have h_a1 : gK τ a1 5 := gkd_K h_a1
  refine lv_astore_n (lv' := [(3, .ref a1), (0, .ref x0), (1, .int x1), (2, .int x2)]) fx.1 fx.2.1 dX10_rope_5 rfl hl (by decide) rfl (fun ls hl => ?_)
  refine lv_iload_n fx.1 fx.2.1 dX10_rope_6 rfl (lv_at hl 3 rfl) ?_
  by_cases hc0 : x2 = 0
  · have hok := gOk_t hok hc0
    refine lv_tableIn (tgt := 76) fx.1 fx.2.1 dX10_rope_7 (by rw [hc0]; decide) (by rw [hc0]; decide) (by rw [hc0]; rfl) (by decide) ?_
    refine lv_aload_n fx.1 fx.2.1 dX10_rope_76 rfl (lv_at hl 0 rfl) ?_
    refine g_geti fx hw h_a1 lf_RX10_160 rfl dX10_rope_77 ?_
    cases gOk_some hok
    exact g_iretX fx hw hr ⟨Nat.le_of_ble_eq_true rfl, Nat.le_of_ble_eq_true rfl⟩ dX10_rope_80
  have hok := gOk_f hok hc0
  by_cases hc1 : x2 = 1
  · have hok := gOk_t hok hc1
    refine lv_tableIn (tgt := 81) fx.1 fx.2.1 dX10_rope_7 (by rw [hc1]; decide) (by rw [hc1]; decide) (by rw [hc1]; rfl) (by decide) ?_
    refine lv_aload_n fx.1 fx.2.1 dX10_rope_81 rfl (lv_at hl 0 rfl) ?_
    refine g_geti fx hw h_a1 lf_RX10_163 rfl dX10_rope_82 ?_
    cases gOk_some hok
    exact g_iretX fx hw hr ⟨Nat.le_of_ble_eq_true rfl, Nat.le_of_ble_eq_true rfl⟩ dX10_rope_85
  have hok := gOk_f hok hc1
  by_cases hc2 : x2 = 2
  · have hok := gOk_t hok hc2
    refine lv_tableIn (tgt := 86) fx.1 fx.2.1 dX10_rope_7 (by rw [hc2]; decide) (by rw [hc2]; decide) (by rw [hc2]; rfl) (by decide) ?_
    refine lv_aload_n fx.1 fx.2.1 dX10_rope_86 rfl (lv_at hl 0 rfl) ?_
    refine g_geti fx hw h_a1 lf_RX10_166 rfl dX10_rope_87 ?_
    cases gOk_some hok
    exact g_iretX fx hw hr ⟨Nat.le_of_ble_eq_true rfl, Nat.le_of_ble_eq_true rfl⟩ dX10_rope_90
  have hok := gOk_f hok hc2
  by_cases hc3 : x2 = 3
  · have hok := gOk_t hok hc3
    refine lv_tableIn (tgt := 91) fx.1 fx.2.1 dX10_rope_7 (by rw [hc3]; decide) (by rw [hc3]; decide) (by rw [hc3]; rfl) (by decide) ?_
    refine lv_aload_n fx.1 fx.2.1 dX10_rope_91 rfl (lv_at hl 0 rfl) ?_
    refine g_geti fx hw h_a1 lf_RX10_169 rfl dX10_rope_92 ?_
    cases gOk_some hok
    exact g_iretX fx hw hr ⟨Nat.le_of_ble_eq_true rfl, Nat.le_of_ble_eq_true rfl⟩ dX10_rope_95
  have hok := gOk_f hok hc3
  by_cases hc4 : x2 = 4
  · have hok := gOk_t hok hc4
    refine lv_tableIn (tgt := 96) fx.1 fx.2.1 dX10_rope_7 (by rw [hc4]; decide) (by rw [hc4]; decide) (by rw [hc4]; rfl) (by decide) ?_
    refine lv_aload_n fx.1 fx.2.1 dX10_rope_96 rfl (lv_at hl 0 rfl) ?_
    refine g_geti fx hw h_a1 lf_RX10_172 rfl dX10_rope_97 ?_
    cases gOk_some hok
    exact g_iretX fx hw hr ⟨Nat.le_of_ble_eq_true rfl, Nat.le_of_ble_eq_true rfl⟩ dX10_rope_100
  have hok := gOk_f hok hc4
  by_cases hc5 : x2 = 5
  · have hok := gOk_t hok hc5
    refine lv_tableIn (tgt := 101) fx.1 fx.2.1 dX10_rope_7 (by rw [hc5]; decide) (by rw [hc5]; decide) (by rw [hc5]; rfl) (by decide) ?_
    refine lv_aload_n fx.1 fx.2.1 dX10_rope_101 rfl (lv_at hl 0 rfl) ?_
    refine g_geti fx hw h_a1 lf_RX10_175 rfl dX10_rope_102 ?_
    cases gOk_some hok
    exact g_iretX fx hw hr ⟨Nat.le_of_ble_eq_true rfl, Nat.le_of_ble_eq_true rfl⟩ dX10_rope_105
  have hok := gOk_f hok hc5
  by_cases hc6 : x2 = 6
  · have hok := gOk_t hok hc6
    refine lv_tableIn (tgt := 106) fx.1 fx.2.1 dX10_rope_7 (by rw [hc6]; decide) (by rw [hc6]; decide) (by rw [hc6]; rfl) (by decide) ?_
    refine lv_aload_n fx.1 fx.2.1 dX10_rope_106 rfl (lv_at hl 0 rfl) ?_
    refine g_geti fx hw h_a1 lf_RX10_178 rfl dX10_rope_107 ?_
    refine g_if_eq (tgt := 117) fx dX10_rope_110 (by decide) hok (fun hok => ?_) (fun hok => ?_)
    · refine lv_iconst (v := 0) fx.1 fx.2.1 dX10_rope_117 (by decide) ?_
      cases gOk_some hok
      exact g_iretX fx hw hr ⟨Nat.le_of_ble_eq_true rfl, Nat.le_of_ble_eq_true rfl⟩ dX10_rope_118
    · refine lv_iconst (v := 1) fx.1 fx.2.1 dX10_rope_113 (by decide) ?_
      refine lv_goto (tgt := 118) fx.1 fx.2.1 dX10_rope_114 (by decide) ?_
      cases gOk_some hok
      exact g_iretX fx hw hr ⟨Nat.le_of_ble_eq_true rfl, Nat.le_of_ble_eq_true rfl⟩ dX10_rope_118
  have hok := gOk_f hok hc6
  by_cases hc7 : x2 = 7
  · have hok := gOk_t hok hc7
    refine lv_tableIn (tgt := 119) fx.1 fx.2.1 dX10_rope_7 (by rw [hc7]; decide) (by rw [hc7]; decide) (by rw [hc7]; rfl) (by decide) ?_
    refine lv_aload_n fx.1 fx.2.1 dX10_rope_119 rfl (lv_at hl 0 rfl) ?_
    refine g_geti fx hw h_a1 lf_RX10_182 rfl dX10_rope_120 ?_
    cases gOk_some hok
    exact g_iretX fx hw hr ⟨Nat.le_of_ble_eq_true rfl, Nat.le_of_ble_eq_true rfl⟩ dX10_rope_123
  have hok := gOk_f hok hc7
  by_cases hc8 : x2 = 8
  · have hok := gOk_t hok hc8
    refine lv_tableIn (tgt := 124) fx.1 fx.2.1 dX10_rope_7 (by rw [hc8]; decide) (by rw [hc8]; decide) (by rw [hc8]; rfl) (by decide) ?_
    refine lv_aload_n fx.1 fx.2.1 dX10_rope_124 rfl (lv_at hl 0 rfl) ?_
    refine g_geti fx hw h_a1 lf_RX10_185 rfl dX10_rope_125 ?_
    refine g_if_eq (tgt := 135) fx dX10_rope_128 (by decide) hok (fun hok => ?_) (fun hok => ?_)
    · refine lv_iconst (v := 0) fx.1 fx.2.1 dX10_rope_135 (by decide) ?_
      cases gOk_some hok
      exact g_iretX fx hw hr ⟨Nat.le_of_ble_eq_true rfl, Nat.le_of_ble_eq_true rfl⟩ dX10_rope_136
    · refine lv_iconst (v := 1) fx.1 fx.2.1 dX10_rope_131 (by decide) ?_
      refine lv_goto (tgt := 136) fx.1 fx.2.1 dX10_rope_132 (by decide) ?_
      cases gOk_some hok
      exact g_iretX fx hw hr ⟨Nat.le_of_ble_eq_true rfl, Nat.le_of_ble_eq_true rfl⟩ dX10_rope_136
  have hok := gOk_f hok hc8
  by_cases hc9 : x2 = 9
  · have hok := gOk_t hok hc9
    refine lv_tableIn (tgt := 137) fx.1 fx.2.1 dX10_rope_7 (by rw [hc9]; decide) (by rw [hc9]; decide) (by rw [hc9]; rfl) (by decide) ?_
    refine lv_aload_n fx.1 fx.2.1 dX10_rope_137 rfl (lv_at hl 0 rfl) ?_
    refine g_geti fx hw h_a1 lf_RX10_188 rfl dX10_rope_138 ?_
    cases gOk_some hok
    exact g_iretX fx hw hr ⟨Nat.le_of_ble_eq_true rfl, Nat.le_of_ble_eq_true rfl⟩ dX10_rope_141
  have hok := gOk_f hok hc9
  by_cases hc10 : x2 = 10
  · have hok := gOk_t hok hc10
    refine lv_tableIn (tgt := 142) fx.1 fx.2.1 dX10_rope_7 (by rw [hc10]; decide) (by rw [hc10]; decide) (by rw [hc10]; rfl) (by decide) ?_
    refine lv_aload_n fx.1 fx.2.1 dX10_rope_142 rfl (lv_at hl 1 rfl) ?_
    refine g_getr fx hw h0 lf_RX10_70 rfl dX10_rope_143 hok (fun a3 h_a3 hok => ?_)
    refine lv_aload_n fx.1 fx.2.1 dX10_rope_146 rfl (lv_at hl 0 rfl) ?_
    refine lv_aload_n fx.1 fx.2.1 dX10_rope_147 rfl (lv_at hl 1 rfl) ?_
    refine g_getr fx hw h0 lf_RX10_76 rfl dX10_rope_148 hok (fun a4 h_a4 hok => ?_)
    obtain ⟨v5, G6, hf, hok⟩ := gOk_bind2 hok
    refine g_callV0 (κ := 6) fx hw (c_X6_bearing l X τ n a3 a1 a4 G2 h_a3 h_a1 h_a4 hf) lv_RX10_191 ⟨rfl, rfl⟩ rfl rfl h_a3 rfl hl.1 rfl ⟨Nat.le_of_ble_eq_true rfl, Nat.le_of_ble_eq_true rfl⟩ (Nat.le_of_ble_eq_true rfl) ⟨Nat.le_of_ble_eq_true rfl, Nat.le_of_ble_eq_true rfl⟩ dX10_rope_151 (fun H locs hw => ?_)
    cases gOk_some hok
    exact g_iretX fx hw hr ⟨Nat.le_of_ble_eq_true rfl, Nat.le_of_ble_eq_true rfl⟩ dX10_rope_154
  have hok := gOk_f hok hc10
  by_cases hc11 : x2 = 11
  · have hok := gOk_t hok hc11
    refine lv_tableIn (tgt := 155) fx.1 fx.2.1 dX10_rope_7 (by rw [hc11]; decide) (by rw [hc11]; decide) (by rw [hc11]; rfl) (by decide) ?_
    refine lv_aload_n fx.1 fx.2.1 dX10_rope_155 rfl (lv_at hl 1 rfl) ?_
    refine g_getr fx hw h0 lf_RX10_70 rfl dX10_rope_156 hok (fun a7 h_a7 hok => ?_)
    refine lv_aload_n fx.1 fx.2.1 dX10_rope_159 rfl (lv_at hl 0 rfl) ?_
    refine lv_aload_n fx.1 fx.2.1 dX10_rope_160 rfl (lv_at hl 1 rfl) ?_
    refine g_getr fx hw h0 lf_RX10_76 rfl dX10_rope_161 hok (fun a8 h_a8 hok => ?_)
    obtain ⟨v9, G10, hf, hok⟩ := gOk_bind2 hok
    refine g_callV0 (κ := 6) fx hw (c_X6_wearing l X τ n a7 a1 a8 G2 h_a7 h_a1 h_a8 hf) lv_RX10_195 ⟨rfl, rfl⟩ rfl rfl h_a7 rfl hl.1 rfl ⟨Nat.le_of_ble_eq_true rfl, Nat.le_of_ble_eq_true rfl⟩ (Nat.le_of_ble_eq_true rfl) ⟨Nat.le_of_ble_eq_true rfl, Nat.le_of_ble_eq_true rfl⟩ dX10_rope_164 (fun H locs hw => ?_)
    cases gOk_some hok
    exact g_iretX fx hw hr ⟨Nat.le_of_ble_eq_true rfl, Nat.le_of_ble_eq_true rfl⟩ dX10_rope_167
  have hok := gOk_f hok hc11
  by_cases hc12 : x2 = 12
  · have hok := gOk_t hok hc12
    refine lv_tableIn (tgt := 168) fx.1 fx.2.1 dX10_rope_7 (by rw [hc12]; decide) (by rw [hc12]; decide) (by rw [hc12]; rfl) (by decide) ?_
    refine lv_aload_n fx.1 fx.2.1 dX10_rope_168 rfl (lv_at hl 1 rfl) ?_
    refine g_getr fx hw h0 lf_RX10_70 rfl dX10_rope_169 hok (fun a11 h_a11 hok => ?_)
    refine lv_aload_n fx.1 fx.2.1 dX10_rope_172 rfl (lv_at hl 0 rfl) ?_
    obtain ⟨v12, hf, hok⟩ := gOk_bind hok
    refine g_callV0 (κ := 6) fx hw (c_X6_priceOf l X τ a11 a1 G2 h_a11 h_a1 hf) lv_RX10_198 ⟨rfl, rfl⟩ rfl rfl h_a11 rfl hl.1 rfl ⟨Nat.le_of_ble_eq_true rfl, Nat.le_of_ble_eq_true rfl⟩ (Nat.le_of_ble_eq_true rfl) ⟨Nat.le_of_ble_eq_true rfl, Nat.le_of_ble_eq_true rfl⟩ dX10_rope_173 (fun H locs hw => ?_)
    cases gOk_some hok
    exact g_iretX fx hw hr ⟨Nat.le_of_ble_eq_true rfl, Nat.le_of_ble_eq_true rfl⟩ dX10_rope_176
  have hok := gOk_f hok hc12
  by_cases hc13 : x2 = 13
  · have hok := gOk_t hok hc13
    refine lv_tableIn (tgt := 177) fx.1 fx.2.1 dX10_rope_7 (by rw [hc13]; decide) (by rw [hc13]; decide) (by rw [hc13]; rfl) (by decide) ?_
    refine lv_aload_n fx.1 fx.2.1 dX10_rope_177 rfl (lv_at hl 1 rfl) ?_
    refine g_getr fx hw h0 lf_RX10_70 rfl dX10_rope_178 hok (fun a13 h_a13 hok => ?_)
    refine lv_iload_n fx.1 fx.2.1 dX10_rope_181 rfl (lv_at hl 2 rfl) ?_
    obtain ⟨v14, hf, hok⟩ := gOk_bind hok
    refine g_callV0 (κ := 6) fx hw (c_X6_twinsOf l X τ n a13 x1 G2 h_a13 hf) lv_RX10_202 ⟨rfl, rfl⟩ rfl rfl h_a13 rfl hl.1 rfl ⟨Nat.le_of_ble_eq_true rfl, Nat.le_of_ble_eq_true rfl⟩ (Nat.le_of_ble_eq_true rfl) ⟨Nat.le_of_ble_eq_true rfl, Nat.le_of_ble_eq_true rfl⟩ dX10_rope_182 (fun H locs hw => ?_)
    cases gOk_some hok
    exact g_iretX fx hw hr ⟨Nat.le_of_ble_eq_true rfl, Nat.le_of_ble_eq_true rfl⟩ dX10_rope_185
  have hok := gOk_f hok hc13
  refine lv_tableOut (tgt := 186) fx.1 fx.2.1 dX10_rope_7 (gOut 0 14 (by decide) (by decide) (by decide) (by decide) (fun j hj => ?_)) (by decide) ?_
  · match j, hj with
    | 0, _ => exact hc0
    | 1, _ => exact hc1
    | 2, _ => exact hc2
    | 3, _ => exact hc3
    | 4, _ => exact hc4
    | 5, _ => exact hc5
    | 6, _ => exact hc6
    | 7, _ => exact hc7
    | 8, _ => exact hc8
    | 9, _ => exact hc9
    | 10, _ => exact hc10
    | 11, _ => exact hc11
    | 12, _ => exact hc12
    | 13, _ => exact hc13
  · cases gOk_some hok
    exact g_throwN fx hw hS hl.1 hxt lxn_RX10_151 gt_RX10_205 dX10_rope_186 dX10_rope_189 dX10_rope_190 dX10_rope_192 dX10_rope_195 ⟨Nat.le_of_ble_eq_true rfl, Nat.le_of_ble_eq_true rfl, Nat.le_of_ble_eq_true rfl, Nat.le_of_ble_eq_true rfl⟩ ⟨Nat.le_of_ble_eq_true rfl, Nat.le_of_ble_eq_true rfl⟩
theorem dX10_orderOf_0 : decode cX10_orderOf 0 = .ok (.iload_n 1, 1) := by decide +kernel
theorem dX10_orderOf_1 : decode cX10_orderOf 1 = .ok (.ifCond .lt 14, 3) := by decide +kernel
theorem dX10_orderOf_4 : decode cX10_orderOf 4 = .ok (.iload_n 1, 1) := by decide +kernel
theorem dX10_orderOf_5 : decode cX10_orderOf 5 = .ok (.aload_n 0, 1) := by decide +kernel
theorem dX10_orderOf_6 : decode cX10_orderOf 6 = .ok (.getfield 70, 3) := by decide +kernel
theorem dX10_orderOf_9 : decode cX10_orderOf 9 = .ok (.getfield 332, 3) := by decide +kernel
theorem dX10_orderOf_12 : decode cX10_orderOf 12 = .ok (.if_icmp .lt 14, 3) := by decide +kernel
theorem dX10_orderOf_15 : decode cX10_orderOf 15 = .ok (.new 453, 3) := by decide +kernel
theorem dX10_orderOf_18 : decode cX10_orderOf 18 = .ok (.dup, 1) := by decide +kernel
theorem dX10_orderOf_19 : decode cX10_orderOf 19 = .ok (.ldc_w 462, 3) := by decide +kernel
theorem dX10_orderOf_22 : decode cX10_orderOf 22 = .ok (.invokespecial 457, 3) := by decide +kernel
theorem dX10_orderOf_25 : decode cX10_orderOf 25 = .ok (.athrow, 1) := by decide +kernel
theorem dX10_orderOf_26 : decode cX10_orderOf 26 = .ok (.aload_n 0, 1) := by decide +kernel
theorem dX10_orderOf_27 : decode cX10_orderOf 27 = .ok (.getfield 70, 3) := by decide +kernel
theorem dX10_orderOf_30 : decode cX10_orderOf 30 = .ok (.getfield 335, 3) := by decide +kernel
theorem dX10_orderOf_33 : decode cX10_orderOf 33 = .ok (.iload_n 1, 1) := by decide +kernel
theorem dX10_orderOf_34 : decode cX10_orderOf 34 = .ok (.aaload, 1) := by decide +kernel
theorem dX10_orderOf_35 : decode cX10_orderOf 35 = .ok (.areturn, 1) := by decide +kernel
theorem lf_RX10_332 : gLf RX10 332 6 6 := ⟨(RX6, TX6, 15), rfl, by decide, wA_t (wt2 (List.mem_of_getElem? (i := 24) (by decide +kernel))) (by decide +kernel), rfl⟩
theorem lf_RX10_335 : gLf RX10 335 6 2 := ⟨(RX6, TX6, 15), rfl, by decide, wA_t (wt2 (List.mem_of_getElem? (i := 13) (by decide +kernel))) (by decide +kernel), rfl⟩
def rm_X10_orderOf : Room := { frames := 6, cells := 1, slots := 6, locals := 120 }
def f_X10_orderOf (τ : gτ) (x0 : Nat) (x1 : Int32) (G : gG) : Option ((String ⊕ Nat) × gG) :=
  if x1 < 0 then (some (.inl x_IOE, G))
  else ((gr G 10 10 x0).bind fun a1 =>
  if x1 < (gi G 6 6 a1) then ((gr G 10 10 x0).bind fun a2 =>
  (gr G 6 2 a2).bind fun a3 =>
  gchk (gIn x1 (gn τ a3)) <| (gq G a3 (Int32.toNatClampNeg x1)).bind fun a4 =>
  some (.inr a4, G))
  else (some (.inl x_IOE, G)))
set_option maxHeartbeats 4000000 in
set_option maxRecDepth 100000 in
theorem c_X10_orderOf (l : Launch) (X : gX) (τ : gτ) (hS : gS0 l X) (x0 : Nat) (x1 : Int32) (G : gG) (h0 : gK τ x0 10) {r : String ⊕ Nat} {G' : gG} (h : f_X10_orderOf τ x0 x1 G = some (r, G')) : gMX l X τ yX10_orderOf cX10_orderOf 2 (some (.object "YearRope$Order")) rm_X10_orderOf [.ref x0, .int x1] G (gOr r) G' := by
  refine g_bodyX (by decide +kernel) (Nat.le_of_ble_eq_true rfl) ?_
  intro p e s m args below meth c ls fx hr hxt hw hl
  have fx : gFx X p s m args meth c cX10_orderOf 2 RX10 := fx
  have hl : lv_has ls 2 [(0, .ref x0), (1, .int x1)] := hl
  have hok : gOk (f_X10_orderOf τ x0 x1 G) (fun q => q = (r, G')) := ⟨_, h, rfl⟩
  unfold f_X10_orderOf at hok
  show W p l e rm_X10_orderOf s m args below meth c s.heap [] 0 0 (vx_MQ below (gQX X τ (gOr r) G') (gXC X τ (gOr r) G') args s rm_X10_orderOf.cells rm_X10_orderOf.slots (gFree X)) _
  refine lv_iload_n fx.1 fx.2.1 dX10_orderOf_0 rfl (lv_at hl 1 rfl) ?_
  refine g_if_lt (tgt := 15) fx dX10_orderOf_1 (by decide) hok (fun hok => ?_) (fun hok => ?_)
  · cases gOk_some hok
    exact g_throwSW fx hw hS hl.1 hxt lx_RX10_453 gt_RX10_462 dX10_orderOf_15 dX10_orderOf_18 dX10_orderOf_19 dX10_orderOf_22 dX10_orderOf_25 ⟨Nat.le_of_ble_eq_true rfl, Nat.le_of_ble_eq_true rfl, Nat.le_of_ble_eq_true rfl, Nat.le_of_ble_eq_true rfl⟩ ⟨Nat.le_of_ble_eq_true rfl, Nat.le_of_ble_eq_true rfl⟩
  · refine lv_iload_n fx.1 fx.2.1 dX10_orderOf_4 rfl (lv_at hl 1 rfl) ?_
    refine lv_aload_n fx.1 fx.2.1 dX10_orderOf_5 rfl (lv_at hl 0 rfl) ?_
    refine g_getr fx hw h0 lf_RX10_70 rfl dX10_orderOf_6 hok (fun a1 h_a1 hok => ?_)
    refine g_geti fx hw h_a1 lf_RX10_332 rfl dX10_orderOf_9 ?_
    refine g_icmp_lt (tgt := 26) fx dX10_orderOf_12 (by decide) hok (fun hok => ?_) (fun hok => ?_)
    · refine lv_aload_n fx.1 fx.2.1 dX10_orderOf_26 rfl (lv_at hl 0 rfl) ?_
      refine g_getr fx hw h0 lf_RX10_70 rfl dX10_orderOf_27 hok (fun a2 h_a2 hok => ?_)
      refine g_getr fx hw h_a2 lf_RX10_335 rfl dX10_orderOf_30 hok (fun a3 h_a3 hok => ?_)
      refine lv_iload_n fx.1 fx.2.1 dX10_orderOf_33 rfl (lv_at hl 1 rfl) ?_
      refine g_aald fx hw 14 2 h_a3 (by decide) (by decide) rfl (κ' := 4) rfl dX10_orderOf_34 hok (fun a4 h_a4 hok => ?_)
      cases gOk_some hok
      exact g_aretX fx hw hr ⟨Nat.le_of_ble_eq_true rfl, Nat.le_of_ble_eq_true rfl⟩ dX10_orderOf_35
    · cases gOk_some hok
      exact g_throwSW fx hw hS hl.1 hxt lx_RX10_453 gt_RX10_462 dX10_orderOf_15 dX10_orderOf_18 dX10_orderOf_19 dX10_orderOf_22 dX10_orderOf_25 ⟨Nat.le_of_ble_eq_true rfl, Nat.le_of_ble_eq_true rfl, Nat.le_of_ble_eq_true rfl, Nat.le_of_ble_eq_true rfl⟩ ⟨Nat.le_of_ble_eq_true rfl, Nat.le_of_ble_eq_true rfl⟩
theorem dX10_order_0 : decode cX10_order 0 = .ok (.aload_n 0, 1) := by decide +kernel
theorem dX10_order_1 : decode cX10_order 1 = .ok (.iload_n 1, 1) := by decide +kernel
theorem dX10_order_2 : decode cX10_order 2 = .ok (.invokevirtual 207, 3) := by decide +kernel
theorem dX10_order_5 : decode cX10_order 5 = .ok (.astore_n 3, 1) := by decide +kernel
theorem dX10_order_6 : decode cX10_order 6 = .ok (.iload_n 2, 1) := by decide +kernel
theorem dX10_order_7 : decode cX10_order 7 = .ok (.tableswitch 40 0 2 #[25, 30, 35], 25) := by decide +kernel
theorem dX10_order_32 : decode cX10_order 32 = .ok (.aload_n 3, 1) := by decide +kernel
theorem dX10_order_33 : decode cX10_order 33 = .ok (.getfield 211, 3) := by decide +kernel
theorem dX10_order_36 : decode cX10_order 36 = .ok (.ireturn, 1) := by decide +kernel
theorem dX10_order_37 : decode cX10_order 37 = .ok (.aload_n 3, 1) := by decide +kernel
theorem dX10_order_38 : decode cX10_order 38 = .ok (.getfield 214, 3) := by decide +kernel
theorem dX10_order_41 : decode cX10_order 41 = .ok (.ireturn, 1) := by decide +kernel
theorem dX10_order_42 : decode cX10_order 42 = .ok (.aload_n 3, 1) := by decide +kernel
theorem dX10_order_43 : decode cX10_order 43 = .ok (.getfield 215, 3) := by decide +kernel
theorem dX10_order_46 : decode cX10_order 46 = .ok (.ireturn, 1) := by decide +kernel
theorem dX10_order_47 : decode cX10_order 47 = .ok (.new 151, 3) := by decide +kernel
theorem dX10_order_50 : decode cX10_order 50 = .ok (.dup, 1) := by decide +kernel
theorem dX10_order_51 : decode cX10_order 51 = .ok (.ldc 218, 2) := by decide +kernel
theorem dX10_order_53 : decode cX10_order 53 = .ok (.invokespecial 155, 3) := by decide +kernel
theorem dX10_order_56 : decode cX10_order 56 = .ok (.athrow, 1) := by decide +kernel
theorem lv_RX10_207 : gLv RX10 207 RX10 yX10_orderOf cX10_orderOf 2 (some (.object "YearRope$Order")) 1 := gLv_of (wA_t (wt5 (List.mem_of_getElem? (i := 83) (by decide +kernel))) (by decide +kernel)) (wA_t (wt5 (List.mem_of_getElem? (i := 85) (by decide +kernel))) (by decide +kernel)) (wA_of (List.mem_append_left _ (List.mem_map.mpr ⟨(⟨"YearRope", "orderOf", "(I)LYearRope$Order;"⟩, 15), wp2 (List.mem_of_getElem? (i := 10) (by decide +kernel)), rfl⟩)) (by decide +kernel)) (wA_t (wt1 (List.mem_of_getElem? (i := 1) (by decide +kernel))) (by decide +kernel)) (wA_t (wt5 (List.mem_of_getElem? (i := 86) (by decide +kernel))) (by decide +kernel)) ⟨rfl, by decide +kernel, by decide +kernel, by decide +kernel⟩
theorem lf_RX10_211 : gLf RX10 211 4 0 := ⟨(RX4, TX4, 3), rfl, by decide, wA_t (wt1 (List.mem_of_getElem? (i := 232) (by decide +kernel))) (by decide +kernel), rfl⟩
theorem lf_RX10_214 : gLf RX10 214 4 1 := ⟨(RX4, TX4, 3), rfl, by decide, wA_t (wt1 (List.mem_of_getElem? (i := 235) (by decide +kernel))) (by decide +kernel), rfl⟩
theorem lf_RX10_215 : gLf RX10 215 4 2 := ⟨(RX4, TX4, 3), rfl, by decide, wA_t (wt1 (List.mem_of_getElem? (i := 238) (by decide +kernel))) (by decide +kernel), rfl⟩
def rm_X10_order : Room := { frames := 7, cells := 2, slots := 12, locals := 141 }
def f_X10_order (τ : gτ) (x0 : Nat) (x1 : Int32) (x2 : Int32) (G : gG) : Option ((String ⊕ Int32) × gG) :=
  gBindX (f_X10_orderOf τ x0 x1 G) fun a1 G2 =>
  gchk (gkd τ a1 4) <|
  if x2 = 0 then (some (.inr (gi G2 4 0 a1), G2))
  else if x2 = 1 then (some (.inr (gi G2 4 1 a1), G2))
  else if x2 = 2 then (some (.inr (gi G2 4 2 a1), G2))
  else (some (.inl x_NSE, G2))
set_option maxHeartbeats 4000000 in
set_option maxRecDepth 100000 in
theorem c_X10_order (l : Launch) (X : gX) (τ : gτ) (hS : gS0 l X) (x0 : Nat) (x1 : Int32) (x2 : Int32) (G : gG) (h0 : gK τ x0 10) {r : String ⊕ Int32} {G' : gG} (h : f_X10_order τ x0 x1 x2 G = some (r, G')) : gMX l X τ yX10_order cX10_order 4 (some .int) rm_X10_order [.ref x0, .int x1, .int x2] G (gOi r) G' := by
  refine g_bodyX (by decide +kernel) (Nat.le_of_ble_eq_true rfl) ?_
  intro p e s m args below meth c ls fx hr hxt hw hl
  have fx : gFx X p s m args meth c cX10_order 4 RX10 := fx
  have hl : lv_has ls 4 [(0, .ref x0), (1, .int x1), (2, .int x2)] := hl
  have hok : gOk (f_X10_order τ x0 x1 x2 G) (fun q => q = (r, G')) := ⟨_, h, rfl⟩
  unfold f_X10_order at hok
  show W p l e rm_X10_order s m args below meth c s.heap [] 0 0 (vx_MQ below (gQX X τ (gOi r) G') (gXC X τ (gOi r) G') args s rm_X10_order.cells rm_X10_order.slots (gFree X)) _
  refine lv_aload_n fx.1 fx.2.1 dX10_order_0 rfl (lv_at hl 0 rfl) ?_
  refine lv_iload_n fx.1 fx.2.1 dX10_order_1 rfl (lv_at hl 1 rfl) ?_
  rcases gOk_bindX hok with ⟨E, G9, hf, hK⟩ | ⟨a1, G2, hf, hok⟩
  · have hK : (Sum.inl E, G9) = (r, G') := hK
    cases hK
    refine g_callVX (κ := 10) (As := [.int x1]) fx hw hxt (c_X10_orderOf l X τ hS x0 x1 G h0 hf) lv_RX10_207 rfl rfl h0 rfl hl.1 rfl ⟨Nat.le_of_ble_eq_true rfl, Nat.le_of_ble_eq_true rfl⟩ (Nat.le_of_ble_eq_true rfl) ⟨Nat.le_of_ble_eq_true rfl, Nat.le_of_ble_eq_true rfl⟩ ⟨Nat.le_of_ble_eq_true rfl, Nat.le_of_ble_eq_true rfl⟩ dX10_order_2 (fun u H locs hv hw => ?_) (fun E9 hE => ?_)
    · have hv : (Sum.inl E : String ⊕ Option Value) = Sum.inr u := hv
      cases hv
    · have hE : (Sum.inl E : String ⊕ Option Value) = Sum.inl E9 := hE
      cases hE
      exact ⟨rfl, rfl⟩
  refine g_callVX (κ := 10) (As := [.int x1]) fx hw hxt (c_X10_orderOf l X τ hS x0 x1 G h0 hf) lv_RX10_207 rfl rfl h0 rfl hl.1 rfl ⟨Nat.le_of_ble_eq_true rfl, Nat.le_of_ble_eq_true rfl⟩ (Nat.le_of_ble_eq_true rfl) ⟨Nat.le_of_ble_eq_true rfl, Nat.le_of_ble_eq_true rfl⟩ ⟨Nat.le_of_ble_eq_true rfl, Nat.le_of_ble_eq_true rfl⟩ dX10_order_2 (fun u9 H locs hv hw => ?_) (fun E9 hE => by have hE : (Sum.inr (some (.ref a1)) : String ⊕ Option Value) = Sum.inl E9 := hE; cases hE)
  have hv : (Sum.inr (some (.ref a1)) : String ⊕ Option Value) = Sum.inr u9 := hv
  cases hv
  obtain ⟨h_a1, hok⟩ := gOk_chk hok
  have h_a1 : gK τ a1 4 := gkd_K h_a1
  refine lv_astore_n (lv' := [(3, .ref a1), (0, .ref x0), (1, .int x1), (2, .int x2)]) fx.1 fx.2.1 dX10_order_5 rfl hl (by decide) rfl (fun ls hl => ?_)
  refine lv_iload_n fx.1 fx.2.1 dX10_order_6 rfl (lv_at hl 3 rfl) ?_
  by_cases hc0 : x2 = 0
  · have hok := gOk_t hok hc0
    refine lv_tableIn (tgt := 32) fx.1 fx.2.1 dX10_order_7 (by rw [hc0]; decide) (by rw [hc0]; decide) (by rw [hc0]; rfl) (by decide) ?_
    refine lv_aload_n fx.1 fx.2.1 dX10_order_32 rfl (lv_at hl 0 rfl) ?_
    refine g_geti fx hw h_a1 lf_RX10_211 rfl dX10_order_33 ?_
    cases gOk_some hok
    exact g_iretX fx hw hr ⟨Nat.le_of_ble_eq_true rfl, Nat.le_of_ble_eq_true rfl⟩ dX10_order_36
  have hok := gOk_f hok hc0
  by_cases hc1 : x2 = 1
  · have hok := gOk_t hok hc1
    refine lv_tableIn (tgt := 37) fx.1 fx.2.1 dX10_order_7 (by rw [hc1]; decide) (by rw [hc1]; decide) (by rw [hc1]; rfl) (by decide) ?_
    refine lv_aload_n fx.1 fx.2.1 dX10_order_37 rfl (lv_at hl 0 rfl) ?_
    refine g_geti fx hw h_a1 lf_RX10_214 rfl dX10_order_38 ?_
    cases gOk_some hok
    exact g_iretX fx hw hr ⟨Nat.le_of_ble_eq_true rfl, Nat.le_of_ble_eq_true rfl⟩ dX10_order_41
  have hok := gOk_f hok hc1
  by_cases hc2 : x2 = 2
  · have hok := gOk_t hok hc2
    refine lv_tableIn (tgt := 42) fx.1 fx.2.1 dX10_order_7 (by rw [hc2]; decide) (by rw [hc2]; decide) (by rw [hc2]; rfl) (by decide) ?_
    refine lv_aload_n fx.1 fx.2.1 dX10_order_42 rfl (lv_at hl 0 rfl) ?_
    refine g_geti fx hw h_a1 lf_RX10_215 rfl dX10_order_43 ?_
    cases gOk_some hok
    exact g_iretX fx hw hr ⟨Nat.le_of_ble_eq_true rfl, Nat.le_of_ble_eq_true rfl⟩ dX10_order_46
  have hok := gOk_f hok hc2
  refine lv_tableOut (tgt := 47) fx.1 fx.2.1 dX10_order_7 (gOut 0 3 (by decide) (by decide) (by decide) (by decide) (fun j hj => ?_)) (by decide) ?_
  · match j, hj with
    | 0, _ => exact hc0
    | 1, _ => exact hc1
    | 2, _ => exact hc2
  · cases gOk_some hok
    exact g_throwN fx hw hS hl.1 hxt lxn_RX10_151 gt_RX10_218 dX10_order_47 dX10_order_50 dX10_order_51 dX10_order_53 dX10_order_56 ⟨Nat.le_of_ble_eq_true rfl, Nat.le_of_ble_eq_true rfl, Nat.le_of_ble_eq_true rfl, Nat.le_of_ble_eq_true rfl⟩ ⟨Nat.le_of_ble_eq_true rfl, Nat.le_of_ble_eq_true rfl⟩
theorem dX10_needThree_0 : decode cX10_needThree 0 = .ok (.aload_n 0, 1) := by decide +kernel
theorem dX10_needThree_1 : decode cX10_needThree 1 = .ok (.iload_n 1, 1) := by decide +kernel
theorem dX10_needThree_2 : decode cX10_needThree 2 = .ok (.invokevirtual 127, 3) := by decide +kernel
theorem dX10_needThree_5 : decode cX10_needThree 5 = .ok (.pop, 1) := by decide +kernel
theorem dX10_needThree_6 : decode cX10_needThree 6 = .ok (.aload_n 0, 1) := by decide +kernel
theorem dX10_needThree_7 : decode cX10_needThree 7 = .ok (.iload_n 2, 1) := by decide +kernel
theorem dX10_needThree_8 : decode cX10_needThree 8 = .ok (.invokevirtual 127, 3) := by decide +kernel
theorem dX10_needThree_11 : decode cX10_needThree 11 = .ok (.pop, 1) := by decide +kernel
theorem dX10_needThree_12 : decode cX10_needThree 12 = .ok (.aload_n 0, 1) := by decide +kernel
theorem dX10_needThree_13 : decode cX10_needThree 13 = .ok (.iload_n 3, 1) := by decide +kernel
theorem dX10_needThree_14 : decode cX10_needThree 14 = .ok (.invokevirtual 127, 3) := by decide +kernel
theorem dX10_needThree_17 : decode cX10_needThree 17 = .ok (.pop, 1) := by decide +kernel
theorem dX10_needThree_18 : decode cX10_needThree 18 = .ok (.iload_n 1, 1) := by decide +kernel
theorem dX10_needThree_19 : decode cX10_needThree 19 = .ok (.iload_n 2, 1) := by decide +kernel
theorem dX10_needThree_20 : decode cX10_needThree 20 = .ok (.if_icmp .eq 13, 3) := by decide +kernel
theorem dX10_needThree_23 : decode cX10_needThree 23 = .ok (.iload_n 1, 1) := by decide +kernel
theorem dX10_needThree_24 : decode cX10_needThree 24 = .ok (.iload_n 3, 1) := by decide +kernel
theorem dX10_needThree_25 : decode cX10_needThree 25 = .ok (.if_icmp .eq 8, 3) := by decide +kernel
theorem dX10_needThree_28 : decode cX10_needThree 28 = .ok (.iload_n 2, 1) := by decide +kernel
theorem dX10_needThree_29 : decode cX10_needThree 29 = .ok (.iload_n 3, 1) := by decide +kernel
theorem dX10_needThree_30 : decode cX10_needThree 30 = .ok (.if_icmp .ne 14, 3) := by decide +kernel
theorem dX10_needThree_33 : decode cX10_needThree 33 = .ok (.new 98, 3) := by decide +kernel
theorem dX10_needThree_36 : decode cX10_needThree 36 = .ok (.dup, 1) := by decide +kernel
theorem dX10_needThree_37 : decode cX10_needThree 37 = .ok (.ldc_w 464, 3) := by decide +kernel
theorem dX10_needThree_40 : decode cX10_needThree 40 = .ok (.invokespecial 102, 3) := by decide +kernel
theorem dX10_needThree_43 : decode cX10_needThree 43 = .ok (.athrow, 1) := by decide +kernel
theorem dX10_needThree_44 : decode cX10_needThree 44 = .ok (.return_, 1) := by decide +kernel
def rm_X10_needThree : Room := { frames := 7, cells := 4, slots := 24, locals := 141 }
def f_X10_needThree (τ : gτ) (x0 : Nat) (x1 : Int32) (x2 : Int32) (x3 : Int32) (G : gG) : Option ((String ⊕ Unit) × gG) :=
  gBindX (f_X10_yarnOf τ x0 x1 G) fun a1 G2 =>
  gchk (gkd τ a1 9) <|
  gBindX (f_X10_yarnOf τ x0 x2 G2) fun a3 G4 =>
  gchk (gkd τ a3 9) <|
  gBindX (f_X10_yarnOf τ x0 x3 G4) fun a5 G6 =>
  gchk (gkd τ a5 9) <|
  if x1 = x2 then (some (.inl x_IAE, G6))
  else (if x1 = x3 then (some (.inl x_IAE, G6))
  else (if x2 = x3 then (some (.inl x_IAE, G6))
  else (some (.inr (), G6))))
set_option maxHeartbeats 4000000 in
set_option maxRecDepth 100000 in
theorem c_X10_needThree (l : Launch) (X : gX) (τ : gτ) (hS : gS0 l X) (x0 : Nat) (x1 : Int32) (x2 : Int32) (x3 : Int32) (G : gG) (h0 : gK τ x0 10) {r : String ⊕ Unit} {G' : gG} (h : f_X10_needThree τ x0 x1 x2 x3 G = some (r, G')) : gMX l X τ yX10_needThree cX10_needThree 4 none rm_X10_needThree [.ref x0, .int x1, .int x2, .int x3] G (gOv r) G' := by
  refine g_bodyX (by decide +kernel) (Nat.le_of_ble_eq_true rfl) ?_
  intro p e s m args below meth c ls fx hr hxt hw hl
  have fx : gFx X p s m args meth c cX10_needThree 4 RX10 := fx
  have hl : lv_has ls 4 [(0, .ref x0), (1, .int x1), (2, .int x2), (3, .int x3)] := hl
  have hok : gOk (f_X10_needThree τ x0 x1 x2 x3 G) (fun q => q = (r, G')) := ⟨_, h, rfl⟩
  unfold f_X10_needThree at hok
  show W p l e rm_X10_needThree s m args below meth c s.heap [] 0 0 (vx_MQ below (gQX X τ (gOv r) G') (gXC X τ (gOv r) G') args s rm_X10_needThree.cells rm_X10_needThree.slots (gFree X)) _
  refine lv_aload_n fx.1 fx.2.1 dX10_needThree_0 rfl (lv_at hl 0 rfl) ?_
  refine lv_iload_n fx.1 fx.2.1 dX10_needThree_1 rfl (lv_at hl 1 rfl) ?_
  rcases gOk_bindX hok with ⟨E, G9, hf, hK⟩ | ⟨a1, G2, hf, hok⟩
  · have hK : (Sum.inl E, G9) = (r, G') := hK
    cases hK
    refine g_callVX (κ := 10) (As := [.int x1]) fx hw hxt (c_X10_yarnOf l X τ hS x0 x1 G h0 hf) lv_RX10_127 rfl rfl h0 rfl hl.1 rfl ⟨Nat.le_of_ble_eq_true rfl, Nat.le_of_ble_eq_true rfl⟩ (Nat.le_of_ble_eq_true rfl) ⟨Nat.le_of_ble_eq_true rfl, Nat.le_of_ble_eq_true rfl⟩ ⟨Nat.le_of_ble_eq_true rfl, Nat.le_of_ble_eq_true rfl⟩ dX10_needThree_2 (fun u H locs hv hw => ?_) (fun E9 hE => ?_)
    · have hv : (Sum.inl E : String ⊕ Option Value) = Sum.inr u := hv
      cases hv
    · have hE : (Sum.inl E : String ⊕ Option Value) = Sum.inl E9 := hE
      cases hE
      exact ⟨rfl, rfl⟩
  refine g_callVX (κ := 10) (As := [.int x1]) fx hw hxt (c_X10_yarnOf l X τ hS x0 x1 G h0 hf) lv_RX10_127 rfl rfl h0 rfl hl.1 rfl ⟨Nat.le_of_ble_eq_true rfl, Nat.le_of_ble_eq_true rfl⟩ (Nat.le_of_ble_eq_true rfl) ⟨Nat.le_of_ble_eq_true rfl, Nat.le_of_ble_eq_true rfl⟩ ⟨Nat.le_of_ble_eq_true rfl, Nat.le_of_ble_eq_true rfl⟩ dX10_needThree_2 (fun u9 H locs hv hw => ?_) (fun E9 hE => by have hE : (Sum.inr (some (.ref a1)) : String ⊕ Option Value) = Sum.inl E9 := hE; cases hE)
  have hv : (Sum.inr (some (.ref a1)) : String ⊕ Option Value) = Sum.inr u9 := hv
  cases hv
  obtain ⟨h_a1, hok⟩ := gOk_chk hok
  have h_a1 : gK τ a1 9 := gkd_K h_a1
  refine lv_pop fx.1 fx.2.1 dX10_needThree_5 rfl ?_
  refine lv_aload_n fx.1 fx.2.1 dX10_needThree_6 rfl (lv_at hl 0 rfl) ?_
  refine lv_iload_n fx.1 fx.2.1 dX10_needThree_7 rfl (lv_at hl 2 rfl) ?_
  rcases gOk_bindX hok with ⟨E, G9, hf, hK⟩ | ⟨a3, G4, hf, hok⟩
  · have hK : (Sum.inl E, G9) = (r, G') := hK
    cases hK
    refine g_callVX (κ := 10) (As := [.int x2]) fx hw hxt (c_X10_yarnOf l X τ hS x0 x2 G2 h0 hf) lv_RX10_127 rfl rfl h0 rfl hl.1 rfl ⟨Nat.le_of_ble_eq_true rfl, Nat.le_of_ble_eq_true rfl⟩ (Nat.le_of_ble_eq_true rfl) ⟨Nat.le_of_ble_eq_true rfl, Nat.le_of_ble_eq_true rfl⟩ ⟨Nat.le_of_ble_eq_true rfl, Nat.le_of_ble_eq_true rfl⟩ dX10_needThree_8 (fun u H locs hv hw => ?_) (fun E9 hE => ?_)
    · have hv : (Sum.inl E : String ⊕ Option Value) = Sum.inr u := hv
      cases hv
    · have hE : (Sum.inl E : String ⊕ Option Value) = Sum.inl E9 := hE
      cases hE
      exact ⟨rfl, rfl⟩
  refine g_callVX (κ := 10) (As := [.int x2]) fx hw hxt (c_X10_yarnOf l X τ hS x0 x2 G2 h0 hf) lv_RX10_127 rfl rfl h0 rfl hl.1 rfl ⟨Nat.le_of_ble_eq_true rfl, Nat.le_of_ble_eq_true rfl⟩ (Nat.le_of_ble_eq_true rfl) ⟨Nat.le_of_ble_eq_true rfl, Nat.le_of_ble_eq_true rfl⟩ ⟨Nat.le_of_ble_eq_true rfl, Nat.le_of_ble_eq_true rfl⟩ dX10_needThree_8 (fun u9 H locs hv hw => ?_) (fun E9 hE => by have hE : (Sum.inr (some (.ref a3)) : String ⊕ Option Value) = Sum.inl E9 := hE; cases hE)
  have hv : (Sum.inr (some (.ref a3)) : String ⊕ Option Value) = Sum.inr u9 := hv
  cases hv
  obtain ⟨h_a3, hok⟩ := gOk_chk hok
  have h_a3 : gK τ a3 9 := gkd_K h_a3
  refine lv_pop fx.1 fx.2.1 dX10_needThree_11 rfl ?_
  refine lv_aload_n fx.1 fx.2.1 dX10_needThree_12 rfl (lv_at hl 0 rfl) ?_
  refine lv_iload_n fx.1 fx.2.1 dX10_needThree_13 rfl (lv_at hl 3 rfl) ?_
  rcases gOk_bindX hok with ⟨E, G9, hf, hK⟩ | ⟨a5, G6, hf, hok⟩
  · have hK : (Sum.inl E, G9) = (r, G') := hK
    cases hK
    refine g_callVX (κ := 10) (As := [.int x3]) fx hw hxt (c_X10_yarnOf l X τ hS x0 x3 G4 h0 hf) lv_RX10_127 rfl rfl h0 rfl hl.1 rfl ⟨Nat.le_of_ble_eq_true rfl, Nat.le_of_ble_eq_true rfl⟩ (Nat.le_of_ble_eq_true rfl) ⟨Nat.le_of_ble_eq_true rfl, Nat.le_of_ble_eq_true rfl⟩ ⟨Nat.le_of_ble_eq_true rfl, Nat.le_of_ble_eq_true rfl⟩ dX10_needThree_14 (fun u H locs hv hw => ?_) (fun E9 hE => ?_)
    · have hv : (Sum.inl E : String ⊕ Option Value) = Sum.inr u := hv
      cases hv
    · have hE : (Sum.inl E : String ⊕ Option Value) = Sum.inl E9 := hE
      cases hE
      exact ⟨rfl, rfl⟩
  refine g_callVX (κ := 10) (As := [.int x3]) fx hw hxt (c_X10_yarnOf l X τ hS x0 x3 G4 h0 hf) lv_RX10_127 rfl rfl h0 rfl hl.1 rfl ⟨Nat.le_of_ble_eq_true rfl, Nat.le_of_ble_eq_true rfl⟩ (Nat.le_of_ble_eq_true rfl) ⟨Nat.le_of_ble_eq_true rfl, Nat.le_of_ble_eq_true rfl⟩ ⟨Nat.le_of_ble_eq_true rfl, Nat.le_of_ble_eq_true rfl⟩ dX10_needThree_14 (fun u9 H locs hv hw => ?_) (fun E9 hE => by have hE : (Sum.inr (some (.ref a5)) : String ⊕ Option Value) = Sum.inl E9 := hE; cases hE)
  have hv : (Sum.inr (some (.ref a5)) : String ⊕ Option Value) = Sum.inr u9 := hv
  cases hv
  obtain ⟨h_a5, hok⟩ := gOk_chk hok
  have h_a5 : gK τ a5 9 := gkd_K h_a5
  refine lv_pop fx.1 fx.2.1 dX10_needThree_17 rfl ?_
  refine lv_iload_n fx.1 fx.2.1 dX10_needThree_18 rfl (lv_at hl 1 rfl) ?_
  refine lv_iload_n fx.1 fx.2.1 dX10_needThree_19 rfl (lv_at hl 2 rfl) ?_
  refine g_icmp_eq (tgt := 33) fx dX10_needThree_20 (by decide) hok (fun hok => ?_) (fun hok => ?_)
  · cases gOk_some hok
    exact g_throwSW fx hw hS hl.1 hxt lx_RX10_98 gt_RX10_464 dX10_needThree_33 dX10_needThree_36 dX10_needThree_37 dX10_needThree_40 dX10_needThree_43 ⟨Nat.le_of_ble_eq_true rfl, Nat.le_of_ble_eq_true rfl, Nat.le_of_ble_eq_true rfl, Nat.le_of_ble_eq_true rfl⟩ ⟨Nat.le_of_ble_eq_true rfl, Nat.le_of_ble_eq_true rfl⟩
  · refine lv_iload_n fx.1 fx.2.1 dX10_needThree_23 rfl (lv_at hl 1 rfl) ?_
    refine lv_iload_n fx.1 fx.2.1 dX10_needThree_24 rfl (lv_at hl 3 rfl) ?_
    refine g_icmp_eq (tgt := 33) fx dX10_needThree_25 (by decide) hok (fun hok => ?_) (fun hok => ?_)
    · cases gOk_some hok
      exact g_throwSW fx hw hS hl.1 hxt lx_RX10_98 gt_RX10_464 dX10_needThree_33 dX10_needThree_36 dX10_needThree_37 dX10_needThree_40 dX10_needThree_43 ⟨Nat.le_of_ble_eq_true rfl, Nat.le_of_ble_eq_true rfl, Nat.le_of_ble_eq_true rfl, Nat.le_of_ble_eq_true rfl⟩ ⟨Nat.le_of_ble_eq_true rfl, Nat.le_of_ble_eq_true rfl⟩
    · refine lv_iload_n fx.1 fx.2.1 dX10_needThree_28 rfl (lv_at hl 2 rfl) ?_
      refine lv_iload_n fx.1 fx.2.1 dX10_needThree_29 rfl (lv_at hl 3 rfl) ?_
      refine g_icmp_ne (tgt := 44) fx dX10_needThree_30 (by decide) hok (fun hok => ?_) (fun hok => ?_)
      · cases gOk_some hok
        exact g_throwSW fx hw hS hl.1 hxt lx_RX10_98 gt_RX10_464 dX10_needThree_33 dX10_needThree_36 dX10_needThree_37 dX10_needThree_40 dX10_needThree_43 ⟨Nat.le_of_ble_eq_true rfl, Nat.le_of_ble_eq_true rfl, Nat.le_of_ble_eq_true rfl, Nat.le_of_ble_eq_true rfl⟩ ⟨Nat.le_of_ble_eq_true rfl, Nat.le_of_ble_eq_true rfl⟩
      · cases gOk_some hok
        exact g_vretX fx hw hr ⟨Nat.le_of_ble_eq_true rfl, Nat.le_of_ble_eq_true rfl⟩ dX10_needThree_44
theorem dX10_needWithin_0 : decode cX10_needWithin 0 = .ok (.iload_n 0, 1) := by decide +kernel
theorem dX10_needWithin_1 : decode cX10_needWithin 1 = .ok (.iload_n 1, 1) := by decide +kernel
theorem dX10_needWithin_2 : decode cX10_needWithin 2 = .ok (.if_icmp .lt 8, 3) := by decide +kernel
theorem dX10_needWithin_5 : decode cX10_needWithin 5 = .ok (.iload_n 0, 1) := by decide +kernel
theorem dX10_needWithin_6 : decode cX10_needWithin 6 = .ok (.iload_n 2, 1) := by decide +kernel
theorem dX10_needWithin_7 : decode cX10_needWithin 7 = .ok (.if_icmp .le 14, 3) := by decide +kernel
theorem dX10_needWithin_10 : decode cX10_needWithin 10 = .ok (.new 98, 3) := by decide +kernel
theorem dX10_needWithin_13 : decode cX10_needWithin 13 = .ok (.dup, 1) := by decide +kernel
theorem dX10_needWithin_14 : decode cX10_needWithin 14 = .ok (.ldc_w 470, 3) := by decide +kernel
theorem dX10_needWithin_17 : decode cX10_needWithin 17 = .ok (.invokespecial 102, 3) := by decide +kernel
theorem dX10_needWithin_20 : decode cX10_needWithin 20 = .ok (.athrow, 1) := by decide +kernel
theorem dX10_needWithin_21 : decode cX10_needWithin 21 = .ok (.return_, 1) := by decide +kernel
def rm_X10_needWithin : Room := { frames := 6, cells := 1, slots := 6, locals := 120 }
def f_X10_needWithin (x0 : Int32) (x1 : Int32) (x2 : Int32) (G : gG) : Option ((String ⊕ Unit) × gG) :=
  if x0 < x1 then (some (.inl x_IAE, G))
  else (if x0 ≤ x2 then (some (.inr (), G))
  else (some (.inl x_IAE, G)))
set_option maxHeartbeats 4000000 in
set_option maxRecDepth 100000 in
theorem c_X10_needWithin (l : Launch) (X : gX) (τ : gτ) (hS : gS0 l X) (x0 : Int32) (x1 : Int32) (x2 : Int32) (G : gG)  {r : String ⊕ Unit} {G' : gG} (h : f_X10_needWithin x0 x1 x2 G = some (r, G')) : gMX l X τ yX10_needWithin cX10_needWithin 3 none rm_X10_needWithin [.int x0, .int x1, .int x2] G (gOv r) G' := by
  refine g_bodyX (by decide +kernel) (Nat.le_of_ble_eq_true rfl) ?_
  intro p e s m args below meth c ls fx hr hxt hw hl
  have fx : gFx X p s m args meth c cX10_needWithin 3 RX10 := fx
  have hl : lv_has ls 3 [(0, .int x0), (1, .int x1), (2, .int x2)] := hl
  have hok : gOk (f_X10_needWithin x0 x1 x2 G) (fun q => q = (r, G')) := ⟨_, h, rfl⟩
  unfold f_X10_needWithin at hok
  show W p l e rm_X10_needWithin s m args below meth c s.heap [] 0 0 (vx_MQ below (gQX X τ (gOv r) G') (gXC X τ (gOv r) G') args s rm_X10_needWithin.cells rm_X10_needWithin.slots (gFree X)) _
  refine lv_iload_n fx.1 fx.2.1 dX10_needWithin_0 rfl (lv_at hl 0 rfl) ?_
  refine lv_iload_n fx.1 fx.2.1 dX10_needWithin_1 rfl (lv_at hl 1 rfl) ?_
  refine g_icmp_lt (tgt := 10) fx dX10_needWithin_2 (by decide) hok (fun hok => ?_) (fun hok => ?_)
  · cases gOk_some hok
    exact g_throwSW fx hw hS hl.1 hxt lx_RX10_98 gt_RX10_470 dX10_needWithin_10 dX10_needWithin_13 dX10_needWithin_14 dX10_needWithin_17 dX10_needWithin_20 ⟨Nat.le_of_ble_eq_true rfl, Nat.le_of_ble_eq_true rfl, Nat.le_of_ble_eq_true rfl, Nat.le_of_ble_eq_true rfl⟩ ⟨Nat.le_of_ble_eq_true rfl, Nat.le_of_ble_eq_true rfl⟩
  · refine lv_iload_n fx.1 fx.2.1 dX10_needWithin_5 rfl (lv_at hl 0 rfl) ?_
    refine lv_iload_n fx.1 fx.2.1 dX10_needWithin_6 rfl (lv_at hl 2 rfl) ?_
    refine g_icmp_le (tgt := 21) fx dX10_needWithin_7 (by decide) hok (fun hok => ?_) (fun hok => ?_)
    · cases gOk_some hok
      exact g_vretX fx hw hr ⟨Nat.le_of_ble_eq_true rfl, Nat.le_of_ble_eq_true rfl⟩ dX10_needWithin_21
    · cases gOk_some hok
      exact g_throwSW fx hw hS hl.1 hxt lx_RX10_98 gt_RX10_470 dX10_needWithin_10 dX10_needWithin_13 dX10_needWithin_14 dX10_needWithin_17 dX10_needWithin_20 ⟨Nat.le_of_ble_eq_true rfl, Nat.le_of_ble_eq_true rfl, Nat.le_of_ble_eq_true rfl, Nat.le_of_ble_eq_true rfl⟩ ⟨Nat.le_of_ble_eq_true rfl, Nat.le_of_ble_eq_true rfl⟩
theorem dX10_trialBearing_0 : decode cX10_trialBearing 0 = .ok (.aload_n 0, 1) := by decide +kernel
theorem dX10_trialBearing_1 : decode cX10_trialBearing 1 = .ok (.getfield 56, 3) := by decide +kernel
theorem dX10_trialBearing_4 : decode cX10_trialBearing 4 = .ok (.iload_n 1, 1) := by decide +kernel
theorem dX10_trialBearing_5 : decode cX10_trialBearing 5 = .ok (.iload_n 2, 1) := by decide +kernel
theorem dX10_trialBearing_6 : decode cX10_trialBearing 6 = .ok (.iload_n 3, 1) := by decide +kernel
theorem dX10_trialBearing_7 : decode cX10_trialBearing 7 = .ok (.iload 4, 2) := by decide +kernel
theorem dX10_trialBearing_9 : decode cX10_trialBearing 9 = .ok (.invokevirtual 472, 3) := by decide +kernel
theorem dX10_trialBearing_12 : decode cX10_trialBearing 12 = .ok (.aload_n 0, 1) := by decide +kernel
theorem dX10_trialBearing_13 : decode cX10_trialBearing 13 = .ok (.getfield 70, 3) := by decide +kernel
theorem dX10_trialBearing_16 : decode cX10_trialBearing 16 = .ok (.aload_n 0, 1) := by decide +kernel
theorem dX10_trialBearing_17 : decode cX10_trialBearing 17 = .ok (.getfield 56, 3) := by decide +kernel
theorem dX10_trialBearing_20 : decode cX10_trialBearing 20 = .ok (.aload_n 0, 1) := by decide +kernel
theorem dX10_trialBearing_21 : decode cX10_trialBearing 21 = .ok (.getfield 76, 3) := by decide +kernel
theorem dX10_trialBearing_24 : decode cX10_trialBearing 24 = .ok (.invokevirtual 191, 3) := by decide +kernel
theorem dX10_trialBearing_27 : decode cX10_trialBearing 27 = .ok (.ireturn, 1) := by decide +kernel
theorem lf_RX10_56 : gLf RX10 56 10 6 := ⟨(RX10, TX10, 15), rfl, by decide, wA_t (wt2 (List.mem_of_getElem? (i := 132) (by decide +kernel))) (by decide +kernel), rfl⟩
theorem lv_RX10_472 : gLv RX10 472 RX5 yX5_beLaid cX5_beLaid 5 none 4 := gLv_of (wA_t (wt3 (List.mem_of_getElem? (i := 30) (by decide +kernel))) (by decide +kernel)) (wA_t (wt3 (List.mem_of_getElem? (i := 31) (by decide +kernel))) (by decide +kernel)) (wA_t (wt3 (List.mem_of_getElem? (i := 32) (by decide +kernel))) (by decide +kernel)) (wA_t (wt1 (List.mem_of_getElem? (i := 9) (by decide +kernel))) (by decide +kernel)) (wA_t (wt3 (List.mem_of_getElem? (i := 33) (by decide +kernel))) (by decide +kernel)) ⟨rfl, by decide +kernel, by decide +kernel, by decide +kernel⟩
def rm_X10_trialBearing : Room := { frames := 4, cells := 0, slots := 0, locals := 97 }
def f_X10_trialBearing (τ : gτ) (n : Nat) (x0 : Nat) (x1 : Int32) (x2 : Int32) (x3 : Int32) (x4 : Int32) (G : gG) : Option (Int32 × gG) :=
  (gr G 10 6 x0).bind fun a1 =>
  (f_X5_beLaid a1 x1 x2 x3 x4 G).bind fun G2 =>
  (gr G2 10 10 x0).bind fun a3 =>
  (gr G2 10 6 x0).bind fun a4 =>
  (gr G2 10 12 x0).bind fun a5 =>
  gBind2 (f_X6_bearing τ n a3 a4 a5 G2) fun v6 G7 =>
  some (v6, G7)
set_option maxHeartbeats 4000000 in
set_option maxRecDepth 100000 in
theorem c_X10_trialBearing (l : Launch) (X : gX) (τ : gτ) (n : Nat) (x0 : Nat) (x1 : Int32) (x2 : Int32) (x3 : Int32) (x4 : Int32) (G : gG) (h0 : gK τ x0 10) {r : Int32} {G' : gG} (h : f_X10_trialBearing τ n x0 x1 x2 x3 x4 G = some (r, G')) : gM l X τ yX10_trialBearing cX10_trialBearing 5 (some .int) rm_X10_trialBearing [.ref x0, .int x1, .int x2, .int x3, .int x4] G (some (.int r)) G' := by
  refine g_body (by decide +kernel) (Nat.le_of_ble_eq_true rfl) ?_
  intro p e s m args below meth c ls fx hr hw hl
  have fx : gFx X p s m args meth c cX10_trialBearing 5 RX10 := fx
  have hl : lv_has ls 5 [(0, .ref x0), (1, .int x1), (2, .int x2), (3, .int x3), (4, .int x4)] := hl
  have hok : gOk (f_X10_trialBearing τ n x0 x1 x2 x3 x4 G) (fun q => q = (r, G')) := ⟨_, h, rfl⟩
  unfold f_X10_trialBearing at hok
  show W p l e rm_X10_trialBearing s m args below meth c s.heap [] 0 0 (MQ below (gQ X τ (some (.int r)) G') args s 0 0 (gFree X)) _
  refine lv_aload_n fx.1 fx.2.1 dX10_trialBearing_0 rfl (lv_at hl 0 rfl) ?_
  refine g_getr fx hw h0 lf_RX10_56 rfl dX10_trialBearing_1 hok (fun a1 h_a1 hok => ?_)
  refine lv_iload_n fx.1 fx.2.1 dX10_trialBearing_4 rfl (lv_at hl 1 rfl) ?_
  refine lv_iload_n fx.1 fx.2.1 dX10_trialBearing_5 rfl (lv_at hl 2 rfl) ?_
  refine lv_iload_n fx.1 fx.2.1 dX10_trialBearing_6 rfl (lv_at hl 3 rfl) ?_
  refine lv_iload fx.1 fx.2.1 dX10_trialBearing_7 (lv_at hl 4 rfl) ?_
  obtain ⟨G2, hf, hok⟩ := gOk_bind hok
  refine g_callV0 (κ := 5) fx hw (c_X5_beLaid l X τ a1 x1 x2 x3 x4 G h_a1 hf) lv_RX10_472 ⟨rfl, rfl⟩ rfl rfl h_a1 rfl hl.1 rfl ⟨Nat.le_of_ble_eq_true rfl, Nat.le_of_ble_eq_true rfl⟩ (Nat.le_of_ble_eq_true rfl) ⟨Nat.le_of_ble_eq_true rfl, Nat.le_of_ble_eq_true rfl⟩ dX10_trialBearing_9 (fun H locs hw => ?_)
  refine lv_aload_n fx.1 fx.2.1 dX10_trialBearing_12 rfl (lv_at hl 0 rfl) ?_
  refine g_getr fx hw h0 lf_RX10_70 rfl dX10_trialBearing_13 hok (fun a3 h_a3 hok => ?_)
  refine lv_aload_n fx.1 fx.2.1 dX10_trialBearing_16 rfl (lv_at hl 0 rfl) ?_
  refine g_getr fx hw h0 lf_RX10_56 rfl dX10_trialBearing_17 hok (fun a4 h_a4 hok => ?_)
  refine lv_aload_n fx.1 fx.2.1 dX10_trialBearing_20 rfl (lv_at hl 0 rfl) ?_
  refine g_getr fx hw h0 lf_RX10_76 rfl dX10_trialBearing_21 hok (fun a5 h_a5 hok => ?_)
  obtain ⟨v6, G7, hf, hok⟩ := gOk_bind2 hok
  refine g_callV0 (κ := 6) fx hw (c_X6_bearing l X τ n a3 a4 a5 G2 h_a3 h_a4 h_a5 hf) lv_RX10_191 ⟨rfl, rfl⟩ rfl rfl h_a3 rfl hl.1 rfl ⟨Nat.le_of_ble_eq_true rfl, Nat.le_of_ble_eq_true rfl⟩ (Nat.le_of_ble_eq_true rfl) ⟨Nat.le_of_ble_eq_true rfl, Nat.le_of_ble_eq_true rfl⟩ dX10_trialBearing_24 (fun H locs hw => ?_)
  cases gOk_some hok
  exact g_iret fx hw hr dX10_trialBearing_27
theorem dX10_bears_0 : decode cX10_bears 0 = .ok (.aload_n 0, 1) := by decide +kernel
theorem dX10_bears_1 : decode cX10_bears 1 = .ok (.iload_n 1, 1) := by decide +kernel
theorem dX10_bears_2 : decode cX10_bears 2 = .ok (.iload_n 2, 1) := by decide +kernel
theorem dX10_bears_3 : decode cX10_bears 3 = .ok (.iload_n 3, 1) := by decide +kernel
theorem dX10_bears_4 : decode cX10_bears 4 = .ok (.invokevirtual 220, 3) := by decide +kernel
theorem dX10_bears_7 : decode cX10_bears 7 = .ok (.iload 4, 2) := by decide +kernel
theorem dX10_bears_9 : decode cX10_bears 9 = .ok (.iconst 1, 1) := by decide +kernel
theorem dX10_bears_10 : decode cX10_bears 10 = .ok (.sipush 400, 3) := by decide +kernel
theorem dX10_bears_13 : decode cX10_bears 13 = .ok (.invokestatic 224, 3) := by decide +kernel
theorem dX10_bears_16 : decode cX10_bears 16 = .ok (.aload_n 0, 1) := by decide +kernel
theorem dX10_bears_17 : decode cX10_bears 17 = .ok (.iload_n 1, 1) := by decide +kernel
theorem dX10_bears_18 : decode cX10_bears 18 = .ok (.iload_n 2, 1) := by decide +kernel
theorem dX10_bears_19 : decode cX10_bears 19 = .ok (.iload_n 3, 1) := by decide +kernel
theorem dX10_bears_20 : decode cX10_bears 20 = .ok (.iload 4, 2) := by decide +kernel
theorem dX10_bears_22 : decode cX10_bears 22 = .ok (.invokevirtual 227, 3) := by decide +kernel
theorem dX10_bears_25 : decode cX10_bears 25 = .ok (.ireturn, 1) := by decide +kernel
theorem lv_RX10_220 : gLv RX10 220 RX10 yX10_needThree cX10_needThree 4 none 3 := gLv_of (wA_t (wt5 (List.mem_of_getElem? (i := 96) (by decide +kernel))) (by decide +kernel)) (wA_t (wt5 (List.mem_of_getElem? (i := 98) (by decide +kernel))) (by decide +kernel)) (wA_of (List.mem_append_left _ (List.mem_map.mpr ⟨(⟨"YearRope", "needThree", "(III)V"⟩, 15), wp2 (List.mem_of_getElem? (i := 11) (by decide +kernel)), rfl⟩)) (by decide +kernel)) (wA_t (wt1 (List.mem_of_getElem? (i := 1) (by decide +kernel))) (by decide +kernel)) (wA_t (wt5 (List.mem_of_getElem? (i := 99) (by decide +kernel))) (by decide +kernel)) ⟨rfl, by decide +kernel, by decide +kernel, by decide +kernel⟩
theorem ls_RX10_224 : gLs RX10 224 yX10_needWithin cX10_needWithin 3 none 3 := gLs_of (wA_t (wt5 (List.mem_of_getElem? (i := 101) (by decide +kernel))) (by decide +kernel)) (wA_t (wt5 (List.mem_of_getElem? (i := 102) (by decide +kernel))) (by decide +kernel)) (wA_t (wt1 (List.mem_of_getElem? (i := 1) (by decide +kernel))) (by decide +kernel)) (wA_t (wt5 (List.mem_of_getElem? (i := 103) (by decide +kernel))) (by decide +kernel)) ⟨by decide +kernel, by decide +kernel, by decide +kernel⟩
theorem lv_RX10_227 : gLv RX10 227 RX10 yX10_trialBearing cX10_trialBearing 5 (some .int) 4 := gLv_of (wA_t (wt3 (List.mem_of_getElem? (i := 26) (by decide +kernel))) (by decide +kernel)) (wA_t (wt3 (List.mem_of_getElem? (i := 28) (by decide +kernel))) (by decide +kernel)) (wA_of (List.mem_append_left _ (List.mem_map.mpr ⟨(⟨"YearRope", "trialBearing", "(IIII)I"⟩, 15), wp1 (List.mem_of_getElem? (i := 4) (by decide +kernel)), rfl⟩)) (by decide +kernel)) (wA_t (wt1 (List.mem_of_getElem? (i := 1) (by decide +kernel))) (by decide +kernel)) (wA_t (wt3 (List.mem_of_getElem? (i := 29) (by decide +kernel))) (by decide +kernel)) ⟨rfl, by decide +kernel, by decide +kernel, by decide +kernel⟩
def rm_X10_bears : Room := { frames := 8, cells := 5, slots := 30, locals := 164 }
def f_X10_bears (τ : gτ) (n : Nat) (x0 : Nat) (x1 : Int32) (x2 : Int32) (x3 : Int32) (x4 : Int32) (G : gG) : Option ((String ⊕ Int32) × gG) :=
  gBindX (f_X10_needThree τ x0 x1 x2 x3 G) fun _ G1 =>
  gBindX (f_X10_needWithin x4 (1 : Int32) (400 : Int32) G1) fun _ G2 =>
  gBind2 (f_X10_trialBearing τ n x0 x1 x2 x3 x4 G2) fun v3 G4 =>
  some (.inr v3, G4)
set_option maxHeartbeats 4000000 in
set_option maxRecDepth 100000 in
theorem c_X10_bears (l : Launch) (X : gX) (τ : gτ) (n : Nat) (hS : gS0 l X) (x0 : Nat) (x1 : Int32) (x2 : Int32) (x3 : Int32) (x4 : Int32) (G : gG) (h0 : gK τ x0 10) {r : String ⊕ Int32} {G' : gG} (h : f_X10_bears τ n x0 x1 x2 x3 x4 G = some (r, G')) : gMX l X τ yX10_bears cX10_bears 5 (some .int) rm_X10_bears [.ref x0, .int x1, .int x2, .int x3, .int x4] G (gOi r) G' := by
  refine g_bodyX (by decide +kernel) (Nat.le_of_ble_eq_true rfl) ?_
  intro p e s m args below meth c ls fx hr hxt hw hl
  have fx : gFx X p s m args meth c cX10_bears 5 RX10 := fx
  have hl : lv_has ls 5 [(0, .ref x0), (1, .int x1), (2, .int x2), (3, .int x3), (4, .int x4)] := hl
  have hok : gOk (f_X10_bears τ n x0 x1 x2 x3 x4 G) (fun q => q = (r, G')) := ⟨_, h, rfl⟩
  unfold f_X10_bears at hok
  show W p l e rm_X10_bears s m args below meth c s.heap [] 0 0 (vx_MQ below (gQX X τ (gOi r) G') (gXC X τ (gOi r) G') args s rm_X10_bears.cells rm_X10_bears.slots (gFree X)) _
  refine lv_aload_n fx.1 fx.2.1 dX10_bears_0 rfl (lv_at hl 0 rfl) ?_
  refine lv_iload_n fx.1 fx.2.1 dX10_bears_1 rfl (lv_at hl 1 rfl) ?_
  refine lv_iload_n fx.1 fx.2.1 dX10_bears_2 rfl (lv_at hl 2 rfl) ?_
  refine lv_iload_n fx.1 fx.2.1 dX10_bears_3 rfl (lv_at hl 3 rfl) ?_
  rcases gOk_bindX hok with ⟨E, G9, hf, hK⟩ | ⟨u, G1, hf, hok⟩
  · have hK : (Sum.inl E, G9) = (r, G') := hK
    cases hK
    refine g_callVX (κ := 10) (As := [.int x1, .int x2, .int x3]) fx hw hxt (c_X10_needThree l X τ hS x0 x1 x2 x3 G h0 hf) lv_RX10_220 rfl rfl h0 rfl hl.1 rfl ⟨Nat.le_of_ble_eq_true rfl, Nat.le_of_ble_eq_true rfl⟩ (Nat.le_of_ble_eq_true rfl) ⟨Nat.le_of_ble_eq_true rfl, Nat.le_of_ble_eq_true rfl⟩ ⟨Nat.le_of_ble_eq_true rfl, Nat.le_of_ble_eq_true rfl⟩ dX10_bears_4 (fun u H locs hv hw => ?_) (fun E9 hE => ?_)
    · have hv : (Sum.inl E : String ⊕ Option Value) = Sum.inr u := hv
      cases hv
    · have hE : (Sum.inl E : String ⊕ Option Value) = Sum.inl E9 := hE
      cases hE
      exact ⟨rfl, rfl⟩
  refine g_callVX (κ := 10) (As := [.int x1, .int x2, .int x3]) fx hw hxt (c_X10_needThree l X τ hS x0 x1 x2 x3 G h0 hf) lv_RX10_220 rfl rfl h0 rfl hl.1 rfl ⟨Nat.le_of_ble_eq_true rfl, Nat.le_of_ble_eq_true rfl⟩ (Nat.le_of_ble_eq_true rfl) ⟨Nat.le_of_ble_eq_true rfl, Nat.le_of_ble_eq_true rfl⟩ ⟨Nat.le_of_ble_eq_true rfl, Nat.le_of_ble_eq_true rfl⟩ dX10_bears_4 (fun u9 H locs hv hw => ?_) (fun E9 hE => by have hE : (Sum.inr none : String ⊕ Option Value) = Sum.inl E9 := hE; cases hE)
  have hv : (Sum.inr none : String ⊕ Option Value) = Sum.inr u9 := hv
  cases hv
  refine lv_iload fx.1 fx.2.1 dX10_bears_7 (lv_at hl 4 rfl) ?_
  refine lv_iconst (v := 1) fx.1 fx.2.1 dX10_bears_9 (by decide) ?_
  refine lv_sipush (v := 400) fx.1 fx.2.1 dX10_bears_10 (by decide) ?_
  rcases gOk_bindX hok with ⟨E, G9, hf, hK⟩ | ⟨u, G2, hf, hok⟩
  · have hK : (Sum.inl E, G9) = (r, G') := hK
    cases hK
    refine g_callSX (As := [.int x4, .int (1 : Int32), .int (400 : Int32)]) fx hw hxt (c_X10_needWithin l X τ hS x4 (1 : Int32) (400 : Int32) G1  hf) ls_RX10_224 rfl hl.1 rfl ⟨Nat.le_of_ble_eq_true rfl, Nat.le_of_ble_eq_true rfl⟩ (Nat.le_of_ble_eq_true rfl) ⟨Nat.le_of_ble_eq_true rfl, Nat.le_of_ble_eq_true rfl⟩ ⟨Nat.le_of_ble_eq_true rfl, Nat.le_of_ble_eq_true rfl⟩ dX10_bears_13 (fun u H locs hv hw => ?_) (fun E9 hE => ?_)
    · have hv : (Sum.inl E : String ⊕ Option Value) = Sum.inr u := hv
      cases hv
    · have hE : (Sum.inl E : String ⊕ Option Value) = Sum.inl E9 := hE
      cases hE
      exact ⟨rfl, rfl⟩
  refine g_callSX (As := [.int x4, .int (1 : Int32), .int (400 : Int32)]) fx hw hxt (c_X10_needWithin l X τ hS x4 (1 : Int32) (400 : Int32) G1  hf) ls_RX10_224 rfl hl.1 rfl ⟨Nat.le_of_ble_eq_true rfl, Nat.le_of_ble_eq_true rfl⟩ (Nat.le_of_ble_eq_true rfl) ⟨Nat.le_of_ble_eq_true rfl, Nat.le_of_ble_eq_true rfl⟩ ⟨Nat.le_of_ble_eq_true rfl, Nat.le_of_ble_eq_true rfl⟩ dX10_bears_13 (fun u9 H locs hv hw => ?_) (fun E9 hE => by have hE : (Sum.inr none : String ⊕ Option Value) = Sum.inl E9 := hE; cases hE)
  have hv : (Sum.inr none : String ⊕ Option Value) = Sum.inr u9 := hv
  cases hv
  refine lv_aload_n fx.1 fx.2.1 dX10_bears_16 rfl (lv_at hl 0 rfl) ?_
  refine lv_iload_n fx.1 fx.2.1 dX10_bears_17 rfl (lv_at hl 1 rfl) ?_
  refine lv_iload_n fx.1 fx.2.1 dX10_bears_18 rfl (lv_at hl 2 rfl) ?_
  refine lv_iload_n fx.1 fx.2.1 dX10_bears_19 rfl (lv_at hl 3 rfl) ?_
  refine lv_iload fx.1 fx.2.1 dX10_bears_20 (lv_at hl 4 rfl) ?_
  obtain ⟨v3, G4, hf, hok⟩ := gOk_bind2 hok
  refine g_callV0 (κ := 10) fx hw (c_X10_trialBearing l X τ n x0 x1 x2 x3 x4 G2 h0 hf) lv_RX10_227 ⟨rfl, rfl⟩ rfl rfl h0 rfl hl.1 rfl ⟨Nat.le_of_ble_eq_true rfl, Nat.le_of_ble_eq_true rfl⟩ (Nat.le_of_ble_eq_true rfl) ⟨Nat.le_of_ble_eq_true rfl, Nat.le_of_ble_eq_true rfl⟩ dX10_bears_22 (fun H locs hw => ?_)
  cases gOk_some hok
  exact g_iretX fx hw hr ⟨Nat.le_of_ble_eq_true rfl, Nat.le_of_ble_eq_true rfl⟩ dX10_bears_25
theorem dX10_needRoomForRope_0 : decode cX10_needRoomForRope 0 = .ok (.aload_n 0, 1) := by decide +kernel
theorem dX10_needRoomForRope_1 : decode cX10_needRoomForRope 1 = .ok (.getfield 70, 3) := by decide +kernel
theorem dX10_needRoomForRope_4 : decode cX10_needRoomForRope 4 = .ok (.getfield 286, 3) := by decide +kernel
theorem dX10_needRoomForRope_7 : decode cX10_needRoomForRope 7 = .ok (.bipush 8, 2) := by decide +kernel
theorem dX10_needRoomForRope_9 : decode cX10_needRoomForRope 9 = .ok (.if_icmp .lt 14, 3) := by decide +kernel
theorem dX10_needRoomForRope_12 : decode cX10_needRoomForRope 12 = .ok (.new 108, 3) := by decide +kernel
theorem dX10_needRoomForRope_15 : decode cX10_needRoomForRope 15 = .ok (.dup, 1) := by decide +kernel
theorem dX10_needRoomForRope_16 : decode cX10_needRoomForRope 16 = .ok (.ldc_w 468, 3) := by decide +kernel
theorem dX10_needRoomForRope_19 : decode cX10_needRoomForRope 19 = .ok (.invokespecial 112, 3) := by decide +kernel
theorem dX10_needRoomForRope_22 : decode cX10_needRoomForRope 22 = .ok (.athrow, 1) := by decide +kernel
theorem dX10_needRoomForRope_23 : decode cX10_needRoomForRope 23 = .ok (.return_, 1) := by decide +kernel
def rm_X10_needRoomForRope : Room := { frames := 6, cells := 1, slots := 6, locals := 120 }
def f_X10_needRoomForRope (x0 : Nat) (G : gG) : Option ((String ⊕ Unit) × gG) :=
  (gr G 10 10 x0).bind fun a1 =>
  if (gi G 6 5 a1) < (8 : Int32) then (some (.inr (), G))
  else (some (.inl x_UOE, G))
set_option maxHeartbeats 4000000 in
set_option maxRecDepth 100000 in
theorem c_X10_needRoomForRope (l : Launch) (X : gX) (τ : gτ) (hS : gS0 l X) (x0 : Nat) (G : gG) (h0 : gK τ x0 10) {r : String ⊕ Unit} {G' : gG} (h : f_X10_needRoomForRope x0 G = some (r, G')) : gMX l X τ yX10_needRoomForRope cX10_needRoomForRope 1 none rm_X10_needRoomForRope [.ref x0] G (gOv r) G' := by
  refine g_bodyX (by decide +kernel) (Nat.le_of_ble_eq_true rfl) ?_
  intro p e s m args below meth c ls fx hr hxt hw hl
  have fx : gFx X p s m args meth c cX10_needRoomForRope 1 RX10 := fx
  have hl : lv_has ls 1 [(0, .ref x0)] := hl
  have hok : gOk (f_X10_needRoomForRope x0 G) (fun q => q = (r, G')) := ⟨_, h, rfl⟩
  unfold f_X10_needRoomForRope at hok
  show W p l e rm_X10_needRoomForRope s m args below meth c s.heap [] 0 0 (vx_MQ below (gQX X τ (gOv r) G') (gXC X τ (gOv r) G') args s rm_X10_needRoomForRope.cells rm_X10_needRoomForRope.slots (gFree X)) _
  refine lv_aload_n fx.1 fx.2.1 dX10_needRoomForRope_0 rfl (lv_at hl 0 rfl) ?_
  refine g_getr fx hw h0 lf_RX10_70 rfl dX10_needRoomForRope_1 hok (fun a1 h_a1 hok => ?_)
  refine g_geti fx hw h_a1 lf_RX10_286 rfl dX10_needRoomForRope_4 ?_
  refine lv_bipush (v := 8) fx.1 fx.2.1 dX10_needRoomForRope_7 (by decide) ?_
  refine g_icmp_lt (tgt := 23) fx dX10_needRoomForRope_9 (by decide) hok (fun hok => ?_) (fun hok => ?_)
  · cases gOk_some hok
    exact g_vretX fx hw hr ⟨Nat.le_of_ble_eq_true rfl, Nat.le_of_ble_eq_true rfl⟩ dX10_needRoomForRope_23
  · cases gOk_some hok
    exact g_throwSW fx hw hS hl.1 hxt lx_RX10_108 gt_RX10_468 dX10_needRoomForRope_12 dX10_needRoomForRope_15 dX10_needRoomForRope_16 dX10_needRoomForRope_19 dX10_needRoomForRope_22 ⟨Nat.le_of_ble_eq_true rfl, Nat.le_of_ble_eq_true rfl, Nat.le_of_ble_eq_true rfl, Nat.le_of_ble_eq_true rfl⟩ ⟨Nat.le_of_ble_eq_true rfl, Nat.le_of_ble_eq_true rfl⟩
theorem dX10_lay_0 : decode cX10_lay 0 = .ok (.aload_n 0, 1) := by decide +kernel
theorem dX10_lay_1 : decode cX10_lay 1 = .ok (.iload_n 1, 1) := by decide +kernel
theorem dX10_lay_2 : decode cX10_lay 2 = .ok (.iload_n 2, 1) := by decide +kernel
theorem dX10_lay_3 : decode cX10_lay 3 = .ok (.iload_n 3, 1) := by decide +kernel
theorem dX10_lay_4 : decode cX10_lay 4 = .ok (.invokevirtual 220, 3) := by decide +kernel
theorem dX10_lay_7 : decode cX10_lay 7 = .ok (.iload 4, 2) := by decide +kernel
theorem dX10_lay_9 : decode cX10_lay 9 = .ok (.iconst 1, 1) := by decide +kernel
theorem dX10_lay_10 : decode cX10_lay 10 = .ok (.sipush 200, 3) := by decide +kernel
theorem dX10_lay_13 : decode cX10_lay 13 = .ok (.invokestatic 224, 3) := by decide +kernel
theorem dX10_lay_16 : decode cX10_lay 16 = .ok (.aload_n 0, 1) := by decide +kernel
theorem dX10_lay_17 : decode cX10_lay 17 = .ok (.getfield 70, 3) := by decide +kernel
theorem dX10_lay_20 : decode cX10_lay 20 = .ok (.iload_n 1, 1) := by decide +kernel
theorem dX10_lay_21 : decode cX10_lay 21 = .ok (.iload_n 2, 1) := by decide +kernel
theorem dX10_lay_22 : decode cX10_lay 22 = .ok (.iload_n 3, 1) := by decide +kernel
theorem dX10_lay_23 : decode cX10_lay 23 = .ok (.invokevirtual 231, 3) := by decide +kernel
theorem dX10_lay_26 : decode cX10_lay 26 = .ok (.iload 4, 2) := by decide +kernel
theorem dX10_lay_28 : decode cX10_lay 28 = .ok (.if_icmp .ge 13, 3) := by decide +kernel
theorem dX10_lay_31 : decode cX10_lay 31 = .ok (.new 235, 3) := by decide +kernel
theorem dX10_lay_34 : decode cX10_lay 34 = .ok (.dup, 1) := by decide +kernel
theorem dX10_lay_35 : decode cX10_lay 35 = .ok (.ldc 237, 2) := by decide +kernel
theorem dX10_lay_37 : decode cX10_lay 37 = .ok (.invokespecial 239, 3) := by decide +kernel
theorem dX10_lay_40 : decode cX10_lay 40 = .ok (.athrow, 1) := by decide +kernel
theorem dX10_lay_41 : decode cX10_lay 41 = .ok (.aload_n 0, 1) := by decide +kernel
theorem dX10_lay_42 : decode cX10_lay 42 = .ok (.invokevirtual 240, 3) := by decide +kernel
theorem dX10_lay_45 : decode cX10_lay 45 = .ok (.aload_n 0, 1) := by decide +kernel
theorem dX10_lay_46 : decode cX10_lay 46 = .ok (.getfield 35, 3) := by decide +kernel
theorem dX10_lay_49 : decode cX10_lay 49 = .ok (.aload_n 0, 1) := by decide +kernel
theorem dX10_lay_50 : decode cX10_lay 50 = .ok (.getfield 70, 3) := by decide +kernel
theorem dX10_lay_53 : decode cX10_lay 53 = .ok (.invokevirtual 243, 3) := by decide +kernel
theorem dX10_lay_56 : decode cX10_lay 56 = .ok (.aload_n 0, 1) := by decide +kernel
theorem dX10_lay_57 : decode cX10_lay 57 = .ok (.getfield 70, 3) := by decide +kernel
theorem dX10_lay_60 : decode cX10_lay 60 = .ok (.iload_n 1, 1) := by decide +kernel
theorem dX10_lay_61 : decode cX10_lay 61 = .ok (.iload_n 2, 1) := by decide +kernel
theorem dX10_lay_62 : decode cX10_lay 62 = .ok (.iload_n 3, 1) := by decide +kernel
theorem dX10_lay_63 : decode cX10_lay 63 = .ok (.iload 4, 2) := by decide +kernel
theorem dX10_lay_65 : decode cX10_lay 65 = .ok (.invokevirtual 246, 3) := by decide +kernel
theorem dX10_lay_68 : decode cX10_lay 68 = .ok (.ireturn, 1) := by decide +kernel
theorem lv_RX10_231 : gLv RX10 231 RX6 yX6_shortest cX6_shortest 5 (some .int) 3 := gLv_of (wA_t (wt3 (List.mem_of_getElem? (i := 21) (by decide +kernel))) (by decide +kernel)) (wA_t (wt3 (List.mem_of_getElem? (i := 22) (by decide +kernel))) (by decide +kernel)) (wA_t (wt3 (List.mem_of_getElem? (i := 23) (by decide +kernel))) (by decide +kernel)) (wA_t (wt1 (List.mem_of_getElem? (i := 6) (by decide +kernel))) (by decide +kernel)) (wA_t (wt3 (List.mem_of_getElem? (i := 24) (by decide +kernel))) (by decide +kernel)) ⟨rfl, by decide +kernel, by decide +kernel, by decide +kernel⟩
theorem lv_RX10_240 : gLv RX10 240 RX10 yX10_needRoomForRope cX10_needRoomForRope 1 none 0 := gLv_of (wA_t (wt5 (List.mem_of_getElem? (i := 129) (by decide +kernel))) (by decide +kernel)) (wA_t (wt5 (List.mem_of_getElem? (i := 131) (by decide +kernel))) (by decide +kernel)) (wA_of (List.mem_append_left _ (List.mem_map.mpr ⟨(⟨"YearRope", "needRoomForRope", "()V"⟩, 15), wp2 (List.mem_of_getElem? (i := 12) (by decide +kernel)), rfl⟩)) (by decide +kernel)) (wA_t (wt1 (List.mem_of_getElem? (i := 1) (by decide +kernel))) (by decide +kernel)) (wA_t (wt5 (List.mem_of_getElem? (i := 132) (by decide +kernel))) (by decide +kernel)) ⟨rfl, by decide +kernel, by decide +kernel, by decide +kernel⟩
theorem lv_RX10_243 : gLv RX10 243 RX3 yX3_keep cX3_keep 2 none 1 := gLv_of (wA_t (wt5 (List.mem_of_getElem? (i := 134) (by decide +kernel))) (by decide +kernel)) (wA_t (wt5 (List.mem_of_getElem? (i := 135) (by decide +kernel))) (by decide +kernel)) (wA_t (wt5 (List.mem_of_getElem? (i := 136) (by decide +kernel))) (by decide +kernel)) (wA_t (wt1 (List.mem_of_getElem? (i := 5) (by decide +kernel))) (by decide +kernel)) (wA_t (wt5 (List.mem_of_getElem? (i := 137) (by decide +kernel))) (by decide +kernel)) ⟨rfl, by decide +kernel, by decide +kernel, by decide +kernel⟩
theorem lv_RX10_246 : gLv RX10 246 RX6 yX6_addRope cX6_addRope 5 (some .int) 4 := gLv_of (wA_t (wt5 (List.mem_of_getElem? (i := 139) (by decide +kernel))) (by decide +kernel)) (wA_t (wt4 (List.mem_of_getElem? (i := 22) (by decide +kernel))) (by decide +kernel)) (wA_t (wt4 (List.mem_of_getElem? (i := 23) (by decide +kernel))) (by decide +kernel)) (wA_t (wt1 (List.mem_of_getElem? (i := 6) (by decide +kernel))) (by decide +kernel)) (wA_t (wt4 (List.mem_of_getElem? (i := 24) (by decide +kernel))) (by decide +kernel)) ⟨rfl, by decide +kernel, by decide +kernel, by decide +kernel⟩
theorem lx_RX10_235 : gLx RX10 235 239 x_ISE := gLx_of (by decide +kernel) (by decide +kernel) (by decide +kernel)
def rm_X10_lay : Room := { frames := 8, cells := 6, slots := 36, locals := 164 }
def f_X10_lay (τ : gτ) (n : Nat) (x0 : Nat) (x1 : Int32) (x2 : Int32) (x3 : Int32) (x4 : Int32) (G : gG) : Option ((String ⊕ Int32) × gG) :=
  gBindX (f_X10_needThree τ x0 x1 x2 x3 G) fun _ G1 =>
  gBindX (f_X10_needWithin x4 (1 : Int32) (200 : Int32) G1) fun _ G2 =>
  (gr G2 10 10 x0).bind fun a3 =>
  (f_X6_shortest τ a3 x1 x2 x3 G2).bind fun v4 =>
  if x4 ≤ v4 then (gBindX (f_X10_needRoomForRope x0 G2) fun _ G5 =>
  (gr G5 10 3 x0).bind fun a6 =>
  (gr G5 10 10 x0).bind fun a7 =>
  (f_X3_keep τ n a6 a7 G5).bind fun G8 =>
  (gr G8 10 10 x0).bind fun a9 =>
  gBind2 (f_X6_addRope τ a9 x1 x2 x3 x4 G8) fun v10 G11 =>
  some (.inr v10, G11))
  else (some (.inl x_ISE, G2))
set_option maxHeartbeats 4000000 in
set_option maxRecDepth 100000 in
theorem c_X10_lay (l : Launch) (X : gX) (τ : gτ) (n : Nat) (hS : gS0 l X) (x0 : Nat) (x1 : Int32) (x2 : Int32) (x3 : Int32) (x4 : Int32) (G : gG) (h0 : gK τ x0 10) {r : String ⊕ Int32} {G' : gG} (h : f_X10_lay τ n x0 x1 x2 x3 x4 G = some (r, G')) : gMX l X τ yX10_lay cX10_lay 5 (some .int) rm_X10_lay [.ref x0, .int x1, .int x2, .int x3, .int x4] G (gOi r) G' := by
  refine g_bodyX (by decide +kernel) (Nat.le_of_ble_eq_true rfl) ?_
  intro p e s m args below meth c ls fx hr hxt hw hl
  have fx : gFx X p s m args meth c cX10_lay 5 RX10 := fx
  have hl : lv_has ls 5 [(0, .ref x0), (1, .int x1), (2, .int x2), (3, .int x3), (4, .int x4)] := hl
  have hok : gOk (f_X10_lay τ n x0 x1 x2 x3 x4 G) (fun q => q = (r, G')) := ⟨_, h, rfl⟩
  unfold f_X10_lay at hok
  show W p l e rm_X10_lay s m args below meth c s.heap [] 0 0 (vx_MQ below (gQX X τ (gOi r) G') (gXC X τ (gOi r) G') args s rm_X10_lay.cells rm_X10_lay.slots (gFree X)) _
  refine lv_aload_n fx.1 fx.2.1 dX10_lay_0 rfl (lv_at hl 0 rfl) ?_
  refine lv_iload_n fx.1 fx.2.1 dX10_lay_1 rfl (lv_at hl 1 rfl) ?_
  refine lv_iload_n fx.1 fx.2.1 dX10_lay_2 rfl (lv_at hl 2 rfl) ?_
  refine lv_iload_n fx.1 fx.2.1 dX10_lay_3 rfl (lv_at hl 3 rfl) ?_
  rcases gOk_bindX hok with ⟨E, G9, hf, hK⟩ | ⟨u, G1, hf, hok⟩
  · have hK : (Sum.inl E, G9) = (r, G') := hK
    cases hK
    refine g_callVX (κ := 10) (As := [.int x1, .int x2, .int x3]) fx hw hxt (c_X10_needThree l X τ hS x0 x1 x2 x3 G h0 hf) lv_RX10_220 rfl rfl h0 rfl hl.1 rfl ⟨Nat.le_of_ble_eq_true rfl, Nat.le_of_ble_eq_true rfl⟩ (Nat.le_of_ble_eq_true rfl) ⟨Nat.le_of_ble_eq_true rfl, Nat.le_of_ble_eq_true rfl⟩ ⟨Nat.le_of_ble_eq_true rfl, Nat.le_of_ble_eq_true rfl⟩ dX10_lay_4 (fun u H locs hv hw => ?_) (fun E9 hE => ?_)
    · have hv : (Sum.inl E : String ⊕ Option Value) = Sum.inr u := hv
      cases hv
    · have hE : (Sum.inl E : String ⊕ Option Value) = Sum.inl E9 := hE
      cases hE
      exact ⟨rfl, rfl⟩
  refine g_callVX (κ := 10) (As := [.int x1, .int x2, .int x3]) fx hw hxt (c_X10_needThree l X τ hS x0 x1 x2 x3 G h0 hf) lv_RX10_220 rfl rfl h0 rfl hl.1 rfl ⟨Nat.le_of_ble_eq_true rfl, Nat.le_of_ble_eq_true rfl⟩ (Nat.le_of_ble_eq_true rfl) ⟨Nat.le_of_ble_eq_true rfl, Nat.le_of_ble_eq_true rfl⟩ ⟨Nat.le_of_ble_eq_true rfl, Nat.le_of_ble_eq_true rfl⟩ dX10_lay_4 (fun u9 H locs hv hw => ?_) (fun E9 hE => by have hE : (Sum.inr none : String ⊕ Option Value) = Sum.inl E9 := hE; cases hE)
  have hv : (Sum.inr none : String ⊕ Option Value) = Sum.inr u9 := hv
  cases hv
  refine lv_iload fx.1 fx.2.1 dX10_lay_7 (lv_at hl 4 rfl) ?_
  refine lv_iconst (v := 1) fx.1 fx.2.1 dX10_lay_9 (by decide) ?_
  refine lv_sipush (v := 200) fx.1 fx.2.1 dX10_lay_10 (by decide) ?_
  rcases gOk_bindX hok with ⟨E, G9, hf, hK⟩ | ⟨u, G2, hf, hok⟩
  · have hK : (Sum.inl E, G9) = (r, G') := hK
    cases hK
    refine g_callSX (As := [.int x4, .int (1 : Int32), .int (200 : Int32)]) fx hw hxt (c_X10_needWithin l X τ hS x4 (1 : Int32) (200 : Int32) G1  hf) ls_RX10_224 rfl hl.1 rfl ⟨Nat.le_of_ble_eq_true rfl, Nat.le_of_ble_eq_true rfl⟩ (Nat.le_of_ble_eq_true rfl) ⟨Nat.le_of_ble_eq_true rfl, Nat.le_of_ble_eq_true rfl⟩ ⟨Nat.le_of_ble_eq_true rfl, Nat.le_of_ble_eq_true rfl⟩ dX10_lay_13 (fun u H locs hv hw => ?_) (fun E9 hE => ?_)
    · have hv : (Sum.inl E : String ⊕ Option Value) = Sum.inr u := hv
      cases hv
    · have hE : (Sum.inl E : String ⊕ Option Value) = Sum.inl E9 := hE
      cases hE
      exact ⟨rfl, rfl⟩
  refine g_callSX (As := [.int x4, .int (1 : Int32), .int (200 : Int32)]) fx hw hxt (c_X10_needWithin l X τ hS x4 (1 : Int32) (200 : Int32) G1  hf) ls_RX10_224 rfl hl.1 rfl ⟨Nat.le_of_ble_eq_true rfl, Nat.le_of_ble_eq_true rfl⟩ (Nat.le_of_ble_eq_true rfl) ⟨Nat.le_of_ble_eq_true rfl, Nat.le_of_ble_eq_true rfl⟩ ⟨Nat.le_of_ble_eq_true rfl, Nat.le_of_ble_eq_true rfl⟩ dX10_lay_13 (fun u9 H locs hv hw => ?_) (fun E9 hE => by have hE : (Sum.inr none : String ⊕ Option Value) = Sum.inl E9 := hE; cases hE)
  have hv : (Sum.inr none : String ⊕ Option Value) = Sum.inr u9 := hv
  cases hv
  refine lv_aload_n fx.1 fx.2.1 dX10_lay_16 rfl (lv_at hl 0 rfl) ?_
  refine g_getr fx hw h0 lf_RX10_70 rfl dX10_lay_17 hok (fun a3 h_a3 hok => ?_)
  refine lv_iload_n fx.1 fx.2.1 dX10_lay_20 rfl (lv_at hl 1 rfl) ?_
  refine lv_iload_n fx.1 fx.2.1 dX10_lay_21 rfl (lv_at hl 2 rfl) ?_
  refine lv_iload_n fx.1 fx.2.1 dX10_lay_22 rfl (lv_at hl 3 rfl) ?_
  obtain ⟨v4, hf, hok⟩ := gOk_bind hok
  refine g_callV0 (κ := 6) fx hw (c_X6_shortest l X τ a3 x1 x2 x3 G2 h_a3 hf) lv_RX10_231 ⟨rfl, rfl⟩ rfl rfl h_a3 rfl hl.1 rfl ⟨Nat.le_of_ble_eq_true rfl, Nat.le_of_ble_eq_true rfl⟩ (Nat.le_of_ble_eq_true rfl) ⟨Nat.le_of_ble_eq_true rfl, Nat.le_of_ble_eq_true rfl⟩ dX10_lay_23 (fun H locs hw => ?_)
  refine lv_iload fx.1 fx.2.1 dX10_lay_26 (lv_at hl 4 rfl) ?_
  refine g_icmp_ge (tgt := 41) fx dX10_lay_28 (by decide) hok (fun hok => ?_) (fun hok => ?_)
  · refine lv_aload_n fx.1 fx.2.1 dX10_lay_41 rfl (lv_at hl 0 rfl) ?_
    rcases gOk_bindX hok with ⟨E, G9, hf, hK⟩ | ⟨u, G5, hf, hok⟩
    · have hK : (Sum.inl E, G9) = (r, G') := hK
      cases hK
      refine g_callVX (κ := 10) (As := []) fx hw hxt (c_X10_needRoomForRope l X τ hS x0 G2 h0 hf) lv_RX10_240 rfl rfl h0 rfl hl.1 rfl ⟨Nat.le_of_ble_eq_true rfl, Nat.le_of_ble_eq_true rfl⟩ (Nat.le_of_ble_eq_true rfl) ⟨Nat.le_of_ble_eq_true rfl, Nat.le_of_ble_eq_true rfl⟩ ⟨Nat.le_of_ble_eq_true rfl, Nat.le_of_ble_eq_true rfl⟩ dX10_lay_42 (fun u H locs hv hw => ?_) (fun E9 hE => ?_)
      · have hv : (Sum.inl E : String ⊕ Option Value) = Sum.inr u := hv
        cases hv
      · have hE : (Sum.inl E : String ⊕ Option Value) = Sum.inl E9 := hE
        cases hE
        exact ⟨rfl, rfl⟩
    refine g_callVX (κ := 10) (As := []) fx hw hxt (c_X10_needRoomForRope l X τ hS x0 G2 h0 hf) lv_RX10_240 rfl rfl h0 rfl hl.1 rfl ⟨Nat.le_of_ble_eq_true rfl, Nat.le_of_ble_eq_true rfl⟩ (Nat.le_of_ble_eq_true rfl) ⟨Nat.le_of_ble_eq_true rfl, Nat.le_of_ble_eq_true rfl⟩ ⟨Nat.le_of_ble_eq_true rfl, Nat.le_of_ble_eq_true rfl⟩ dX10_lay_42 (fun u9 H locs hv hw => ?_) (fun E9 hE => by have hE : (Sum.inr none : String ⊕ Option Value) = Sum.inl E9 := hE; cases hE)
    have hv : (Sum.inr none : String ⊕ Option Value) = Sum.inr u9 := hv
    cases hv
    refine lv_aload_n fx.1 fx.2.1 dX10_lay_45 rfl (lv_at hl 0 rfl) ?_
    refine g_getr fx hw h0 lf_RX10_35 rfl dX10_lay_46 hok (fun a6 h_a6 hok => ?_)
    refine lv_aload_n fx.1 fx.2.1 dX10_lay_49 rfl (lv_at hl 0 rfl) ?_
    refine g_getr fx hw h0 lf_RX10_70 rfl dX10_lay_50 hok (fun a7 h_a7 hok => ?_)
    obtain ⟨G8, hf, hok⟩ := gOk_bind hok
    refine g_callV0 (κ := 3) fx hw (c_X3_keep l X τ n a6 a7 G5 h_a6 h_a7 hf) lv_RX10_243 ⟨rfl, rfl⟩ rfl rfl h_a6 rfl hl.1 rfl ⟨Nat.le_of_ble_eq_true rfl, Nat.le_of_ble_eq_true rfl⟩ (Nat.le_of_ble_eq_true rfl) ⟨Nat.le_of_ble_eq_true rfl, Nat.le_of_ble_eq_true rfl⟩ dX10_lay_53 (fun H locs hw => ?_)
    refine lv_aload_n fx.1 fx.2.1 dX10_lay_56 rfl (lv_at hl 0 rfl) ?_
    refine g_getr fx hw h0 lf_RX10_70 rfl dX10_lay_57 hok (fun a9 h_a9 hok => ?_)
    refine lv_iload_n fx.1 fx.2.1 dX10_lay_60 rfl (lv_at hl 1 rfl) ?_
    refine lv_iload_n fx.1 fx.2.1 dX10_lay_61 rfl (lv_at hl 2 rfl) ?_
    refine lv_iload_n fx.1 fx.2.1 dX10_lay_62 rfl (lv_at hl 3 rfl) ?_
    refine lv_iload fx.1 fx.2.1 dX10_lay_63 (lv_at hl 4 rfl) ?_
    obtain ⟨v10, G11, hf, hok⟩ := gOk_bind2 hok
    refine g_callV0 (κ := 6) fx hw (c_X6_addRope l X τ a9 x1 x2 x3 x4 G8 h_a9 hf) lv_RX10_246 ⟨rfl, rfl⟩ rfl rfl h_a9 rfl hl.1 rfl ⟨Nat.le_of_ble_eq_true rfl, Nat.le_of_ble_eq_true rfl⟩ (Nat.le_of_ble_eq_true rfl) ⟨Nat.le_of_ble_eq_true rfl, Nat.le_of_ble_eq_true rfl⟩ dX10_lay_65 (fun H locs hw => ?_)
    cases gOk_some hok
    exact g_iretX fx hw hr ⟨Nat.le_of_ble_eq_true rfl, Nat.le_of_ble_eq_true rfl⟩ dX10_lay_68
  · cases gOk_some hok
    exact g_throwS fx hw hS hl.1 hxt lx_RX10_235 gt_RX10_237 dX10_lay_31 dX10_lay_34 dX10_lay_35 dX10_lay_37 dX10_lay_40 ⟨Nat.le_of_ble_eq_true rfl, Nat.le_of_ble_eq_true rfl, Nat.le_of_ble_eq_true rfl, Nat.le_of_ble_eq_true rfl⟩ ⟨Nat.le_of_ble_eq_true rfl, Nat.le_of_ble_eq_true rfl⟩
theorem dX10_soundRopeOf_0 : decode cX10_soundRopeOf 0 = .ok (.aload_n 0, 1) := by decide +kernel
theorem dX10_soundRopeOf_1 : decode cX10_soundRopeOf 1 = .ok (.iload_n 1, 1) := by decide +kernel
theorem dX10_soundRopeOf_2 : decode cX10_soundRopeOf 2 = .ok (.invokevirtual 156, 3) := by decide +kernel
theorem dX10_soundRopeOf_5 : decode cX10_soundRopeOf 5 = .ok (.astore_n 2, 1) := by decide +kernel
theorem dX10_soundRopeOf_6 : decode cX10_soundRopeOf 6 = .ok (.aload_n 2, 1) := by decide +kernel
theorem dX10_soundRopeOf_7 : decode cX10_soundRopeOf 7 = .ok (.getfield 185, 3) := by decide +kernel
theorem dX10_soundRopeOf_10 : decode cX10_soundRopeOf 10 = .ok (.ifCond .eq 14, 3) := by decide +kernel
theorem dX10_soundRopeOf_13 : decode cX10_soundRopeOf 13 = .ok (.new 235, 3) := by decide +kernel
theorem dX10_soundRopeOf_16 : decode cX10_soundRopeOf 16 = .ok (.dup, 1) := by decide +kernel
theorem dX10_soundRopeOf_17 : decode cX10_soundRopeOf 17 = .ok (.ldc_w 460, 3) := by decide +kernel
theorem dX10_soundRopeOf_20 : decode cX10_soundRopeOf 20 = .ok (.invokespecial 239, 3) := by decide +kernel
theorem dX10_soundRopeOf_23 : decode cX10_soundRopeOf 23 = .ok (.athrow, 1) := by decide +kernel
theorem dX10_soundRopeOf_24 : decode cX10_soundRopeOf 24 = .ok (.aload_n 2, 1) := by decide +kernel
theorem dX10_soundRopeOf_25 : decode cX10_soundRopeOf 25 = .ok (.areturn, 1) := by decide +kernel
def rm_X10_soundRopeOf : Room := { frames := 7, cells := 2, slots := 12, locals := 141 }
def f_X10_soundRopeOf (τ : gτ) (x0 : Nat) (x1 : Int32) (G : gG) : Option ((String ⊕ Nat) × gG) :=
  gBindX (f_X10_ropeOf τ x0 x1 G) fun a1 G2 =>
  gchk (gkd τ a1 5) <|
  if (gi G2 5 9 a1) = 0 then (some (.inr a1, G2))
  else (some (.inl x_ISE, G2))
set_option maxHeartbeats 4000000 in
set_option maxRecDepth 100000 in
theorem c_X10_soundRopeOf (l : Launch) (X : gX) (τ : gτ) (hS : gS0 l X) (x0 : Nat) (x1 : Int32) (G : gG) (h0 : gK τ x0 10) {r : String ⊕ Nat} {G' : gG} (h : f_X10_soundRopeOf τ x0 x1 G = some (r, G')) : gMX l X τ yX10_soundRopeOf cX10_soundRopeOf 3 (some (.object "YearRope$Rope")) rm_X10_soundRopeOf [.ref x0, .int x1] G (gOr r) G' := by
  refine g_bodyX (by decide +kernel) (Nat.le_of_ble_eq_true rfl) ?_
  intro p e s m args below meth c ls fx hr hxt hw hl
  have fx : gFx X p s m args meth c cX10_soundRopeOf 3 RX10 := fx
  have hl : lv_has ls 3 [(0, .ref x0), (1, .int x1)] := hl
  have hok : gOk (f_X10_soundRopeOf τ x0 x1 G) (fun q => q = (r, G')) := ⟨_, h, rfl⟩
  unfold f_X10_soundRopeOf at hok
  show W p l e rm_X10_soundRopeOf s m args below meth c s.heap [] 0 0 (vx_MQ below (gQX X τ (gOr r) G') (gXC X τ (gOr r) G') args s rm_X10_soundRopeOf.cells rm_X10_soundRopeOf.slots (gFree X)) _
  refine lv_aload_n fx.1 fx.2.1 dX10_soundRopeOf_0 rfl (lv_at hl 0 rfl) ?_
  refine lv_iload_n fx.1 fx.2.1 dX10_soundRopeOf_1 rfl (lv_at hl 1 rfl) ?_
  rcases gOk_bindX hok with ⟨E, G9, hf, hK⟩ | ⟨a1, G2, hf, hok⟩
  · have hK : (Sum.inl E, G9) = (r, G') := hK
    cases hK
    refine g_callVX (κ := 10) (As := [.int x1]) fx hw hxt (c_X10_ropeOf l X τ hS x0 x1 G h0 hf) lv_RX10_156 rfl rfl h0 rfl hl.1 rfl ⟨Nat.le_of_ble_eq_true rfl, Nat.le_of_ble_eq_true rfl⟩ (Nat.le_of_ble_eq_true rfl) ⟨Nat.le_of_ble_eq_true rfl, Nat.le_of_ble_eq_true rfl⟩ ⟨Nat.le_of_ble_eq_true rfl, Nat.le_of_ble_eq_true rfl⟩ dX10_soundRopeOf_2 (fun u H locs hv hw => ?_) (fun E9 hE => ?_)
    · have hv : (Sum.inl E : String ⊕ Option Value) = Sum.inr u := hv
      cases hv
    · have hE : (Sum.inl E : String ⊕ Option Value) = Sum.inl E9 := hE
      cases hE
      exact ⟨rfl, rfl⟩
  refine g_callVX (κ := 10) (As := [.int x1]) fx hw hxt (c_X10_ropeOf l X τ hS x0 x1 G h0 hf) lv_RX10_156 rfl rfl h0 rfl hl.1 rfl ⟨Nat.le_of_ble_eq_true rfl, Nat.le_of_ble_eq_true rfl⟩ (Nat.le_of_ble_eq_true rfl) ⟨Nat.le_of_ble_eq_true rfl, Nat.le_of_ble_eq_true rfl⟩ ⟨Nat.le_of_ble_eq_true rfl, Nat.le_of_ble_eq_true rfl⟩ dX10_soundRopeOf_2 (fun u9 H locs hv hw => ?_) (fun E9 hE => by have hE : (Sum.inr (some (.ref a1)) : String ⊕ Option Value) = Sum.inl E9 := hE; cases hE)
  have hv : (Sum.inr (some (.ref a1)) : String ⊕ Option Value) = Sum.inr u9 := hv
  cases hv
  obtain ⟨h_a1, hok⟩ := gOk_chk hok
  have h_a1 : gK τ a1 5 := gkd_K h_a1
  refine lv_astore_n (lv' := [(2, .ref a1), (0, .ref x0), (1, .int x1)]) fx.1 fx.2.1 dX10_soundRopeOf_5 rfl hl (by decide) rfl (fun ls hl => ?_)
  refine lv_aload_n fx.1 fx.2.1 dX10_soundRopeOf_6 rfl (lv_at hl 0 rfl) ?_
  refine g_geti fx hw h_a1 lf_RX10_185 rfl dX10_soundRopeOf_7 ?_
  refine g_if_eq (tgt := 24) fx dX10_soundRopeOf_10 (by decide) hok (fun hok => ?_) (fun hok => ?_)
  · refine lv_aload_n fx.1 fx.2.1 dX10_soundRopeOf_24 rfl (lv_at hl 0 rfl) ?_
    cases gOk_some hok
    exact g_aretX fx hw hr ⟨Nat.le_of_ble_eq_true rfl, Nat.le_of_ble_eq_true rfl⟩ dX10_soundRopeOf_25
  · cases gOk_some hok
    exact g_throwSW fx hw hS hl.1 hxt lx_RX10_235 gt_RX10_460 dX10_soundRopeOf_13 dX10_soundRopeOf_16 dX10_soundRopeOf_17 dX10_soundRopeOf_20 dX10_soundRopeOf_23 ⟨Nat.le_of_ble_eq_true rfl, Nat.le_of_ble_eq_true rfl, Nat.le_of_ble_eq_true rfl, Nat.le_of_ble_eq_true rfl⟩ ⟨Nat.le_of_ble_eq_true rfl, Nat.le_of_ble_eq_true rfl⟩
theorem dX10_tar_0 : decode cX10_tar 0 = .ok (.aload_n 0, 1) := by decide +kernel
theorem dX10_tar_1 : decode cX10_tar 1 = .ok (.iload_n 1, 1) := by decide +kernel
theorem dX10_tar_2 : decode cX10_tar 2 = .ok (.invokevirtual 249, 3) := by decide +kernel
theorem dX10_tar_5 : decode cX10_tar 5 = .ok (.astore_n 2, 1) := by decide +kernel
theorem dX10_tar_6 : decode cX10_tar 6 = .ok (.aload_n 0, 1) := by decide +kernel
theorem dX10_tar_7 : decode cX10_tar 7 = .ok (.getfield 35, 3) := by decide +kernel
theorem dX10_tar_10 : decode cX10_tar 10 = .ok (.aload_n 0, 1) := by decide +kernel
theorem dX10_tar_11 : decode cX10_tar 11 = .ok (.getfield 70, 3) := by decide +kernel
theorem dX10_tar_14 : decode cX10_tar 14 = .ok (.invokevirtual 243, 3) := by decide +kernel
theorem dX10_tar_17 : decode cX10_tar 17 = .ok (.aload_n 2, 1) := by decide +kernel
theorem dX10_tar_18 : decode cX10_tar 18 = .ok (.invokevirtual 252, 3) := by decide +kernel
theorem dX10_tar_21 : decode cX10_tar 21 = .ok (.aload_n 2, 1) := by decide +kernel
theorem dX10_tar_22 : decode cX10_tar 22 = .ok (.getfield 172, 3) := by decide +kernel
theorem dX10_tar_25 : decode cX10_tar 25 = .ok (.ireturn, 1) := by decide +kernel
theorem lv_RX10_249 : gLv RX10 249 RX10 yX10_soundRopeOf cX10_soundRopeOf 3 (some (.object "YearRope$Rope")) 1 := gLv_of (wA_t (wt5 (List.mem_of_getElem? (i := 147) (by decide +kernel))) (by decide +kernel)) (wA_t (wt5 (List.mem_of_getElem? (i := 149) (by decide +kernel))) (by decide +kernel)) (wA_of (List.mem_append_left _ (List.mem_map.mpr ⟨(⟨"YearRope", "soundRopeOf", "(I)LYearRope$Rope;"⟩, 15), wp2 (List.mem_of_getElem? (i := 13) (by decide +kernel)), rfl⟩)) (by decide +kernel)) (wA_t (wt1 (List.mem_of_getElem? (i := 1) (by decide +kernel))) (by decide +kernel)) (wA_t (wt5 (List.mem_of_getElem? (i := 150) (by decide +kernel))) (by decide +kernel)) ⟨rfl, by decide +kernel, by decide +kernel, by decide +kernel⟩
theorem lv_RX10_252 : gLv RX10 252 RX5 yX5_tarOnce cX5_tarOnce 1 none 0 := gLv_of (wA_t (wt5 (List.mem_of_getElem? (i := 152) (by decide +kernel))) (by decide +kernel)) (wA_t (wt5 (List.mem_of_getElem? (i := 153) (by decide +kernel))) (by decide +kernel)) (wA_t (wt5 (List.mem_of_getElem? (i := 154) (by decide +kernel))) (by decide +kernel)) (wA_t (wt1 (List.mem_of_getElem? (i := 9) (by decide +kernel))) (by decide +kernel)) (wA_t (wt5 (List.mem_of_getElem? (i := 155) (by decide +kernel))) (by decide +kernel)) ⟨rfl, by decide +kernel, by decide +kernel, by decide +kernel⟩
def rm_X10_tar : Room := { frames := 8, cells := 2, slots := 12, locals := 163 }
def f_X10_tar (τ : gτ) (n : Nat) (x0 : Nat) (x1 : Int32) (G : gG) : Option ((String ⊕ Int32) × gG) :=
  gBindX (f_X10_soundRopeOf τ x0 x1 G) fun a1 G2 =>
  gchk (gkd τ a1 5) <|
  (gr G2 10 3 x0).bind fun a3 =>
  (gr G2 10 10 x0).bind fun a4 =>
  (f_X3_keep τ n a3 a4 G2).bind fun G5 =>
  (f_X5_tarOnce a1 G5).bind fun G6 =>
  some (.inr (gi G6 5 4 a1), G6)
set_option maxHeartbeats 4000000 in
set_option maxRecDepth 100000 in
theorem c_X10_tar (l : Launch) (X : gX) (τ : gτ) (n : Nat) (hS : gS0 l X) (x0 : Nat) (x1 : Int32) (G : gG) (h0 : gK τ x0 10) {r : String ⊕ Int32} {G' : gG} (h : f_X10_tar τ n x0 x1 G = some (r, G')) : gMX l X τ yX10_tar cX10_tar 3 (some .int) rm_X10_tar [.ref x0, .int x1] G (gOi r) G' := by
  refine g_bodyX (by decide +kernel) (Nat.le_of_ble_eq_true rfl) ?_
  intro p e s m args below meth c ls fx hr hxt hw hl
  have fx : gFx X p s m args meth c cX10_tar 3 RX10 := fx
  have hl : lv_has ls 3 [(0, .ref x0), (1, .int x1)] := hl
  have hok : gOk (f_X10_tar τ n x0 x1 G) (fun q => q = (r, G')) := ⟨_, h, rfl⟩
  unfold f_X10_tar at hok
  show W p l e rm_X10_tar s m args below meth c s.heap [] 0 0 (vx_MQ below (gQX X τ (gOi r) G') (gXC X τ (gOi r) G') args s rm_X10_tar.cells rm_X10_tar.slots (gFree X)) _
  refine lv_aload_n fx.1 fx.2.1 dX10_tar_0 rfl (lv_at hl 0 rfl) ?_
  refine lv_iload_n fx.1 fx.2.1 dX10_tar_1 rfl (lv_at hl 1 rfl) ?_
  rcases gOk_bindX hok with ⟨E, G9, hf, hK⟩ | ⟨a1, G2, hf, hok⟩
  · have hK : (Sum.inl E, G9) = (r, G') := hK
    cases hK
    refine g_callVX (κ := 10) (As := [.int x1]) fx hw hxt (c_X10_soundRopeOf l X τ hS x0 x1 G h0 hf) lv_RX10_249 rfl rfl h0 rfl hl.1 rfl ⟨Nat.le_of_ble_eq_true rfl, Nat.le_of_ble_eq_true rfl⟩ (Nat.le_of_ble_eq_true rfl) ⟨Nat.le_of_ble_eq_true rfl, Nat.le_of_ble_eq_true rfl⟩ ⟨Nat.le_of_ble_eq_true rfl, Nat.le_of_ble_eq_true rfl⟩ dX10_tar_2 (fun u H locs hv hw => ?_) (fun E9 hE => ?_)
    · have hv : (Sum.inl E : String ⊕ Option Value) = Sum.inr u := hv
      cases hv
    · have hE : (Sum.inl E : String ⊕ Option Value) = Sum.inl E9 := hE
      cases hE
      exact ⟨rfl, rfl⟩
  refine g_callVX (κ := 10) (As := [.int x1]) fx hw hxt (c_X10_soundRopeOf l X τ hS x0 x1 G h0 hf) lv_RX10_249 rfl rfl h0 rfl hl.1 rfl ⟨Nat.le_of_ble_eq_true rfl, Nat.le_of_ble_eq_true rfl⟩ (Nat.le_of_ble_eq_true rfl) ⟨Nat.le_of_ble_eq_true rfl, Nat.le_of_ble_eq_true rfl⟩ ⟨Nat.le_of_ble_eq_true rfl, Nat.le_of_ble_eq_true rfl⟩ dX10_tar_2 (fun u9 H locs hv hw => ?_) (fun E9 hE => by have hE : (Sum.inr (some (.ref a1)) : String ⊕ Option Value) = Sum.inl E9 := hE; cases hE)
  have hv : (Sum.inr (some (.ref a1)) : String ⊕ Option Value) = Sum.inr u9 := hv
  cases hv
  obtain ⟨h_a1, hok⟩ := gOk_chk hok
  have h_a1 : gK τ a1 5 := gkd_K h_a1
  refine lv_astore_n (lv' := [(2, .ref a1), (0, .ref x0), (1, .int x1)]) fx.1 fx.2.1 dX10_tar_5 rfl hl (by decide) rfl (fun ls hl => ?_)
  refine lv_aload_n fx.1 fx.2.1 dX10_tar_6 rfl (lv_at hl 1 rfl) ?_
  refine g_getr fx hw h0 lf_RX10_35 rfl dX10_tar_7 hok (fun a3 h_a3 hok => ?_)
  refine lv_aload_n fx.1 fx.2.1 dX10_tar_10 rfl (lv_at hl 1 rfl) ?_
  refine g_getr fx hw h0 lf_RX10_70 rfl dX10_tar_11 hok (fun a4 h_a4 hok => ?_)
  obtain ⟨G5, hf, hok⟩ := gOk_bind hok
  refine g_callV0 (κ := 3) fx hw (c_X3_keep l X τ n a3 a4 G2 h_a3 h_a4 hf) lv_RX10_243 ⟨rfl, rfl⟩ rfl rfl h_a3 rfl hl.1 rfl ⟨Nat.le_of_ble_eq_true rfl, Nat.le_of_ble_eq_true rfl⟩ (Nat.le_of_ble_eq_true rfl) ⟨Nat.le_of_ble_eq_true rfl, Nat.le_of_ble_eq_true rfl⟩ dX10_tar_14 (fun H locs hw => ?_)
  refine lv_aload_n fx.1 fx.2.1 dX10_tar_17 rfl (lv_at hl 0 rfl) ?_
  obtain ⟨G6, hf, hok⟩ := gOk_bind hok
  refine g_callV0 (κ := 5) fx hw (c_X5_tarOnce l X τ a1 G5 h_a1 hf) lv_RX10_252 ⟨rfl, rfl⟩ rfl rfl h_a1 rfl hl.1 rfl ⟨Nat.le_of_ble_eq_true rfl, Nat.le_of_ble_eq_true rfl⟩ (Nat.le_of_ble_eq_true rfl) ⟨Nat.le_of_ble_eq_true rfl, Nat.le_of_ble_eq_true rfl⟩ dX10_tar_18 (fun H locs hw => ?_)
  refine lv_aload_n fx.1 fx.2.1 dX10_tar_21 rfl (lv_at hl 0 rfl) ?_
  refine g_geti fx hw h_a1 lf_RX10_172 rfl dX10_tar_22 ?_
  cases gOk_some hok
  exact g_iretX fx hw hr ⟨Nat.le_of_ble_eq_true rfl, Nat.le_of_ble_eq_true rfl⟩ dX10_tar_25
theorem dX10_whip_0 : decode cX10_whip 0 = .ok (.aload_n 0, 1) := by decide +kernel
theorem dX10_whip_1 : decode cX10_whip 1 = .ok (.iload_n 1, 1) := by decide +kernel
theorem dX10_whip_2 : decode cX10_whip 2 = .ok (.invokevirtual 249, 3) := by decide +kernel
theorem dX10_whip_5 : decode cX10_whip 5 = .ok (.astore_n 2, 1) := by decide +kernel
theorem dX10_whip_6 : decode cX10_whip 6 = .ok (.aload_n 0, 1) := by decide +kernel
theorem dX10_whip_7 : decode cX10_whip 7 = .ok (.getfield 35, 3) := by decide +kernel
theorem dX10_whip_10 : decode cX10_whip 10 = .ok (.aload_n 0, 1) := by decide +kernel
theorem dX10_whip_11 : decode cX10_whip 11 = .ok (.getfield 70, 3) := by decide +kernel
theorem dX10_whip_14 : decode cX10_whip 14 = .ok (.invokevirtual 243, 3) := by decide +kernel
theorem dX10_whip_17 : decode cX10_whip 17 = .ok (.aload_n 2, 1) := by decide +kernel
theorem dX10_whip_18 : decode cX10_whip 18 = .ok (.getfield 178, 3) := by decide +kernel
theorem dX10_whip_21 : decode cX10_whip 21 = .ok (.ifCond .ne 7, 3) := by decide +kernel
theorem dX10_whip_24 : decode cX10_whip 24 = .ok (.iconst 1, 1) := by decide +kernel
theorem dX10_whip_25 : decode cX10_whip 25 = .ok (.goto 4, 3) := by decide +kernel
theorem dX10_whip_28 : decode cX10_whip 28 = .ok (.iconst 0, 1) := by decide +kernel
theorem dX10_whip_29 : decode cX10_whip 29 = .ok (.istore_n 3, 1) := by decide +kernel
theorem dX10_whip_30 : decode cX10_whip 30 = .ok (.aload_n 2, 1) := by decide +kernel
theorem dX10_whip_31 : decode cX10_whip 31 = .ok (.iconst 1, 1) := by decide +kernel
theorem dX10_whip_32 : decode cX10_whip 32 = .ok (.putfield 178, 3) := by decide +kernel
theorem dX10_whip_35 : decode cX10_whip 35 = .ok (.iload_n 3, 1) := by decide +kernel
theorem dX10_whip_36 : decode cX10_whip 36 = .ok (.ireturn, 1) := by decide +kernel
theorem lp_RX10_178 : gLp RX10 178 5 8 := ⟨(RX5, TX5, 10), rfl, by decide, wA_t (wt1 (List.mem_of_getElem? (i := 198) (by decide +kernel))) (by decide +kernel), rfl, rfl⟩
def rm_X10_whip : Room := { frames := 8, cells := 2, slots := 12, locals := 163 }
def k_X10_whip_29 (τ : gτ) (n : Nat) (x2 : Nat) (s0 : Int32) (G : gG) : Option ((String ⊕ Int32) × gG) :=
  gLet (gsi G 5 8 x2 (1 : Int32)) fun G6 =>
  gchk (s0 = 0 ∨ s0 = 1) <| some (.inr s0, G6)
def f_X10_whip (τ : gτ) (n : Nat) (x0 : Nat) (x1 : Int32) (G : gG) : Option ((String ⊕ Int32) × gG) :=
  gBindX (f_X10_soundRopeOf τ x0 x1 G) fun a1 G2 =>
  gchk (gkd τ a1 5) <|
  (gr G2 10 3 x0).bind fun a3 =>
  (gr G2 10 10 x0).bind fun a4 =>
  (f_X3_keep τ n a3 a4 G2).bind fun G5 =>
  if (gi G5 5 8 a1) = 0 then (k_X10_whip_29 τ n a1 (1 : Int32) G5)
  else (k_X10_whip_29 τ n a1 (0 : Int32) G5)
set_option maxHeartbeats 4000000 in
set_option maxRecDepth 100000 in
theorem w_X10_whip_29 {X : gX} {τ : gτ} {p : Program} {l : Launch} {e : Env} {s : State} {m : MethodId} {args : Array Value} {below : List Frame} {meth : Method} {c : Code} (fx : gFx X p s m args meth c cX10_whip 4 RX10) (hS : gS0 l X) (hxt : ∀ x ∈ c.exceptionTable.toList, False) (n : Nat) (x2 : Nat) (s0 : Int32) (h2 : gK τ x2 5)  (hr : meth.sig.returnType = (some .boolean)) {r : String ⊕ Int32} {G' : gG} {G : gG} {H : Heap} {locs : List Loc} {ls : Array Slot} (hw : gHw X τ G H locs) (hl : lv_has ls 4 [(2, .ref x2)]) (hok : gOk (k_X10_whip_29 τ n x2 s0 G) (fun q => q = (r, G')))  : W p l e rm_X10_whip s m args below meth c H locs 2 12 (vx_MQ below (gQX X τ (gOi r) G') (gXC X τ (gOi r) G') args s rm_X10_whip.cells rm_X10_whip.slots (gFree X)) (F0 m 29 ls [.int s0]) := by
  unfold k_X10_whip_29 at hok
  refine lv_istore_n (lv' := [(3, .int s0), (2, .ref x2)]) fx.1 fx.2.1 dX10_whip_29 rfl hl (by decide) rfl (fun ls hl => ?_)
  refine lv_aload_n fx.1 fx.2.1 dX10_whip_30 rfl (lv_at hl 1 rfl) ?_
  refine lv_iconst (v := 1) fx.1 fx.2.1 dX10_whip_31 (by decide) ?_
  refine g_putz fx hw h2 lp_RX10_178 rfl rfl (by decide) dX10_whip_32 hok (fun G6 H locs hw hok => ?_)
  refine lv_iload_n fx.1 fx.2.1 dX10_whip_35 rfl (lv_at hl 0 rfl) ?_
  obtain ⟨hz, hok⟩ := gOk_chk hok
  cases gOk_some hok
  exact g_zretX fx hw hr hz ⟨Nat.le_of_ble_eq_true rfl, Nat.le_of_ble_eq_true rfl⟩ dX10_whip_36
set_option maxHeartbeats 4000000 in
set_option maxRecDepth 100000 in
theorem c_X10_whip (l : Launch) (X : gX) (τ : gτ) (n : Nat) (hS : gS0 l X) (x0 : Nat) (x1 : Int32) (G : gG) (h0 : gK τ x0 10) {r : String ⊕ Int32} {G' : gG} (h : f_X10_whip τ n x0 x1 G = some (r, G')) : gMX l X τ yX10_whip cX10_whip 4 (some .boolean) rm_X10_whip [.ref x0, .int x1] G (gOi r) G' := by
  refine g_bodyX (by decide +kernel) (Nat.le_of_ble_eq_true rfl) ?_
  intro p e s m args below meth c ls fx hr hxt hw hl
  have fx : gFx X p s m args meth c cX10_whip 4 RX10 := fx
  have hl : lv_has ls 4 [(0, .ref x0), (1, .int x1)] := hl
  have hok : gOk (f_X10_whip τ n x0 x1 G) (fun q => q = (r, G')) := ⟨_, h, rfl⟩
  unfold f_X10_whip at hok
  show W p l e rm_X10_whip s m args below meth c s.heap [] 0 0 (vx_MQ below (gQX X τ (gOi r) G') (gXC X τ (gOi r) G') args s rm_X10_whip.cells rm_X10_whip.slots (gFree X)) _
  refine lv_aload_n fx.1 fx.2.1 dX10_whip_0 rfl (lv_at hl 0 rfl) ?_
  refine lv_iload_n fx.1 fx.2.1 dX10_whip_1 rfl (lv_at hl 1 rfl) ?_
  rcases gOk_bindX hok with ⟨E, G9, hf, hK⟩ | ⟨a1, G2, hf, hok⟩
  · have hK : (Sum.inl E, G9) = (r, G') := hK
    cases hK
    refine g_callVX (κ := 10) (As := [.int x1]) fx hw hxt (c_X10_soundRopeOf l X τ hS x0 x1 G h0 hf) lv_RX10_249 rfl rfl h0 rfl hl.1 rfl ⟨Nat.le_of_ble_eq_true rfl, Nat.le_of_ble_eq_true rfl⟩ (Nat.le_of_ble_eq_true rfl) ⟨Nat.le_of_ble_eq_true rfl, Nat.le_of_ble_eq_true rfl⟩ ⟨Nat.le_of_ble_eq_true rfl, Nat.le_of_ble_eq_true rfl⟩ dX10_whip_2 (fun u H locs hv hw => ?_) (fun E9 hE => ?_)
    · have hv : (Sum.inl E : String ⊕ Option Value) = Sum.inr u := hv
      cases hv
    · have hE : (Sum.inl E : String ⊕ Option Value) = Sum.inl E9 := hE
      cases hE
      exact ⟨rfl, rfl⟩
  refine g_callVX (κ := 10) (As := [.int x1]) fx hw hxt (c_X10_soundRopeOf l X τ hS x0 x1 G h0 hf) lv_RX10_249 rfl rfl h0 rfl hl.1 rfl ⟨Nat.le_of_ble_eq_true rfl, Nat.le_of_ble_eq_true rfl⟩ (Nat.le_of_ble_eq_true rfl) ⟨Nat.le_of_ble_eq_true rfl, Nat.le_of_ble_eq_true rfl⟩ ⟨Nat.le_of_ble_eq_true rfl, Nat.le_of_ble_eq_true rfl⟩ dX10_whip_2 (fun u9 H locs hv hw => ?_) (fun E9 hE => by have hE : (Sum.inr (some (.ref a1)) : String ⊕ Option Value) = Sum.inl E9 := hE; cases hE)
  have hv : (Sum.inr (some (.ref a1)) : String ⊕ Option Value) = Sum.inr u9 := hv
  cases hv
  obtain ⟨h_a1, hok⟩ := gOk_chk hok
  have h_a1 : gK τ a1 5 := gkd_K h_a1
  refine lv_astore_n (lv' := [(2, .ref a1), (0, .ref x0), (1, .int x1)]) fx.1 fx.2.1 dX10_whip_5 rfl hl (by decide) rfl (fun ls hl => ?_)
  refine lv_aload_n fx.1 fx.2.1 dX10_whip_6 rfl (lv_at hl 1 rfl) ?_
  refine g_getr fx hw h0 lf_RX10_35 rfl dX10_whip_7 hok (fun a3 h_a3 hok => ?_)
  refine lv_aload_n fx.1 fx.2.1 dX10_whip_10 rfl (lv_at hl 1 rfl) ?_
  refine g_getr fx hw h0 lf_RX10_70 rfl dX10_whip_11 hok (fun a4 h_a4 hok => ?_)
  obtain ⟨G5, hf, hok⟩ := gOk_bind hok
  refine g_callV0 (κ := 3) fx hw (c_X3_keep l X τ n a3 a4 G2 h_a3 h_a4 hf) lv_RX10_243 ⟨rfl, rfl⟩ rfl rfl h_a3 rfl hl.1 rfl ⟨Nat.le_of_ble_eq_true rfl, Nat.le_of_ble_eq_true rfl⟩ (Nat.le_of_ble_eq_true rfl) ⟨Nat.le_of_ble_eq_true rfl, Nat.le_of_ble_eq_true rfl⟩ dX10_whip_14 (fun H locs hw => ?_)
  refine lv_aload_n fx.1 fx.2.1 dX10_whip_17 rfl (lv_at hl 0 rfl) ?_
  refine g_geti fx hw h_a1 lf_RX10_178 rfl dX10_whip_18 ?_
  refine g_if_ne (tgt := 28) fx dX10_whip_21 (by decide) hok (fun hok => ?_) (fun hok => ?_)
  · refine lv_iconst (v := 1) fx.1 fx.2.1 dX10_whip_24 (by decide) ?_
    refine lv_goto (tgt := 29) fx.1 fx.2.1 dX10_whip_25 (by decide) ?_
    exact w_X10_whip_29 fx hS hxt n a1 (1 : Int32) h_a1  hr hw (lv_sub hl [0] rfl) hok
  · refine lv_iconst (v := 0) fx.1 fx.2.1 dX10_whip_28 (by decide) ?_
    exact w_X10_whip_29 fx hS hxt n a1 (0 : Int32) h_a1  hr hw (lv_sub hl [0] rfl) hok
theorem dX10_twice_0 : decode cX10_twice 0 = .ok (.aload_n 0, 1) := by decide +kernel
theorem dX10_twice_1 : decode cX10_twice 1 = .ok (.iload_n 1, 1) := by decide +kernel
theorem dX10_twice_2 : decode cX10_twice 2 = .ok (.invokevirtual 156, 3) := by decide +kernel
theorem dX10_twice_5 : decode cX10_twice 5 = .ok (.astore_n 2, 1) := by decide +kernel
theorem dX10_twice_6 : decode cX10_twice 6 = .ok (.aload_n 2, 1) := by decide +kernel
theorem dX10_twice_7 : decode cX10_twice 7 = .ok (.invokevirtual 255, 3) := by decide +kernel
theorem dX10_twice_10 : decode cX10_twice 10 = .ok (.ifCond .ne 14, 3) := by decide +kernel
theorem dX10_twice_13 : decode cX10_twice 13 = .ok (.new 235, 3) := by decide +kernel
theorem dX10_twice_16 : decode cX10_twice 16 = .ok (.dup, 1) := by decide +kernel
theorem dX10_twice_17 : decode cX10_twice 17 = .ok (.ldc_w 259, 3) := by decide +kernel
theorem dX10_twice_20 : decode cX10_twice 20 = .ok (.invokespecial 239, 3) := by decide +kernel
theorem dX10_twice_23 : decode cX10_twice 23 = .ok (.athrow, 1) := by decide +kernel
theorem dX10_twice_24 : decode cX10_twice 24 = .ok (.aload_n 0, 1) := by decide +kernel
theorem dX10_twice_25 : decode cX10_twice 25 = .ok (.getfield 35, 3) := by decide +kernel
theorem dX10_twice_28 : decode cX10_twice 28 = .ok (.aload_n 0, 1) := by decide +kernel
theorem dX10_twice_29 : decode cX10_twice 29 = .ok (.getfield 70, 3) := by decide +kernel
theorem dX10_twice_32 : decode cX10_twice 32 = .ok (.invokevirtual 243, 3) := by decide +kernel
theorem dX10_twice_35 : decode cX10_twice 35 = .ok (.aload_n 2, 1) := by decide +kernel
theorem dX10_twice_36 : decode cX10_twice 36 = .ok (.invokevirtual 261, 3) := by decide +kernel
theorem dX10_twice_39 : decode cX10_twice 39 = .ok (.aload_n 2, 1) := by decide +kernel
theorem dX10_twice_40 : decode cX10_twice 40 = .ok (.getfield 182, 3) := by decide +kernel
theorem dX10_twice_43 : decode cX10_twice 43 = .ok (.ireturn, 1) := by decide +kernel
theorem lv_RX10_255 : gLv RX10 255 RX5 yX5_canDouble cX5_canDouble 1 (some .boolean) 0 := gLv_of (wA_t (wt5 (List.mem_of_getElem? (i := 172) (by decide +kernel))) (by decide +kernel)) (wA_t (wt5 (List.mem_of_getElem? (i := 173) (by decide +kernel))) (by decide +kernel)) (wA_t (wt5 (List.mem_of_getElem? (i := 174) (by decide +kernel))) (by decide +kernel)) (wA_t (wt1 (List.mem_of_getElem? (i := 9) (by decide +kernel))) (by decide +kernel)) (wA_t (wt5 (List.mem_of_getElem? (i := 175) (by decide +kernel))) (by decide +kernel)) ⟨rfl, by decide +kernel, by decide +kernel, by decide +kernel⟩
theorem lv_RX10_261 : gLv RX10 261 RX5 yX5_makeDouble cX5_makeDouble 1 none 0 := gLv_of (wA_t (wt5 (List.mem_of_getElem? (i := 177) (by decide +kernel))) (by decide +kernel)) (wA_t (wt5 (List.mem_of_getElem? (i := 178) (by decide +kernel))) (by decide +kernel)) (wA_t (wt5 (List.mem_of_getElem? (i := 179) (by decide +kernel))) (by decide +kernel)) (wA_t (wt1 (List.mem_of_getElem? (i := 9) (by decide +kernel))) (by decide +kernel)) (wA_t (wt5 (List.mem_of_getElem? (i := 180) (by decide +kernel))) (by decide +kernel)) ⟨rfl, by decide +kernel, by decide +kernel, by decide +kernel⟩
def rm_X10_twice : Room := { frames := 7, cells := 2, slots := 12, locals := 141 }
def f_X10_twice (τ : gτ) (n : Nat) (x0 : Nat) (x1 : Int32) (G : gG) : Option ((String ⊕ Int32) × gG) :=
  gBindX (f_X10_ropeOf τ x0 x1 G) fun a1 G2 =>
  gchk (gkd τ a1 5) <|
  (f_X5_canDouble a1 G2).bind fun v3 =>
  if v3 = 0 then (some (.inl x_ISE, G2))
  else ((gr G2 10 3 x0).bind fun a4 =>
  (gr G2 10 10 x0).bind fun a5 =>
  (f_X3_keep τ n a4 a5 G2).bind fun G6 =>
  (f_X5_makeDouble a1 G6).bind fun G7 =>
  some (.inr (gi G7 5 6 a1), G7))
set_option maxHeartbeats 4000000 in
set_option maxRecDepth 100000 in
theorem c_X10_twice (l : Launch) (X : gX) (τ : gτ) (n : Nat) (hS : gS0 l X) (x0 : Nat) (x1 : Int32) (G : gG) (h0 : gK τ x0 10) {r : String ⊕ Int32} {G' : gG} (h : f_X10_twice τ n x0 x1 G = some (r, G')) : gMX l X τ yX10_twice cX10_twice 3 (some .int) rm_X10_twice [.ref x0, .int x1] G (gOi r) G' := by
  refine g_bodyX (by decide +kernel) (Nat.le_of_ble_eq_true rfl) ?_
  intro p e s m args below meth c ls fx hr hxt hw hl
  have fx : gFx X p s m args meth c cX10_twice 3 RX10 := fx
  have hl : lv_has ls 3 [(0, .ref x0), (1, .int x1)] := hl
  have hok : gOk (f_X10_twice τ n x0 x1 G) (fun q => q = (r, G')) := ⟨_, h, rfl⟩
  unfold f_X10_twice at hok
  show W p l e rm_X10_twice s m args below meth c s.heap [] 0 0 (vx_MQ below (gQX X τ (gOi r) G') (gXC X τ (gOi r) G') args s rm_X10_twice.cells rm_X10_twice.slots (gFree X)) _
  refine lv_aload_n fx.1 fx.2.1 dX10_twice_0 rfl (lv_at hl 0 rfl) ?_
  refine lv_iload_n fx.1 fx.2.1 dX10_twice_1 rfl (lv_at hl 1 rfl) ?_
  rcases gOk_bindX hok with ⟨E, G9, hf, hK⟩ | ⟨a1, G2, hf, hok⟩
  · have hK : (Sum.inl E, G9) = (r, G') := hK
    cases hK
    refine g_callVX (κ := 10) (As := [.int x1]) fx hw hxt (c_X10_ropeOf l X τ hS x0 x1 G h0 hf) lv_RX10_156 rfl rfl h0 rfl hl.1 rfl ⟨Nat.le_of_ble_eq_true rfl, Nat.le_of_ble_eq_true rfl⟩ (Nat.le_of_ble_eq_true rfl) ⟨Nat.le_of_ble_eq_true rfl, Nat.le_of_ble_eq_true rfl⟩ ⟨Nat.le_of_ble_eq_true rfl, Nat.le_of_ble_eq_true rfl⟩ dX10_twice_2 (fun u H locs hv hw => ?_) (fun E9 hE => ?_)
    · have hv : (Sum.inl E : String ⊕ Option Value) = Sum.inr u := hv
      cases hv
    · have hE : (Sum.inl E : String ⊕ Option Value) = Sum.inl E9 := hE
      cases hE
      exact ⟨rfl, rfl⟩
  refine g_callVX (κ := 10) (As := [.int x1]) fx hw hxt (c_X10_ropeOf l X τ hS x0 x1 G h0 hf) lv_RX10_156 rfl rfl h0 rfl hl.1 rfl ⟨Nat.le_of_ble_eq_true rfl, Nat.le_of_ble_eq_true rfl⟩ (Nat.le_of_ble_eq_true rfl) ⟨Nat.le_of_ble_eq_true rfl, Nat.le_of_ble_eq_true rfl⟩ ⟨Nat.le_of_ble_eq_true rfl, Nat.le_of_ble_eq_true rfl⟩ dX10_twice_2 (fun u9 H locs hv hw => ?_) (fun E9 hE => by have hE : (Sum.inr (some (.ref a1)) : String ⊕ Option Value) = Sum.inl E9 := hE; cases hE)
  have hv : (Sum.inr (some (.ref a1)) : String ⊕ Option Value) = Sum.inr u9 := hv
  cases hv
  obtain ⟨h_a1, hok⟩ := gOk_chk hok
  have h_a1 : gK τ a1 5 := gkd_K h_a1
  refine lv_astore_n (lv' := [(2, .ref a1), (0, .ref x0), (1, .int x1)]) fx.1 fx.2.1 dX10_twice_5 rfl hl (by decide) rfl (fun ls hl => ?_)
  refine lv_aload_n fx.1 fx.2.1 dX10_twice_6 rfl (lv_at hl 0 rfl) ?_
  obtain ⟨v3, hf, hok⟩ := gOk_bind hok
  refine g_callV0 (κ := 5) fx hw (c_X5_canDouble l X τ a1 G2 h_a1 hf) lv_RX10_255 ⟨rfl, rfl⟩ rfl rfl h_a1 rfl hl.1 rfl ⟨Nat.le_of_ble_eq_true rfl, Nat.le_of_ble_eq_true rfl⟩ (Nat.le_of_ble_eq_true rfl) ⟨Nat.le_of_ble_eq_true rfl, Nat.le_of_ble_eq_true rfl⟩ dX10_twice_7 (fun H locs hw => ?_)
  refine g_if_ne (tgt := 24) fx dX10_twice_10 (by decide) hok (fun hok => ?_) (fun hok => ?_)
  · cases gOk_some hok
    exact g_throwSW fx hw hS hl.1 hxt lx_RX10_235 gt_RX10_259 dX10_twice_13 dX10_twice_16 dX10_twice_17 dX10_twice_20 dX10_twice_23 ⟨Nat.le_of_ble_eq_true rfl, Nat.le_of_ble_eq_true rfl, Nat.le_of_ble_eq_true rfl, Nat.le_of_ble_eq_true rfl⟩ ⟨Nat.le_of_ble_eq_true rfl, Nat.le_of_ble_eq_true rfl⟩
  · refine lv_aload_n fx.1 fx.2.1 dX10_twice_24 rfl (lv_at hl 1 rfl) ?_
    refine g_getr fx hw h0 lf_RX10_35 rfl dX10_twice_25 hok (fun a4 h_a4 hok => ?_)
    refine lv_aload_n fx.1 fx.2.1 dX10_twice_28 rfl (lv_at hl 1 rfl) ?_
    refine g_getr fx hw h0 lf_RX10_70 rfl dX10_twice_29 hok (fun a5 h_a5 hok => ?_)
    obtain ⟨G6, hf, hok⟩ := gOk_bind hok
    refine g_callV0 (κ := 3) fx hw (c_X3_keep l X τ n a4 a5 G2 h_a4 h_a5 hf) lv_RX10_243 ⟨rfl, rfl⟩ rfl rfl h_a4 rfl hl.1 rfl ⟨Nat.le_of_ble_eq_true rfl, Nat.le_of_ble_eq_true rfl⟩ (Nat.le_of_ble_eq_true rfl) ⟨Nat.le_of_ble_eq_true rfl, Nat.le_of_ble_eq_true rfl⟩ dX10_twice_32 (fun H locs hw => ?_)
    refine lv_aload_n fx.1 fx.2.1 dX10_twice_35 rfl (lv_at hl 0 rfl) ?_
    obtain ⟨G7, hf, hok⟩ := gOk_bind hok
    refine g_callV0 (κ := 5) fx hw (c_X5_makeDouble l X τ a1 G6 h_a1 hf) lv_RX10_261 ⟨rfl, rfl⟩ rfl rfl h_a1 rfl hl.1 rfl ⟨Nat.le_of_ble_eq_true rfl, Nat.le_of_ble_eq_true rfl⟩ (Nat.le_of_ble_eq_true rfl) ⟨Nat.le_of_ble_eq_true rfl, Nat.le_of_ble_eq_true rfl⟩ dX10_twice_36 (fun H locs hw => ?_)
    refine lv_aload_n fx.1 fx.2.1 dX10_twice_39 rfl (lv_at hl 0 rfl) ?_
    refine g_geti fx hw h_a1 lf_RX10_182 rfl dX10_twice_40 ?_
    cases gOk_some hok
    exact g_iretX fx hw hr ⟨Nat.le_of_ble_eq_true rfl, Nat.le_of_ble_eq_true rfl⟩ dX10_twice_43
theorem dX10_cut_0 : decode cX10_cut 0 = .ok (.iload_n 2, 1) := by decide +kernel
theorem dX10_cut_1 : decode cX10_cut 1 = .ok (.iconst 1, 1) := by decide +kernel
theorem dX10_cut_2 : decode cX10_cut 2 = .ok (.aload_n 0, 1) := by decide +kernel
theorem dX10_cut_3 : decode cX10_cut 3 = .ok (.iload_n 1, 1) := by decide +kernel
theorem dX10_cut_4 : decode cX10_cut 4 = .ok (.invokevirtual 156, 3) := by decide +kernel
theorem dX10_cut_7 : decode cX10_cut 7 = .ok (.getfield 169, 3) := by decide +kernel
theorem dX10_cut_10 : decode cX10_cut 10 = .ok (.iconst 1, 1) := by decide +kernel
theorem dX10_cut_11 : decode cX10_cut 11 = .ok (.isub, 1) := by decide +kernel
theorem dX10_cut_12 : decode cX10_cut 12 = .ok (.invokestatic 224, 3) := by decide +kernel
theorem dX10_cut_15 : decode cX10_cut 15 = .ok (.aload_n 0, 1) := by decide +kernel
theorem dX10_cut_16 : decode cX10_cut 16 = .ok (.iload_n 1, 1) := by decide +kernel
theorem dX10_cut_17 : decode cX10_cut 17 = .ok (.invokevirtual 249, 3) := by decide +kernel
theorem dX10_cut_20 : decode cX10_cut 20 = .ok (.astore_n 3, 1) := by decide +kernel
theorem dX10_cut_21 : decode cX10_cut 21 = .ok (.aload_n 0, 1) := by decide +kernel
theorem dX10_cut_22 : decode cX10_cut 22 = .ok (.invokevirtual 240, 3) := by decide +kernel
theorem dX10_cut_25 : decode cX10_cut 25 = .ok (.aload_n 0, 1) := by decide +kernel
theorem dX10_cut_26 : decode cX10_cut 26 = .ok (.getfield 35, 3) := by decide +kernel
theorem dX10_cut_29 : decode cX10_cut 29 = .ok (.aload_n 0, 1) := by decide +kernel
theorem dX10_cut_30 : decode cX10_cut 30 = .ok (.getfield 70, 3) := by decide +kernel
theorem dX10_cut_33 : decode cX10_cut 33 = .ok (.invokevirtual 243, 3) := by decide +kernel
theorem dX10_cut_36 : decode cX10_cut 36 = .ok (.aload_n 0, 1) := by decide +kernel
theorem dX10_cut_37 : decode cX10_cut 37 = .ok (.getfield 70, 3) := by decide +kernel
theorem dX10_cut_40 : decode cX10_cut 40 = .ok (.aload_n 3, 1) := by decide +kernel
theorem dX10_cut_41 : decode cX10_cut 41 = .ok (.iload_n 2, 1) := by decide +kernel
theorem dX10_cut_42 : decode cX10_cut 42 = .ok (.invokevirtual 264, 3) := by decide +kernel
theorem dX10_cut_45 : decode cX10_cut 45 = .ok (.ireturn, 1) := by decide +kernel
theorem lv_RX10_264 : gLv RX10 264 RX6 yX6_addPiece cX6_addPiece 4 (some .int) 2 := gLv_of (wA_t (wt5 (List.mem_of_getElem? (i := 188) (by decide +kernel))) (by decide +kernel)) (wA_t (wt5 (List.mem_of_getElem? (i := 189) (by decide +kernel))) (by decide +kernel)) (wA_t (wt5 (List.mem_of_getElem? (i := 190) (by decide +kernel))) (by decide +kernel)) (wA_t (wt1 (List.mem_of_getElem? (i := 6) (by decide +kernel))) (by decide +kernel)) (wA_t (wt5 (List.mem_of_getElem? (i := 191) (by decide +kernel))) (by decide +kernel)) ⟨rfl, by decide +kernel, by decide +kernel, by decide +kernel⟩
def rm_X10_cut : Room := { frames := 8, cells := 5, slots := 30, locals := 163 }
def f_X10_cut (τ : gτ) (n : Nat) (x0 : Nat) (x1 : Int32) (x2 : Int32) (G : gG) : Option ((String ⊕ Int32) × gG) :=
  gBindX (f_X10_ropeOf τ x0 x1 G) fun a1 G2 =>
  gchk (gkd τ a1 5) <|
  gBindX (f_X10_needWithin x2 (1 : Int32) ((gi G2 5 3 a1) - (1 : Int32)) G2) fun _ G3 =>
  gBindX (f_X10_soundRopeOf τ x0 x1 G3) fun a4 G5 =>
  gchk (gkd τ a4 5) <|
  gBindX (f_X10_needRoomForRope x0 G5) fun _ G6 =>
  (gr G6 10 3 x0).bind fun a7 =>
  (gr G6 10 10 x0).bind fun a8 =>
  (f_X3_keep τ n a7 a8 G6).bind fun G9 =>
  (gr G9 10 10 x0).bind fun a10 =>
  gBind2 (f_X6_addPiece τ a10 a4 x2 G9) fun v11 G12 =>
  some (.inr v11, G12)
set_option maxHeartbeats 4000000 in
set_option maxRecDepth 100000 in
theorem c_X10_cut (l : Launch) (X : gX) (τ : gτ) (n : Nat) (hS : gS0 l X) (x0 : Nat) (x1 : Int32) (x2 : Int32) (G : gG) (h0 : gK τ x0 10) {r : String ⊕ Int32} {G' : gG} (h : f_X10_cut τ n x0 x1 x2 G = some (r, G')) : gMX l X τ yX10_cut cX10_cut 4 (some .int) rm_X10_cut [.ref x0, .int x1, .int x2] G (gOi r) G' := by
  refine g_bodyX (by decide +kernel) (Nat.le_of_ble_eq_true rfl) ?_
  intro p e s m args below meth c ls fx hr hxt hw hl
  have fx : gFx X p s m args meth c cX10_cut 4 RX10 := fx
  have hl : lv_has ls 4 [(0, .ref x0), (1, .int x1), (2, .int x2)] := hl
  have hok : gOk (f_X10_cut τ n x0 x1 x2 G) (fun q => q = (r, G')) := ⟨_, h, rfl⟩
  unfold f_X10_cut at hok
  show W p l e rm_X10_cut s m args below meth c s.heap [] 0 0 (vx_MQ below (gQX X τ (gOi r) G') (gXC X τ (gOi r) G') args s rm_X10_cut.cells rm_X10_cut.slots (gFree X)) _
  refine lv_iload_n fx.1 fx.2.1 dX10_cut_0 rfl (lv_at hl 2 rfl) ?_
  refine lv_iconst (v := 1) fx.1 fx.2.1 dX10_cut_1 (by decide) ?_
  refine lv_aload_n fx.1 fx.2.1 dX10_cut_2 rfl (lv_at hl 0 rfl) ?_
  refine lv_iload_n fx.1 fx.2.1 dX10_cut_3 rfl (lv_at hl 1 rfl) ?_
  rcases gOk_bindX hok with ⟨E, G9, hf, hK⟩ | ⟨a1, G2, hf, hok⟩
  · have hK : (Sum.inl E, G9) = (r, G') := hK
    cases hK
    refine g_callVX (κ := 10) (As := [.int x1]) fx hw hxt (c_X10_ropeOf l X τ hS x0 x1 G h0 hf) lv_RX10_156 rfl rfl h0 rfl hl.1 rfl ⟨Nat.le_of_ble_eq_true rfl, Nat.le_of_ble_eq_true rfl⟩ (Nat.le_of_ble_eq_true rfl) ⟨Nat.le_of_ble_eq_true rfl, Nat.le_of_ble_eq_true rfl⟩ ⟨Nat.le_of_ble_eq_true rfl, Nat.le_of_ble_eq_true rfl⟩ dX10_cut_4 (fun u H locs hv hw => ?_) (fun E9 hE => ?_)
    · have hv : (Sum.inl E : String ⊕ Option Value) = Sum.inr u := hv
      cases hv
    · have hE : (Sum.inl E : String ⊕ Option Value) = Sum.inl E9 := hE
      cases hE
      exact ⟨rfl, rfl⟩
  refine g_callVX (κ := 10) (As := [.int x1]) fx hw hxt (c_X10_ropeOf l X τ hS x0 x1 G h0 hf) lv_RX10_156 rfl rfl h0 rfl hl.1 rfl ⟨Nat.le_of_ble_eq_true rfl, Nat.le_of_ble_eq_true rfl⟩ (Nat.le_of_ble_eq_true rfl) ⟨Nat.le_of_ble_eq_true rfl, Nat.le_of_ble_eq_true rfl⟩ ⟨Nat.le_of_ble_eq_true rfl, Nat.le_of_ble_eq_true rfl⟩ dX10_cut_4 (fun u9 H locs hv hw => ?_) (fun E9 hE => by have hE : (Sum.inr (some (.ref a1)) : String ⊕ Option Value) = Sum.inl E9 := hE; cases hE)
  have hv : (Sum.inr (some (.ref a1)) : String ⊕ Option Value) = Sum.inr u9 := hv
  cases hv
  obtain ⟨h_a1, hok⟩ := gOk_chk hok
  have h_a1 : gK τ a1 5 := gkd_K h_a1
  refine g_geti fx hw h_a1 lf_RX10_169 rfl dX10_cut_7 ?_
  refine lv_iconst (v := 1) fx.1 fx.2.1 dX10_cut_10 (by decide) ?_
  refine lv_isub fx.1 fx.2.1 dX10_cut_11 ?_
  rcases gOk_bindX hok with ⟨E, G9, hf, hK⟩ | ⟨u, G3, hf, hok⟩
  · have hK : (Sum.inl E, G9) = (r, G') := hK
    cases hK
    refine g_callSX (As := [.int x2, .int (1 : Int32), .int ((gi G2 5 3 a1) - (1 : Int32))]) fx hw hxt (c_X10_needWithin l X τ hS x2 (1 : Int32) ((gi G2 5 3 a1) - (1 : Int32)) G2  hf) ls_RX10_224 rfl hl.1 rfl ⟨Nat.le_of_ble_eq_true rfl, Nat.le_of_ble_eq_true rfl⟩ (Nat.le_of_ble_eq_true rfl) ⟨Nat.le_of_ble_eq_true rfl, Nat.le_of_ble_eq_true rfl⟩ ⟨Nat.le_of_ble_eq_true rfl, Nat.le_of_ble_eq_true rfl⟩ dX10_cut_12 (fun u H locs hv hw => ?_) (fun E9 hE => ?_)
    · have hv : (Sum.inl E : String ⊕ Option Value) = Sum.inr u := hv
      cases hv
    · have hE : (Sum.inl E : String ⊕ Option Value) = Sum.inl E9 := hE
      cases hE
      exact ⟨rfl, rfl⟩
  refine g_callSX (As := [.int x2, .int (1 : Int32), .int ((gi G2 5 3 a1) - (1 : Int32))]) fx hw hxt (c_X10_needWithin l X τ hS x2 (1 : Int32) ((gi G2 5 3 a1) - (1 : Int32)) G2  hf) ls_RX10_224 rfl hl.1 rfl ⟨Nat.le_of_ble_eq_true rfl, Nat.le_of_ble_eq_true rfl⟩ (Nat.le_of_ble_eq_true rfl) ⟨Nat.le_of_ble_eq_true rfl, Nat.le_of_ble_eq_true rfl⟩ ⟨Nat.le_of_ble_eq_true rfl, Nat.le_of_ble_eq_true rfl⟩ dX10_cut_12 (fun u9 H locs hv hw => ?_) (fun E9 hE => by have hE : (Sum.inr none : String ⊕ Option Value) = Sum.inl E9 := hE; cases hE)
  have hv : (Sum.inr none : String ⊕ Option Value) = Sum.inr u9 := hv
  cases hv
  refine lv_aload_n fx.1 fx.2.1 dX10_cut_15 rfl (lv_at hl 0 rfl) ?_
  refine lv_iload_n fx.1 fx.2.1 dX10_cut_16 rfl (lv_at hl 1 rfl) ?_
  rcases gOk_bindX hok with ⟨E, G9, hf, hK⟩ | ⟨a4, G5, hf, hok⟩
  · have hK : (Sum.inl E, G9) = (r, G') := hK
    cases hK
    refine g_callVX (κ := 10) (As := [.int x1]) fx hw hxt (c_X10_soundRopeOf l X τ hS x0 x1 G3 h0 hf) lv_RX10_249 rfl rfl h0 rfl hl.1 rfl ⟨Nat.le_of_ble_eq_true rfl, Nat.le_of_ble_eq_true rfl⟩ (Nat.le_of_ble_eq_true rfl) ⟨Nat.le_of_ble_eq_true rfl, Nat.le_of_ble_eq_true rfl⟩ ⟨Nat.le_of_ble_eq_true rfl, Nat.le_of_ble_eq_true rfl⟩ dX10_cut_17 (fun u H locs hv hw => ?_) (fun E9 hE => ?_)
    · have hv : (Sum.inl E : String ⊕ Option Value) = Sum.inr u := hv
      cases hv
    · have hE : (Sum.inl E : String ⊕ Option Value) = Sum.inl E9 := hE
      cases hE
      exact ⟨rfl, rfl⟩
  refine g_callVX (κ := 10) (As := [.int x1]) fx hw hxt (c_X10_soundRopeOf l X τ hS x0 x1 G3 h0 hf) lv_RX10_249 rfl rfl h0 rfl hl.1 rfl ⟨Nat.le_of_ble_eq_true rfl, Nat.le_of_ble_eq_true rfl⟩ (Nat.le_of_ble_eq_true rfl) ⟨Nat.le_of_ble_eq_true rfl, Nat.le_of_ble_eq_true rfl⟩ ⟨Nat.le_of_ble_eq_true rfl, Nat.le_of_ble_eq_true rfl⟩ dX10_cut_17 (fun u9 H locs hv hw => ?_) (fun E9 hE => by have hE : (Sum.inr (some (.ref a4)) : String ⊕ Option Value) = Sum.inl E9 := hE; cases hE)
  have hv : (Sum.inr (some (.ref a4)) : String ⊕ Option Value) = Sum.inr u9 := hv
  cases hv
  obtain ⟨h_a4, hok⟩ := gOk_chk hok
  have h_a4 : gK τ a4 5 := gkd_K h_a4
  refine lv_astore_n (lv' := [(3, .ref a4), (0, .ref x0), (1, .int x1), (2, .int x2)]) fx.1 fx.2.1 dX10_cut_20 rfl hl (by decide) rfl (fun ls hl => ?_)
  refine lv_aload_n fx.1 fx.2.1 dX10_cut_21 rfl (lv_at hl 1 rfl) ?_
  rcases gOk_bindX hok with ⟨E, G9, hf, hK⟩ | ⟨u, G6, hf, hok⟩
  · have hK : (Sum.inl E, G9) = (r, G') := hK
    cases hK
    refine g_callVX (κ := 10) (As := []) fx hw hxt (c_X10_needRoomForRope l X τ hS x0 G5 h0 hf) lv_RX10_240 rfl rfl h0 rfl hl.1 rfl ⟨Nat.le_of_ble_eq_true rfl, Nat.le_of_ble_eq_true rfl⟩ (Nat.le_of_ble_eq_true rfl) ⟨Nat.le_of_ble_eq_true rfl, Nat.le_of_ble_eq_true rfl⟩ ⟨Nat.le_of_ble_eq_true rfl, Nat.le_of_ble_eq_true rfl⟩ dX10_cut_22 (fun u H locs hv hw => ?_) (fun E9 hE => ?_)
    · have hv : (Sum.inl E : String ⊕ Option Value) = Sum.inr u := hv
      cases hv
    · have hE : (Sum.inl E : String ⊕ Option Value) = Sum.inl E9 := hE
      cases hE
      exact ⟨rfl, rfl⟩
  refine g_callVX (κ := 10) (As := []) fx hw hxt (c_X10_needRoomForRope l X τ hS x0 G5 h0 hf) lv_RX10_240 rfl rfl h0 rfl hl.1 rfl ⟨Nat.le_of_ble_eq_true rfl, Nat.le_of_ble_eq_true rfl⟩ (Nat.le_of_ble_eq_true rfl) ⟨Nat.le_of_ble_eq_true rfl, Nat.le_of_ble_eq_true rfl⟩ ⟨Nat.le_of_ble_eq_true rfl, Nat.le_of_ble_eq_true rfl⟩ dX10_cut_22 (fun u9 H locs hv hw => ?_) (fun E9 hE => by have hE : (Sum.inr none : String ⊕ Option Value) = Sum.inl E9 := hE; cases hE)
  have hv : (Sum.inr none : String ⊕ Option Value) = Sum.inr u9 := hv
  cases hv
  refine lv_aload_n fx.1 fx.2.1 dX10_cut_25 rfl (lv_at hl 1 rfl) ?_
  refine g_getr fx hw h0 lf_RX10_35 rfl dX10_cut_26 hok (fun a7 h_a7 hok => ?_)
  refine lv_aload_n fx.1 fx.2.1 dX10_cut_29 rfl (lv_at hl 1 rfl) ?_
  refine g_getr fx hw h0 lf_RX10_70 rfl dX10_cut_30 hok (fun a8 h_a8 hok => ?_)
  obtain ⟨G9, hf, hok⟩ := gOk_bind hok
  refine g_callV0 (κ := 3) fx hw (c_X3_keep l X τ n a7 a8 G6 h_a7 h_a8 hf) lv_RX10_243 ⟨rfl, rfl⟩ rfl rfl h_a7 rfl hl.1 rfl ⟨Nat.le_of_ble_eq_true rfl, Nat.le_of_ble_eq_true rfl⟩ (Nat.le_of_ble_eq_true rfl) ⟨Nat.le_of_ble_eq_true rfl, Nat.le_of_ble_eq_true rfl⟩ dX10_cut_33 (fun H locs hw => ?_)
  refine lv_aload_n fx.1 fx.2.1 dX10_cut_36 rfl (lv_at hl 1 rfl) ?_
  refine g_getr fx hw h0 lf_RX10_70 rfl dX10_cut_37 hok (fun a10 h_a10 hok => ?_)
  refine lv_aload_n fx.1 fx.2.1 dX10_cut_40 rfl (lv_at hl 0 rfl) ?_
  refine lv_iload_n fx.1 fx.2.1 dX10_cut_41 rfl (lv_at hl 3 rfl) ?_
  obtain ⟨v11, G12, hf, hok⟩ := gOk_bind2 hok
  refine g_callV0 (κ := 6) fx hw (c_X6_addPiece l X τ a10 a4 x2 G9 h_a10 h_a4 hf) lv_RX10_264 ⟨rfl, rfl⟩ rfl rfl h_a10 rfl hl.1 rfl ⟨Nat.le_of_ble_eq_true rfl, Nat.le_of_ble_eq_true rfl⟩ (Nat.le_of_ble_eq_true rfl) ⟨Nat.le_of_ble_eq_true rfl, Nat.le_of_ble_eq_true rfl⟩ dX10_cut_42 (fun H locs hw => ?_)
  cases gOk_some hok
  exact g_iretX fx hw hr ⟨Nat.le_of_ble_eq_true rfl, Nat.le_of_ble_eq_true rfl⟩ dX10_cut_45
theorem dX10_hang_0 : decode cX10_hang 0 = .ok (.aload_n 0, 1) := by decide +kernel
theorem dX10_hang_1 : decode cX10_hang 1 = .ok (.iload_n 1, 1) := by decide +kernel
theorem dX10_hang_2 : decode cX10_hang 2 = .ok (.invokevirtual 156, 3) := by decide +kernel
theorem dX10_hang_5 : decode cX10_hang 5 = .ok (.pop, 1) := by decide +kernel
theorem dX10_hang_6 : decode cX10_hang 6 = .ok (.iload_n 2, 1) := by decide +kernel
theorem dX10_hang_7 : decode cX10_hang 7 = .ok (.iconst 0, 1) := by decide +kernel
theorem dX10_hang_8 : decode cX10_hang 8 = .ok (.sipush 999, 3) := by decide +kernel
theorem dX10_hang_11 : decode cX10_hang 11 = .ok (.invokestatic 224, 3) := by decide +kernel
theorem dX10_hang_14 : decode cX10_hang 14 = .ok (.aload_n 0, 1) := by decide +kernel
theorem dX10_hang_15 : decode cX10_hang 15 = .ok (.iload_n 1, 1) := by decide +kernel
theorem dX10_hang_16 : decode cX10_hang 16 = .ok (.invokevirtual 249, 3) := by decide +kernel
theorem dX10_hang_19 : decode cX10_hang 19 = .ok (.astore_n 3, 1) := by decide +kernel
theorem dX10_hang_20 : decode cX10_hang 20 = .ok (.aload_n 0, 1) := by decide +kernel
theorem dX10_hang_21 : decode cX10_hang 21 = .ok (.getfield 35, 3) := by decide +kernel
theorem dX10_hang_24 : decode cX10_hang 24 = .ok (.aload_n 0, 1) := by decide +kernel
theorem dX10_hang_25 : decode cX10_hang 25 = .ok (.getfield 70, 3) := by decide +kernel
theorem dX10_hang_28 : decode cX10_hang 28 = .ok (.invokevirtual 243, 3) := by decide +kernel
theorem dX10_hang_31 : decode cX10_hang 31 = .ok (.aload_n 3, 1) := by decide +kernel
theorem dX10_hang_32 : decode cX10_hang 32 = .ok (.getfield 188, 3) := by decide +kernel
theorem dX10_hang_35 : decode cX10_hang 35 = .ok (.istore 4, 2) := by decide +kernel
theorem dX10_hang_37 : decode cX10_hang 37 = .ok (.aload_n 3, 1) := by decide +kernel
theorem dX10_hang_38 : decode cX10_hang 38 = .ok (.iload_n 2, 1) := by decide +kernel
theorem dX10_hang_39 : decode cX10_hang 39 = .ok (.putfield 188, 3) := by decide +kernel
theorem dX10_hang_42 : decode cX10_hang 42 = .ok (.iload 4, 2) := by decide +kernel
theorem dX10_hang_44 : decode cX10_hang 44 = .ok (.ireturn, 1) := by decide +kernel
theorem lp_RX10_188 : gLp RX10 188 5 7 := ⟨(RX5, TX5, 10), rfl, by decide, wA_t (wt1 (List.mem_of_getElem? (i := 194) (by decide +kernel))) (by decide +kernel), rfl, rfl⟩
def rm_X10_hang : Room := { frames := 8, cells := 4, slots := 24, locals := 163 }
def f_X10_hang (τ : gτ) (n : Nat) (x0 : Nat) (x1 : Int32) (x2 : Int32) (G : gG) : Option ((String ⊕ Int32) × gG) :=
  gBindX (f_X10_ropeOf τ x0 x1 G) fun a1 G2 =>
  gchk (gkd τ a1 5) <|
  gBindX (f_X10_needWithin x2 (0 : Int32) (999 : Int32) G2) fun _ G3 =>
  gBindX (f_X10_soundRopeOf τ x0 x1 G3) fun a4 G5 =>
  gchk (gkd τ a4 5) <|
  (gr G5 10 3 x0).bind fun a6 =>
  (gr G5 10 10 x0).bind fun a7 =>
  (f_X3_keep τ n a6 a7 G5).bind fun G8 =>
  gLet (gi G8 5 7 a4) fun v9 =>
  gLet (gsi G8 5 7 a4 x2) fun G10 =>
  some (.inr v9, G10)
set_option maxHeartbeats 4000000 in
set_option maxRecDepth 100000 in
theorem c_X10_hang (l : Launch) (X : gX) (τ : gτ) (n : Nat) (hS : gS0 l X) (x0 : Nat) (x1 : Int32) (x2 : Int32) (G : gG) (h0 : gK τ x0 10) {r : String ⊕ Int32} {G' : gG} (h : f_X10_hang τ n x0 x1 x2 G = some (r, G')) : gMX l X τ yX10_hang cX10_hang 5 (some .int) rm_X10_hang [.ref x0, .int x1, .int x2] G (gOi r) G' := by
  refine g_bodyX (by decide +kernel) (Nat.le_of_ble_eq_true rfl) ?_
  intro p e s m args below meth c ls fx hr hxt hw hl
  have fx : gFx X p s m args meth c cX10_hang 5 RX10 := fx
  have hl : lv_has ls 5 [(0, .ref x0), (1, .int x1), (2, .int x2)] := hl
  have hok : gOk (f_X10_hang τ n x0 x1 x2 G) (fun q => q = (r, G')) := ⟨_, h, rfl⟩
  unfold f_X10_hang at hok
  show W p l e rm_X10_hang s m args below meth c s.heap [] 0 0 (vx_MQ below (gQX X τ (gOi r) G') (gXC X τ (gOi r) G') args s rm_X10_hang.cells rm_X10_hang.slots (gFree X)) _
  refine lv_aload_n fx.1 fx.2.1 dX10_hang_0 rfl (lv_at hl 0 rfl) ?_
  refine lv_iload_n fx.1 fx.2.1 dX10_hang_1 rfl (lv_at hl 1 rfl) ?_
  rcases gOk_bindX hok with ⟨E, G9, hf, hK⟩ | ⟨a1, G2, hf, hok⟩
  · have hK : (Sum.inl E, G9) = (r, G') := hK
    cases hK
    refine g_callVX (κ := 10) (As := [.int x1]) fx hw hxt (c_X10_ropeOf l X τ hS x0 x1 G h0 hf) lv_RX10_156 rfl rfl h0 rfl hl.1 rfl ⟨Nat.le_of_ble_eq_true rfl, Nat.le_of_ble_eq_true rfl⟩ (Nat.le_of_ble_eq_true rfl) ⟨Nat.le_of_ble_eq_true rfl, Nat.le_of_ble_eq_true rfl⟩ ⟨Nat.le_of_ble_eq_true rfl, Nat.le_of_ble_eq_true rfl⟩ dX10_hang_2 (fun u H locs hv hw => ?_) (fun E9 hE => ?_)
    · have hv : (Sum.inl E : String ⊕ Option Value) = Sum.inr u := hv
      cases hv
    · have hE : (Sum.inl E : String ⊕ Option Value) = Sum.inl E9 := hE
      cases hE
      exact ⟨rfl, rfl⟩
  refine g_callVX (κ := 10) (As := [.int x1]) fx hw hxt (c_X10_ropeOf l X τ hS x0 x1 G h0 hf) lv_RX10_156 rfl rfl h0 rfl hl.1 rfl ⟨Nat.le_of_ble_eq_true rfl, Nat.le_of_ble_eq_true rfl⟩ (Nat.le_of_ble_eq_true rfl) ⟨Nat.le_of_ble_eq_true rfl, Nat.le_of_ble_eq_true rfl⟩ ⟨Nat.le_of_ble_eq_true rfl, Nat.le_of_ble_eq_true rfl⟩ dX10_hang_2 (fun u9 H locs hv hw => ?_) (fun E9 hE => by have hE : (Sum.inr (some (.ref a1)) : String ⊕ Option Value) = Sum.inl E9 := hE; cases hE)
  have hv : (Sum.inr (some (.ref a1)) : String ⊕ Option Value) = Sum.inr u9 := hv
  cases hv
  obtain ⟨h_a1, hok⟩ := gOk_chk hok
  have h_a1 : gK τ a1 5 := gkd_K h_a1
  refine lv_pop fx.1 fx.2.1 dX10_hang_5 rfl ?_
  refine lv_iload_n fx.1 fx.2.1 dX10_hang_6 rfl (lv_at hl 2 rfl) ?_
  refine lv_iconst (v := 0) fx.1 fx.2.1 dX10_hang_7 (by decide) ?_
  refine lv_sipush (v := 999) fx.1 fx.2.1 dX10_hang_8 (by decide) ?_
  rcases gOk_bindX hok with ⟨E, G9, hf, hK⟩ | ⟨u, G3, hf, hok⟩
  · have hK : (Sum.inl E, G9) = (r, G') := hK
    cases hK
    refine g_callSX (As := [.int x2, .int (0 : Int32), .int (999 : Int32)]) fx hw hxt (c_X10_needWithin l X τ hS x2 (0 : Int32) (999 : Int32) G2  hf) ls_RX10_224 rfl hl.1 rfl ⟨Nat.le_of_ble_eq_true rfl, Nat.le_of_ble_eq_true rfl⟩ (Nat.le_of_ble_eq_true rfl) ⟨Nat.le_of_ble_eq_true rfl, Nat.le_of_ble_eq_true rfl⟩ ⟨Nat.le_of_ble_eq_true rfl, Nat.le_of_ble_eq_true rfl⟩ dX10_hang_11 (fun u H locs hv hw => ?_) (fun E9 hE => ?_)
    · have hv : (Sum.inl E : String ⊕ Option Value) = Sum.inr u := hv
      cases hv
    · have hE : (Sum.inl E : String ⊕ Option Value) = Sum.inl E9 := hE
      cases hE
      exact ⟨rfl, rfl⟩
  refine g_callSX (As := [.int x2, .int (0 : Int32), .int (999 : Int32)]) fx hw hxt (c_X10_needWithin l X τ hS x2 (0 : Int32) (999 : Int32) G2  hf) ls_RX10_224 rfl hl.1 rfl ⟨Nat.le_of_ble_eq_true rfl, Nat.le_of_ble_eq_true rfl⟩ (Nat.le_of_ble_eq_true rfl) ⟨Nat.le_of_ble_eq_true rfl, Nat.le_of_ble_eq_true rfl⟩ ⟨Nat.le_of_ble_eq_true rfl, Nat.le_of_ble_eq_true rfl⟩ dX10_hang_11 (fun u9 H locs hv hw => ?_) (fun E9 hE => by have hE : (Sum.inr none : String ⊕ Option Value) = Sum.inl E9 := hE; cases hE)
  have hv : (Sum.inr none : String ⊕ Option Value) = Sum.inr u9 := hv
  cases hv
  refine lv_aload_n fx.1 fx.2.1 dX10_hang_14 rfl (lv_at hl 0 rfl) ?_
  refine lv_iload_n fx.1 fx.2.1 dX10_hang_15 rfl (lv_at hl 1 rfl) ?_
  rcases gOk_bindX hok with ⟨E, G9, hf, hK⟩ | ⟨a4, G5, hf, hok⟩
  · have hK : (Sum.inl E, G9) = (r, G') := hK
    cases hK
    refine g_callVX (κ := 10) (As := [.int x1]) fx hw hxt (c_X10_soundRopeOf l X τ hS x0 x1 G3 h0 hf) lv_RX10_249 rfl rfl h0 rfl hl.1 rfl ⟨Nat.le_of_ble_eq_true rfl, Nat.le_of_ble_eq_true rfl⟩ (Nat.le_of_ble_eq_true rfl) ⟨Nat.le_of_ble_eq_true rfl, Nat.le_of_ble_eq_true rfl⟩ ⟨Nat.le_of_ble_eq_true rfl, Nat.le_of_ble_eq_true rfl⟩ dX10_hang_16 (fun u H locs hv hw => ?_) (fun E9 hE => ?_)
    · have hv : (Sum.inl E : String ⊕ Option Value) = Sum.inr u := hv
      cases hv
    · have hE : (Sum.inl E : String ⊕ Option Value) = Sum.inl E9 := hE
      cases hE
      exact ⟨rfl, rfl⟩
  refine g_callVX (κ := 10) (As := [.int x1]) fx hw hxt (c_X10_soundRopeOf l X τ hS x0 x1 G3 h0 hf) lv_RX10_249 rfl rfl h0 rfl hl.1 rfl ⟨Nat.le_of_ble_eq_true rfl, Nat.le_of_ble_eq_true rfl⟩ (Nat.le_of_ble_eq_true rfl) ⟨Nat.le_of_ble_eq_true rfl, Nat.le_of_ble_eq_true rfl⟩ ⟨Nat.le_of_ble_eq_true rfl, Nat.le_of_ble_eq_true rfl⟩ dX10_hang_16 (fun u9 H locs hv hw => ?_) (fun E9 hE => by have hE : (Sum.inr (some (.ref a4)) : String ⊕ Option Value) = Sum.inl E9 := hE; cases hE)
  have hv : (Sum.inr (some (.ref a4)) : String ⊕ Option Value) = Sum.inr u9 := hv
  cases hv
  obtain ⟨h_a4, hok⟩ := gOk_chk hok
  have h_a4 : gK τ a4 5 := gkd_K h_a4
  refine lv_astore_n (lv' := [(3, .ref a4), (0, .ref x0), (1, .int x1), (2, .int x2)]) fx.1 fx.2.1 dX10_hang_19 rfl hl (by decide) rfl (fun ls hl => ?_)
  refine lv_aload_n fx.1 fx.2.1 dX10_hang_20 rfl (lv_at hl 1 rfl) ?_
  refine g_getr fx hw h0 lf_RX10_35 rfl dX10_hang_21 hok (fun a6 h_a6 hok => ?_)
  refine lv_aload_n fx.1 fx.2.1 dX10_hang_24 rfl (lv_at hl 1 rfl) ?_
  refine g_getr fx hw h0 lf_RX10_70 rfl dX10_hang_25 hok (fun a7 h_a7 hok => ?_)
  obtain ⟨G8, hf, hok⟩ := gOk_bind hok
  refine g_callV0 (κ := 3) fx hw (c_X3_keep l X τ n a6 a7 G5 h_a6 h_a7 hf) lv_RX10_243 ⟨rfl, rfl⟩ rfl rfl h_a6 rfl hl.1 rfl ⟨Nat.le_of_ble_eq_true rfl, Nat.le_of_ble_eq_true rfl⟩ (Nat.le_of_ble_eq_true rfl) ⟨Nat.le_of_ble_eq_true rfl, Nat.le_of_ble_eq_true rfl⟩ dX10_hang_28 (fun H locs hw => ?_)
  refine lv_aload_n fx.1 fx.2.1 dX10_hang_31 rfl (lv_at hl 0 rfl) ?_
  refine g_geti fx hw h_a4 lf_RX10_188 rfl dX10_hang_32 ?_
  refine g_leti hok (fun v9 hok => ?_)
  refine lv_istore (lv' := [(4, .int v9), (3, .ref a4), (0, .ref x0), (1, .int x1), (2, .int x2)]) fx.1 fx.2.1 dX10_hang_35 hl (by decide) rfl (fun ls hl => ?_)
  refine lv_aload_n fx.1 fx.2.1 dX10_hang_37 rfl (lv_at hl 1 rfl) ?_
  refine lv_iload_n fx.1 fx.2.1 dX10_hang_38 rfl (lv_at hl 4 rfl) ?_
  refine g_puti fx hw h_a4 lp_RX10_188 rfl rfl dX10_hang_39 hok (fun G10 H locs hw hok => ?_)
  refine lv_iload fx.1 fx.2.1 dX10_hang_42 (lv_at hl 0 rfl) ?_
  cases gOk_some hok
  exact g_iretX fx hw hr ⟨Nat.le_of_ble_eq_true rfl, Nat.le_of_ble_eq_true rfl⟩ dX10_hang_44
theorem dX10_meet_0 : decode cX10_meet 0 = .ok (.aload_n 0, 1) := by decide +kernel
theorem dX10_meet_1 : decode cX10_meet 1 = .ok (.iload_n 1, 1) := by decide +kernel
theorem dX10_meet_2 : decode cX10_meet 2 = .ok (.invokevirtual 207, 3) := by decide +kernel
theorem dX10_meet_5 : decode cX10_meet 5 = .ok (.astore_n 3, 1) := by decide +kernel
theorem dX10_meet_6 : decode cX10_meet 6 = .ok (.aload_n 0, 1) := by decide +kernel
theorem dX10_meet_7 : decode cX10_meet 7 = .ok (.iload_n 2, 1) := by decide +kernel
theorem dX10_meet_8 : decode cX10_meet 8 = .ok (.invokevirtual 156, 3) := by decide +kernel
theorem dX10_meet_11 : decode cX10_meet 11 = .ok (.astore 4, 2) := by decide +kernel
theorem dX10_meet_13 : decode cX10_meet 13 = .ok (.aload 4, 2) := by decide +kernel
theorem dX10_meet_15 : decode cX10_meet 15 = .ok (.invokevirtual 268, 3) := by decide +kernel
theorem dX10_meet_18 : decode cX10_meet 18 = .ok (.ifCond .eq 28, 3) := by decide +kernel
theorem dX10_meet_21 : decode cX10_meet 21 = .ok (.aload_n 3, 1) := by decide +kernel
theorem dX10_meet_22 : decode cX10_meet 22 = .ok (.aload 4, 2) := by decide +kernel
theorem dX10_meet_24 : decode cX10_meet 24 = .ok (.getfield 169, 3) := by decide +kernel
theorem dX10_meet_27 : decode cX10_meet 27 = .ok (.aload_n 0, 1) := by decide +kernel
theorem dX10_meet_28 : decode cX10_meet 28 = .ok (.getfield 70, 3) := by decide +kernel
theorem dX10_meet_31 : decode cX10_meet 31 = .ok (.aload 4, 2) := by decide +kernel
theorem dX10_meet_33 : decode cX10_meet 33 = .ok (.aload_n 0, 1) := by decide +kernel
theorem dX10_meet_34 : decode cX10_meet 34 = .ok (.getfield 76, 3) := by decide +kernel
theorem dX10_meet_37 : decode cX10_meet 37 = .ok (.invokevirtual 191, 3) := by decide +kernel
theorem dX10_meet_40 : decode cX10_meet 40 = .ok (.invokevirtual 271, 3) := by decide +kernel
theorem dX10_meet_43 : decode cX10_meet 43 = .ok (.ifCond .ne 14, 3) := by decide +kernel
theorem dX10_meet_46 : decode cX10_meet 46 = .ok (.new 235, 3) := by decide +kernel
theorem dX10_meet_49 : decode cX10_meet 49 = .ok (.dup, 1) := by decide +kernel
theorem dX10_meet_50 : decode cX10_meet 50 = .ok (.ldc_w 275, 3) := by decide +kernel
theorem dX10_meet_53 : decode cX10_meet 53 = .ok (.invokespecial 239, 3) := by decide +kernel
theorem dX10_meet_56 : decode cX10_meet 56 = .ok (.athrow, 1) := by decide +kernel
theorem dX10_meet_57 : decode cX10_meet 57 = .ok (.aload_n 0, 1) := by decide +kernel
theorem dX10_meet_58 : decode cX10_meet 58 = .ok (.getfield 35, 3) := by decide +kernel
theorem dX10_meet_61 : decode cX10_meet 61 = .ok (.aload_n 0, 1) := by decide +kernel
theorem dX10_meet_62 : decode cX10_meet 62 = .ok (.getfield 70, 3) := by decide +kernel
theorem dX10_meet_65 : decode cX10_meet 65 = .ok (.invokevirtual 243, 3) := by decide +kernel
theorem dX10_meet_68 : decode cX10_meet 68 = .ok (.aload_n 3, 1) := by decide +kernel
theorem dX10_meet_69 : decode cX10_meet 69 = .ok (.getfield 215, 3) := by decide +kernel
theorem dX10_meet_72 : decode cX10_meet 72 = .ok (.istore 5, 2) := by decide +kernel
theorem dX10_meet_74 : decode cX10_meet 74 = .ok (.aload 4, 2) := by decide +kernel
theorem dX10_meet_76 : decode cX10_meet 76 = .ok (.aload_n 3, 1) := by decide +kernel
theorem dX10_meet_77 : decode cX10_meet 77 = .ok (.getfield 211, 3) := by decide +kernel
theorem dX10_meet_80 : decode cX10_meet 80 = .ok (.putfield 188, 3) := by decide +kernel
theorem dX10_meet_83 : decode cX10_meet 83 = .ok (.aload_n 0, 1) := by decide +kernel
theorem dX10_meet_84 : decode cX10_meet 84 = .ok (.getfield 70, 3) := by decide +kernel
theorem dX10_meet_87 : decode cX10_meet 87 = .ok (.dup, 1) := by decide +kernel
theorem dX10_meet_88 : decode cX10_meet 88 = .ok (.getfield 277, 3) := by decide +kernel
theorem dX10_meet_91 : decode cX10_meet 91 = .ok (.iload 5, 2) := by decide +kernel
theorem dX10_meet_93 : decode cX10_meet 93 = .ok (.iadd, 1) := by decide +kernel
theorem dX10_meet_94 : decode cX10_meet 94 = .ok (.putfield 277, 3) := by decide +kernel
theorem dX10_meet_97 : decode cX10_meet 97 = .ok (.aload_n 0, 1) := by decide +kernel
theorem dX10_meet_98 : decode cX10_meet 98 = .ok (.getfield 70, 3) := by decide +kernel
theorem dX10_meet_101 : decode cX10_meet 101 = .ok (.iload_n 1, 1) := by decide +kernel
theorem dX10_meet_102 : decode cX10_meet 102 = .ok (.invokevirtual 280, 3) := by decide +kernel
theorem dX10_meet_105 : decode cX10_meet 105 = .ok (.iload 5, 2) := by decide +kernel
theorem dX10_meet_107 : decode cX10_meet 107 = .ok (.ireturn, 1) := by decide +kernel
theorem lv_RX10_268 : gLv RX10 268 RX5 yX5_isFree cX5_isFree 1 (some .boolean) 0 := gLv_of (wA_t (wt2 (List.mem_of_getElem? (i := 196) (by decide +kernel))) (by decide +kernel)) (wA_t (wt2 (List.mem_of_getElem? (i := 197) (by decide +kernel))) (by decide +kernel)) (wA_t (wt2 (List.mem_of_getElem? (i := 198) (by decide +kernel))) (by decide +kernel)) (wA_t (wt1 (List.mem_of_getElem? (i := 9) (by decide +kernel))) (by decide +kernel)) (wA_t (wt2 (List.mem_of_getElem? (i := 199) (by decide +kernel))) (by decide +kernel)) ⟨rfl, by decide +kernel, by decide +kernel, by decide +kernel⟩
theorem lv_RX10_271 : gLv RX10 271 RX4 yX4_isFilledBy cX4_isFilledBy 3 (some .boolean) 2 := gLv_of (wA_t (wt3 (List.mem_of_getElem? (i := 9) (by decide +kernel))) (by decide +kernel)) (wA_t (wt3 (List.mem_of_getElem? (i := 10) (by decide +kernel))) (by decide +kernel)) (wA_t (wt3 (List.mem_of_getElem? (i := 11) (by decide +kernel))) (by decide +kernel)) (wA_t (wt1 (List.mem_of_getElem? (i := 10) (by decide +kernel))) (by decide +kernel)) (wA_t (wt3 (List.mem_of_getElem? (i := 12) (by decide +kernel))) (by decide +kernel)) ⟨rfl, by decide +kernel, by decide +kernel, by decide +kernel⟩
theorem lf_RX10_277 : gLf RX10 277 6 12 := ⟨(RX6, TX6, 15), rfl, by decide, wA_t (wt2 (List.mem_of_getElem? (i := 38) (by decide +kernel))) (by decide +kernel), rfl⟩
theorem lp_RX10_277 : gLp RX10 277 6 12 := ⟨(RX6, TX6, 15), rfl, by decide, wA_t (wt2 (List.mem_of_getElem? (i := 38) (by decide +kernel))) (by decide +kernel), rfl, rfl⟩
theorem lv_RX10_280 : gLv RX10 280 RX6 yX6_removeOrder cX6_removeOrder 3 none 1 := gLv_of (wA_t (wt5 (List.mem_of_getElem? (i := 207) (by decide +kernel))) (by decide +kernel)) (wA_t (wt5 (List.mem_of_getElem? (i := 208) (by decide +kernel))) (by decide +kernel)) (wA_t (wt5 (List.mem_of_getElem? (i := 209) (by decide +kernel))) (by decide +kernel)) (wA_t (wt1 (List.mem_of_getElem? (i := 6) (by decide +kernel))) (by decide +kernel)) (wA_t (wt5 (List.mem_of_getElem? (i := 210) (by decide +kernel))) (by decide +kernel)) ⟨rfl, by decide +kernel, by decide +kernel, by decide +kernel⟩
def rm_X10_meet : Room := { frames := 7, cells := 3, slots := 18, locals := 141 }
def f_X10_meet (τ : gτ) (n : Nat) (x0 : Nat) (x1 : Int32) (x2 : Int32) (G : gG) : Option ((String ⊕ Int32) × gG) :=
  gBindX (f_X10_orderOf τ x0 x1 G) fun a1 G2 =>
  gchk (gkd τ a1 4) <|
  gBindX (f_X10_ropeOf τ x0 x2 G2) fun a3 G4 =>
  gchk (gkd τ a3 5) <|
  (f_X5_isFree a3 G4).bind fun v5 =>
  if v5 = 0 then (some (.inl x_ISE, G4))
  else ((gr G4 10 10 x0).bind fun a6 =>
  (gr G4 10 12 x0).bind fun a7 =>
  gBind2 (f_X6_bearing τ n a6 a3 a7 G4) fun v8 G9 =>
  (f_X4_isFilledBy a1 (gi G4 5 3 a3) v8 G9).bind fun v10 =>
  if v10 = 0 then (some (.inl x_ISE, G9))
  else ((gr G9 10 3 x0).bind fun a11 =>
  (gr G9 10 10 x0).bind fun a12 =>
  (f_X3_keep τ n a11 a12 G9).bind fun G13 =>
  gLet (gi G13 4 2 a1) fun v14 =>
  gLet (gsi G13 5 7 a3 (gi G13 4 0 a1)) fun G15 =>
  (gr G15 10 10 x0).bind fun a16 =>
  gLet (gsi G15 6 12 a16 ((gi G15 6 12 a16) + v14)) fun G17 =>
  (gr G17 10 10 x0).bind fun a18 =>
  (f_X6_removeOrder τ n a18 x1 G17).bind fun G19 =>
  some (.inr v14, G19)))
set_option maxHeartbeats 4000000 in
set_option maxRecDepth 100000 in
theorem c_X10_meet (l : Launch) (X : gX) (τ : gτ) (n : Nat) (hS : gS0 l X) (x0 : Nat) (x1 : Int32) (x2 : Int32) (G : gG) (h0 : gK τ x0 10) {r : String ⊕ Int32} {G' : gG} (h : f_X10_meet τ n x0 x1 x2 G = some (r, G')) : gMX l X τ yX10_meet cX10_meet 6 (some .int) rm_X10_meet [.ref x0, .int x1, .int x2] G (gOi r) G' := by
  refine g_bodyX (by decide +kernel) (Nat.le_of_ble_eq_true rfl) ?_
  intro p e s m args below meth c ls fx hr hxt hw hl
  have fx : gFx X p s m args meth c cX10_meet 6 RX10 := fx
  have hl : lv_has ls 6 [(0, .ref x0), (1, .int x1), (2, .int x2)] := hl
  have hok : gOk (f_X10_meet τ n x0 x1 x2 G) (fun q => q = (r, G')) := ⟨_, h, rfl⟩
  unfold f_X10_meet at hok
  show W p l e rm_X10_meet s m args below meth c s.heap [] 0 0 (vx_MQ below (gQX X τ (gOi r) G') (gXC X τ (gOi r) G') args s rm_X10_meet.cells rm_X10_meet.slots (gFree X)) _
  refine lv_aload_n fx.1 fx.2.1 dX10_meet_0 rfl (lv_at hl 0 rfl) ?_
  refine lv_iload_n fx.1 fx.2.1 dX10_meet_1 rfl (lv_at hl 1 rfl) ?_
  rcases gOk_bindX hok with ⟨E, G9, hf, hK⟩ | ⟨a1, G2, hf, hok⟩
  · have hK : (Sum.inl E, G9) = (r, G') := hK
    cases hK
    refine g_callVX (κ := 10) (As := [.int x1]) fx hw hxt (c_X10_orderOf l X τ hS x0 x1 G h0 hf) lv_RX10_207 rfl rfl h0 rfl hl.1 rfl ⟨Nat.le_of_ble_eq_true rfl, Nat.le_of_ble_eq_true rfl⟩ (Nat.le_of_ble_eq_true rfl) ⟨Nat.le_of_ble_eq_true rfl, Nat.le_of_ble_eq_true rfl⟩ ⟨Nat.le_of_ble_eq_true rfl, Nat.le_of_ble_eq_true rfl⟩ dX10_meet_2 (fun u H locs hv hw => ?_) (fun E9 hE => ?_)
    · have hv : (Sum.inl E : String ⊕ Option Value) = Sum.inr u := hv
      cases hv
    · have hE : (Sum.inl E : String ⊕ Option Value) = Sum.inl E9 := hE
      cases hE
      exact ⟨rfl, rfl⟩
  refine g_callVX (κ := 10) (As := [.int x1]) fx hw hxt (c_X10_orderOf l X τ hS x0 x1 G h0 hf) lv_RX10_207 rfl rfl h0 rfl hl.1 rfl ⟨Nat.le_of_ble_eq_true rfl, Nat.le_of_ble_eq_true rfl⟩ (Nat.le_of_ble_eq_true rfl) ⟨Nat.le_of_ble_eq_true rfl, Nat.le_of_ble_eq_true rfl⟩ ⟨Nat.le_of_ble_eq_true rfl, Nat.le_of_ble_eq_true rfl⟩ dX10_meet_2 (fun u9 H locs hv hw => ?_) (fun E9 hE => by have hE : (Sum.inr (some (.ref a1)) : String ⊕ Option Value) = Sum.inl E9 := hE; cases hE)
  have hv : (Sum.inr (some (.ref a1)) : String ⊕ Option Value) = Sum.inr u9 := hv
  cases hv
  obtain ⟨h_a1, hok⟩ := gOk_chk hok
  have h_a1 : gK τ a1 4 := gkd_K h_a1
  refine lv_astore_n (lv' := [(3, .ref a1), (0, .ref x0), (1, .int x1), (2, .int x2)]) fx.1 fx.2.1 dX10_meet_5 rfl hl (by decide) rfl (fun ls hl => ?_)
  refine lv_aload_n fx.1 fx.2.1 dX10_meet_6 rfl (lv_at hl 1 rfl) ?_
  refine lv_iload_n fx.1 fx.2.1 dX10_meet_7 rfl (lv_at hl 3 rfl) ?_
  rcases gOk_bindX hok with ⟨E, G9, hf, hK⟩ | ⟨a3, G4, hf, hok⟩
  · have hK : (Sum.inl E, G9) = (r, G') := hK
    cases hK
    refine g_callVX (κ := 10) (As := [.int x2]) fx hw hxt (c_X10_ropeOf l X τ hS x0 x2 G2 h0 hf) lv_RX10_156 rfl rfl h0 rfl hl.1 rfl ⟨Nat.le_of_ble_eq_true rfl, Nat.le_of_ble_eq_true rfl⟩ (Nat.le_of_ble_eq_true rfl) ⟨Nat.le_of_ble_eq_true rfl, Nat.le_of_ble_eq_true rfl⟩ ⟨Nat.le_of_ble_eq_true rfl, Nat.le_of_ble_eq_true rfl⟩ dX10_meet_8 (fun u H locs hv hw => ?_) (fun E9 hE => ?_)
    · have hv : (Sum.inl E : String ⊕ Option Value) = Sum.inr u := hv
      cases hv
    · have hE : (Sum.inl E : String ⊕ Option Value) = Sum.inl E9 := hE
      cases hE
      exact ⟨rfl, rfl⟩
  refine g_callVX (κ := 10) (As := [.int x2]) fx hw hxt (c_X10_ropeOf l X τ hS x0 x2 G2 h0 hf) lv_RX10_156 rfl rfl h0 rfl hl.1 rfl ⟨Nat.le_of_ble_eq_true rfl, Nat.le_of_ble_eq_true rfl⟩ (Nat.le_of_ble_eq_true rfl) ⟨Nat.le_of_ble_eq_true rfl, Nat.le_of_ble_eq_true rfl⟩ ⟨Nat.le_of_ble_eq_true rfl, Nat.le_of_ble_eq_true rfl⟩ dX10_meet_8 (fun u9 H locs hv hw => ?_) (fun E9 hE => by have hE : (Sum.inr (some (.ref a3)) : String ⊕ Option Value) = Sum.inl E9 := hE; cases hE)
  have hv : (Sum.inr (some (.ref a3)) : String ⊕ Option Value) = Sum.inr u9 := hv
  cases hv
  obtain ⟨h_a3, hok⟩ := gOk_chk hok
  have h_a3 : gK τ a3 5 := gkd_K h_a3
  refine lv_astore (lv' := [(4, .ref a3), (3, .ref a1), (0, .ref x0), (1, .int x1), (2, .int x2)]) fx.1 fx.2.1 dX10_meet_11 hl (by decide) rfl (fun ls hl => ?_)
  refine lv_aload fx.1 fx.2.1 dX10_meet_13 (lv_at hl 0 rfl) ?_
  obtain ⟨v5, hf, hok⟩ := gOk_bind hok
  refine g_callV0 (κ := 5) fx hw (c_X5_isFree l X τ a3 G4 h_a3 hf) lv_RX10_268 ⟨rfl, rfl⟩ rfl rfl h_a3 rfl hl.1 rfl ⟨Nat.le_of_ble_eq_true rfl, Nat.le_of_ble_eq_true rfl⟩ (Nat.le_of_ble_eq_true rfl) ⟨Nat.le_of_ble_eq_true rfl, Nat.le_of_ble_eq_true rfl⟩ dX10_meet_15 (fun H locs hw => ?_)
  refine g_if_eq (tgt := 46) fx dX10_meet_18 (by decide) hok (fun hok => ?_) (fun hok => ?_)
  · cases gOk_some hok
    exact g_throwSW fx hw hS hl.1 hxt lx_RX10_235 gt_RX10_275 dX10_meet_46 dX10_meet_49 dX10_meet_50 dX10_meet_53 dX10_meet_56 ⟨Nat.le_of_ble_eq_true rfl, Nat.le_of_ble_eq_true rfl, Nat.le_of_ble_eq_true rfl, Nat.le_of_ble_eq_true rfl⟩ ⟨Nat.le_of_ble_eq_true rfl, Nat.le_of_ble_eq_true rfl⟩
  · refine lv_aload_n fx.1 fx.2.1 dX10_meet_21 rfl (lv_at hl 1 rfl) ?_
    refine lv_aload fx.1 fx.2.1 dX10_meet_22 (lv_at hl 0 rfl) ?_
    refine g_geti fx hw h_a3 lf_RX10_169 rfl dX10_meet_24 ?_
    refine lv_aload_n fx.1 fx.2.1 dX10_meet_27 rfl (lv_at hl 2 rfl) ?_
    refine g_getr fx hw h0 lf_RX10_70 rfl dX10_meet_28 hok (fun a6 h_a6 hok => ?_)
    refine lv_aload fx.1 fx.2.1 dX10_meet_31 (lv_at hl 0 rfl) ?_
    refine lv_aload_n fx.1 fx.2.1 dX10_meet_33 rfl (lv_at hl 2 rfl) ?_
    refine g_getr fx hw h0 lf_RX10_76 rfl dX10_meet_34 hok (fun a7 h_a7 hok => ?_)
    obtain ⟨v8, G9, hf, hok⟩ := gOk_bind2 hok
    refine g_callV0 (κ := 6) fx hw (c_X6_bearing l X τ n a6 a3 a7 G4 h_a6 h_a3 h_a7 hf) lv_RX10_191 ⟨rfl, rfl⟩ rfl rfl h_a6 rfl hl.1 rfl ⟨Nat.le_of_ble_eq_true rfl, Nat.le_of_ble_eq_true rfl⟩ (Nat.le_of_ble_eq_true rfl) ⟨Nat.le_of_ble_eq_true rfl, Nat.le_of_ble_eq_true rfl⟩ dX10_meet_37 (fun H locs hw => ?_)
    obtain ⟨v10, hf, hok⟩ := gOk_bind hok
    refine g_callV0 (κ := 4) fx hw (c_X4_isFilledBy l X τ a1 (gi G4 5 3 a3) v8 G9 h_a1 hf) lv_RX10_271 ⟨rfl, rfl⟩ rfl rfl h_a1 rfl hl.1 rfl ⟨Nat.le_of_ble_eq_true rfl, Nat.le_of_ble_eq_true rfl⟩ (Nat.le_of_ble_eq_true rfl) ⟨Nat.le_of_ble_eq_true rfl, Nat.le_of_ble_eq_true rfl⟩ dX10_meet_40 (fun H locs hw => ?_)
    refine g_if_ne (tgt := 57) fx dX10_meet_43 (by decide) hok (fun hok => ?_) (fun hok => ?_)
    · cases gOk_some hok
      exact g_throwSW fx hw hS hl.1 hxt lx_RX10_235 gt_RX10_275 dX10_meet_46 dX10_meet_49 dX10_meet_50 dX10_meet_53 dX10_meet_56 ⟨Nat.le_of_ble_eq_true rfl, Nat.le_of_ble_eq_true rfl, Nat.le_of_ble_eq_true rfl, Nat.le_of_ble_eq_true rfl⟩ ⟨Nat.le_of_ble_eq_true rfl, Nat.le_of_ble_eq_true rfl⟩
    · refine lv_aload_n fx.1 fx.2.1 dX10_meet_57 rfl (lv_at hl 2 rfl) ?_
      refine g_getr fx hw h0 lf_RX10_35 rfl dX10_meet_58 hok (fun a11 h_a11 hok => ?_)
      refine lv_aload_n fx.1 fx.2.1 dX10_meet_61 rfl (lv_at hl 2 rfl) ?_
      refine g_getr fx hw h0 lf_RX10_70 rfl dX10_meet_62 hok (fun a12 h_a12 hok => ?_)
      obtain ⟨G13, hf, hok⟩ := gOk_bind hok
      refine g_callV0 (κ := 3) fx hw (c_X3_keep l X τ n a11 a12 G9 h_a11 h_a12 hf) lv_RX10_243 ⟨rfl, rfl⟩ rfl rfl h_a11 rfl hl.1 rfl ⟨Nat.le_of_ble_eq_true rfl, Nat.le_of_ble_eq_true rfl⟩ (Nat.le_of_ble_eq_true rfl) ⟨Nat.le_of_ble_eq_true rfl, Nat.le_of_ble_eq_true rfl⟩ dX10_meet_65 (fun H locs hw => ?_)
      refine lv_aload_n fx.1 fx.2.1 dX10_meet_68 rfl (lv_at hl 1 rfl) ?_
      refine g_geti fx hw h_a1 lf_RX10_215 rfl dX10_meet_69 ?_
      refine g_leti hok (fun v14 hok => ?_)
      refine lv_istore (lv' := [(5, .int v14), (4, .ref a3), (3, .ref a1), (0, .ref x0), (1, .int x1), (2, .int x2)]) fx.1 fx.2.1 dX10_meet_72 hl (by decide) rfl (fun ls hl => ?_)
      refine lv_aload fx.1 fx.2.1 dX10_meet_74 (lv_at hl 1 rfl) ?_
      refine lv_aload_n fx.1 fx.2.1 dX10_meet_76 rfl (lv_at hl 2 rfl) ?_
      refine g_geti fx hw h_a1 lf_RX10_211 rfl dX10_meet_77 ?_
      refine g_puti fx hw h_a3 lp_RX10_188 rfl rfl dX10_meet_80 hok (fun G15 H locs hw hok => ?_)
      refine lv_aload_n fx.1 fx.2.1 dX10_meet_83 rfl (lv_at hl 3 rfl) ?_
      refine g_getr fx hw h0 lf_RX10_70 rfl dX10_meet_84 hok (fun a16 h_a16 hok => ?_)
      refine lv_dup fx.1 fx.2.1 dX10_meet_87 rfl ?_
      refine g_geti fx hw h_a16 lf_RX10_277 rfl dX10_meet_88 ?_
      refine lv_iload fx.1 fx.2.1 dX10_meet_91 (lv_at hl 0 rfl) ?_
      refine lv_iadd fx.1 fx.2.1 dX10_meet_93 ?_
      refine g_puti fx hw h_a16 lp_RX10_277 rfl rfl dX10_meet_94 hok (fun G17 H locs hw hok => ?_)
      refine lv_aload_n fx.1 fx.2.1 dX10_meet_97 rfl (lv_at hl 3 rfl) ?_
      refine g_getr fx hw h0 lf_RX10_70 rfl dX10_meet_98 hok (fun a18 h_a18 hok => ?_)
      refine lv_iload_n fx.1 fx.2.1 dX10_meet_101 rfl (lv_at hl 4 rfl) ?_
      obtain ⟨G19, hf, hok⟩ := gOk_bind hok
      refine g_callV0 (κ := 6) fx hw (c_X6_removeOrder l X τ n a18 x1 G17 h_a18 hf) lv_RX10_280 ⟨rfl, rfl⟩ rfl rfl h_a18 rfl hl.1 rfl ⟨Nat.le_of_ble_eq_true rfl, Nat.le_of_ble_eq_true rfl⟩ (Nat.le_of_ble_eq_true rfl) ⟨Nat.le_of_ble_eq_true rfl, Nat.le_of_ble_eq_true rfl⟩ dX10_meet_102 (fun H locs hw => ?_)
      refine lv_iload fx.1 fx.2.1 dX10_meet_105 (lv_at hl 0 rfl) ?_
      cases gOk_some hok
      exact g_iretX fx hw hr ⟨Nat.le_of_ble_eq_true rfl, Nat.le_of_ble_eq_true rfl⟩ dX10_meet_107
theorem dX10_pick_0 : decode cX10_pick 0 = .ok (.aload_n 0, 1) := by decide +kernel
theorem dX10_pick_1 : decode cX10_pick 1 = .ok (.iload_n 1, 1) := by decide +kernel
theorem dX10_pick_2 : decode cX10_pick 2 = .ok (.invokevirtual 156, 3) := by decide +kernel
theorem dX10_pick_5 : decode cX10_pick 5 = .ok (.pop, 1) := by decide +kernel
theorem dX10_pick_6 : decode cX10_pick 6 = .ok (.aload_n 0, 1) := by decide +kernel
theorem dX10_pick_7 : decode cX10_pick 7 = .ok (.getfield 35, 3) := by decide +kernel
theorem dX10_pick_10 : decode cX10_pick 10 = .ok (.aload_n 0, 1) := by decide +kernel
theorem dX10_pick_11 : decode cX10_pick 11 = .ok (.getfield 70, 3) := by decide +kernel
theorem dX10_pick_14 : decode cX10_pick 14 = .ok (.invokevirtual 243, 3) := by decide +kernel
theorem dX10_pick_17 : decode cX10_pick 17 = .ok (.aload_n 0, 1) := by decide +kernel
theorem dX10_pick_18 : decode cX10_pick 18 = .ok (.getfield 70, 3) := by decide +kernel
theorem dX10_pick_21 : decode cX10_pick 21 = .ok (.iload_n 1, 1) := by decide +kernel
theorem dX10_pick_22 : decode cX10_pick 22 = .ok (.invokevirtual 283, 3) := by decide +kernel
theorem dX10_pick_25 : decode cX10_pick 25 = .ok (.aload_n 0, 1) := by decide +kernel
theorem dX10_pick_26 : decode cX10_pick 26 = .ok (.getfield 70, 3) := by decide +kernel
theorem dX10_pick_29 : decode cX10_pick 29 = .ok (.getfield 286, 3) := by decide +kernel
theorem dX10_pick_32 : decode cX10_pick 32 = .ok (.ireturn, 1) := by decide +kernel
theorem lv_RX10_283 : gLv RX10 283 RX6 yX6_removeRope cX6_removeRope 3 none 1 := gLv_of (wA_t (wt5 (List.mem_of_getElem? (i := 218) (by decide +kernel))) (by decide +kernel)) (wA_t (wt5 (List.mem_of_getElem? (i := 219) (by decide +kernel))) (by decide +kernel)) (wA_t (wt5 (List.mem_of_getElem? (i := 220) (by decide +kernel))) (by decide +kernel)) (wA_t (wt1 (List.mem_of_getElem? (i := 6) (by decide +kernel))) (by decide +kernel)) (wA_t (wt5 (List.mem_of_getElem? (i := 221) (by decide +kernel))) (by decide +kernel)) ⟨rfl, by decide +kernel, by decide +kernel, by decide +kernel⟩
def rm_X10_pick : Room := { frames := 7, cells := 1, slots := 6, locals := 141 }
def f_X10_pick (τ : gτ) (n : Nat) (x0 : Nat) (x1 : Int32) (G : gG) : Option ((String ⊕ Int32) × gG) :=
  gBindX (f_X10_ropeOf τ x0 x1 G) fun a1 G2 =>
  gchk (gkd τ a1 5) <|
  (gr G2 10 3 x0).bind fun a3 =>
  (gr G2 10 10 x0).bind fun a4 =>
  (f_X3_keep τ n a3 a4 G2).bind fun G5 =>
  (gr G5 10 10 x0).bind fun a6 =>
  (f_X6_removeRope τ n a6 x1 G5).bind fun G7 =>
  (gr G7 10 10 x0).bind fun a8 =>
  some (.inr (gi G7 6 5 a8), G7)
set_option maxHeartbeats 4000000 in
set_option maxRecDepth 100000 in
theorem c_X10_pick (l : Launch) (X : gX) (τ : gτ) (n : Nat) (hS : gS0 l X) (x0 : Nat) (x1 : Int32) (G : gG) (h0 : gK τ x0 10) {r : String ⊕ Int32} {G' : gG} (h : f_X10_pick τ n x0 x1 G = some (r, G')) : gMX l X τ yX10_pick cX10_pick 2 (some .int) rm_X10_pick [.ref x0, .int x1] G (gOi r) G' := by
  refine g_bodyX (by decide +kernel) (Nat.le_of_ble_eq_true rfl) ?_
  intro p e s m args below meth c ls fx hr hxt hw hl
  have fx : gFx X p s m args meth c cX10_pick 2 RX10 := fx
  have hl : lv_has ls 2 [(0, .ref x0), (1, .int x1)] := hl
  have hok : gOk (f_X10_pick τ n x0 x1 G) (fun q => q = (r, G')) := ⟨_, h, rfl⟩
  unfold f_X10_pick at hok
  show W p l e rm_X10_pick s m args below meth c s.heap [] 0 0 (vx_MQ below (gQX X τ (gOi r) G') (gXC X τ (gOi r) G') args s rm_X10_pick.cells rm_X10_pick.slots (gFree X)) _
  refine lv_aload_n fx.1 fx.2.1 dX10_pick_0 rfl (lv_at hl 0 rfl) ?_
  refine lv_iload_n fx.1 fx.2.1 dX10_pick_1 rfl (lv_at hl 1 rfl) ?_
  rcases gOk_bindX hok with ⟨E, G9, hf, hK⟩ | ⟨a1, G2, hf, hok⟩
  · have hK : (Sum.inl E, G9) = (r, G') := hK
    cases hK
    refine g_callVX (κ := 10) (As := [.int x1]) fx hw hxt (c_X10_ropeOf l X τ hS x0 x1 G h0 hf) lv_RX10_156 rfl rfl h0 rfl hl.1 rfl ⟨Nat.le_of_ble_eq_true rfl, Nat.le_of_ble_eq_true rfl⟩ (Nat.le_of_ble_eq_true rfl) ⟨Nat.le_of_ble_eq_true rfl, Nat.le_of_ble_eq_true rfl⟩ ⟨Nat.le_of_ble_eq_true rfl, Nat.le_of_ble_eq_true rfl⟩ dX10_pick_2 (fun u H locs hv hw => ?_) (fun E9 hE => ?_)
    · have hv : (Sum.inl E : String ⊕ Option Value) = Sum.inr u := hv
      cases hv
    · have hE : (Sum.inl E : String ⊕ Option Value) = Sum.inl E9 := hE
      cases hE
      exact ⟨rfl, rfl⟩
  refine g_callVX (κ := 10) (As := [.int x1]) fx hw hxt (c_X10_ropeOf l X τ hS x0 x1 G h0 hf) lv_RX10_156 rfl rfl h0 rfl hl.1 rfl ⟨Nat.le_of_ble_eq_true rfl, Nat.le_of_ble_eq_true rfl⟩ (Nat.le_of_ble_eq_true rfl) ⟨Nat.le_of_ble_eq_true rfl, Nat.le_of_ble_eq_true rfl⟩ ⟨Nat.le_of_ble_eq_true rfl, Nat.le_of_ble_eq_true rfl⟩ dX10_pick_2 (fun u9 H locs hv hw => ?_) (fun E9 hE => by have hE : (Sum.inr (some (.ref a1)) : String ⊕ Option Value) = Sum.inl E9 := hE; cases hE)
  have hv : (Sum.inr (some (.ref a1)) : String ⊕ Option Value) = Sum.inr u9 := hv
  cases hv
  obtain ⟨h_a1, hok⟩ := gOk_chk hok
  have h_a1 : gK τ a1 5 := gkd_K h_a1
  refine lv_pop fx.1 fx.2.1 dX10_pick_5 rfl ?_
  refine lv_aload_n fx.1 fx.2.1 dX10_pick_6 rfl (lv_at hl 0 rfl) ?_
  refine g_getr fx hw h0 lf_RX10_35 rfl dX10_pick_7 hok (fun a3 h_a3 hok => ?_)
  refine lv_aload_n fx.1 fx.2.1 dX10_pick_10 rfl (lv_at hl 0 rfl) ?_
  refine g_getr fx hw h0 lf_RX10_70 rfl dX10_pick_11 hok (fun a4 h_a4 hok => ?_)
  obtain ⟨G5, hf, hok⟩ := gOk_bind hok
  refine g_callV0 (κ := 3) fx hw (c_X3_keep l X τ n a3 a4 G2 h_a3 h_a4 hf) lv_RX10_243 ⟨rfl, rfl⟩ rfl rfl h_a3 rfl hl.1 rfl ⟨Nat.le_of_ble_eq_true rfl, Nat.le_of_ble_eq_true rfl⟩ (Nat.le_of_ble_eq_true rfl) ⟨Nat.le_of_ble_eq_true rfl, Nat.le_of_ble_eq_true rfl⟩ dX10_pick_14 (fun H locs hw => ?_)
  refine lv_aload_n fx.1 fx.2.1 dX10_pick_17 rfl (lv_at hl 0 rfl) ?_
  refine g_getr fx hw h0 lf_RX10_70 rfl dX10_pick_18 hok (fun a6 h_a6 hok => ?_)
  refine lv_iload_n fx.1 fx.2.1 dX10_pick_21 rfl (lv_at hl 1 rfl) ?_
  obtain ⟨G7, hf, hok⟩ := gOk_bind hok
  refine g_callV0 (κ := 6) fx hw (c_X6_removeRope l X τ n a6 x1 G5 h_a6 hf) lv_RX10_283 ⟨rfl, rfl⟩ rfl rfl h_a6 rfl hl.1 rfl ⟨Nat.le_of_ble_eq_true rfl, Nat.le_of_ble_eq_true rfl⟩ (Nat.le_of_ble_eq_true rfl) ⟨Nat.le_of_ble_eq_true rfl, Nat.le_of_ble_eq_true rfl⟩ dX10_pick_22 (fun H locs hw => ?_)
  refine lv_aload_n fx.1 fx.2.1 dX10_pick_25 rfl (lv_at hl 0 rfl) ?_
  refine g_getr fx hw h0 lf_RX10_70 rfl dX10_pick_26 hok (fun a8 h_a8 hok => ?_)
  refine g_geti fx hw h_a8 lf_RX10_286 rfl dX10_pick_29 ?_
  cases gOk_some hok
  exact g_iretX fx hw hr ⟨Nat.le_of_ble_eq_true rfl, Nat.le_of_ble_eq_true rfl⟩ dX10_pick_32
