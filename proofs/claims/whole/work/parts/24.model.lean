theorem dX11_cheapest_0 : decode cX11_cheapest 0 = .ok (.aload_n 0, 1) := by decide +kernel
theorem dX11_cheapest_1 : decode cX11_cheapest 1 = .ok (.iconst 0, 1) := by decide +kernel
theorem dX11_cheapest_2 : decode cX11_cheapest 2 = .ok (.putfield 3, 3) := by decide +kernel
theorem dX11_cheapest_5 : decode cX11_cheapest 5 = .ok (.aload_n 0, 1) := by decide +kernel
theorem dX11_cheapest_6 : decode cX11_cheapest 6 = .ok (.aload_n 0, 1) := by decide +kernel
theorem dX11_cheapest_7 : decode cX11_cheapest 7 = .ok (.iload_n 1, 1) := by decide +kernel
theorem dX11_cheapest_8 : decode cX11_cheapest 8 = .ok (.invokevirtual 333, 3) := by decide +kernel
theorem dX11_cheapest_11 : decode cX11_cheapest 11 = .ok (.iconst 1, 1) := by decide +kernel
theorem dX11_cheapest_12 : decode cX11_cheapest 12 = .ok (.invokevirtual 263, 3) := by decide +kernel
theorem dX11_cheapest_15 : decode cX11_cheapest 15 = .ok (.ifCond .eq 7, 3) := by decide +kernel
theorem dX11_cheapest_18 : decode cX11_cheapest 18 = .ok (.iconst 0, 1) := by decide +kernel
theorem dX11_cheapest_19 : decode cX11_cheapest 19 = .ok (.goto 8, 3) := by decide +kernel
theorem dX11_cheapest_22 : decode cX11_cheapest 22 = .ok (.aload_n 0, 1) := by decide +kernel
theorem dX11_cheapest_23 : decode cX11_cheapest 23 = .ok (.iload_n 1, 1) := by decide +kernel
theorem dX11_cheapest_24 : decode cX11_cheapest 24 = .ok (.invokevirtual 380, 3) := by decide +kernel
theorem dX11_cheapest_27 : decode cX11_cheapest 27 = .ok (.ireturn, 1) := by decide +kernel
theorem lv_RX11_380 : gLv RX11 380 RX11 yX11_cheapestOf cX11_cheapestOf 9 (some .int) 1 := gLv_of (wA_t (wt8 (List.mem_of_getElem? (i := 194) (by decide +kernel))) (by decide +kernel)) (wA_t (wt8 (List.mem_of_getElem? (i := 196) (by decide +kernel))) (by decide +kernel)) (wA_of (List.mem_append_left _ (List.mem_map.mpr ⟨(⟨"YearRopeModel", "cheapestOf", "(I)I"⟩, 20), wp7 (List.mem_of_getElem? (i := 11) (by decide +kernel)), rfl⟩)) (by decide +kernel)) (wA_t (wt1 (List.mem_of_getElem? (i := 12) (by decide +kernel))) (by decide +kernel)) (wA_t (wt8 (List.mem_of_getElem? (i := 197) (by decide +kernel))) (by decide +kernel)) ⟨rfl, by decide +kernel, by decide +kernel, by decide +kernel⟩
def rm_X11_cheapest : Room := { frames := 10, cells := 0, slots := 0, locals := 237 }
def f_X11_cheapest (τ : gτ) (n : Nat) (x0 : Nat) (x1 : Int32) (G : gG) : Option (Int32 × gG) :=
  gLet (gsi G 11 0 x0 (0 : Int32)) fun G1 =>
  (f_X11_noOrder τ x0 x1 G1).bind fun v2 =>
  gBind2 (f_X11_throwsIf x0 v2 (1 : Int32) G1) fun v3 G4 =>
  if v3 = 0 then (gBind2 (f_X11_cheapestOf τ n x0 x1 G4) fun v5 G6 =>
  some (v5, G6))
  else (some (0, G4))
set_option maxHeartbeats 4000000 in
set_option maxRecDepth 100000 in
theorem c_X11_cheapest (l : Launch) (X : gX) (τ : gτ) (n : Nat) (x0 : Nat) (x1 : Int32) (G : gG) (h0 : gK τ x0 11) {r : Int32} {G' : gG} (h : f_X11_cheapest τ n x0 x1 G = some (r, G')) : gM l X τ yX11_cheapest cX11_cheapest 2 (some .int) rm_X11_cheapest [.ref x0, .int x1] G (some (.int r)) G' := by
  refine g_body (by decide +kernel) (Nat.le_of_ble_eq_true rfl) ?_
  intro p e s m args below meth c ls fx hr hw hl
  have fx : gFx X p s m args meth c cX11_cheapest 2 RX11 := fx
  have hl : lv_has ls 2 [(0, .ref x0), (1, .int x1)] := hl
  have hok : gOk (f_X11_cheapest τ n x0 x1 G) (fun q => q = (r, G')) := ⟨_, h, rfl⟩
  unfold f_X11_cheapest at hok
  show W p l e rm_X11_cheapest s m args below meth c s.heap [] 0 0 (MQ below (gQ X τ (some (.int r)) G') args s 0 0 (gFree X)) _
  refine lv_aload_n fx.1 fx.2.1 dX11_cheapest_0 rfl (lv_at hl 0 rfl) ?_
  refine lv_iconst (v := 0) fx.1 fx.2.1 dX11_cheapest_1 (by decide) ?_
  refine g_puti fx hw h0 lp_RX11_3 rfl rfl dX11_cheapest_2 hok (fun G1 H locs hw hok => ?_)
  refine lv_aload_n fx.1 fx.2.1 dX11_cheapest_5 rfl (lv_at hl 0 rfl) ?_
  refine lv_aload_n fx.1 fx.2.1 dX11_cheapest_6 rfl (lv_at hl 0 rfl) ?_
  refine lv_iload_n fx.1 fx.2.1 dX11_cheapest_7 rfl (lv_at hl 1 rfl) ?_
  obtain ⟨v2, hf, hok⟩ := gOk_bind hok
  refine g_callV0 (κ := 11) fx hw (c_X11_noOrder l X τ x0 x1 G1 h0 hf) lv_RX11_333 ⟨rfl, rfl⟩ rfl rfl h0 rfl hl.1 rfl ⟨Nat.le_of_ble_eq_true rfl, Nat.le_of_ble_eq_true rfl⟩ (Nat.le_of_ble_eq_true rfl) ⟨Nat.le_of_ble_eq_true rfl, Nat.le_of_ble_eq_true rfl⟩ dX11_cheapest_8 (fun H locs hw => ?_)
  refine lv_iconst (v := 1) fx.1 fx.2.1 dX11_cheapest_11 (by decide) ?_
  obtain ⟨v3, G4, hf, hok⟩ := gOk_bind2 hok
  refine g_callV0 (κ := 11) fx hw (c_X11_throwsIf l X τ x0 v2 (1 : Int32) G1 h0 hf) lv_RX11_263 ⟨rfl, rfl⟩ rfl rfl h0 rfl hl.1 rfl ⟨Nat.le_of_ble_eq_true rfl, Nat.le_of_ble_eq_true rfl⟩ (Nat.le_of_ble_eq_true rfl) ⟨Nat.le_of_ble_eq_true rfl, Nat.le_of_ble_eq_true rfl⟩ dX11_cheapest_12 (fun H locs hw => ?_)
  refine g_if_eq (tgt := 22) fx dX11_cheapest_15 (by decide) hok (fun hok => ?_) (fun hok => ?_)
  · refine lv_aload_n fx.1 fx.2.1 dX11_cheapest_22 rfl (lv_at hl 0 rfl) ?_
    refine lv_iload_n fx.1 fx.2.1 dX11_cheapest_23 rfl (lv_at hl 1 rfl) ?_
    obtain ⟨v5, G6, hf, hok⟩ := gOk_bind2 hok
    refine g_callV0 (κ := 11) fx hw (c_X11_cheapestOf l X τ n x0 x1 G4 h0 hf) lv_RX11_380 ⟨rfl, rfl⟩ rfl rfl h0 rfl hl.1 rfl ⟨Nat.le_of_ble_eq_true rfl, Nat.le_of_ble_eq_true rfl⟩ (Nat.le_of_ble_eq_true rfl) ⟨Nat.le_of_ble_eq_true rfl, Nat.le_of_ble_eq_true rfl⟩ dX11_cheapest_24 (fun H locs hw => ?_)
    cases gOk_some hok
    exact g_iret fx hw hr dX11_cheapest_27
  · refine lv_iconst (v := 0) fx.1 fx.2.1 dX11_cheapest_18 (by decide) ?_
    refine lv_goto (tgt := 27) fx.1 fx.2.1 dX11_cheapest_19 (by decide) ?_
    cases gOk_some hok
    exact g_iret fx hw hr dX11_cheapest_27
theorem dX11_metBy_0 : decode cX11_metBy 0 = .ok (.iconst 0, 1) := by decide +kernel
theorem dX11_metBy_1 : decode cX11_metBy 1 = .ok (.istore_n 2, 1) := by decide +kernel
theorem dX11_metBy_2 : decode cX11_metBy 2 = .ok (.iconst 0, 1) := by decide +kernel
theorem dX11_metBy_3 : decode cX11_metBy 3 = .ok (.istore_n 3, 1) := by decide +kernel
theorem dX11_metBy_4 : decode cX11_metBy 4 = .ok (.iload_n 3, 1) := by decide +kernel
theorem dX11_metBy_5 : decode cX11_metBy 5 = .ok (.aload_n 0, 1) := by decide +kernel
theorem dX11_metBy_6 : decode cX11_metBy 6 = .ok (.invokevirtual 76, 3) := by decide +kernel
theorem dX11_metBy_9 : decode cX11_metBy 9 = .ok (.if_icmp .ge 28, 3) := by decide +kernel
theorem dX11_metBy_12 : decode cX11_metBy 12 = .ok (.iload_n 2, 1) := by decide +kernel
theorem dX11_metBy_13 : decode cX11_metBy 13 = .ok (.aload_n 0, 1) := by decide +kernel
theorem dX11_metBy_14 : decode cX11_metBy 14 = .ok (.iload_n 3, 1) := by decide +kernel
theorem dX11_metBy_15 : decode cX11_metBy 15 = .ok (.iload_n 1, 1) := by decide +kernel
theorem dX11_metBy_16 : decode cX11_metBy 16 = .ok (.invokevirtual 359, 3) := by decide +kernel
theorem dX11_metBy_19 : decode cX11_metBy 19 = .ok (.ifCond .eq 9, 3) := by decide +kernel
theorem dX11_metBy_22 : decode cX11_metBy 22 = .ok (.iconst 1, 1) := by decide +kernel
theorem dX11_metBy_23 : decode cX11_metBy 23 = .ok (.iload_n 3, 1) := by decide +kernel
theorem dX11_metBy_24 : decode cX11_metBy 24 = .ok (.ishl, 1) := by decide +kernel
theorem dX11_metBy_25 : decode cX11_metBy 25 = .ok (.goto 4, 3) := by decide +kernel
theorem dX11_metBy_28 : decode cX11_metBy 28 = .ok (.iconst 0, 1) := by decide +kernel
theorem dX11_metBy_29 : decode cX11_metBy 29 = .ok (.ior, 1) := by decide +kernel
theorem dX11_metBy_30 : decode cX11_metBy 30 = .ok (.istore_n 2, 1) := by decide +kernel
theorem dX11_metBy_31 : decode cX11_metBy 31 = .ok (.iinc 3 1, 3) := by decide +kernel
theorem dX11_metBy_34 : decode cX11_metBy 34 = .ok (.goto (-30), 3) := by decide +kernel
theorem dX11_metBy_37 : decode cX11_metBy 37 = .ok (.iload_n 2, 1) := by decide +kernel
theorem dX11_metBy_38 : decode cX11_metBy 38 = .ok (.ireturn, 1) := by decide +kernel
def rm_X11_metBy : Room := { frames := 9, cells := 0, slots := 0, locals := 207 }
def k_X11_metBy_29 (τ : gτ) (n : Nat) (x0 : Nat) (x1 : Int32) (x3 : Int32) (s0 : Int32) (s1 : Int32) (G : gG) : Option ((Int32 × Int32 × gG) ⊕ ((Int32 × gG))) :=
  gLet (s0 ||| s1) fun v4 =>
  gLet (x3 + 1) fun v5 =>
  some (.inl (v4, v5, G))
def b_X11_metBy_4 (τ : gτ) (n : Nat) (x0 : Nat) (x1 : Int32) (x2 : Int32) (x3 : Int32) (G : gG) : Option ((Int32 × Int32 × gG) ⊕ ((Int32 × gG))) :=
  (f_X11_orders τ x0 G).bind fun v1 =>
  if v1 ≤ x3 then (some (.inr (x2, G)))
  else (gBind2 (f_X11_canMeet τ n x0 x3 x1 G) fun v2 G3 =>
  if v2 = 0 then (k_X11_metBy_29 τ n x0 x1 x3 x2 (0 : Int32) G3)
  else (k_X11_metBy_29 τ n x0 x1 x3 x2 ((1 : Int32) <<< (x3 &&& 31)) G3))
def l_X11_metBy_4 (τ : gτ) (n : Nat) (x0 : Nat) (x1 : Int32) (x2 : Int32) (x3 : Int32) (G : gG) : Option ((Int32 × gG)) :=
  gIter (fun (q : Int32 × Int32 × gG) => b_X11_metBy_4 τ n x0 x1 q.1 q.2.1 q.2.2) n (x2, x3, G)
def f_X11_metBy (τ : gτ) (n : Nat) (x0 : Nat) (x1 : Int32) (G : gG) : Option (Int32 × gG) :=
  (l_X11_metBy_4 τ n x0 x1 (0 : Int32) (0 : Int32) G).bind fun q => gLet q.1 fun z6 => gLet q.2 fun G7 => 
  some (z6, G7)
set_option maxHeartbeats 4000000 in
set_option maxRecDepth 100000 in
theorem w_X11_metBy_29 {X : gX} {τ : gτ} {p : Program} {l : Launch} {e : Env} {s : State} {m : MethodId} {args : Array Value} {below : List Frame} {meth : Method} {c : Code} (fx : gFx X p s m args meth c cX11_metBy 4 RX11) (n : Nat) (x0 : Nat) (x1 : Int32) (x3 : Int32) (s0 : Int32) (s1 : Int32) (h0 : gK τ x0 11)  {Q : State → Prop} {K : ((Int32 × Int32 × gG) ⊕ ((Int32 × gG))) → Prop} {G : gG} {H : Heap} {locs : List Loc} {ls : Array Slot} (hw : gHw X τ G H locs) (hl : lv_has ls 4 [(0, .ref x0), (1, .int x1), (3, .int x3)]) (hok : gOk (k_X11_metBy_29 τ n x0 x1 x3 s0 s1 G) K) (hc : ∀ (y2 : Int32) (y3 : Int32) (G : gG) (H : Heap) (locs : List Loc) (ls : Array Slot), gHw X τ G H locs → lv_has ls 4 [(0, .ref x0), (1, .int x1), (2, .int y2), (3, .int y3)] → K (.inl (y2, y3, G)) → W p l e rm_X11_metBy s m args below meth c H locs 0 0 Q (F0 m 4 ls [])) (hx0 : ∀ (y2 : Int32) (G : gG) (H : Heap) (locs : List Loc) (ls : Array Slot), gHw X τ G H locs → lv_has ls 4 [(2, .int y2)] → K (.inr (y2, G)) → W p l e rm_X11_metBy s m args below meth c H locs 0 0 Q (F0 m 37 ls [])) : W p l e rm_X11_metBy s m args below meth c H locs 0 0 Q (F0 m 29 ls [.int s1, .int s0]) := by
  unfold k_X11_metBy_29 at hok
  refine lv_ior fx.1 fx.2.1 dX11_metBy_29 ?_
  refine g_leti hok (fun v4 hok => ?_)
  refine lv_istore_n (lv' := [(2, .int v4), (0, .ref x0), (1, .int x1), (3, .int x3)]) fx.1 fx.2.1 dX11_metBy_30 rfl hl (by decide) rfl (fun ls hl => ?_)
  obtain ⟨v5, e_v5, hok⟩ := gOk_let hok
  refine lv_iinc (v := v5) (lv' := [(3, .int v5), (2, .int v4), (0, .ref x0), (1, .int x1)]) fx.1 fx.2.1 dX11_metBy_31 hl (k := 3) rfl (by rw [e_v5]; rfl) (by decide) rfl (fun ls hl => ?_)
  refine lv_goto (tgt := 4) fx.1 fx.2.1 dX11_metBy_34 (by decide) ?_
  exact hc v4 v5 G _ _ _  hw (lv_sub hl [2, 3, 1, 0] rfl) (gOk_some hok)
set_option maxHeartbeats 4000000 in
set_option maxRecDepth 100000 in
theorem w_b_X11_metBy_4 {X : gX} {τ : gτ} {p : Program} {l : Launch} {e : Env} {s : State} {m : MethodId} {args : Array Value} {below : List Frame} {meth : Method} {c : Code} (fx : gFx X p s m args meth c cX11_metBy 4 RX11) (n : Nat) (x0 : Nat) (x1 : Int32) (x2 : Int32) (x3 : Int32) (h0 : gK τ x0 11) {Q : State → Prop} {K : ((Int32 × Int32 × gG) ⊕ ((Int32 × gG))) → Prop} {G : gG} {H : Heap} {locs : List Loc} {ls : Array Slot} (hw : gHw X τ G H locs) (hl : lv_has ls 4 [(0, .ref x0), (1, .int x1), (2, .int x2), (3, .int x3)]) (hok : gOk (b_X11_metBy_4 τ n x0 x1 x2 x3 G) K) (hc : ∀ (y2 : Int32) (y3 : Int32) (G : gG) (H : Heap) (locs : List Loc) (ls : Array Slot), gHw X τ G H locs → lv_has ls 4 [(0, .ref x0), (1, .int x1), (2, .int y2), (3, .int y3)] → K (.inl (y2, y3, G)) → W p l e rm_X11_metBy s m args below meth c H locs 0 0 Q (F0 m 4 ls [])) (hx0 : ∀ (y2 : Int32) (G : gG) (H : Heap) (locs : List Loc) (ls : Array Slot), gHw X τ G H locs → lv_has ls 4 [(2, .int y2)] → K (.inr (y2, G)) → W p l e rm_X11_metBy s m args below meth c H locs 0 0 Q (F0 m 37 ls [])) : W p l e rm_X11_metBy s m args below meth c H locs 0 0 Q (F0 m 4 ls []) := by
  unfold b_X11_metBy_4 at hok
  refine lv_iload_n fx.1 fx.2.1 dX11_metBy_4 rfl (lv_at hl 3 rfl) ?_
  refine lv_aload_n fx.1 fx.2.1 dX11_metBy_5 rfl (lv_at hl 0 rfl) ?_
  obtain ⟨v1, hf, hok⟩ := gOk_bind hok
  refine g_callV0 (κ := 11) fx hw (c_X11_orders l X τ x0 G h0 hf) lv_RX11_76 ⟨rfl, rfl⟩ rfl rfl h0 rfl hl.1 rfl ⟨Nat.le_of_ble_eq_true rfl, Nat.le_of_ble_eq_true rfl⟩ (Nat.le_of_ble_eq_true rfl) ⟨Nat.le_of_ble_eq_true rfl, Nat.le_of_ble_eq_true rfl⟩ dX11_metBy_6 (fun H locs hw => ?_)
  refine g_icmp_ge (tgt := 37) fx dX11_metBy_9 (by decide) hok (fun hok => ?_) (fun hok => ?_)
  · exact hx0 x2 G _ _ _  hw (lv_sub hl [2] rfl) (gOk_some hok)
  · refine lv_iload_n fx.1 fx.2.1 dX11_metBy_12 rfl (lv_at hl 2 rfl) ?_
    refine lv_aload_n fx.1 fx.2.1 dX11_metBy_13 rfl (lv_at hl 0 rfl) ?_
    refine lv_iload_n fx.1 fx.2.1 dX11_metBy_14 rfl (lv_at hl 3 rfl) ?_
    refine lv_iload_n fx.1 fx.2.1 dX11_metBy_15 rfl (lv_at hl 1 rfl) ?_
    obtain ⟨v2, G3, hf, hok⟩ := gOk_bind2 hok
    refine g_callV0 (κ := 11) fx hw (c_X11_canMeet l X τ n x0 x3 x1 G h0 hf) lv_RX11_359 ⟨rfl, rfl⟩ rfl rfl h0 rfl hl.1 rfl ⟨Nat.le_of_ble_eq_true rfl, Nat.le_of_ble_eq_true rfl⟩ (Nat.le_of_ble_eq_true rfl) ⟨Nat.le_of_ble_eq_true rfl, Nat.le_of_ble_eq_true rfl⟩ dX11_metBy_16 (fun H locs hw => ?_)
    refine g_if_eq (tgt := 28) fx dX11_metBy_19 (by decide) hok (fun hok => ?_) (fun hok => ?_)
    · refine lv_iconst (v := 0) fx.1 fx.2.1 dX11_metBy_28 (by decide) ?_
      exact w_X11_metBy_29 fx n x0 x1 x3 x2 (0 : Int32) h0  hw (lv_sub hl [0, 1, 3] rfl) hok hc hx0
    · refine lv_iconst (v := 1) fx.1 fx.2.1 dX11_metBy_22 (by decide) ?_
      refine lv_iload_n fx.1 fx.2.1 dX11_metBy_23 rfl (lv_at hl 3 rfl) ?_
      refine lv_ishl fx.1 fx.2.1 dX11_metBy_24 ?_
      refine lv_goto (tgt := 29) fx.1 fx.2.1 dX11_metBy_25 (by decide) ?_
      exact w_X11_metBy_29 fx n x0 x1 x3 x2 ((1 : Int32) <<< (x3 &&& 31)) h0  hw (lv_sub hl [0, 1, 3] rfl) hok hc hx0
theorem w_l_X11_metBy_4 {X : gX} {τ : gτ} {p : Program} {l : Launch} {e : Env} {s : State} {m : MethodId} {args : Array Value} {below : List Frame} {meth : Method} {c : Code} (fx : gFx X p s m args meth c cX11_metBy 4 RX11) (n : Nat) (x0 : Nat) (x1 : Int32) (h0 : gK τ x0 11) {Q : State → Prop} {K : ((Int32 × gG)) → Prop} (hx0 : ∀ (y2 : Int32) (G : gG) (H : Heap) (locs : List Loc) (ls : Array Slot), gHw X τ G H locs → lv_has ls 4 [(2, .int y2)] → K (y2, G) → W p l e rm_X11_metBy s m args below meth c H locs 0 0 Q (F0 m 37 ls [])) : ∀ (k : Nat) (x2 : Int32) (x3 : Int32) (G : gG) (H : Heap) (locs : List Loc) (ls : Array Slot), gHw X τ G H locs → lv_has ls 4 [(0, .ref x0), (1, .int x1), (2, .int x2), (3, .int x3)] → gOk (gIter (fun (q : Int32 × Int32 × gG) => b_X11_metBy_4 τ n x0 x1 q.1 q.2.1 q.2.2) k (x2, x3, G)) K → W p l e rm_X11_metBy s m args below meth c H locs 0 0 Q (F0 m 4 ls []) := by
  intro k
  induction k with
  | zero =>
    intro x2 x3 G H locs ls hw hl hok
    exact gOk_iter0 hok
  | succ k hc =>
    intro x2 x3 G H locs ls hw hl hok
    exact w_b_X11_metBy_4 fx n x0 x1 x2 x3 h0 hw hl (gOk_iter hok) hc hx0
set_option maxHeartbeats 4000000 in
set_option maxRecDepth 100000 in
theorem c_X11_metBy (l : Launch) (X : gX) (τ : gτ) (n : Nat) (x0 : Nat) (x1 : Int32) (G : gG) (h0 : gK τ x0 11) {r : Int32} {G' : gG} (h : f_X11_metBy τ n x0 x1 G = some (r, G')) : gM l X τ yX11_metBy cX11_metBy 4 (some .int) rm_X11_metBy [.ref x0, .int x1] G (some (.int r)) G' := by
  refine g_body (by decide +kernel) (Nat.le_of_ble_eq_true rfl) ?_
  intro p e s m args below meth c ls fx hr hw hl
  have fx : gFx X p s m args meth c cX11_metBy 4 RX11 := fx
  have hl : lv_has ls 4 [(0, .ref x0), (1, .int x1)] := hl
  have hok : gOk (f_X11_metBy τ n x0 x1 G) (fun q => q = (r, G')) := ⟨_, h, rfl⟩
  unfold f_X11_metBy at hok
  show W p l e rm_X11_metBy s m args below meth c s.heap [] 0 0 (MQ below (gQ X τ (some (.int r)) G') args s 0 0 (gFree X)) _
  refine lv_iconst (v := 0) fx.1 fx.2.1 dX11_metBy_0 (by decide) ?_
  refine lv_istore_n (lv' := [(2, .int (0 : Int32)), (0, .ref x0), (1, .int x1)]) fx.1 fx.2.1 dX11_metBy_1 rfl hl (by decide) rfl (fun ls hl => ?_)
  refine lv_iconst (v := 0) fx.1 fx.2.1 dX11_metBy_2 (by decide) ?_
  refine lv_istore_n (lv' := [(3, .int (0 : Int32)), (2, .int (0 : Int32)), (0, .ref x0), (1, .int x1)]) fx.1 fx.2.1 dX11_metBy_3 rfl hl (by decide) rfl (fun ls hl => ?_)
  refine w_l_X11_metBy_4 fx n x0 x1 h0 ?_ n (0 : Int32) (0 : Int32) G _ _ _  hw (lv_sub hl [2, 3, 1, 0] rfl) (gOk_bindK hok)
  intro z6 G7 H locs ls hw hl hok
  have hok : gOk (ρ := Int32 × gG) (some (z6, G7)) _ := hok
  refine lv_iload_n fx.1 fx.2.1 dX11_metBy_37 rfl (lv_at hl 0 rfl) ?_
  cases gOk_some hok
  exact g_iret fx hw hr dX11_metBy_38
theorem dX11_can_0 : decode cX11_can 0 = .ok (.aload_n 0, 1) := by decide +kernel
theorem dX11_can_1 : decode cX11_can 1 = .ok (.iconst 0, 1) := by decide +kernel
theorem dX11_can_2 : decode cX11_can 2 = .ok (.putfield 3, 3) := by decide +kernel
theorem dX11_can_5 : decode cX11_can 5 = .ok (.iconst 0, 1) := by decide +kernel
theorem dX11_can_6 : decode cX11_can 6 = .ok (.istore_n 2, 1) := by decide +kernel
theorem dX11_can_7 : decode cX11_can 7 = .ok (.iconst 0, 1) := by decide +kernel
theorem dX11_can_8 : decode cX11_can 8 = .ok (.istore_n 3, 1) := by decide +kernel
theorem dX11_can_9 : decode cX11_can 9 = .ok (.iload_n 3, 1) := by decide +kernel
theorem dX11_can_10 : decode cX11_can 10 = .ok (.aload_n 0, 1) := by decide +kernel
theorem dX11_can_11 : decode cX11_can 11 = .ok (.invokevirtual 76, 3) := by decide +kernel
theorem dX11_can_14 : decode cX11_can 14 = .ok (.if_icmp .ge 31, 3) := by decide +kernel
theorem dX11_can_17 : decode cX11_can 17 = .ok (.iload_n 1, 1) := by decide +kernel
theorem dX11_can_18 : decode cX11_can 18 = .ok (.ifCond .eq 27, 3) := by decide +kernel
theorem dX11_can_21 : decode cX11_can 21 = .ok (.iload_n 2, 1) := by decide +kernel
theorem dX11_can_22 : decode cX11_can 22 = .ok (.aload_n 0, 1) := by decide +kernel
theorem dX11_can_23 : decode cX11_can 23 = .ok (.iload_n 3, 1) := by decide +kernel
theorem dX11_can_24 : decode cX11_can 24 = .ok (.invokevirtual 380, 3) := by decide +kernel
theorem dX11_can_27 : decode cX11_can 27 = .ok (.ifCond .lt 9, 3) := by decide +kernel
theorem dX11_can_30 : decode cX11_can 30 = .ok (.iconst 1, 1) := by decide +kernel
theorem dX11_can_31 : decode cX11_can 31 = .ok (.iload_n 3, 1) := by decide +kernel
theorem dX11_can_32 : decode cX11_can 32 = .ok (.ishl, 1) := by decide +kernel
theorem dX11_can_33 : decode cX11_can 33 = .ok (.goto 4, 3) := by decide +kernel
theorem dX11_can_36 : decode cX11_can 36 = .ok (.iconst 0, 1) := by decide +kernel
theorem dX11_can_37 : decode cX11_can 37 = .ok (.ior, 1) := by decide +kernel
theorem dX11_can_38 : decode cX11_can 38 = .ok (.istore_n 2, 1) := by decide +kernel
theorem dX11_can_39 : decode cX11_can 39 = .ok (.iinc 3 1, 3) := by decide +kernel
theorem dX11_can_42 : decode cX11_can 42 = .ok (.goto (-33), 3) := by decide +kernel
theorem dX11_can_45 : decode cX11_can 45 = .ok (.iconst 0, 1) := by decide +kernel
theorem dX11_can_46 : decode cX11_can 46 = .ok (.istore_n 3, 1) := by decide +kernel
theorem dX11_can_47 : decode cX11_can 47 = .ok (.iload_n 3, 1) := by decide +kernel
theorem dX11_can_48 : decode cX11_can 48 = .ok (.aload_n 0, 1) := by decide +kernel
theorem dX11_can_49 : decode cX11_can 49 = .ok (.invokevirtual 73, 3) := by decide +kernel
theorem dX11_can_52 : decode cX11_can 52 = .ok (.if_icmp .ge 21, 3) := by decide +kernel
theorem dX11_can_55 : decode cX11_can 55 = .ok (.iload_n 1, 1) := by decide +kernel
theorem dX11_can_56 : decode cX11_can 56 = .ok (.ifCond .ne 17, 3) := by decide +kernel
theorem dX11_can_59 : decode cX11_can 59 = .ok (.iload_n 2, 1) := by decide +kernel
theorem dX11_can_60 : decode cX11_can 60 = .ok (.aload_n 0, 1) := by decide +kernel
theorem dX11_can_61 : decode cX11_can 61 = .ok (.iload_n 3, 1) := by decide +kernel
theorem dX11_can_62 : decode cX11_can 62 = .ok (.invokevirtual 383, 3) := by decide +kernel
theorem dX11_can_65 : decode cX11_can 65 = .ok (.ior, 1) := by decide +kernel
theorem dX11_can_66 : decode cX11_can 66 = .ok (.istore_n 2, 1) := by decide +kernel
theorem dX11_can_67 : decode cX11_can 67 = .ok (.iinc 3 1, 3) := by decide +kernel
theorem dX11_can_70 : decode cX11_can 70 = .ok (.goto (-23), 3) := by decide +kernel
theorem dX11_can_73 : decode cX11_can 73 = .ok (.iload_n 2, 1) := by decide +kernel
theorem dX11_can_74 : decode cX11_can 74 = .ok (.ireturn, 1) := by decide +kernel
theorem lv_RX11_383 : gLv RX11 383 RX11 yX11_metBy cX11_metBy 4 (some .int) 1 := gLv_of (wA_t (wt8 (List.mem_of_getElem? (i := 203) (by decide +kernel))) (by decide +kernel)) (wA_t (wt8 (List.mem_of_getElem? (i := 205) (by decide +kernel))) (by decide +kernel)) (wA_of (List.mem_append_left _ (List.mem_map.mpr ⟨(⟨"YearRopeModel", "metBy", "(I)I"⟩, 20), wp7 (List.mem_of_getElem? (i := 12) (by decide +kernel)), rfl⟩)) (by decide +kernel)) (wA_t (wt1 (List.mem_of_getElem? (i := 12) (by decide +kernel))) (by decide +kernel)) (wA_t (wt8 (List.mem_of_getElem? (i := 206) (by decide +kernel))) (by decide +kernel)) ⟨rfl, by decide +kernel, by decide +kernel, by decide +kernel⟩
def rm_X11_can : Room := { frames := 10, cells := 0, slots := 0, locals := 237 }
def k_X11_can_37 (τ : gτ) (n : Nat) (x0 : Nat) (x1 : Int32) (x3 : Int32) (s0 : Int32) (s1 : Int32) (G : gG) : Option ((Int32 × Int32 × gG) ⊕ ((Int32 × gG))) :=
  gLet (s0 ||| s1) fun v5 =>
  gLet (x3 + 1) fun v6 =>
  some (.inl (v5, v6, G))
def b_X11_can_9 (τ : gτ) (n : Nat) (x0 : Nat) (x1 : Int32) (x2 : Int32) (x3 : Int32) (G : gG) : Option ((Int32 × Int32 × gG) ⊕ ((Int32 × gG))) :=
  (f_X11_orders τ x0 G).bind fun v2 =>
  if v2 ≤ x3 then (some (.inr (x2, G)))
  else (if x1 = 0 then (some (.inr (x2, G)))
  else (gBind2 (f_X11_cheapestOf τ n x0 x3 G) fun v3 G4 =>
  if v3 < 0 then (k_X11_can_37 τ n x0 x1 x3 x2 (0 : Int32) G4)
  else (k_X11_can_37 τ n x0 x1 x3 x2 ((1 : Int32) <<< (x3 &&& 31)) G4)))
def l_X11_can_9 (τ : gτ) (n : Nat) (x0 : Nat) (x1 : Int32) (x2 : Int32) (x3 : Int32) (G : gG) : Option ((Int32 × gG)) :=
  gIter (fun (q : Int32 × Int32 × gG) => b_X11_can_9 τ n x0 x1 q.1 q.2.1 q.2.2) n (x2, x3, G)
def b_X11_can_47 (τ : gτ) (n : Nat) (x0 : Nat) (x1 : Int32) (x2 : Int32) (x3 : Int32) (G : gG) : Option ((Int32 × Int32 × gG) ⊕ ((Int32 × gG))) :=
  (f_X11_ropes τ x0 G).bind fun v9 =>
  if v9 ≤ x3 then (some (.inr (x2, G)))
  else (if x1 = 0 then (gBind2 (f_X11_metBy τ n x0 x3 G) fun v10 G11 =>
  gLet (x2 ||| v10) fun v12 =>
  gLet (x3 + 1) fun v13 =>
  some (.inl (v12, v13, G11)))
  else (some (.inr (x2, G))))
def l_X11_can_47 (τ : gτ) (n : Nat) (x0 : Nat) (x1 : Int32) (x2 : Int32) (x3 : Int32) (G : gG) : Option ((Int32 × gG)) :=
  gIter (fun (q : Int32 × Int32 × gG) => b_X11_can_47 τ n x0 x1 q.1 q.2.1 q.2.2) n (x2, x3, G)
def k_X11_can_45 (τ : gτ) (n : Nat) (x0 : Nat) (x1 : Int32) (x2 : Int32)  (G : gG) : Option (Int32 × gG) :=
  (l_X11_can_47 τ n x0 x1 x2 (0 : Int32) G).bind fun q => gLet q.1 fun z14 => gLet q.2 fun G15 => 
  some (z14, G15)
def f_X11_can (τ : gτ) (n : Nat) (x0 : Nat) (x1 : Int32) (G : gG) : Option (Int32 × gG) :=
  gLet (gsi G 11 0 x0 (0 : Int32)) fun G1 =>
  (l_X11_can_9 τ n x0 x1 (0 : Int32) (0 : Int32) G1).bind fun q => gLet q.1 fun z7 => gLet q.2 fun G8 => 
  k_X11_can_45 τ n x0 x1 z7  G8
set_option maxHeartbeats 4000000 in
set_option maxRecDepth 100000 in
theorem w_X11_can_37 {X : gX} {τ : gτ} {p : Program} {l : Launch} {e : Env} {s : State} {m : MethodId} {args : Array Value} {below : List Frame} {meth : Method} {c : Code} (fx : gFx X p s m args meth c cX11_can 4 RX11) (n : Nat) (x0 : Nat) (x1 : Int32) (x3 : Int32) (s0 : Int32) (s1 : Int32) (h0 : gK τ x0 11)  {Q : State → Prop} {K : ((Int32 × Int32 × gG) ⊕ ((Int32 × gG))) → Prop} {G : gG} {H : Heap} {locs : List Loc} {ls : Array Slot} (hw : gHw X τ G H locs) (hl : lv_has ls 4 [(0, .ref x0), (1, .int x1), (3, .int x3)]) (hok : gOk (k_X11_can_37 τ n x0 x1 x3 s0 s1 G) K) (hc : ∀ (y2 : Int32) (y3 : Int32) (G : gG) (H : Heap) (locs : List Loc) (ls : Array Slot), gHw X τ G H locs → lv_has ls 4 [(0, .ref x0), (1, .int x1), (2, .int y2), (3, .int y3)] → K (.inl (y2, y3, G)) → W p l e rm_X11_can s m args below meth c H locs 0 0 Q (F0 m 9 ls [])) (hx0 : ∀ (y2 : Int32) (G : gG) (H : Heap) (locs : List Loc) (ls : Array Slot), gHw X τ G H locs → lv_has ls 4 [(0, .ref x0), (1, .int x1), (2, .int y2)] → K (.inr (y2, G)) → W p l e rm_X11_can s m args below meth c H locs 0 0 Q (F0 m 45 ls [])) : W p l e rm_X11_can s m args below meth c H locs 0 0 Q (F0 m 37 ls [.int s1, .int s0]) := by
  unfold k_X11_can_37 at hok
  refine lv_ior fx.1 fx.2.1 dX11_can_37 ?_
  refine g_leti hok (fun v5 hok => ?_)
  refine lv_istore_n (lv' := [(2, .int v5), (0, .ref x0), (1, .int x1), (3, .int x3)]) fx.1 fx.2.1 dX11_can_38 rfl hl (by decide) rfl (fun ls hl => ?_)
  obtain ⟨v6, e_v6, hok⟩ := gOk_let hok
  refine lv_iinc (v := v6) (lv' := [(3, .int v6), (2, .int v5), (0, .ref x0), (1, .int x1)]) fx.1 fx.2.1 dX11_can_39 hl (k := 3) rfl (by rw [e_v6]; rfl) (by decide) rfl (fun ls hl => ?_)
  refine lv_goto (tgt := 9) fx.1 fx.2.1 dX11_can_42 (by decide) ?_
  exact hc v5 v6 G _ _ _  hw (lv_sub hl [2, 3, 1, 0] rfl) (gOk_some hok)
set_option maxHeartbeats 4000000 in
set_option maxRecDepth 100000 in
theorem w_b_X11_can_9 {X : gX} {τ : gτ} {p : Program} {l : Launch} {e : Env} {s : State} {m : MethodId} {args : Array Value} {below : List Frame} {meth : Method} {c : Code} (fx : gFx X p s m args meth c cX11_can 4 RX11) (n : Nat) (x0 : Nat) (x1 : Int32) (x2 : Int32) (x3 : Int32) (h0 : gK τ x0 11) {Q : State → Prop} {K : ((Int32 × Int32 × gG) ⊕ ((Int32 × gG))) → Prop} {G : gG} {H : Heap} {locs : List Loc} {ls : Array Slot} (hw : gHw X τ G H locs) (hl : lv_has ls 4 [(0, .ref x0), (1, .int x1), (2, .int x2), (3, .int x3)]) (hok : gOk (b_X11_can_9 τ n x0 x1 x2 x3 G) K) (hc : ∀ (y2 : Int32) (y3 : Int32) (G : gG) (H : Heap) (locs : List Loc) (ls : Array Slot), gHw X τ G H locs → lv_has ls 4 [(0, .ref x0), (1, .int x1), (2, .int y2), (3, .int y3)] → K (.inl (y2, y3, G)) → W p l e rm_X11_can s m args below meth c H locs 0 0 Q (F0 m 9 ls [])) (hx0 : ∀ (y2 : Int32) (G : gG) (H : Heap) (locs : List Loc) (ls : Array Slot), gHw X τ G H locs → lv_has ls 4 [(0, .ref x0), (1, .int x1), (2, .int y2)] → K (.inr (y2, G)) → W p l e rm_X11_can s m args below meth c H locs 0 0 Q (F0 m 45 ls [])) : W p l e rm_X11_can s m args below meth c H locs 0 0 Q (F0 m 9 ls []) := by
  unfold b_X11_can_9 at hok
  refine lv_iload_n fx.1 fx.2.1 dX11_can_9 rfl (lv_at hl 3 rfl) ?_
  refine lv_aload_n fx.1 fx.2.1 dX11_can_10 rfl (lv_at hl 0 rfl) ?_
  obtain ⟨v2, hf, hok⟩ := gOk_bind hok
  refine g_callV0 (κ := 11) fx hw (c_X11_orders l X τ x0 G h0 hf) lv_RX11_76 ⟨rfl, rfl⟩ rfl rfl h0 rfl hl.1 rfl ⟨Nat.le_of_ble_eq_true rfl, Nat.le_of_ble_eq_true rfl⟩ (Nat.le_of_ble_eq_true rfl) ⟨Nat.le_of_ble_eq_true rfl, Nat.le_of_ble_eq_true rfl⟩ dX11_can_11 (fun H locs hw => ?_)
  refine g_icmp_ge (tgt := 45) fx dX11_can_14 (by decide) hok (fun hok => ?_) (fun hok => ?_)
  · exact hx0 x2 G _ _ _  hw (lv_sub hl [0, 1, 2] rfl) (gOk_some hok)
  · refine lv_iload_n fx.1 fx.2.1 dX11_can_17 rfl (lv_at hl 1 rfl) ?_
    refine g_if_eq (tgt := 45) fx dX11_can_18 (by decide) hok (fun hok => ?_) (fun hok => ?_)
    · exact hx0 x2 G _ _ _  hw (lv_sub hl [0, 1, 2] rfl) (gOk_some hok)
    · refine lv_iload_n fx.1 fx.2.1 dX11_can_21 rfl (lv_at hl 2 rfl) ?_
      refine lv_aload_n fx.1 fx.2.1 dX11_can_22 rfl (lv_at hl 0 rfl) ?_
      refine lv_iload_n fx.1 fx.2.1 dX11_can_23 rfl (lv_at hl 3 rfl) ?_
      obtain ⟨v3, G4, hf, hok⟩ := gOk_bind2 hok
      refine g_callV0 (κ := 11) fx hw (c_X11_cheapestOf l X τ n x0 x3 G h0 hf) lv_RX11_380 ⟨rfl, rfl⟩ rfl rfl h0 rfl hl.1 rfl ⟨Nat.le_of_ble_eq_true rfl, Nat.le_of_ble_eq_true rfl⟩ (Nat.le_of_ble_eq_true rfl) ⟨Nat.le_of_ble_eq_true rfl, Nat.le_of_ble_eq_true rfl⟩ dX11_can_24 (fun H locs hw => ?_)
      refine g_if_lt (tgt := 36) fx dX11_can_27 (by decide) hok (fun hok => ?_) (fun hok => ?_)
      · refine lv_iconst (v := 0) fx.1 fx.2.1 dX11_can_36 (by decide) ?_
        exact w_X11_can_37 fx n x0 x1 x3 x2 (0 : Int32) h0  hw (lv_sub hl [0, 1, 3] rfl) hok hc hx0
      · refine lv_iconst (v := 1) fx.1 fx.2.1 dX11_can_30 (by decide) ?_
        refine lv_iload_n fx.1 fx.2.1 dX11_can_31 rfl (lv_at hl 3 rfl) ?_
        refine lv_ishl fx.1 fx.2.1 dX11_can_32 ?_
        refine lv_goto (tgt := 37) fx.1 fx.2.1 dX11_can_33 (by decide) ?_
        exact w_X11_can_37 fx n x0 x1 x3 x2 ((1 : Int32) <<< (x3 &&& 31)) h0  hw (lv_sub hl [0, 1, 3] rfl) hok hc hx0
theorem w_l_X11_can_9 {X : gX} {τ : gτ} {p : Program} {l : Launch} {e : Env} {s : State} {m : MethodId} {args : Array Value} {below : List Frame} {meth : Method} {c : Code} (fx : gFx X p s m args meth c cX11_can 4 RX11) (n : Nat) (x0 : Nat) (x1 : Int32) (h0 : gK τ x0 11) {Q : State → Prop} {K : ((Int32 × gG)) → Prop} (hx0 : ∀ (y2 : Int32) (G : gG) (H : Heap) (locs : List Loc) (ls : Array Slot), gHw X τ G H locs → lv_has ls 4 [(0, .ref x0), (1, .int x1), (2, .int y2)] → K (y2, G) → W p l e rm_X11_can s m args below meth c H locs 0 0 Q (F0 m 45 ls [])) : ∀ (k : Nat) (x2 : Int32) (x3 : Int32) (G : gG) (H : Heap) (locs : List Loc) (ls : Array Slot), gHw X τ G H locs → lv_has ls 4 [(0, .ref x0), (1, .int x1), (2, .int x2), (3, .int x3)] → gOk (gIter (fun (q : Int32 × Int32 × gG) => b_X11_can_9 τ n x0 x1 q.1 q.2.1 q.2.2) k (x2, x3, G)) K → W p l e rm_X11_can s m args below meth c H locs 0 0 Q (F0 m 9 ls []) := by
  intro k
  induction k with
  | zero =>
    intro x2 x3 G H locs ls hw hl hok
    exact gOk_iter0 hok
  | succ k hc =>
    intro x2 x3 G H locs ls hw hl hok
    exact w_b_X11_can_9 fx n x0 x1 x2 x3 h0 hw hl (gOk_iter hok) hc hx0
set_option maxHeartbeats 4000000 in
set_option maxRecDepth 100000 in
theorem w_b_X11_can_47 {X : gX} {τ : gτ} {p : Program} {l : Launch} {e : Env} {s : State} {m : MethodId} {args : Array Value} {below : List Frame} {meth : Method} {c : Code} (fx : gFx X p s m args meth c cX11_can 4 RX11) (n : Nat) (x0 : Nat) (x1 : Int32) (x2 : Int32) (x3 : Int32) (h0 : gK τ x0 11) {Q : State → Prop} {K : ((Int32 × Int32 × gG) ⊕ ((Int32 × gG))) → Prop} {G : gG} {H : Heap} {locs : List Loc} {ls : Array Slot} (hw : gHw X τ G H locs) (hl : lv_has ls 4 [(0, .ref x0), (1, .int x1), (2, .int x2), (3, .int x3)]) (hok : gOk (b_X11_can_47 τ n x0 x1 x2 x3 G) K) (hc : ∀ (y2 : Int32) (y3 : Int32) (G : gG) (H : Heap) (locs : List Loc) (ls : Array Slot), gHw X τ G H locs → lv_has ls 4 [(0, .ref x0), (1, .int x1), (2, .int y2), (3, .int y3)] → K (.inl (y2, y3, G)) → W p l e rm_X11_can s m args below meth c H locs 0 0 Q (F0 m 47 ls [])) (hx0 : ∀ (y2 : Int32) (G : gG) (H : Heap) (locs : List Loc) (ls : Array Slot), gHw X τ G H locs → lv_has ls 4 [(2, .int y2)] → K (.inr (y2, G)) → W p l e rm_X11_can s m args below meth c H locs 0 0 Q (F0 m 73 ls [])) : W p l e rm_X11_can s m args below meth c H locs 0 0 Q (F0 m 47 ls []) := by
  unfold b_X11_can_47 at hok
  refine lv_iload_n fx.1 fx.2.1 dX11_can_47 rfl (lv_at hl 3 rfl) ?_
  refine lv_aload_n fx.1 fx.2.1 dX11_can_48 rfl (lv_at hl 0 rfl) ?_
  obtain ⟨v9, hf, hok⟩ := gOk_bind hok
  refine g_callV0 (κ := 11) fx hw (c_X11_ropes l X τ x0 G h0 hf) lv_RX11_73 ⟨rfl, rfl⟩ rfl rfl h0 rfl hl.1 rfl ⟨Nat.le_of_ble_eq_true rfl, Nat.le_of_ble_eq_true rfl⟩ (Nat.le_of_ble_eq_true rfl) ⟨Nat.le_of_ble_eq_true rfl, Nat.le_of_ble_eq_true rfl⟩ dX11_can_49 (fun H locs hw => ?_)
  refine g_icmp_ge (tgt := 73) fx dX11_can_52 (by decide) hok (fun hok => ?_) (fun hok => ?_)
  · exact hx0 x2 G _ _ _  hw (lv_sub hl [2] rfl) (gOk_some hok)
  · refine lv_iload_n fx.1 fx.2.1 dX11_can_55 rfl (lv_at hl 1 rfl) ?_
    refine g_if_ne (tgt := 73) fx dX11_can_56 (by decide) hok (fun hok => ?_) (fun hok => ?_)
    · refine lv_iload_n fx.1 fx.2.1 dX11_can_59 rfl (lv_at hl 2 rfl) ?_
      refine lv_aload_n fx.1 fx.2.1 dX11_can_60 rfl (lv_at hl 0 rfl) ?_
      refine lv_iload_n fx.1 fx.2.1 dX11_can_61 rfl (lv_at hl 3 rfl) ?_
      obtain ⟨v10, G11, hf, hok⟩ := gOk_bind2 hok
      refine g_callV0 (κ := 11) fx hw (c_X11_metBy l X τ n x0 x3 G h0 hf) lv_RX11_383 ⟨rfl, rfl⟩ rfl rfl h0 rfl hl.1 rfl ⟨Nat.le_of_ble_eq_true rfl, Nat.le_of_ble_eq_true rfl⟩ (Nat.le_of_ble_eq_true rfl) ⟨Nat.le_of_ble_eq_true rfl, Nat.le_of_ble_eq_true rfl⟩ dX11_can_62 (fun H locs hw => ?_)
      refine lv_ior fx.1 fx.2.1 dX11_can_65 ?_
      refine g_leti hok (fun v12 hok => ?_)
      refine lv_istore_n (lv' := [(2, .int v12), (0, .ref x0), (1, .int x1), (3, .int x3)]) fx.1 fx.2.1 dX11_can_66 rfl hl (by decide) rfl (fun ls hl => ?_)
      obtain ⟨v13, e_v13, hok⟩ := gOk_let hok
      refine lv_iinc (v := v13) (lv' := [(3, .int v13), (2, .int v12), (0, .ref x0), (1, .int x1)]) fx.1 fx.2.1 dX11_can_67 hl (k := 3) rfl (by rw [e_v13]; rfl) (by decide) rfl (fun ls hl => ?_)
      refine lv_goto (tgt := 47) fx.1 fx.2.1 dX11_can_70 (by decide) ?_
      exact hc v12 v13 G11 _ _ _  hw (lv_sub hl [2, 3, 1, 0] rfl) (gOk_some hok)
    · exact hx0 x2 G _ _ _  hw (lv_sub hl [2] rfl) (gOk_some hok)
theorem w_l_X11_can_47 {X : gX} {τ : gτ} {p : Program} {l : Launch} {e : Env} {s : State} {m : MethodId} {args : Array Value} {below : List Frame} {meth : Method} {c : Code} (fx : gFx X p s m args meth c cX11_can 4 RX11) (n : Nat) (x0 : Nat) (x1 : Int32) (h0 : gK τ x0 11) {Q : State → Prop} {K : ((Int32 × gG)) → Prop} (hx0 : ∀ (y2 : Int32) (G : gG) (H : Heap) (locs : List Loc) (ls : Array Slot), gHw X τ G H locs → lv_has ls 4 [(2, .int y2)] → K (y2, G) → W p l e rm_X11_can s m args below meth c H locs 0 0 Q (F0 m 73 ls [])) : ∀ (k : Nat) (x2 : Int32) (x3 : Int32) (G : gG) (H : Heap) (locs : List Loc) (ls : Array Slot), gHw X τ G H locs → lv_has ls 4 [(0, .ref x0), (1, .int x1), (2, .int x2), (3, .int x3)] → gOk (gIter (fun (q : Int32 × Int32 × gG) => b_X11_can_47 τ n x0 x1 q.1 q.2.1 q.2.2) k (x2, x3, G)) K → W p l e rm_X11_can s m args below meth c H locs 0 0 Q (F0 m 47 ls []) := by
  intro k
  induction k with
  | zero =>
    intro x2 x3 G H locs ls hw hl hok
    exact gOk_iter0 hok
  | succ k hc =>
    intro x2 x3 G H locs ls hw hl hok
    exact w_b_X11_can_47 fx n x0 x1 x2 x3 h0 hw hl (gOk_iter hok) hc hx0
set_option maxHeartbeats 4000000 in
set_option maxRecDepth 100000 in
theorem w_X11_can_45 {X : gX} {τ : gτ} {p : Program} {l : Launch} {e : Env} {s : State} {m : MethodId} {args : Array Value} {below : List Frame} {meth : Method} {c : Code} (fx : gFx X p s m args meth c cX11_can 4 RX11) (n : Nat) (x0 : Nat) (x1 : Int32) (x2 : Int32)  (h0 : gK τ x0 11)  (hr : meth.sig.returnType = (some .int)) {r : Int32} {G' : gG} {G : gG} {H : Heap} {locs : List Loc} {ls : Array Slot} (hw : gHw X τ G H locs) (hl : lv_has ls 4 [(0, .ref x0), (1, .int x1), (2, .int x2)]) (hok : gOk (k_X11_can_45 τ n x0 x1 x2  G) (fun q => q = (r, G')))  : W p l e rm_X11_can s m args below meth c H locs 0 0 (MQ below (gQ X τ (some (.int r)) G') args s 0 0 (gFree X)) (F0 m 45 ls []) := by
  unfold k_X11_can_45 at hok
  refine lv_iconst (v := 0) fx.1 fx.2.1 dX11_can_45 (by decide) ?_
  refine lv_istore_n (lv' := [(3, .int (0 : Int32)), (0, .ref x0), (1, .int x1), (2, .int x2)]) fx.1 fx.2.1 dX11_can_46 rfl hl (by decide) rfl (fun ls hl => ?_)
  refine w_l_X11_can_47 fx n x0 x1 h0 ?_ n x2 (0 : Int32) G _ _ _  hw (lv_sub hl [1, 2, 3, 0] rfl) (gOk_bindK hok)
  intro z14 G15 H locs ls hw hl hok
  have hok : gOk (ρ := Int32 × gG) (some (z14, G15)) _ := hok
  refine lv_iload_n fx.1 fx.2.1 dX11_can_73 rfl (lv_at hl 0 rfl) ?_
  cases gOk_some hok
  exact g_iret fx hw hr dX11_can_74
set_option maxHeartbeats 4000000 in
set_option maxRecDepth 100000 in
theorem c_X11_can (l : Launch) (X : gX) (τ : gτ) (n : Nat) (x0 : Nat) (x1 : Int32) (G : gG) (h0 : gK τ x0 11) {r : Int32} {G' : gG} (h : f_X11_can τ n x0 x1 G = some (r, G')) : gM l X τ yX11_can cX11_can 4 (some .int) rm_X11_can [.ref x0, .int x1] G (some (.int r)) G' := by
  refine g_body (by decide +kernel) (Nat.le_of_ble_eq_true rfl) ?_
  intro p e s m args below meth c ls fx hr hw hl
  have fx : gFx X p s m args meth c cX11_can 4 RX11 := fx
  have hl : lv_has ls 4 [(0, .ref x0), (1, .int x1)] := hl
  have hok : gOk (f_X11_can τ n x0 x1 G) (fun q => q = (r, G')) := ⟨_, h, rfl⟩
  unfold f_X11_can at hok
  show W p l e rm_X11_can s m args below meth c s.heap [] 0 0 (MQ below (gQ X τ (some (.int r)) G') args s 0 0 (gFree X)) _
  refine lv_aload_n fx.1 fx.2.1 dX11_can_0 rfl (lv_at hl 0 rfl) ?_
  refine lv_iconst (v := 0) fx.1 fx.2.1 dX11_can_1 (by decide) ?_
  refine g_puti fx hw h0 lp_RX11_3 rfl rfl dX11_can_2 hok (fun G1 H locs hw hok => ?_)
  refine lv_iconst (v := 0) fx.1 fx.2.1 dX11_can_5 (by decide) ?_
  refine lv_istore_n (lv' := [(2, .int (0 : Int32)), (0, .ref x0), (1, .int x1)]) fx.1 fx.2.1 dX11_can_6 rfl hl (by decide) rfl (fun ls hl => ?_)
  refine lv_iconst (v := 0) fx.1 fx.2.1 dX11_can_7 (by decide) ?_
  refine lv_istore_n (lv' := [(3, .int (0 : Int32)), (2, .int (0 : Int32)), (0, .ref x0), (1, .int x1)]) fx.1 fx.2.1 dX11_can_8 rfl hl (by decide) rfl (fun ls hl => ?_)
  refine w_l_X11_can_9 fx n x0 x1 h0 ?_ n (0 : Int32) (0 : Int32) G1 _ _ _  hw (lv_sub hl [2, 3, 1, 0] rfl) (gOk_bindK hok)
  intro z7 G8 H locs ls hw hl hok
  have hok : gOk (ρ := Int32 × gG) (k_X11_can_45 τ n x0 x1 z7  G8) _ := hok
  exact w_X11_can_45 fx n x0 x1 z7  h0  hr hw (lv_sub hl [0, 1, 2] rfl) hok
theorem dX11_allOrders_0 : decode cX11_allOrders 0 = .ok (.iconst 1, 1) := by decide +kernel
theorem dX11_allOrders_1 : decode cX11_allOrders 1 = .ok (.aload_n 0, 1) := by decide +kernel
theorem dX11_allOrders_2 : decode cX11_allOrders 2 = .ok (.invokevirtual 76, 3) := by decide +kernel
theorem dX11_allOrders_5 : decode cX11_allOrders 5 = .ok (.ishl, 1) := by decide +kernel
theorem dX11_allOrders_6 : decode cX11_allOrders 6 = .ok (.iconst 1, 1) := by decide +kernel
theorem dX11_allOrders_7 : decode cX11_allOrders 7 = .ok (.isub, 1) := by decide +kernel
theorem dX11_allOrders_8 : decode cX11_allOrders 8 = .ok (.ireturn, 1) := by decide +kernel
def rm_X11_allOrders : Room := { frames := 1, cells := 0, slots := 0, locals := 20 }
def f_X11_allOrders (τ : gτ) (x0 : Nat) (G : gG) : Option (Int32) :=
  (f_X11_orders τ x0 G).bind fun v1 =>
  some (((1 : Int32) <<< (v1 &&& 31)) - (1 : Int32))
set_option maxHeartbeats 4000000 in
set_option maxRecDepth 100000 in
theorem c_X11_allOrders (l : Launch) (X : gX) (τ : gτ) (x0 : Nat) (G : gG) (h0 : gK τ x0 11) {r : Int32}  (h : f_X11_allOrders τ x0 G = some r) : gM l X τ yX11_allOrders cX11_allOrders 1 (some .int) rm_X11_allOrders [.ref x0] G (some (.int r)) G := by
  refine g_body (by decide +kernel) (Nat.le_of_ble_eq_true rfl) ?_
  intro p e s m args below meth c ls fx hr hw hl
  have fx : gFx X p s m args meth c cX11_allOrders 1 RX11 := fx
  have hl : lv_has ls 1 [(0, .ref x0)] := hl
  have hok : gOk (f_X11_allOrders τ x0 G) (fun q => q = r) := ⟨_, h, rfl⟩
  unfold f_X11_allOrders at hok
  show W p l e rm_X11_allOrders s m args below meth c s.heap [] 0 0 (MQ below (gQ X τ (some (.int r)) G) args s 0 0 (gFree X)) _
  refine lv_iconst (v := 1) fx.1 fx.2.1 dX11_allOrders_0 (by decide) ?_
  refine lv_aload_n fx.1 fx.2.1 dX11_allOrders_1 rfl (lv_at hl 0 rfl) ?_
  obtain ⟨v1, hf, hok⟩ := gOk_bind hok
  refine g_callV0 (κ := 11) fx hw (c_X11_orders l X τ x0 G h0 hf) lv_RX11_76 ⟨rfl, rfl⟩ rfl rfl h0 rfl hl.1 rfl ⟨Nat.le_of_ble_eq_true rfl, Nat.le_of_ble_eq_true rfl⟩ (Nat.le_of_ble_eq_true rfl) ⟨Nat.le_of_ble_eq_true rfl, Nat.le_of_ble_eq_true rfl⟩ dX11_allOrders_2 (fun H locs hw => ?_)
  refine lv_ishl fx.1 fx.2.1 dX11_allOrders_5 ?_
  refine lv_iconst (v := 1) fx.1 fx.2.1 dX11_allOrders_6 (by decide) ?_
  refine lv_isub fx.1 fx.2.1 dX11_allOrders_7 ?_
  cases gOk_some hok
  exact g_iret fx hw hr dX11_allOrders_8
theorem dX11_payOf_0 : decode cX11_payOf 0 = .ok (.iconst 0, 1) := by decide +kernel
theorem dX11_payOf_1 : decode cX11_payOf 1 = .ok (.istore_n 2, 1) := by decide +kernel
theorem dX11_payOf_2 : decode cX11_payOf 2 = .ok (.iconst 0, 1) := by decide +kernel
theorem dX11_payOf_3 : decode cX11_payOf 3 = .ok (.istore_n 3, 1) := by decide +kernel
theorem dX11_payOf_4 : decode cX11_payOf 4 = .ok (.iload_n 3, 1) := by decide +kernel
theorem dX11_payOf_5 : decode cX11_payOf 5 = .ok (.aload_n 0, 1) := by decide +kernel
theorem dX11_payOf_6 : decode cX11_payOf 6 = .ok (.invokevirtual 76, 3) := by decide +kernel
theorem dX11_payOf_9 : decode cX11_payOf 9 = .ok (.if_icmp .ge 30, 3) := by decide +kernel
theorem dX11_payOf_12 : decode cX11_payOf 12 = .ok (.iload_n 2, 1) := by decide +kernel
theorem dX11_payOf_13 : decode cX11_payOf 13 = .ok (.iload_n 1, 1) := by decide +kernel
theorem dX11_payOf_14 : decode cX11_payOf 14 = .ok (.iload_n 3, 1) := by decide +kernel
theorem dX11_payOf_15 : decode cX11_payOf 15 = .ok (.invokestatic 312, 3) := by decide +kernel
theorem dX11_payOf_18 : decode cX11_payOf 18 = .ok (.ifCond .eq 12, 3) := by decide +kernel
theorem dX11_payOf_21 : decode cX11_payOf 21 = .ok (.aload_n 0, 1) := by decide +kernel
theorem dX11_payOf_22 : decode cX11_payOf 22 = .ok (.iload_n 3, 1) := by decide +kernel
theorem dX11_payOf_23 : decode cX11_payOf 23 = .ok (.iconst 2, 1) := by decide +kernel
theorem dX11_payOf_24 : decode cX11_payOf 24 = .ok (.invokevirtual 336, 3) := by decide +kernel
theorem dX11_payOf_27 : decode cX11_payOf 27 = .ok (.goto 4, 3) := by decide +kernel
theorem dX11_payOf_30 : decode cX11_payOf 30 = .ok (.iconst 0, 1) := by decide +kernel
theorem dX11_payOf_31 : decode cX11_payOf 31 = .ok (.iadd, 1) := by decide +kernel
theorem dX11_payOf_32 : decode cX11_payOf 32 = .ok (.istore_n 2, 1) := by decide +kernel
theorem dX11_payOf_33 : decode cX11_payOf 33 = .ok (.iinc 3 1, 3) := by decide +kernel
theorem dX11_payOf_36 : decode cX11_payOf 36 = .ok (.goto (-32), 3) := by decide +kernel
theorem dX11_payOf_39 : decode cX11_payOf 39 = .ok (.iload_n 2, 1) := by decide +kernel
theorem dX11_payOf_40 : decode cX11_payOf 40 = .ok (.ireturn, 1) := by decide +kernel
def rm_X11_payOf : Room := { frames := 1, cells := 0, slots := 0, locals := 22 }
def k_X11_payOf_31 (τ : gτ) (n : Nat) (x0 : Nat) (x1 : Int32) (x3 : Int32) (s0 : Int32) (s1 : Int32) (G : gG) : Option ((Int32 × Int32) ⊕ ((Int32))) :=
  gLet (s0 + s1) fun v3 =>
  gLet (x3 + 1) fun v4 =>
  some (.inl (v3, v4))
def b_X11_payOf_4 (τ : gτ) (n : Nat) (x0 : Nat) (x1 : Int32) (x2 : Int32) (x3 : Int32) (G : gG) : Option ((Int32 × Int32) ⊕ ((Int32))) :=
  (f_X11_orders τ x0 G).bind fun v1 =>
  if v1 ≤ x3 then (some (.inr x2))
  else ((f_X11_has x1 x3).bind fun v2 =>
  if v2 = 0 then (k_X11_payOf_31 τ n x0 x1 x3 x2 (0 : Int32) G)
  else ((f_X11_ofOrder τ x0 x3 (2 : Int32) G).bind fun v5 =>
  k_X11_payOf_31 τ n x0 x1 x3 x2 v5 G))
def l_X11_payOf_4 (τ : gτ) (n : Nat) (x0 : Nat) (x1 : Int32) (x2 : Int32) (x3 : Int32) (G : gG) : Option ((Int32)) :=
  gIter (fun (q : Int32 × Int32) => b_X11_payOf_4 τ n x0 x1 q.1 q.2 G) n (x2, x3)
def f_X11_payOf (τ : gτ) (n : Nat) (x0 : Nat) (x1 : Int32) (G : gG) : Option (Int32) :=
  (l_X11_payOf_4 τ n x0 x1 (0 : Int32) (0 : Int32) G).bind fun q => gLet q fun z6 => 
  some (z6)
set_option maxHeartbeats 4000000 in
set_option maxRecDepth 100000 in
theorem w_X11_payOf_31 {X : gX} {τ : gτ} {p : Program} {l : Launch} {e : Env} {s : State} {m : MethodId} {args : Array Value} {below : List Frame} {meth : Method} {c : Code} (fx : gFx X p s m args meth c cX11_payOf 4 RX11) (n : Nat) (x0 : Nat) (x1 : Int32) (x3 : Int32) (s0 : Int32) (s1 : Int32) (h0 : gK τ x0 11)  {Q : State → Prop} {K : ((Int32 × Int32) ⊕ ((Int32))) → Prop} {G : gG} {H : Heap} {locs : List Loc} {ls : Array Slot} (hw : gHw X τ G H locs) (hl : lv_has ls 4 [(0, .ref x0), (1, .int x1), (3, .int x3)]) (hok : gOk (k_X11_payOf_31 τ n x0 x1 x3 s0 s1 G) K) (hc : ∀ (y2 : Int32) (y3 : Int32) (H : Heap) (locs : List Loc) (ls : Array Slot), gHw X τ G H locs → lv_has ls 4 [(0, .ref x0), (1, .int x1), (2, .int y2), (3, .int y3)] → K (.inl (y2, y3)) → W p l e rm_X11_payOf s m args below meth c H locs 0 0 Q (F0 m 4 ls [])) (hx0 : ∀ (y2 : Int32) (H : Heap) (locs : List Loc) (ls : Array Slot), gHw X τ G H locs → lv_has ls 4 [(2, .int y2)] → K (.inr y2) → W p l e rm_X11_payOf s m args below meth c H locs 0 0 Q (F0 m 39 ls [])) : W p l e rm_X11_payOf s m args below meth c H locs 0 0 Q (F0 m 31 ls [.int s1, .int s0]) := by
  unfold k_X11_payOf_31 at hok
  refine lv_iadd fx.1 fx.2.1 dX11_payOf_31 ?_
  refine g_leti hok (fun v3 hok => ?_)
  refine lv_istore_n (lv' := [(2, .int v3), (0, .ref x0), (1, .int x1), (3, .int x3)]) fx.1 fx.2.1 dX11_payOf_32 rfl hl (by decide) rfl (fun ls hl => ?_)
  obtain ⟨v4, e_v4, hok⟩ := gOk_let hok
  refine lv_iinc (v := v4) (lv' := [(3, .int v4), (2, .int v3), (0, .ref x0), (1, .int x1)]) fx.1 fx.2.1 dX11_payOf_33 hl (k := 3) rfl (by rw [e_v4]; rfl) (by decide) rfl (fun ls hl => ?_)
  refine lv_goto (tgt := 4) fx.1 fx.2.1 dX11_payOf_36 (by decide) ?_
  exact hc v3 v4  _ _ _  hw (lv_sub hl [2, 3, 1, 0] rfl) (gOk_some hok)
set_option maxHeartbeats 4000000 in
set_option maxRecDepth 100000 in
theorem w_b_X11_payOf_4 {X : gX} {τ : gτ} {p : Program} {l : Launch} {e : Env} {s : State} {m : MethodId} {args : Array Value} {below : List Frame} {meth : Method} {c : Code} (fx : gFx X p s m args meth c cX11_payOf 4 RX11) (n : Nat) (x0 : Nat) (x1 : Int32) (x2 : Int32) (x3 : Int32) (h0 : gK τ x0 11) {Q : State → Prop} {K : ((Int32 × Int32) ⊕ ((Int32))) → Prop} {G : gG} {H : Heap} {locs : List Loc} {ls : Array Slot} (hw : gHw X τ G H locs) (hl : lv_has ls 4 [(0, .ref x0), (1, .int x1), (2, .int x2), (3, .int x3)]) (hok : gOk (b_X11_payOf_4 τ n x0 x1 x2 x3 G) K) (hc : ∀ (y2 : Int32) (y3 : Int32) (H : Heap) (locs : List Loc) (ls : Array Slot), gHw X τ G H locs → lv_has ls 4 [(0, .ref x0), (1, .int x1), (2, .int y2), (3, .int y3)] → K (.inl (y2, y3)) → W p l e rm_X11_payOf s m args below meth c H locs 0 0 Q (F0 m 4 ls [])) (hx0 : ∀ (y2 : Int32) (H : Heap) (locs : List Loc) (ls : Array Slot), gHw X τ G H locs → lv_has ls 4 [(2, .int y2)] → K (.inr y2) → W p l e rm_X11_payOf s m args below meth c H locs 0 0 Q (F0 m 39 ls [])) : W p l e rm_X11_payOf s m args below meth c H locs 0 0 Q (F0 m 4 ls []) := by
  unfold b_X11_payOf_4 at hok
  refine lv_iload_n fx.1 fx.2.1 dX11_payOf_4 rfl (lv_at hl 3 rfl) ?_
  refine lv_aload_n fx.1 fx.2.1 dX11_payOf_5 rfl (lv_at hl 0 rfl) ?_
  obtain ⟨v1, hf, hok⟩ := gOk_bind hok
  refine g_callV0 (κ := 11) fx hw (c_X11_orders l X τ x0 G h0 hf) lv_RX11_76 ⟨rfl, rfl⟩ rfl rfl h0 rfl hl.1 rfl ⟨Nat.le_of_ble_eq_true rfl, Nat.le_of_ble_eq_true rfl⟩ (Nat.le_of_ble_eq_true rfl) ⟨Nat.le_of_ble_eq_true rfl, Nat.le_of_ble_eq_true rfl⟩ dX11_payOf_6 (fun H locs hw => ?_)
  refine g_icmp_ge (tgt := 39) fx dX11_payOf_9 (by decide) hok (fun hok => ?_) (fun hok => ?_)
  · exact hx0 x2  _ _ _  hw (lv_sub hl [2] rfl) (gOk_some hok)
  · refine lv_iload_n fx.1 fx.2.1 dX11_payOf_12 rfl (lv_at hl 2 rfl) ?_
    refine lv_iload_n fx.1 fx.2.1 dX11_payOf_13 rfl (lv_at hl 1 rfl) ?_
    refine lv_iload_n fx.1 fx.2.1 dX11_payOf_14 rfl (lv_at hl 3 rfl) ?_
    obtain ⟨v2, hf, hok⟩ := gOk_bind hok
    refine g_callS0 fx hw (c_X11_has l X τ x1 x3 G  hf) ls_RX11_312 ⟨rfl, rfl⟩ rfl hl.1 rfl ⟨Nat.le_of_ble_eq_true rfl, Nat.le_of_ble_eq_true rfl⟩ (Nat.le_of_ble_eq_true rfl) ⟨Nat.le_of_ble_eq_true rfl, Nat.le_of_ble_eq_true rfl⟩ dX11_payOf_15 (fun H locs hw => ?_)
    refine g_if_eq (tgt := 30) fx dX11_payOf_18 (by decide) hok (fun hok => ?_) (fun hok => ?_)
    · refine lv_iconst (v := 0) fx.1 fx.2.1 dX11_payOf_30 (by decide) ?_
      exact w_X11_payOf_31 fx n x0 x1 x3 x2 (0 : Int32) h0  hw (lv_sub hl [0, 1, 3] rfl) hok hc hx0
    · refine lv_aload_n fx.1 fx.2.1 dX11_payOf_21 rfl (lv_at hl 0 rfl) ?_
      refine lv_iload_n fx.1 fx.2.1 dX11_payOf_22 rfl (lv_at hl 3 rfl) ?_
      refine lv_iconst (v := 2) fx.1 fx.2.1 dX11_payOf_23 (by decide) ?_
      obtain ⟨v5, hf, hok⟩ := gOk_bind hok
      refine g_callV0 (κ := 11) fx hw (c_X11_ofOrder l X τ x0 x3 (2 : Int32) G h0 hf) lv_RX11_336 ⟨rfl, rfl⟩ rfl rfl h0 rfl hl.1 rfl ⟨Nat.le_of_ble_eq_true rfl, Nat.le_of_ble_eq_true rfl⟩ (Nat.le_of_ble_eq_true rfl) ⟨Nat.le_of_ble_eq_true rfl, Nat.le_of_ble_eq_true rfl⟩ dX11_payOf_24 (fun H locs hw => ?_)
      refine lv_goto (tgt := 31) fx.1 fx.2.1 dX11_payOf_27 (by decide) ?_
      exact w_X11_payOf_31 fx n x0 x1 x3 x2 v5 h0  hw (lv_sub hl [0, 1, 3] rfl) hok hc hx0
theorem w_l_X11_payOf_4 {X : gX} {τ : gτ} {p : Program} {l : Launch} {e : Env} {s : State} {m : MethodId} {args : Array Value} {below : List Frame} {meth : Method} {c : Code} (fx : gFx X p s m args meth c cX11_payOf 4 RX11) (n : Nat) (x0 : Nat) (x1 : Int32) (h0 : gK τ x0 11) (G : gG) {Q : State → Prop} {K : ((Int32)) → Prop} (hx0 : ∀ (y2 : Int32) (H : Heap) (locs : List Loc) (ls : Array Slot), gHw X τ G H locs → lv_has ls 4 [(2, .int y2)] → K y2 → W p l e rm_X11_payOf s m args below meth c H locs 0 0 Q (F0 m 39 ls [])) : ∀ (k : Nat) (x2 : Int32) (x3 : Int32) (H : Heap) (locs : List Loc) (ls : Array Slot), gHw X τ G H locs → lv_has ls 4 [(0, .ref x0), (1, .int x1), (2, .int x2), (3, .int x3)] → gOk (gIter (fun (q : Int32 × Int32) => b_X11_payOf_4 τ n x0 x1 q.1 q.2 G) k (x2, x3)) K → W p l e rm_X11_payOf s m args below meth c H locs 0 0 Q (F0 m 4 ls []) := by
  intro k
  induction k with
  | zero =>
    intro x2 x3  H locs ls hw hl hok
    exact gOk_iter0 hok
  | succ k hc =>
    intro x2 x3  H locs ls hw hl hok
    exact w_b_X11_payOf_4 fx n x0 x1 x2 x3 h0 hw hl (gOk_iter hok) hc hx0
set_option maxHeartbeats 4000000 in
set_option maxRecDepth 100000 in
theorem c_X11_payOf (l : Launch) (X : gX) (τ : gτ) (n : Nat) (x0 : Nat) (x1 : Int32) (G : gG) (h0 : gK τ x0 11) {r : Int32}  (h : f_X11_payOf τ n x0 x1 G = some r) : gM l X τ yX11_payOf cX11_payOf 4 (some .int) rm_X11_payOf [.ref x0, .int x1] G (some (.int r)) G := by
  refine g_body (by decide +kernel) (Nat.le_of_ble_eq_true rfl) ?_
  intro p e s m args below meth c ls fx hr hw hl
  have fx : gFx X p s m args meth c cX11_payOf 4 RX11 := fx
  have hl : lv_has ls 4 [(0, .ref x0), (1, .int x1)] := hl
  have hok : gOk (f_X11_payOf τ n x0 x1 G) (fun q => q = r) := ⟨_, h, rfl⟩
  unfold f_X11_payOf at hok
  show W p l e rm_X11_payOf s m args below meth c s.heap [] 0 0 (MQ below (gQ X τ (some (.int r)) G) args s 0 0 (gFree X)) _
  refine lv_iconst (v := 0) fx.1 fx.2.1 dX11_payOf_0 (by decide) ?_
  refine lv_istore_n (lv' := [(2, .int (0 : Int32)), (0, .ref x0), (1, .int x1)]) fx.1 fx.2.1 dX11_payOf_1 rfl hl (by decide) rfl (fun ls hl => ?_)
  refine lv_iconst (v := 0) fx.1 fx.2.1 dX11_payOf_2 (by decide) ?_
  refine lv_istore_n (lv' := [(3, .int (0 : Int32)), (2, .int (0 : Int32)), (0, .ref x0), (1, .int x1)]) fx.1 fx.2.1 dX11_payOf_3 rfl hl (by decide) rfl (fun ls hl => ?_)
  refine w_l_X11_payOf_4 fx n x0 x1 h0 G ?_ n (0 : Int32) (0 : Int32)  _ _ _  hw (lv_sub hl [2, 3, 1, 0] rfl) (gOk_bindK hok)
  intro z6  H locs ls hw hl hok
  have hok : gOk (ρ := Int32) (some (z6)) _ := hok
  refine lv_iload_n fx.1 fx.2.1 dX11_payOf_39 rfl (lv_at hl 0 rfl) ?_
  cases gOk_some hok
  exact g_iret fx hw hr dX11_payOf_40
theorem dX11_laysMet_0 : decode cX11_laysMet 0 = .ok (.iconst 0, 1) := by decide +kernel
theorem dX11_laysMet_1 : decode cX11_laysMet 1 = .ok (.istore_n 1, 1) := by decide +kernel
theorem dX11_laysMet_2 : decode cX11_laysMet 2 = .ok (.iload_n 1, 1) := by decide +kernel
theorem dX11_laysMet_3 : decode cX11_laysMet 3 = .ok (.aload_n 0, 1) := by decide +kernel
theorem dX11_laysMet_4 : decode cX11_laysMet 4 = .ok (.invokevirtual 386, 3) := by decide +kernel
theorem dX11_laysMet_7 : decode cX11_laysMet 7 = .ok (.if_icmp .gt 24, 3) := by decide +kernel
theorem dX11_laysMet_10 : decode cX11_laysMet 10 = .ok (.aload_n 0, 1) := by decide +kernel
theorem dX11_laysMet_11 : decode cX11_laysMet 11 = .ok (.getfield 42, 3) := by decide +kernel
theorem dX11_laysMet_14 : decode cX11_laysMet 14 = .ok (.iload_n 1, 1) := by decide +kernel
theorem dX11_laysMet_15 : decode cX11_laysMet 15 = .ok (.iload_n 1, 1) := by decide +kernel
theorem dX11_laysMet_16 : decode cX11_laysMet 16 = .ok (.ifCond .ne 7, 3) := by decide +kernel
theorem dX11_laysMet_19 : decode cX11_laysMet 19 = .ok (.iconst 1, 1) := by decide +kernel
theorem dX11_laysMet_20 : decode cX11_laysMet 20 = .ok (.goto 4, 3) := by decide +kernel
theorem dX11_laysMet_23 : decode cX11_laysMet 23 = .ok (.iconst 0, 1) := by decide +kernel
theorem dX11_laysMet_24 : decode cX11_laysMet 24 = .ok (.iastore, 1) := by decide +kernel
theorem dX11_laysMet_25 : decode cX11_laysMet 25 = .ok (.iinc 1 1, 3) := by decide +kernel
theorem dX11_laysMet_28 : decode cX11_laysMet 28 = .ok (.goto (-26), 3) := by decide +kernel
theorem dX11_laysMet_31 : decode cX11_laysMet 31 = .ok (.iconst 0, 1) := by decide +kernel
theorem dX11_laysMet_32 : decode cX11_laysMet 32 = .ok (.istore_n 1, 1) := by decide +kernel
theorem dX11_laysMet_33 : decode cX11_laysMet 33 = .ok (.iload_n 1, 1) := by decide +kernel
theorem dX11_laysMet_34 : decode cX11_laysMet 34 = .ok (.aload_n 0, 1) := by decide +kernel
theorem dX11_laysMet_35 : decode cX11_laysMet 35 = .ok (.invokevirtual 73, 3) := by decide +kernel
theorem dX11_laysMet_38 : decode cX11_laysMet 38 = .ok (.if_icmp .ge 83, 3) := by decide +kernel
theorem dX11_laysMet_41 : decode cX11_laysMet 41 = .ok (.aload_n 0, 1) := by decide +kernel
theorem dX11_laysMet_42 : decode cX11_laysMet 42 = .ok (.iload_n 1, 1) := by decide +kernel
theorem dX11_laysMet_43 : decode cX11_laysMet 43 = .ok (.invokevirtual 383, 3) := by decide +kernel
theorem dX11_laysMet_46 : decode cX11_laysMet 46 = .ok (.istore_n 2, 1) := by decide +kernel
theorem dX11_laysMet_47 : decode cX11_laysMet 47 = .ok (.aload_n 0, 1) := by decide +kernel
theorem dX11_laysMet_48 : decode cX11_laysMet 48 = .ok (.invokevirtual 386, 3) := by decide +kernel
theorem dX11_laysMet_51 : decode cX11_laysMet 51 = .ok (.istore_n 3, 1) := by decide +kernel
theorem dX11_laysMet_52 : decode cX11_laysMet 52 = .ok (.iload_n 3, 1) := by decide +kernel
theorem dX11_laysMet_53 : decode cX11_laysMet 53 = .ok (.ifCond .le 62, 3) := by decide +kernel
theorem dX11_laysMet_56 : decode cX11_laysMet 56 = .ok (.iconst 0, 1) := by decide +kernel
theorem dX11_laysMet_57 : decode cX11_laysMet 57 = .ok (.istore 4, 2) := by decide +kernel
theorem dX11_laysMet_59 : decode cX11_laysMet 59 = .ok (.iload 4, 2) := by decide +kernel
theorem dX11_laysMet_61 : decode cX11_laysMet 61 = .ok (.aload_n 0, 1) := by decide +kernel
theorem dX11_laysMet_62 : decode cX11_laysMet 62 = .ok (.invokevirtual 76, 3) := by decide +kernel
theorem dX11_laysMet_65 : decode cX11_laysMet 65 = .ok (.if_icmp .ge 44, 3) := by decide +kernel
theorem dX11_laysMet_68 : decode cX11_laysMet 68 = .ok (.iload_n 3, 1) := by decide +kernel
theorem dX11_laysMet_69 : decode cX11_laysMet 69 = .ok (.iload_n 2, 1) := by decide +kernel
theorem dX11_laysMet_70 : decode cX11_laysMet 70 = .ok (.iand, 1) := by decide +kernel
theorem dX11_laysMet_71 : decode cX11_laysMet 71 = .ok (.iload 4, 2) := by decide +kernel
theorem dX11_laysMet_73 : decode cX11_laysMet 73 = .ok (.invokestatic 312, 3) := by decide +kernel
theorem dX11_laysMet_76 : decode cX11_laysMet 76 = .ok (.ifCond .eq 27, 3) := by decide +kernel
theorem dX11_laysMet_79 : decode cX11_laysMet 79 = .ok (.aload_n 0, 1) := by decide +kernel
theorem dX11_laysMet_80 : decode cX11_laysMet 80 = .ok (.getfield 42, 3) := by decide +kernel
theorem dX11_laysMet_83 : decode cX11_laysMet 83 = .ok (.iload_n 3, 1) := by decide +kernel
theorem dX11_laysMet_84 : decode cX11_laysMet 84 = .ok (.iconst 1, 1) := by decide +kernel
theorem dX11_laysMet_85 : decode cX11_laysMet 85 = .ok (.iload 4, 2) := by decide +kernel
theorem dX11_laysMet_87 : decode cX11_laysMet 87 = .ok (.ishl, 1) := by decide +kernel
theorem dX11_laysMet_88 : decode cX11_laysMet 88 = .ok (.iconst (-1), 1) := by decide +kernel
theorem dX11_laysMet_89 : decode cX11_laysMet 89 = .ok (.ixor, 1) := by decide +kernel
theorem dX11_laysMet_90 : decode cX11_laysMet 90 = .ok (.iand, 1) := by decide +kernel
theorem dX11_laysMet_91 : decode cX11_laysMet 91 = .ok (.iaload, 1) := by decide +kernel
theorem dX11_laysMet_92 : decode cX11_laysMet 92 = .ok (.iconst 1, 1) := by decide +kernel
theorem dX11_laysMet_93 : decode cX11_laysMet 93 = .ok (.if_icmp .ne 10, 3) := by decide +kernel
theorem dX11_laysMet_96 : decode cX11_laysMet 96 = .ok (.aload_n 0, 1) := by decide +kernel
theorem dX11_laysMet_97 : decode cX11_laysMet 97 = .ok (.getfield 42, 3) := by decide +kernel
theorem dX11_laysMet_100 : decode cX11_laysMet 100 = .ok (.iload_n 3, 1) := by decide +kernel
theorem dX11_laysMet_101 : decode cX11_laysMet 101 = .ok (.iconst 1, 1) := by decide +kernel
theorem dX11_laysMet_102 : decode cX11_laysMet 102 = .ok (.iastore, 1) := by decide +kernel
theorem dX11_laysMet_103 : decode cX11_laysMet 103 = .ok (.iinc 4 1, 3) := by decide +kernel
theorem dX11_laysMet_106 : decode cX11_laysMet 106 = .ok (.goto (-47), 3) := by decide +kernel
theorem dX11_laysMet_109 : decode cX11_laysMet 109 = .ok (.iinc 3 (-1), 3) := by decide +kernel
theorem dX11_laysMet_112 : decode cX11_laysMet 112 = .ok (.goto (-60), 3) := by decide +kernel
theorem dX11_laysMet_115 : decode cX11_laysMet 115 = .ok (.iinc 1 1, 3) := by decide +kernel
theorem dX11_laysMet_118 : decode cX11_laysMet 118 = .ok (.goto (-85), 3) := by decide +kernel
theorem dX11_laysMet_121 : decode cX11_laysMet 121 = .ok (.return_, 1) := by decide +kernel
theorem lv_RX11_386 : gLv RX11 386 RX11 yX11_allOrders cX11_allOrders 1 (some .int) 0 := gLv_of (wA_t (wt8 (List.mem_of_getElem? (i := 215) (by decide +kernel))) (by decide +kernel)) (wA_t (wt8 (List.mem_of_getElem? (i := 217) (by decide +kernel))) (by decide +kernel)) (wA_of (List.mem_append_left _ (List.mem_map.mpr ⟨(⟨"YearRopeModel", "allOrders", "()I"⟩, 20), wp7 (List.mem_of_getElem? (i := 14) (by decide +kernel)), rfl⟩)) (by decide +kernel)) (wA_t (wt1 (List.mem_of_getElem? (i := 12) (by decide +kernel))) (by decide +kernel)) (wA_t (wt8 (List.mem_of_getElem? (i := 218) (by decide +kernel))) (by decide +kernel)) ⟨rfl, by decide +kernel, by decide +kernel, by decide +kernel⟩
theorem lf_RX11_42 : gLf RX11 42 11 18 := ⟨(RX11, TX11, 20), rfl, by decide, wA_t (wt6 (List.mem_of_getElem? (i := 231) (by decide +kernel))) (by decide +kernel), rfl⟩
def rm_X11_laysMet : Room := { frames := 10, cells := 0, slots := 0, locals := 230 }
def k_X11_laysMet_24 (τ : gτ) (n : Nat) (x0 : Nat) (x1 : Int32) (s0 : Nat) (s1 : Int32) (s2 : Int32) (G : gG) : Option ((Int32 × gG) ⊕ ((gG))) :=
  gchk (gIn s1 (gn τ s0)) <| gLet (gse G s0 (Int32.toNatClampNeg s1) s2) fun G3 =>
  gLet (x1 + 1) fun v4 =>
  some (.inl (v4, G3))
def b_X11_laysMet_2 (τ : gτ) (n : Nat) (x0 : Nat) (x1 : Int32) (G : gG) : Option ((Int32 × gG) ⊕ ((gG))) :=
  (f_X11_allOrders τ x0 G).bind fun v1 =>
  if v1 < x1 then (some (.inr G))
  else ((gr G 11 18 x0).bind fun a2 =>
  if x1 = 0 then (k_X11_laysMet_24 τ n x0 x1 a2 x1 (1 : Int32) G)
  else (k_X11_laysMet_24 τ n x0 x1 a2 x1 (0 : Int32) G))
def l_X11_laysMet_2 (τ : gτ) (n : Nat) (x0 : Nat) (x1 : Int32) (G : gG) : Option ((gG)) :=
  gIter (fun (q : Int32 × gG) => b_X11_laysMet_2 τ n x0 q.1 q.2) n (x1, G)
def b_X11_laysMet_59 (τ : gτ) (n : Nat) (x0 : Nat) (x1 : Int32) (x2 : Int32) (x3 : Int32) (x4 : Int32) (G : gG) : Option ((Int32 × gG) ⊕ ((gG))) :=
  (f_X11_orders τ x0 G).bind fun v10 =>
  if v10 ≤ x4 then (some (.inr G))
  else ((f_X11_has (x3 &&& x2) x4).bind fun v11 =>
  if v11 = 0 then (gLet (x4 + 1) fun v12 =>
  some (.inl (v12, G)))
  else ((gr G 11 18 x0).bind fun a13 =>
  gchk (gIn (x3 &&& (((1 : Int32) <<< (x4 &&& 31)) ^^^ (-1 : Int32))) (gn τ a13)) <|
  if (ge G a13 (Int32.toNatClampNeg (x3 &&& (((1 : Int32) <<< (x4 &&& 31)) ^^^ (-1 : Int32))))) = (1 : Int32) then ((gr G 11 18 x0).bind fun a14 =>
  gchk (gIn x3 (gn τ a14)) <| gLet (gse G a14 (Int32.toNatClampNeg x3) (1 : Int32)) fun G15 =>
  gLet (x4 + 1) fun v16 =>
  some (.inl (v16, G15)))
  else (gLet (x4 + 1) fun v17 =>
  some (.inl (v17, G)))))
def l_X11_laysMet_59 (τ : gτ) (n : Nat) (x0 : Nat) (x1 : Int32) (x2 : Int32) (x3 : Int32) (x4 : Int32) (G : gG) : Option ((gG)) :=
  gIter (fun (q : Int32 × gG) => b_X11_laysMet_59 τ n x0 x1 x2 x3 q.1 q.2) n (x4, G)
def b_X11_laysMet_52 (τ : gτ) (n : Nat) (x0 : Nat) (x1 : Int32) (x2 : Int32) (x3 : Int32) (G : gG) : Option ((Int32 × gG) ⊕ ((gG))) :=
  if x3 ≤ 0 then (some (.inr G))
  else ((l_X11_laysMet_59 τ n x0 x1 x2 x3 (0 : Int32) G).bind fun q => gLet q fun G18 => 
  gLet (x3 + (-1)) fun v19 =>
  some (.inl (v19, G18)))
def l_X11_laysMet_52 (τ : gτ) (n : Nat) (x0 : Nat) (x1 : Int32) (x2 : Int32) (x3 : Int32) (G : gG) : Option ((gG)) :=
  gIter (fun (q : Int32 × gG) => b_X11_laysMet_52 τ n x0 x1 x2 q.1 q.2) n (x3, G)
def b_X11_laysMet_33 (τ : gτ) (n : Nat) (x0 : Nat) (x1 : Int32) (G : gG) : Option ((Int32 × gG) ⊕ ((gG))) :=
  (f_X11_ropes τ x0 G).bind fun v6 =>
  if v6 ≤ x1 then (some (.inr G))
  else (gBind2 (f_X11_metBy τ n x0 x1 G) fun v7 G8 =>
  (f_X11_allOrders τ x0 G8).bind fun v9 =>
  (l_X11_laysMet_52 τ n x0 x1 v7 v9 G8).bind fun q => gLet q fun G20 => 
  gLet (x1 + 1) fun v21 =>
  some (.inl (v21, G20)))
def l_X11_laysMet_33 (τ : gτ) (n : Nat) (x0 : Nat) (x1 : Int32) (G : gG) : Option ((gG)) :=
  gIter (fun (q : Int32 × gG) => b_X11_laysMet_33 τ n x0 q.1 q.2) n (x1, G)
def k_X11_laysMet_31 (τ : gτ) (n : Nat) (x0 : Nat)  (G : gG) : Option (gG) :=
  (l_X11_laysMet_33 τ n x0 (0 : Int32) G).bind fun q => gLet q fun G22 => 
  some G22
def f_X11_laysMet (τ : gτ) (n : Nat) (x0 : Nat) (G : gG) : Option (gG) :=
  (l_X11_laysMet_2 τ n x0 (0 : Int32) G).bind fun q => gLet q fun G5 => 
  k_X11_laysMet_31 τ n x0  G5
set_option maxHeartbeats 4000000 in
set_option maxRecDepth 100000 in
theorem w_X11_laysMet_24 {X : gX} {τ : gτ} {p : Program} {l : Launch} {e : Env} {s : State} {m : MethodId} {args : Array Value} {below : List Frame} {meth : Method} {c : Code} (fx : gFx X p s m args meth c cX11_laysMet 5 RX11) (n : Nat) (x0 : Nat) (x1 : Int32) (s0 : Nat) (s1 : Int32) (s2 : Int32) (h0 : gK τ x0 11) (hs0 : gK τ s0 13) {Q : State → Prop} {K : ((Int32 × gG) ⊕ ((gG))) → Prop} {G : gG} {H : Heap} {locs : List Loc} {ls : Array Slot} (hw : gHw X τ G H locs) (hl : lv_has ls 5 [(0, .ref x0), (1, .int x1)]) (hok : gOk (k_X11_laysMet_24 τ n x0 x1 s0 s1 s2 G) K) (hc : ∀ (y1 : Int32) (G : gG) (H : Heap) (locs : List Loc) (ls : Array Slot), gHw X τ G H locs → lv_has ls 5 [(0, .ref x0), (1, .int y1)] → K (.inl (y1, G)) → W p l e rm_X11_laysMet s m args below meth c H locs 0 0 Q (F0 m 2 ls [])) (hx0 : ∀ (G : gG) (H : Heap) (locs : List Loc) (ls : Array Slot), gHw X τ G H locs → lv_has ls 5 [(0, .ref x0)] → K (.inr G) → W p l e rm_X11_laysMet s m args below meth c H locs 0 0 Q (F0 m 31 ls [])) : W p l e rm_X11_laysMet s m args below meth c H locs 0 0 Q (F0 m 24 ls [.int s2, .int s1, .ref s0]) := by
  unfold k_X11_laysMet_24 at hok
  refine g_iast fx hw hs0 dX11_laysMet_24 hok (fun G3 H locs hw hok => ?_)
  obtain ⟨v4, e_v4, hok⟩ := gOk_let hok
  refine lv_iinc (v := v4) (lv' := [(1, .int v4), (0, .ref x0)]) fx.1 fx.2.1 dX11_laysMet_25 hl (k := 1) rfl (by rw [e_v4]; rfl) (by decide) rfl (fun ls hl => ?_)
  refine lv_goto (tgt := 2) fx.1 fx.2.1 dX11_laysMet_28 (by decide) ?_
  exact hc v4 G3 _ _ _  hw (lv_sub hl [1, 0] rfl) (gOk_some hok)
set_option maxHeartbeats 4000000 in
set_option maxRecDepth 100000 in
theorem w_b_X11_laysMet_2 {X : gX} {τ : gτ} {p : Program} {l : Launch} {e : Env} {s : State} {m : MethodId} {args : Array Value} {below : List Frame} {meth : Method} {c : Code} (fx : gFx X p s m args meth c cX11_laysMet 5 RX11) (n : Nat) (x0 : Nat) (x1 : Int32) (h0 : gK τ x0 11) {Q : State → Prop} {K : ((Int32 × gG) ⊕ ((gG))) → Prop} {G : gG} {H : Heap} {locs : List Loc} {ls : Array Slot} (hw : gHw X τ G H locs) (hl : lv_has ls 5 [(0, .ref x0), (1, .int x1)]) (hok : gOk (b_X11_laysMet_2 τ n x0 x1 G) K) (hc : ∀ (y1 : Int32) (G : gG) (H : Heap) (locs : List Loc) (ls : Array Slot), gHw X τ G H locs → lv_has ls 5 [(0, .ref x0), (1, .int y1)] → K (.inl (y1, G)) → W p l e rm_X11_laysMet s m args below meth c H locs 0 0 Q (F0 m 2 ls [])) (hx0 : ∀ (G : gG) (H : Heap) (locs : List Loc) (ls : Array Slot), gHw X τ G H locs → lv_has ls 5 [(0, .ref x0)] → K (.inr G) → W p l e rm_X11_laysMet s m args below meth c H locs 0 0 Q (F0 m 31 ls [])) : W p l e rm_X11_laysMet s m args below meth c H locs 0 0 Q (F0 m 2 ls []) := by
  unfold b_X11_laysMet_2 at hok
  refine lv_iload_n fx.1 fx.2.1 dX11_laysMet_2 rfl (lv_at hl 1 rfl) ?_
  refine lv_aload_n fx.1 fx.2.1 dX11_laysMet_3 rfl (lv_at hl 0 rfl) ?_
  obtain ⟨v1, hf, hok⟩ := gOk_bind hok
  refine g_callV0 (κ := 11) fx hw (c_X11_allOrders l X τ x0 G h0 hf) lv_RX11_386 ⟨rfl, rfl⟩ rfl rfl h0 rfl hl.1 rfl ⟨Nat.le_of_ble_eq_true rfl, Nat.le_of_ble_eq_true rfl⟩ (Nat.le_of_ble_eq_true rfl) ⟨Nat.le_of_ble_eq_true rfl, Nat.le_of_ble_eq_true rfl⟩ dX11_laysMet_4 (fun H locs hw => ?_)
  refine g_icmp_gt (tgt := 31) fx dX11_laysMet_7 (by decide) hok (fun hok => ?_) (fun hok => ?_)
  · exact hx0  G _ _ _  hw (lv_sub hl [0] rfl) (gOk_some hok)
  · refine lv_aload_n fx.1 fx.2.1 dX11_laysMet_10 rfl (lv_at hl 0 rfl) ?_
    refine g_getr fx hw h0 lf_RX11_42 rfl dX11_laysMet_11 hok (fun a2 h_a2 hok => ?_)
    refine lv_iload_n fx.1 fx.2.1 dX11_laysMet_14 rfl (lv_at hl 1 rfl) ?_
    refine lv_iload_n fx.1 fx.2.1 dX11_laysMet_15 rfl (lv_at hl 1 rfl) ?_
    refine g_if_ne (tgt := 23) fx dX11_laysMet_16 (by decide) hok (fun hok => ?_) (fun hok => ?_)
    · refine lv_iconst (v := 1) fx.1 fx.2.1 dX11_laysMet_19 (by decide) ?_
      refine lv_goto (tgt := 24) fx.1 fx.2.1 dX11_laysMet_20 (by decide) ?_
      exact w_X11_laysMet_24 fx n x0 x1 a2 x1 (1 : Int32) h0 h_a2 hw (lv_sub hl [0, 1] rfl) hok hc hx0
    · refine lv_iconst (v := 0) fx.1 fx.2.1 dX11_laysMet_23 (by decide) ?_
      exact w_X11_laysMet_24 fx n x0 x1 a2 x1 (0 : Int32) h0 h_a2 hw (lv_sub hl [0, 1] rfl) hok hc hx0
theorem w_l_X11_laysMet_2 {X : gX} {τ : gτ} {p : Program} {l : Launch} {e : Env} {s : State} {m : MethodId} {args : Array Value} {below : List Frame} {meth : Method} {c : Code} (fx : gFx X p s m args meth c cX11_laysMet 5 RX11) (n : Nat) (x0 : Nat) (h0 : gK τ x0 11) {Q : State → Prop} {K : ((gG)) → Prop} (hx0 : ∀ (G : gG) (H : Heap) (locs : List Loc) (ls : Array Slot), gHw X τ G H locs → lv_has ls 5 [(0, .ref x0)] → K G → W p l e rm_X11_laysMet s m args below meth c H locs 0 0 Q (F0 m 31 ls [])) : ∀ (k : Nat) (x1 : Int32) (G : gG) (H : Heap) (locs : List Loc) (ls : Array Slot), gHw X τ G H locs → lv_has ls 5 [(0, .ref x0), (1, .int x1)] → gOk (gIter (fun (q : Int32 × gG) => b_X11_laysMet_2 τ n x0 q.1 q.2) k (x1, G)) K → W p l e rm_X11_laysMet s m args below meth c H locs 0 0 Q (F0 m 2 ls []) := by
  intro k
  induction k with
  | zero =>
    intro x1 G H locs ls hw hl hok
    exact gOk_iter0 hok
  | succ k hc =>
    intro x1 G H locs ls hw hl hok
    exact w_b_X11_laysMet_2 fx n x0 x1 h0 hw hl (gOk_iter hok) hc hx0
set_option maxHeartbeats 4000000 in
set_option maxRecDepth 100000 in
theorem w_b_X11_laysMet_59 {X : gX} {τ : gτ} {p : Program} {l : Launch} {e : Env} {s : State} {m : MethodId} {args : Array Value} {below : List Frame} {meth : Method} {c : Code} (fx : gFx X p s m args meth c cX11_laysMet 5 RX11) (n : Nat) (x0 : Nat) (x1 : Int32) (x2 : Int32) (x3 : Int32) (x4 : Int32) (h0 : gK τ x0 11) {Q : State → Prop} {K : ((Int32 × gG) ⊕ ((gG))) → Prop} {G : gG} {H : Heap} {locs : List Loc} {ls : Array Slot} (hw : gHw X τ G H locs) (hl : lv_has ls 5 [(0, .ref x0), (1, .int x1), (2, .int x2), (3, .int x3), (4, .int x4)]) (hok : gOk (b_X11_laysMet_59 τ n x0 x1 x2 x3 x4 G) K) (hc : ∀ (y4 : Int32) (G : gG) (H : Heap) (locs : List Loc) (ls : Array Slot), gHw X τ G H locs → lv_has ls 5 [(0, .ref x0), (1, .int x1), (2, .int x2), (3, .int x3), (4, .int y4)] → K (.inl (y4, G)) → W p l e rm_X11_laysMet s m args below meth c H locs 0 0 Q (F0 m 59 ls [])) (hx0 : ∀ (G : gG) (H : Heap) (locs : List Loc) (ls : Array Slot), gHw X τ G H locs → lv_has ls 5 [(0, .ref x0), (1, .int x1), (2, .int x2), (3, .int x3)] → K (.inr G) → W p l e rm_X11_laysMet s m args below meth c H locs 0 0 Q (F0 m 109 ls [])) : W p l e rm_X11_laysMet s m args below meth c H locs 0 0 Q (F0 m 59 ls []) := by
  unfold b_X11_laysMet_59 at hok
  refine lv_iload fx.1 fx.2.1 dX11_laysMet_59 (lv_at hl 4 rfl) ?_
  refine lv_aload_n fx.1 fx.2.1 dX11_laysMet_61 rfl (lv_at hl 0 rfl) ?_
  obtain ⟨v10, hf, hok⟩ := gOk_bind hok
  refine g_callV0 (κ := 11) fx hw (c_X11_orders l X τ x0 G h0 hf) lv_RX11_76 ⟨rfl, rfl⟩ rfl rfl h0 rfl hl.1 rfl ⟨Nat.le_of_ble_eq_true rfl, Nat.le_of_ble_eq_true rfl⟩ (Nat.le_of_ble_eq_true rfl) ⟨Nat.le_of_ble_eq_true rfl, Nat.le_of_ble_eq_true rfl⟩ dX11_laysMet_62 (fun H locs hw => ?_)
  refine g_icmp_ge (tgt := 109) fx dX11_laysMet_65 (by decide) hok (fun hok => ?_) (fun hok => ?_)
  · exact hx0  G _ _ _  hw (lv_sub hl [0, 1, 2, 3] rfl) (gOk_some hok)
  · refine lv_iload_n fx.1 fx.2.1 dX11_laysMet_68 rfl (lv_at hl 3 rfl) ?_
    refine lv_iload_n fx.1 fx.2.1 dX11_laysMet_69 rfl (lv_at hl 2 rfl) ?_
    refine lv_iand fx.1 fx.2.1 dX11_laysMet_70 ?_
    refine lv_iload fx.1 fx.2.1 dX11_laysMet_71 (lv_at hl 4 rfl) ?_
    obtain ⟨v11, hf, hok⟩ := gOk_bind hok
    refine g_callS0 fx hw (c_X11_has l X τ (x3 &&& x2) x4 G  hf) ls_RX11_312 ⟨rfl, rfl⟩ rfl hl.1 rfl ⟨Nat.le_of_ble_eq_true rfl, Nat.le_of_ble_eq_true rfl⟩ (Nat.le_of_ble_eq_true rfl) ⟨Nat.le_of_ble_eq_true rfl, Nat.le_of_ble_eq_true rfl⟩ dX11_laysMet_73 (fun H locs hw => ?_)
    refine g_if_eq (tgt := 103) fx dX11_laysMet_76 (by decide) hok (fun hok => ?_) (fun hok => ?_)
    · obtain ⟨v12, e_v12, hok⟩ := gOk_let hok
      refine lv_iinc (v := v12) (lv' := [(4, .int v12), (0, .ref x0), (1, .int x1), (2, .int x2), (3, .int x3)]) fx.1 fx.2.1 dX11_laysMet_103 hl (k := 4) rfl (by rw [e_v12]; rfl) (by decide) rfl (fun ls hl => ?_)
      refine lv_goto (tgt := 59) fx.1 fx.2.1 dX11_laysMet_106 (by decide) ?_
      exact hc v12 G _ _ _  hw (lv_sub hl [1, 2, 3, 4, 0] rfl) (gOk_some hok)
    · refine lv_aload_n fx.1 fx.2.1 dX11_laysMet_79 rfl (lv_at hl 0 rfl) ?_
      refine g_getr fx hw h0 lf_RX11_42 rfl dX11_laysMet_80 hok (fun a13 h_a13 hok => ?_)
      refine lv_iload_n fx.1 fx.2.1 dX11_laysMet_83 rfl (lv_at hl 3 rfl) ?_
      refine lv_iconst (v := 1) fx.1 fx.2.1 dX11_laysMet_84 (by decide) ?_
      refine lv_iload fx.1 fx.2.1 dX11_laysMet_85 (lv_at hl 4 rfl) ?_
      refine lv_ishl fx.1 fx.2.1 dX11_laysMet_87 ?_
      refine lv_iconst (v := (-1)) fx.1 fx.2.1 dX11_laysMet_88 (by decide) ?_
      refine lv_ixor fx.1 fx.2.1 dX11_laysMet_89 ?_
      refine lv_iand fx.1 fx.2.1 dX11_laysMet_90 ?_
      refine g_iald fx hw h_a13 dX11_laysMet_91 hok (fun hok => ?_)
      refine lv_iconst (v := 1) fx.1 fx.2.1 dX11_laysMet_92 (by decide) ?_
      refine g_icmp_ne (tgt := 103) fx dX11_laysMet_93 (by decide) hok (fun hok => ?_) (fun hok => ?_)
      · refine lv_aload_n fx.1 fx.2.1 dX11_laysMet_96 rfl (lv_at hl 0 rfl) ?_
        refine g_getr fx hw h0 lf_RX11_42 rfl dX11_laysMet_97 hok (fun a14 h_a14 hok => ?_)
        refine lv_iload_n fx.1 fx.2.1 dX11_laysMet_100 rfl (lv_at hl 3 rfl) ?_
        refine lv_iconst (v := 1) fx.1 fx.2.1 dX11_laysMet_101 (by decide) ?_
        refine g_iast fx hw h_a14 dX11_laysMet_102 hok (fun G15 H locs hw hok => ?_)
        obtain ⟨v16, e_v16, hok⟩ := gOk_let hok
        refine lv_iinc (v := v16) (lv' := [(4, .int v16), (0, .ref x0), (1, .int x1), (2, .int x2), (3, .int x3)]) fx.1 fx.2.1 dX11_laysMet_103 hl (k := 4) rfl (by rw [e_v16]; rfl) (by decide) rfl (fun ls hl => ?_)
        refine lv_goto (tgt := 59) fx.1 fx.2.1 dX11_laysMet_106 (by decide) ?_
        exact hc v16 G15 _ _ _  hw (lv_sub hl [1, 2, 3, 4, 0] rfl) (gOk_some hok)
      · obtain ⟨v17, e_v17, hok⟩ := gOk_let hok
        refine lv_iinc (v := v17) (lv' := [(4, .int v17), (0, .ref x0), (1, .int x1), (2, .int x2), (3, .int x3)]) fx.1 fx.2.1 dX11_laysMet_103 hl (k := 4) rfl (by rw [e_v17]; rfl) (by decide) rfl (fun ls hl => ?_)
        refine lv_goto (tgt := 59) fx.1 fx.2.1 dX11_laysMet_106 (by decide) ?_
        exact hc v17 G _ _ _  hw (lv_sub hl [1, 2, 3, 4, 0] rfl) (gOk_some hok)
theorem w_l_X11_laysMet_59 {X : gX} {τ : gτ} {p : Program} {l : Launch} {e : Env} {s : State} {m : MethodId} {args : Array Value} {below : List Frame} {meth : Method} {c : Code} (fx : gFx X p s m args meth c cX11_laysMet 5 RX11) (n : Nat) (x0 : Nat) (x1 : Int32) (x2 : Int32) (x3 : Int32) (h0 : gK τ x0 11) {Q : State → Prop} {K : ((gG)) → Prop} (hx0 : ∀ (G : gG) (H : Heap) (locs : List Loc) (ls : Array Slot), gHw X τ G H locs → lv_has ls 5 [(0, .ref x0), (1, .int x1), (2, .int x2), (3, .int x3)] → K G → W p l e rm_X11_laysMet s m args below meth c H locs 0 0 Q (F0 m 109 ls [])) : ∀ (k : Nat) (x4 : Int32) (G : gG) (H : Heap) (locs : List Loc) (ls : Array Slot), gHw X τ G H locs → lv_has ls 5 [(0, .ref x0), (1, .int x1), (2, .int x2), (3, .int x3), (4, .int x4)] → gOk (gIter (fun (q : Int32 × gG) => b_X11_laysMet_59 τ n x0 x1 x2 x3 q.1 q.2) k (x4, G)) K → W p l e rm_X11_laysMet s m args below meth c H locs 0 0 Q (F0 m 59 ls []) := by
  intro k
  induction k with
  | zero =>
    intro x4 G H locs ls hw hl hok
    exact gOk_iter0 hok
  | succ k hc =>
    intro x4 G H locs ls hw hl hok
    exact w_b_X11_laysMet_59 fx n x0 x1 x2 x3 x4 h0 hw hl (gOk_iter hok) hc hx0
set_option maxHeartbeats 4000000 in
set_option maxRecDepth 100000 in
theorem w_b_X11_laysMet_52 {X : gX} {τ : gτ} {p : Program} {l : Launch} {e : Env} {s : State} {m : MethodId} {args : Array Value} {below : List Frame} {meth : Method} {c : Code} (fx : gFx X p s m args meth c cX11_laysMet 5 RX11) (n : Nat) (x0 : Nat) (x1 : Int32) (x2 : Int32) (x3 : Int32) (h0 : gK τ x0 11) {Q : State → Prop} {K : ((Int32 × gG) ⊕ ((gG))) → Prop} {G : gG} {H : Heap} {locs : List Loc} {ls : Array Slot} (hw : gHw X τ G H locs) (hl : lv_has ls 5 [(0, .ref x0), (1, .int x1), (2, .int x2), (3, .int x3)]) (hok : gOk (b_X11_laysMet_52 τ n x0 x1 x2 x3 G) K) (hc : ∀ (y3 : Int32) (G : gG) (H : Heap) (locs : List Loc) (ls : Array Slot), gHw X τ G H locs → lv_has ls 5 [(0, .ref x0), (1, .int x1), (2, .int x2), (3, .int y3)] → K (.inl (y3, G)) → W p l e rm_X11_laysMet s m args below meth c H locs 0 0 Q (F0 m 52 ls [])) (hx0 : ∀ (G : gG) (H : Heap) (locs : List Loc) (ls : Array Slot), gHw X τ G H locs → lv_has ls 5 [(0, .ref x0), (1, .int x1)] → K (.inr G) → W p l e rm_X11_laysMet s m args below meth c H locs 0 0 Q (F0 m 115 ls [])) : W p l e rm_X11_laysMet s m args below meth c H locs 0 0 Q (F0 m 52 ls []) := by
  unfold b_X11_laysMet_52 at hok
  refine lv_iload_n fx.1 fx.2.1 dX11_laysMet_52 rfl (lv_at hl 3 rfl) ?_
  refine g_if_le (tgt := 115) fx dX11_laysMet_53 (by decide) hok (fun hok => ?_) (fun hok => ?_)
  · exact hx0  G _ _ _  hw (lv_sub hl [0, 1] rfl) (gOk_some hok)
  · refine lv_iconst (v := 0) fx.1 fx.2.1 dX11_laysMet_56 (by decide) ?_
    refine lv_istore (lv' := [(4, .int (0 : Int32)), (0, .ref x0), (1, .int x1), (2, .int x2), (3, .int x3)]) fx.1 fx.2.1 dX11_laysMet_57 hl (by decide) rfl (fun ls hl => ?_)
    refine w_l_X11_laysMet_59 fx n x0 x1 x2 x3 h0 ?_ n (0 : Int32) G _ _ _  hw (lv_sub hl [1, 2, 3, 4, 0] rfl) (gOk_bindK hok)
    intro G18 H locs ls hw hl hok
    have hok : gOk (ρ := (Int32 × gG) ⊕ ((gG))) (gLet (x3 + (-1)) fun v19 =>   some (.inl (v19, G18))) _ := hok
    obtain ⟨v19, e_v19, hok⟩ := gOk_let hok
    refine lv_iinc (v := v19) (lv' := [(3, .int v19), (0, .ref x0), (1, .int x1), (2, .int x2)]) fx.1 fx.2.1 dX11_laysMet_109 hl (k := 3) rfl (by rw [e_v19]; rfl) (by decide) rfl (fun ls hl => ?_)
    refine lv_goto (tgt := 52) fx.1 fx.2.1 dX11_laysMet_112 (by decide) ?_
    exact hc v19 G18 _ _ _  hw (lv_sub hl [1, 2, 3, 0] rfl) (gOk_some hok)
theorem w_l_X11_laysMet_52 {X : gX} {τ : gτ} {p : Program} {l : Launch} {e : Env} {s : State} {m : MethodId} {args : Array Value} {below : List Frame} {meth : Method} {c : Code} (fx : gFx X p s m args meth c cX11_laysMet 5 RX11) (n : Nat) (x0 : Nat) (x1 : Int32) (x2 : Int32) (h0 : gK τ x0 11) {Q : State → Prop} {K : ((gG)) → Prop} (hx0 : ∀ (G : gG) (H : Heap) (locs : List Loc) (ls : Array Slot), gHw X τ G H locs → lv_has ls 5 [(0, .ref x0), (1, .int x1)] → K G → W p l e rm_X11_laysMet s m args below meth c H locs 0 0 Q (F0 m 115 ls [])) : ∀ (k : Nat) (x3 : Int32) (G : gG) (H : Heap) (locs : List Loc) (ls : Array Slot), gHw X τ G H locs → lv_has ls 5 [(0, .ref x0), (1, .int x1), (2, .int x2), (3, .int x3)] → gOk (gIter (fun (q : Int32 × gG) => b_X11_laysMet_52 τ n x0 x1 x2 q.1 q.2) k (x3, G)) K → W p l e rm_X11_laysMet s m args below meth c H locs 0 0 Q (F0 m 52 ls []) := by
  intro k
  induction k with
  | zero =>
    intro x3 G H locs ls hw hl hok
    exact gOk_iter0 hok
  | succ k hc =>
    intro x3 G H locs ls hw hl hok
    exact w_b_X11_laysMet_52 fx n x0 x1 x2 x3 h0 hw hl (gOk_iter hok) hc hx0
set_option maxHeartbeats 4000000 in
set_option maxRecDepth 100000 in
theorem w_b_X11_laysMet_33 {X : gX} {τ : gτ} {p : Program} {l : Launch} {e : Env} {s : State} {m : MethodId} {args : Array Value} {below : List Frame} {meth : Method} {c : Code} (fx : gFx X p s m args meth c cX11_laysMet 5 RX11) (n : Nat) (x0 : Nat) (x1 : Int32) (h0 : gK τ x0 11) {Q : State → Prop} {K : ((Int32 × gG) ⊕ ((gG))) → Prop} {G : gG} {H : Heap} {locs : List Loc} {ls : Array Slot} (hw : gHw X τ G H locs) (hl : lv_has ls 5 [(0, .ref x0), (1, .int x1)]) (hok : gOk (b_X11_laysMet_33 τ n x0 x1 G) K) (hc : ∀ (y1 : Int32) (G : gG) (H : Heap) (locs : List Loc) (ls : Array Slot), gHw X τ G H locs → lv_has ls 5 [(0, .ref x0), (1, .int y1)] → K (.inl (y1, G)) → W p l e rm_X11_laysMet s m args below meth c H locs 0 0 Q (F0 m 33 ls [])) (hx0 : ∀ (G : gG) (H : Heap) (locs : List Loc) (ls : Array Slot), gHw X τ G H locs → lv_has ls 5 [] → K (.inr G) → W p l e rm_X11_laysMet s m args below meth c H locs 0 0 Q (F0 m 121 ls [])) : W p l e rm_X11_laysMet s m args below meth c H locs 0 0 Q (F0 m 33 ls []) := by
  unfold b_X11_laysMet_33 at hok
  refine lv_iload_n fx.1 fx.2.1 dX11_laysMet_33 rfl (lv_at hl 1 rfl) ?_
  refine lv_aload_n fx.1 fx.2.1 dX11_laysMet_34 rfl (lv_at hl 0 rfl) ?_
  obtain ⟨v6, hf, hok⟩ := gOk_bind hok
  refine g_callV0 (κ := 11) fx hw (c_X11_ropes l X τ x0 G h0 hf) lv_RX11_73 ⟨rfl, rfl⟩ rfl rfl h0 rfl hl.1 rfl ⟨Nat.le_of_ble_eq_true rfl, Nat.le_of_ble_eq_true rfl⟩ (Nat.le_of_ble_eq_true rfl) ⟨Nat.le_of_ble_eq_true rfl, Nat.le_of_ble_eq_true rfl⟩ dX11_laysMet_35 (fun H locs hw => ?_)
  refine g_icmp_ge (tgt := 121) fx dX11_laysMet_38 (by decide) hok (fun hok => ?_) (fun hok => ?_)
  · exact hx0  G _ _ _  hw (lv_sub hl [] rfl) (gOk_some hok)
  · refine lv_aload_n fx.1 fx.2.1 dX11_laysMet_41 rfl (lv_at hl 0 rfl) ?_
    refine lv_iload_n fx.1 fx.2.1 dX11_laysMet_42 rfl (lv_at hl 1 rfl) ?_
    obtain ⟨v7, G8, hf, hok⟩ := gOk_bind2 hok
    refine g_callV0 (κ := 11) fx hw (c_X11_metBy l X τ n x0 x1 G h0 hf) lv_RX11_383 ⟨rfl, rfl⟩ rfl rfl h0 rfl hl.1 rfl ⟨Nat.le_of_ble_eq_true rfl, Nat.le_of_ble_eq_true rfl⟩ (Nat.le_of_ble_eq_true rfl) ⟨Nat.le_of_ble_eq_true rfl, Nat.le_of_ble_eq_true rfl⟩ dX11_laysMet_43 (fun H locs hw => ?_)
    refine lv_istore_n (lv' := [(2, .int v7), (0, .ref x0), (1, .int x1)]) fx.1 fx.2.1 dX11_laysMet_46 rfl hl (by decide) rfl (fun ls hl => ?_)
    refine lv_aload_n fx.1 fx.2.1 dX11_laysMet_47 rfl (lv_at hl 1 rfl) ?_
    obtain ⟨v9, hf, hok⟩ := gOk_bind hok
    refine g_callV0 (κ := 11) fx hw (c_X11_allOrders l X τ x0 G8 h0 hf) lv_RX11_386 ⟨rfl, rfl⟩ rfl rfl h0 rfl hl.1 rfl ⟨Nat.le_of_ble_eq_true rfl, Nat.le_of_ble_eq_true rfl⟩ (Nat.le_of_ble_eq_true rfl) ⟨Nat.le_of_ble_eq_true rfl, Nat.le_of_ble_eq_true rfl⟩ dX11_laysMet_48 (fun H locs hw => ?_)
    refine lv_istore_n (lv' := [(3, .int v9), (2, .int v7), (0, .ref x0), (1, .int x1)]) fx.1 fx.2.1 dX11_laysMet_51 rfl hl (by decide) rfl (fun ls hl => ?_)
    refine w_l_X11_laysMet_52 fx n x0 x1 v7 h0 ?_ n v9 G8 _ _ _  hw (lv_sub hl [2, 3, 1, 0] rfl) (gOk_bindK hok)
    intro G20 H locs ls hw hl hok
    have hok : gOk (ρ := (Int32 × gG) ⊕ ((gG))) (gLet (x1 + 1) fun v21 =>   some (.inl (v21, G20))) _ := hok
    obtain ⟨v21, e_v21, hok⟩ := gOk_let hok
    refine lv_iinc (v := v21) (lv' := [(1, .int v21), (0, .ref x0)]) fx.1 fx.2.1 dX11_laysMet_115 hl (k := 1) rfl (by rw [e_v21]; rfl) (by decide) rfl (fun ls hl => ?_)
    refine lv_goto (tgt := 33) fx.1 fx.2.1 dX11_laysMet_118 (by decide) ?_
    exact hc v21 G20 _ _ _  hw (lv_sub hl [1, 0] rfl) (gOk_some hok)
theorem w_l_X11_laysMet_33 {X : gX} {τ : gτ} {p : Program} {l : Launch} {e : Env} {s : State} {m : MethodId} {args : Array Value} {below : List Frame} {meth : Method} {c : Code} (fx : gFx X p s m args meth c cX11_laysMet 5 RX11) (n : Nat) (x0 : Nat) (h0 : gK τ x0 11) {Q : State → Prop} {K : ((gG)) → Prop} (hx0 : ∀ (G : gG) (H : Heap) (locs : List Loc) (ls : Array Slot), gHw X τ G H locs → lv_has ls 5 [] → K G → W p l e rm_X11_laysMet s m args below meth c H locs 0 0 Q (F0 m 121 ls [])) : ∀ (k : Nat) (x1 : Int32) (G : gG) (H : Heap) (locs : List Loc) (ls : Array Slot), gHw X τ G H locs → lv_has ls 5 [(0, .ref x0), (1, .int x1)] → gOk (gIter (fun (q : Int32 × gG) => b_X11_laysMet_33 τ n x0 q.1 q.2) k (x1, G)) K → W p l e rm_X11_laysMet s m args below meth c H locs 0 0 Q (F0 m 33 ls []) := by
  intro k
  induction k with
  | zero =>
    intro x1 G H locs ls hw hl hok
    exact gOk_iter0 hok
  | succ k hc =>
    intro x1 G H locs ls hw hl hok
    exact w_b_X11_laysMet_33 fx n x0 x1 h0 hw hl (gOk_iter hok) hc hx0
set_option maxHeartbeats 4000000 in
set_option maxRecDepth 100000 in
theorem w_X11_laysMet_31 {X : gX} {τ : gτ} {p : Program} {l : Launch} {e : Env} {s : State} {m : MethodId} {args : Array Value} {below : List Frame} {meth : Method} {c : Code} (fx : gFx X p s m args meth c cX11_laysMet 5 RX11) (n : Nat) (x0 : Nat)  (h0 : gK τ x0 11)  (hr : meth.sig.returnType = none) {G' : gG} {G : gG} {H : Heap} {locs : List Loc} {ls : Array Slot} (hw : gHw X τ G H locs) (hl : lv_has ls 5 [(0, .ref x0)]) (hok : gOk (k_X11_laysMet_31 τ n x0  G) (fun q => q = G'))  : W p l e rm_X11_laysMet s m args below meth c H locs 0 0 (MQ below (gQ X τ none G') args s 0 0 (gFree X)) (F0 m 31 ls []) := by
  unfold k_X11_laysMet_31 at hok
  refine lv_iconst (v := 0) fx.1 fx.2.1 dX11_laysMet_31 (by decide) ?_
  refine lv_istore_n (lv' := [(1, .int (0 : Int32)), (0, .ref x0)]) fx.1 fx.2.1 dX11_laysMet_32 rfl hl (by decide) rfl (fun ls hl => ?_)
  refine w_l_X11_laysMet_33 fx n x0 h0 ?_ n (0 : Int32) G _ _ _  hw (lv_sub hl [1, 0] rfl) (gOk_bindK hok)
  intro G22 H locs ls hw hl hok
  have hok : gOk (ρ := gG) (some G22) _ := hok
  cases gOk_some hok
  exact g_vret fx hw hr dX11_laysMet_121
set_option maxHeartbeats 4000000 in
set_option maxRecDepth 100000 in
theorem c_X11_laysMet (l : Launch) (X : gX) (τ : gτ) (n : Nat) (x0 : Nat) (G : gG) (h0 : gK τ x0 11) {G' : gG} (h : f_X11_laysMet τ n x0 G = some G') : gM l X τ yX11_laysMet cX11_laysMet 5 none rm_X11_laysMet [.ref x0] G none G' := by
  refine g_body (by decide +kernel) (Nat.le_of_ble_eq_true rfl) ?_
  intro p e s m args below meth c ls fx hr hw hl
  have fx : gFx X p s m args meth c cX11_laysMet 5 RX11 := fx
  have hl : lv_has ls 5 [(0, .ref x0)] := hl
  have hok : gOk (f_X11_laysMet τ n x0 G) (fun q => q = G') := ⟨_, h, rfl⟩
  unfold f_X11_laysMet at hok
  show W p l e rm_X11_laysMet s m args below meth c s.heap [] 0 0 (MQ below (gQ X τ none G') args s 0 0 (gFree X)) _
  refine lv_iconst (v := 0) fx.1 fx.2.1 dX11_laysMet_0 (by decide) ?_
  refine lv_istore_n (lv' := [(1, .int (0 : Int32)), (0, .ref x0)]) fx.1 fx.2.1 dX11_laysMet_1 rfl hl (by decide) rfl (fun ls hl => ?_)
  refine w_l_X11_laysMet_2 fx n x0 h0 ?_ n (0 : Int32) G _ _ _  hw (lv_sub hl [1, 0] rfl) (gOk_bindK hok)
  intro G5 H locs ls hw hl hok
  have hok : gOk (ρ := gG) (k_X11_laysMet_31 τ n x0  G5) _ := hok
  exact w_X11_laysMet_31 fx n x0  h0  hr hw (lv_sub hl [0] rfl) hok
theorem dX11_most_0 : decode cX11_most 0 = .ok (.aload_n 0, 1) := by decide +kernel
theorem dX11_most_1 : decode cX11_most 1 = .ok (.iconst 0, 1) := by decide +kernel
theorem dX11_most_2 : decode cX11_most 2 = .ok (.putfield 3, 3) := by decide +kernel
theorem dX11_most_5 : decode cX11_most 5 = .ok (.aload_n 0, 1) := by decide +kernel
theorem dX11_most_6 : decode cX11_most 6 = .ok (.invokevirtual 389, 3) := by decide +kernel
theorem dX11_most_9 : decode cX11_most 9 = .ok (.iconst 0, 1) := by decide +kernel
theorem dX11_most_10 : decode cX11_most 10 = .ok (.istore_n 2, 1) := by decide +kernel
theorem dX11_most_11 : decode cX11_most 11 = .ok (.iconst 0, 1) := by decide +kernel
theorem dX11_most_12 : decode cX11_most 12 = .ok (.istore_n 3, 1) := by decide +kernel
theorem dX11_most_13 : decode cX11_most 13 = .ok (.aload_n 0, 1) := by decide +kernel
theorem dX11_most_14 : decode cX11_most 14 = .ok (.invokevirtual 386, 3) := by decide +kernel
theorem dX11_most_17 : decode cX11_most 17 = .ok (.istore 4, 2) := by decide +kernel
theorem dX11_most_19 : decode cX11_most 19 = .ok (.iload 4, 2) := by decide +kernel
theorem dX11_most_21 : decode cX11_most 21 = .ok (.ifCond .le 52, 3) := by decide +kernel
theorem dX11_most_24 : decode cX11_most 24 = .ok (.aload_n 0, 1) := by decide +kernel
theorem dX11_most_25 : decode cX11_most 25 = .ok (.getfield 42, 3) := by decide +kernel
theorem dX11_most_28 : decode cX11_most 28 = .ok (.iload 4, 2) := by decide +kernel
theorem dX11_most_30 : decode cX11_most 30 = .ok (.iaload, 1) := by decide +kernel
theorem dX11_most_31 : decode cX11_most 31 = .ok (.ifCond .ne 6, 3) := by decide +kernel
theorem dX11_most_34 : decode cX11_most 34 = .ok (.goto 33, 3) := by decide +kernel
theorem dX11_most_37 : decode cX11_most 37 = .ok (.iload 4, 2) := by decide +kernel
theorem dX11_most_39 : decode cX11_most 39 = .ok (.invokestatic 273, 3) := by decide +kernel
theorem dX11_most_42 : decode cX11_most 42 = .ok (.iload_n 2, 1) := by decide +kernel
theorem dX11_most_43 : decode cX11_most 43 = .ok (.invokestatic 273, 3) := by decide +kernel
theorem dX11_most_46 : decode cX11_most 46 = .ok (.if_icmp .lt 8, 3) := by decide +kernel
theorem dX11_most_49 : decode cX11_most 49 = .ok (.iload 4, 2) := by decide +kernel
theorem dX11_most_51 : decode cX11_most 51 = .ok (.goto 4, 3) := by decide +kernel
theorem dX11_most_54 : decode cX11_most 54 = .ok (.iload_n 2, 1) := by decide +kernel
theorem dX11_most_55 : decode cX11_most 55 = .ok (.istore_n 2, 1) := by decide +kernel
theorem dX11_most_56 : decode cX11_most 56 = .ok (.iload_n 3, 1) := by decide +kernel
theorem dX11_most_57 : decode cX11_most 57 = .ok (.aload_n 0, 1) := by decide +kernel
theorem dX11_most_58 : decode cX11_most 58 = .ok (.iload 4, 2) := by decide +kernel
theorem dX11_most_60 : decode cX11_most 60 = .ok (.invokevirtual 392, 3) := by decide +kernel
theorem dX11_most_63 : decode cX11_most 63 = .ok (.invokestatic 270, 3) := by decide +kernel
theorem dX11_most_66 : decode cX11_most 66 = .ok (.istore_n 3, 1) := by decide +kernel
theorem dX11_most_67 : decode cX11_most 67 = .ok (.iinc 4 (-1), 3) := by decide +kernel
theorem dX11_most_70 : decode cX11_most 70 = .ok (.goto (-51), 3) := by decide +kernel
theorem dX11_most_73 : decode cX11_most 73 = .ok (.iload_n 1, 1) := by decide +kernel
theorem dX11_most_74 : decode cX11_most 74 = .ok (.ifCond .eq 7, 3) := by decide +kernel
theorem dX11_most_77 : decode cX11_most 77 = .ok (.iload_n 3, 1) := by decide +kernel
theorem dX11_most_78 : decode cX11_most 78 = .ok (.goto 4, 3) := by decide +kernel
theorem dX11_most_81 : decode cX11_most 81 = .ok (.iload_n 2, 1) := by decide +kernel
theorem dX11_most_82 : decode cX11_most 82 = .ok (.ireturn, 1) := by decide +kernel
theorem lv_RX11_389 : gLv RX11 389 RX11 yX11_laysMet cX11_laysMet 5 none 0 := gLv_of (wA_t (wt8 (List.mem_of_getElem? (i := 211) (by decide +kernel))) (by decide +kernel)) (wA_t (wt8 (List.mem_of_getElem? (i := 213) (by decide +kernel))) (by decide +kernel)) (wA_of (List.mem_append_left _ (List.mem_map.mpr ⟨(⟨"YearRopeModel", "laysMet", "()V"⟩, 20), wp7 (List.mem_of_getElem? (i := 13) (by decide +kernel)), rfl⟩)) (by decide +kernel)) (wA_t (wt1 (List.mem_of_getElem? (i := 12) (by decide +kernel))) (by decide +kernel)) (wA_t (wt8 (List.mem_of_getElem? (i := 214) (by decide +kernel))) (by decide +kernel)) ⟨rfl, by decide +kernel, by decide +kernel, by decide +kernel⟩
theorem lv_RX11_392 : gLv RX11 392 RX11 yX11_payOf cX11_payOf 4 (some .int) 1 := gLv_of (wA_t (wt8 (List.mem_of_getElem? (i := 219) (by decide +kernel))) (by decide +kernel)) (wA_t (wt8 (List.mem_of_getElem? (i := 221) (by decide +kernel))) (by decide +kernel)) (wA_of (List.mem_append_left _ (List.mem_map.mpr ⟨(⟨"YearRopeModel", "payOf", "(I)I"⟩, 20), wp7 (List.mem_of_getElem? (i := 15) (by decide +kernel)), rfl⟩)) (by decide +kernel)) (wA_t (wt1 (List.mem_of_getElem? (i := 12) (by decide +kernel))) (by decide +kernel)) (wA_t (wt8 (List.mem_of_getElem? (i := 222) (by decide +kernel))) (by decide +kernel)) ⟨rfl, by decide +kernel, by decide +kernel, by decide +kernel⟩
def rm_X11_most : Room := { frames := 11, cells := 0, slots := 0, locals := 254 }
def k_X11_most_55 (τ : gτ) (n : Nat) (x0 : Nat) (x1 : Int32) (x3 : Int32) (x4 : Int32) (s0 : Int32) (G : gG) : Option ((Int32 × Int32 × Int32) ⊕ ((Int32 × Int32))) :=
  (f_X11_payOf τ n x0 x4 G).bind fun v8 =>
  gLet (gmax x3 v8) fun v9 =>
  gLet (x4 + (-1)) fun v10 =>
  some (.inl (s0, v9, v10))
def b_X11_most_19 (τ : gτ) (n : Nat) (x0 : Nat) (x1 : Int32) (x2 : Int32) (x3 : Int32) (x4 : Int32) (G : gG) : Option ((Int32 × Int32 × Int32) ⊕ ((Int32 × Int32))) :=
  if x4 ≤ 0 then (some (.inr (x2, x3)))
  else ((gr G 11 18 x0).bind fun a4 =>
  gchk (gIn x4 (gn τ a4)) <|
  if (ge G a4 (Int32.toNatClampNeg x4)) = 0 then (gLet (x4 + (-1)) fun v5 =>
  some (.inl (x2, x3, v5)))
  else ((f_J6_bitCount_0f7a4 x4).bind fun v6 =>
  (f_J6_bitCount_0f7a4 x2).bind fun v7 =>
  if v6 < v7 then (k_X11_most_55 τ n x0 x1 x3 x4 x2 G)
  else (k_X11_most_55 τ n x0 x1 x3 x4 x4 G)))
def l_X11_most_19 (τ : gτ) (n : Nat) (x0 : Nat) (x1 : Int32) (x2 : Int32) (x3 : Int32) (x4 : Int32) (G : gG) : Option ((Int32 × Int32)) :=
  gIter (fun (q : Int32 × Int32 × Int32) => b_X11_most_19 τ n x0 x1 q.1 q.2.1 q.2.2 G) n (x2, x3, x4)
def k_X11_most_73 (τ : gτ) (n : Nat) (x1 : Int32) (x2 : Int32) (x3 : Int32)  (G : gG) : Option (Int32 × gG) :=
  if x1 = 0 then (some (x2, G))
  else (some (x3, G))
def f_X11_most (τ : gτ) (n : Nat) (x0 : Nat) (x1 : Int32) (G : gG) : Option (Int32 × gG) :=
  gLet (gsi G 11 0 x0 (0 : Int32)) fun G1 =>
  (f_X11_laysMet τ n x0 G1).bind fun G2 =>
  (f_X11_allOrders τ x0 G2).bind fun v3 =>
  (l_X11_most_19 τ n x0 x1 (0 : Int32) (0 : Int32) v3 G2).bind fun q => gLet q.1 fun z11 => gLet q.2 fun z12 => 
  k_X11_most_73 τ n x1 z11 z12  G2
set_option maxHeartbeats 4000000 in
set_option maxRecDepth 100000 in
theorem w_X11_most_55 {X : gX} {τ : gτ} {p : Program} {l : Launch} {e : Env} {s : State} {m : MethodId} {args : Array Value} {below : List Frame} {meth : Method} {c : Code} (fx : gFx X p s m args meth c cX11_most 5 RX11) (n : Nat) (x0 : Nat) (x1 : Int32) (x3 : Int32) (x4 : Int32) (s0 : Int32) (h0 : gK τ x0 11)  {Q : State → Prop} {K : ((Int32 × Int32 × Int32) ⊕ ((Int32 × Int32))) → Prop} {G : gG} {H : Heap} {locs : List Loc} {ls : Array Slot} (hw : gHw X τ G H locs) (hl : lv_has ls 5 [(0, .ref x0), (1, .int x1), (3, .int x3), (4, .int x4)]) (hok : gOk (k_X11_most_55 τ n x0 x1 x3 x4 s0 G) K) (hc : ∀ (y2 : Int32) (y3 : Int32) (y4 : Int32) (H : Heap) (locs : List Loc) (ls : Array Slot), gHw X τ G H locs → lv_has ls 5 [(0, .ref x0), (1, .int x1), (2, .int y2), (3, .int y3), (4, .int y4)] → K (.inl (y2, y3, y4)) → W p l e rm_X11_most s m args below meth c H locs 0 0 Q (F0 m 19 ls [])) (hx0 : ∀ (y2 : Int32) (y3 : Int32) (H : Heap) (locs : List Loc) (ls : Array Slot), gHw X τ G H locs → lv_has ls 5 [(1, .int x1), (2, .int y2), (3, .int y3)] → K (.inr (y2, y3)) → W p l e rm_X11_most s m args below meth c H locs 0 0 Q (F0 m 73 ls [])) : W p l e rm_X11_most s m args below meth c H locs 0 0 Q (F0 m 55 ls [.int s0]) := by
  unfold k_X11_most_55 at hok
  refine lv_istore_n (lv' := [(2, .int s0), (0, .ref x0), (1, .int x1), (3, .int x3), (4, .int x4)]) fx.1 fx.2.1 dX11_most_55 rfl hl (by decide) rfl (fun ls hl => ?_)
  refine lv_iload_n fx.1 fx.2.1 dX11_most_56 rfl (lv_at hl 3 rfl) ?_
  refine lv_aload_n fx.1 fx.2.1 dX11_most_57 rfl (lv_at hl 1 rfl) ?_
  refine lv_iload fx.1 fx.2.1 dX11_most_58 (lv_at hl 4 rfl) ?_
  obtain ⟨v8, hf, hok⟩ := gOk_bind hok
  refine g_callV0 (κ := 11) fx hw (c_X11_payOf l X τ n x0 x4 G h0 hf) lv_RX11_392 ⟨rfl, rfl⟩ rfl rfl h0 rfl hl.1 rfl ⟨Nat.le_of_ble_eq_true rfl, Nat.le_of_ble_eq_true rfl⟩ (Nat.le_of_ble_eq_true rfl) ⟨Nat.le_of_ble_eq_true rfl, Nat.le_of_ble_eq_true rfl⟩ dX11_most_60 (fun H locs hw => ?_)
  refine g_mmax fx hl.1 lm_RX11_270 lmst_max lm_init lmco_max ⟨Nat.le_of_ble_eq_true rfl, Nat.le_of_ble_eq_true rfl, Nat.le_of_ble_eq_true rfl, Nat.le_of_ble_eq_true rfl⟩ dX11_most_63 ?_
  refine g_leti hok (fun v9 hok => ?_)
  refine lv_istore_n (lv' := [(3, .int v9), (2, .int s0), (0, .ref x0), (1, .int x1), (4, .int x4)]) fx.1 fx.2.1 dX11_most_66 rfl hl (by decide) rfl (fun ls hl => ?_)
  obtain ⟨v10, e_v10, hok⟩ := gOk_let hok
  refine lv_iinc (v := v10) (lv' := [(4, .int v10), (3, .int v9), (2, .int s0), (0, .ref x0), (1, .int x1)]) fx.1 fx.2.1 dX11_most_67 hl (k := 4) rfl (by rw [e_v10]; rfl) (by decide) rfl (fun ls hl => ?_)
  refine lv_goto (tgt := 19) fx.1 fx.2.1 dX11_most_70 (by decide) ?_
  exact hc s0 v9 v10  _ _ _  hw (lv_sub hl [3, 4, 2, 1, 0] rfl) (gOk_some hok)
set_option maxHeartbeats 4000000 in
set_option maxRecDepth 100000 in
theorem w_b_X11_most_19 {X : gX} {τ : gτ} {p : Program} {l : Launch} {e : Env} {s : State} {m : MethodId} {args : Array Value} {below : List Frame} {meth : Method} {c : Code} (fx : gFx X p s m args meth c cX11_most 5 RX11) (n : Nat) (x0 : Nat) (x1 : Int32) (x2 : Int32) (x3 : Int32) (x4 : Int32) (h0 : gK τ x0 11) {Q : State → Prop} {K : ((Int32 × Int32 × Int32) ⊕ ((Int32 × Int32))) → Prop} {G : gG} {H : Heap} {locs : List Loc} {ls : Array Slot} (hw : gHw X τ G H locs) (hl : lv_has ls 5 [(0, .ref x0), (1, .int x1), (2, .int x2), (3, .int x3), (4, .int x4)]) (hok : gOk (b_X11_most_19 τ n x0 x1 x2 x3 x4 G) K) (hc : ∀ (y2 : Int32) (y3 : Int32) (y4 : Int32) (H : Heap) (locs : List Loc) (ls : Array Slot), gHw X τ G H locs → lv_has ls 5 [(0, .ref x0), (1, .int x1), (2, .int y2), (3, .int y3), (4, .int y4)] → K (.inl (y2, y3, y4)) → W p l e rm_X11_most s m args below meth c H locs 0 0 Q (F0 m 19 ls [])) (hx0 : ∀ (y2 : Int32) (y3 : Int32) (H : Heap) (locs : List Loc) (ls : Array Slot), gHw X τ G H locs → lv_has ls 5 [(1, .int x1), (2, .int y2), (3, .int y3)] → K (.inr (y2, y3)) → W p l e rm_X11_most s m args below meth c H locs 0 0 Q (F0 m 73 ls [])) : W p l e rm_X11_most s m args below meth c H locs 0 0 Q (F0 m 19 ls []) := by
  unfold b_X11_most_19 at hok
  refine lv_iload fx.1 fx.2.1 dX11_most_19 (lv_at hl 4 rfl) ?_
  refine g_if_le (tgt := 73) fx dX11_most_21 (by decide) hok (fun hok => ?_) (fun hok => ?_)
  · exact hx0 x2 x3  _ _ _  hw (lv_sub hl [1, 2, 3] rfl) (gOk_some hok)
  · refine lv_aload_n fx.1 fx.2.1 dX11_most_24 rfl (lv_at hl 0 rfl) ?_
    refine g_getr fx hw h0 lf_RX11_42 rfl dX11_most_25 hok (fun a4 h_a4 hok => ?_)
    refine lv_iload fx.1 fx.2.1 dX11_most_28 (lv_at hl 4 rfl) ?_
    refine g_iald fx hw h_a4 dX11_most_30 hok (fun hok => ?_)
    refine g_if_ne (tgt := 37) fx dX11_most_31 (by decide) hok (fun hok => ?_) (fun hok => ?_)
    · refine lv_goto (tgt := 67) fx.1 fx.2.1 dX11_most_34 (by decide) ?_
      obtain ⟨v5, e_v5, hok⟩ := gOk_let hok
      refine lv_iinc (v := v5) (lv' := [(4, .int v5), (0, .ref x0), (1, .int x1), (2, .int x2), (3, .int x3)]) fx.1 fx.2.1 dX11_most_67 hl (k := 4) rfl (by rw [e_v5]; rfl) (by decide) rfl (fun ls hl => ?_)
      refine lv_goto (tgt := 19) fx.1 fx.2.1 dX11_most_70 (by decide) ?_
      exact hc x2 x3 v5  _ _ _  hw (lv_sub hl [1, 2, 3, 4, 0] rfl) (gOk_some hok)
    · refine lv_iload fx.1 fx.2.1 dX11_most_37 (lv_at hl 4 rfl) ?_
      obtain ⟨v6, hf, hok⟩ := gOk_bind hok
      refine g_callS0 fx hw (c_J6_bitCount_0f7a4 l X τ x4 G  hf) ls_RX11_273 ⟨rfl, rfl⟩ rfl hl.1 rfl ⟨Nat.le_of_ble_eq_true rfl, Nat.le_of_ble_eq_true rfl⟩ (Nat.le_of_ble_eq_true rfl) ⟨Nat.le_of_ble_eq_true rfl, Nat.le_of_ble_eq_true rfl⟩ dX11_most_39 (fun H locs hw => ?_)
      refine lv_iload_n fx.1 fx.2.1 dX11_most_42 rfl (lv_at hl 2 rfl) ?_
      obtain ⟨v7, hf, hok⟩ := gOk_bind hok
      refine g_callS0 fx hw (c_J6_bitCount_0f7a4 l X τ x2 G  hf) ls_RX11_273 ⟨rfl, rfl⟩ rfl hl.1 rfl ⟨Nat.le_of_ble_eq_true rfl, Nat.le_of_ble_eq_true rfl⟩ (Nat.le_of_ble_eq_true rfl) ⟨Nat.le_of_ble_eq_true rfl, Nat.le_of_ble_eq_true rfl⟩ dX11_most_43 (fun H locs hw => ?_)
      refine g_icmp_lt (tgt := 54) fx dX11_most_46 (by decide) hok (fun hok => ?_) (fun hok => ?_)
      · refine lv_iload_n fx.1 fx.2.1 dX11_most_54 rfl (lv_at hl 2 rfl) ?_
        exact w_X11_most_55 fx n x0 x1 x3 x4 x2 h0  hw (lv_sub hl [0, 1, 3, 4] rfl) hok hc hx0
      · refine lv_iload fx.1 fx.2.1 dX11_most_49 (lv_at hl 4 rfl) ?_
        refine lv_goto (tgt := 55) fx.1 fx.2.1 dX11_most_51 (by decide) ?_
        exact w_X11_most_55 fx n x0 x1 x3 x4 x4 h0  hw (lv_sub hl [0, 1, 3, 4] rfl) hok hc hx0
theorem w_l_X11_most_19 {X : gX} {τ : gτ} {p : Program} {l : Launch} {e : Env} {s : State} {m : MethodId} {args : Array Value} {below : List Frame} {meth : Method} {c : Code} (fx : gFx X p s m args meth c cX11_most 5 RX11) (n : Nat) (x0 : Nat) (x1 : Int32) (h0 : gK τ x0 11) (G : gG) {Q : State → Prop} {K : ((Int32 × Int32)) → Prop} (hx0 : ∀ (y2 : Int32) (y3 : Int32) (H : Heap) (locs : List Loc) (ls : Array Slot), gHw X τ G H locs → lv_has ls 5 [(1, .int x1), (2, .int y2), (3, .int y3)] → K (y2, y3) → W p l e rm_X11_most s m args below meth c H locs 0 0 Q (F0 m 73 ls [])) : ∀ (k : Nat) (x2 : Int32) (x3 : Int32) (x4 : Int32) (H : Heap) (locs : List Loc) (ls : Array Slot), gHw X τ G H locs → lv_has ls 5 [(0, .ref x0), (1, .int x1), (2, .int x2), (3, .int x3), (4, .int x4)] → gOk (gIter (fun (q : Int32 × Int32 × Int32) => b_X11_most_19 τ n x0 x1 q.1 q.2.1 q.2.2 G) k (x2, x3, x4)) K → W p l e rm_X11_most s m args below meth c H locs 0 0 Q (F0 m 19 ls []) := by
  intro k
  induction k with
  | zero =>
    intro x2 x3 x4  H locs ls hw hl hok
    exact gOk_iter0 hok
  | succ k hc =>
    intro x2 x3 x4  H locs ls hw hl hok
    exact w_b_X11_most_19 fx n x0 x1 x2 x3 x4 h0 hw hl (gOk_iter hok) hc hx0
set_option maxHeartbeats 4000000 in
set_option maxRecDepth 100000 in
theorem w_X11_most_73 {X : gX} {τ : gτ} {p : Program} {l : Launch} {e : Env} {s : State} {m : MethodId} {args : Array Value} {below : List Frame} {meth : Method} {c : Code} (fx : gFx X p s m args meth c cX11_most 5 RX11) (n : Nat) (x1 : Int32) (x2 : Int32) (x3 : Int32)    (hr : meth.sig.returnType = (some .int)) {r : Int32} {G' : gG} {G : gG} {H : Heap} {locs : List Loc} {ls : Array Slot} (hw : gHw X τ G H locs) (hl : lv_has ls 5 [(1, .int x1), (2, .int x2), (3, .int x3)]) (hok : gOk (k_X11_most_73 τ n x1 x2 x3  G) (fun q => q = (r, G')))  : W p l e rm_X11_most s m args below meth c H locs 0 0 (MQ below (gQ X τ (some (.int r)) G') args s 0 0 (gFree X)) (F0 m 73 ls []) := by
  unfold k_X11_most_73 at hok
  refine lv_iload_n fx.1 fx.2.1 dX11_most_73 rfl (lv_at hl 0 rfl) ?_
  refine g_if_eq (tgt := 81) fx dX11_most_74 (by decide) hok (fun hok => ?_) (fun hok => ?_)
  · refine lv_iload_n fx.1 fx.2.1 dX11_most_81 rfl (lv_at hl 1 rfl) ?_
    cases gOk_some hok
    exact g_iret fx hw hr dX11_most_82
  · refine lv_iload_n fx.1 fx.2.1 dX11_most_77 rfl (lv_at hl 2 rfl) ?_
    refine lv_goto (tgt := 82) fx.1 fx.2.1 dX11_most_78 (by decide) ?_
    cases gOk_some hok
    exact g_iret fx hw hr dX11_most_82
set_option maxHeartbeats 4000000 in
set_option maxRecDepth 100000 in
theorem c_X11_most (l : Launch) (X : gX) (τ : gτ) (n : Nat) (x0 : Nat) (x1 : Int32) (G : gG) (h0 : gK τ x0 11) {r : Int32} {G' : gG} (h : f_X11_most τ n x0 x1 G = some (r, G')) : gM l X τ yX11_most cX11_most 5 (some .int) rm_X11_most [.ref x0, .int x1] G (some (.int r)) G' := by
  refine g_body (by decide +kernel) (Nat.le_of_ble_eq_true rfl) ?_
  intro p e s m args below meth c ls fx hr hw hl
  have fx : gFx X p s m args meth c cX11_most 5 RX11 := fx
  have hl : lv_has ls 5 [(0, .ref x0), (1, .int x1)] := hl
  have hok : gOk (f_X11_most τ n x0 x1 G) (fun q => q = (r, G')) := ⟨_, h, rfl⟩
  unfold f_X11_most at hok
  show W p l e rm_X11_most s m args below meth c s.heap [] 0 0 (MQ below (gQ X τ (some (.int r)) G') args s 0 0 (gFree X)) _
  refine lv_aload_n fx.1 fx.2.1 dX11_most_0 rfl (lv_at hl 0 rfl) ?_
  refine lv_iconst (v := 0) fx.1 fx.2.1 dX11_most_1 (by decide) ?_
  refine g_puti fx hw h0 lp_RX11_3 rfl rfl dX11_most_2 hok (fun G1 H locs hw hok => ?_)
  refine lv_aload_n fx.1 fx.2.1 dX11_most_5 rfl (lv_at hl 0 rfl) ?_
  obtain ⟨G2, hf, hok⟩ := gOk_bind hok
  refine g_callV0 (κ := 11) fx hw (c_X11_laysMet l X τ n x0 G1 h0 hf) lv_RX11_389 ⟨rfl, rfl⟩ rfl rfl h0 rfl hl.1 rfl ⟨Nat.le_of_ble_eq_true rfl, Nat.le_of_ble_eq_true rfl⟩ (Nat.le_of_ble_eq_true rfl) ⟨Nat.le_of_ble_eq_true rfl, Nat.le_of_ble_eq_true rfl⟩ dX11_most_6 (fun H locs hw => ?_)
  refine lv_iconst (v := 0) fx.1 fx.2.1 dX11_most_9 (by decide) ?_
  refine lv_istore_n (lv' := [(2, .int (0 : Int32)), (0, .ref x0), (1, .int x1)]) fx.1 fx.2.1 dX11_most_10 rfl hl (by decide) rfl (fun ls hl => ?_)
  refine lv_iconst (v := 0) fx.1 fx.2.1 dX11_most_11 (by decide) ?_
  refine lv_istore_n (lv' := [(3, .int (0 : Int32)), (2, .int (0 : Int32)), (0, .ref x0), (1, .int x1)]) fx.1 fx.2.1 dX11_most_12 rfl hl (by decide) rfl (fun ls hl => ?_)
  refine lv_aload_n fx.1 fx.2.1 dX11_most_13 rfl (lv_at hl 2 rfl) ?_
  obtain ⟨v3, hf, hok⟩ := gOk_bind hok
  refine g_callV0 (κ := 11) fx hw (c_X11_allOrders l X τ x0 G2 h0 hf) lv_RX11_386 ⟨rfl, rfl⟩ rfl rfl h0 rfl hl.1 rfl ⟨Nat.le_of_ble_eq_true rfl, Nat.le_of_ble_eq_true rfl⟩ (Nat.le_of_ble_eq_true rfl) ⟨Nat.le_of_ble_eq_true rfl, Nat.le_of_ble_eq_true rfl⟩ dX11_most_14 (fun H locs hw => ?_)
  refine lv_istore (lv' := [(4, .int v3), (3, .int (0 : Int32)), (2, .int (0 : Int32)), (0, .ref x0), (1, .int x1)]) fx.1 fx.2.1 dX11_most_17 hl (by decide) rfl (fun ls hl => ?_)
  refine w_l_X11_most_19 fx n x0 x1 h0 G2 ?_ n (0 : Int32) (0 : Int32) v3  _ _ _  hw (lv_sub hl [3, 4, 2, 1, 0] rfl) (gOk_bindK hok)
  intro z11 z12  H locs ls hw hl hok
  have hok : gOk (ρ := Int32 × gG) (k_X11_most_73 τ n x1 z11 z12  G2) _ := hok
  exact w_X11_most_73 fx n x1 z11 z12    hr hw (lv_sub hl [0, 1, 2] rfl) hok
theorem dX11_longOf_0 : decode cX11_longOf 0 = .ok (.iconst 0, 1) := by decide +kernel
theorem dX11_longOf_1 : decode cX11_longOf 1 = .ok (.istore_n 2, 1) := by decide +kernel
theorem dX11_longOf_2 : decode cX11_longOf 2 = .ok (.iconst 0, 1) := by decide +kernel
theorem dX11_longOf_3 : decode cX11_longOf 3 = .ok (.istore_n 3, 1) := by decide +kernel
theorem dX11_longOf_4 : decode cX11_longOf 4 = .ok (.iload_n 3, 1) := by decide +kernel
theorem dX11_longOf_5 : decode cX11_longOf 5 = .ok (.aload_n 0, 1) := by decide +kernel
theorem dX11_longOf_6 : decode cX11_longOf 6 = .ok (.invokevirtual 76, 3) := by decide +kernel
theorem dX11_longOf_9 : decode cX11_longOf 9 = .ok (.if_icmp .ge 30, 3) := by decide +kernel
theorem dX11_longOf_12 : decode cX11_longOf 12 = .ok (.iload_n 2, 1) := by decide +kernel
theorem dX11_longOf_13 : decode cX11_longOf 13 = .ok (.iload_n 1, 1) := by decide +kernel
theorem dX11_longOf_14 : decode cX11_longOf 14 = .ok (.iload_n 3, 1) := by decide +kernel
theorem dX11_longOf_15 : decode cX11_longOf 15 = .ok (.invokestatic 312, 3) := by decide +kernel
theorem dX11_longOf_18 : decode cX11_longOf 18 = .ok (.ifCond .eq 12, 3) := by decide +kernel
theorem dX11_longOf_21 : decode cX11_longOf 21 = .ok (.aload_n 0, 1) := by decide +kernel
theorem dX11_longOf_22 : decode cX11_longOf 22 = .ok (.iload_n 3, 1) := by decide +kernel
theorem dX11_longOf_23 : decode cX11_longOf 23 = .ok (.iconst 1, 1) := by decide +kernel
theorem dX11_longOf_24 : decode cX11_longOf 24 = .ok (.invokevirtual 336, 3) := by decide +kernel
theorem dX11_longOf_27 : decode cX11_longOf 27 = .ok (.goto 4, 3) := by decide +kernel
theorem dX11_longOf_30 : decode cX11_longOf 30 = .ok (.iconst 0, 1) := by decide +kernel
theorem dX11_longOf_31 : decode cX11_longOf 31 = .ok (.iadd, 1) := by decide +kernel
theorem dX11_longOf_32 : decode cX11_longOf 32 = .ok (.istore_n 2, 1) := by decide +kernel
theorem dX11_longOf_33 : decode cX11_longOf 33 = .ok (.iinc 3 1, 3) := by decide +kernel
theorem dX11_longOf_36 : decode cX11_longOf 36 = .ok (.goto (-32), 3) := by decide +kernel
theorem dX11_longOf_39 : decode cX11_longOf 39 = .ok (.iload_n 2, 1) := by decide +kernel
theorem dX11_longOf_40 : decode cX11_longOf 40 = .ok (.ireturn, 1) := by decide +kernel
def rm_X11_longOf : Room := { frames := 1, cells := 0, slots := 0, locals := 22 }
def k_X11_longOf_31 (τ : gτ) (n : Nat) (x0 : Nat) (x1 : Int32) (x3 : Int32) (s0 : Int32) (s1 : Int32) (G : gG) : Option ((Int32 × Int32) ⊕ ((Int32))) :=
  gLet (s0 + s1) fun v3 =>
  gLet (x3 + 1) fun v4 =>
  some (.inl (v3, v4))
def b_X11_longOf_4 (τ : gτ) (n : Nat) (x0 : Nat) (x1 : Int32) (x2 : Int32) (x3 : Int32) (G : gG) : Option ((Int32 × Int32) ⊕ ((Int32))) :=
  (f_X11_orders τ x0 G).bind fun v1 =>
  if v1 ≤ x3 then (some (.inr x2))
  else ((f_X11_has x1 x3).bind fun v2 =>
  if v2 = 0 then (k_X11_longOf_31 τ n x0 x1 x3 x2 (0 : Int32) G)
  else ((f_X11_ofOrder τ x0 x3 (1 : Int32) G).bind fun v5 =>
  k_X11_longOf_31 τ n x0 x1 x3 x2 v5 G))
def l_X11_longOf_4 (τ : gτ) (n : Nat) (x0 : Nat) (x1 : Int32) (x2 : Int32) (x3 : Int32) (G : gG) : Option ((Int32)) :=
  gIter (fun (q : Int32 × Int32) => b_X11_longOf_4 τ n x0 x1 q.1 q.2 G) n (x2, x3)
def f_X11_longOf (τ : gτ) (n : Nat) (x0 : Nat) (x1 : Int32) (G : gG) : Option (Int32) :=
  (l_X11_longOf_4 τ n x0 x1 (0 : Int32) (0 : Int32) G).bind fun q => gLet q fun z6 => 
  some (z6)
set_option maxHeartbeats 4000000 in
set_option maxRecDepth 100000 in
theorem w_X11_longOf_31 {X : gX} {τ : gτ} {p : Program} {l : Launch} {e : Env} {s : State} {m : MethodId} {args : Array Value} {below : List Frame} {meth : Method} {c : Code} (fx : gFx X p s m args meth c cX11_longOf 4 RX11) (n : Nat) (x0 : Nat) (x1 : Int32) (x3 : Int32) (s0 : Int32) (s1 : Int32) (h0 : gK τ x0 11)  {Q : State → Prop} {K : ((Int32 × Int32) ⊕ ((Int32))) → Prop} {G : gG} {H : Heap} {locs : List Loc} {ls : Array Slot} (hw : gHw X τ G H locs) (hl : lv_has ls 4 [(0, .ref x0), (1, .int x1), (3, .int x3)]) (hok : gOk (k_X11_longOf_31 τ n x0 x1 x3 s0 s1 G) K) (hc : ∀ (y2 : Int32) (y3 : Int32) (H : Heap) (locs : List Loc) (ls : Array Slot), gHw X τ G H locs → lv_has ls 4 [(0, .ref x0), (1, .int x1), (2, .int y2), (3, .int y3)] → K (.inl (y2, y3)) → W p l e rm_X11_longOf s m args below meth c H locs 0 0 Q (F0 m 4 ls [])) (hx0 : ∀ (y2 : Int32) (H : Heap) (locs : List Loc) (ls : Array Slot), gHw X τ G H locs → lv_has ls 4 [(2, .int y2)] → K (.inr y2) → W p l e rm_X11_longOf s m args below meth c H locs 0 0 Q (F0 m 39 ls [])) : W p l e rm_X11_longOf s m args below meth c H locs 0 0 Q (F0 m 31 ls [.int s1, .int s0]) := by
  unfold k_X11_longOf_31 at hok
  refine lv_iadd fx.1 fx.2.1 dX11_longOf_31 ?_
  refine g_leti hok (fun v3 hok => ?_)
  refine lv_istore_n (lv' := [(2, .int v3), (0, .ref x0), (1, .int x1), (3, .int x3)]) fx.1 fx.2.1 dX11_longOf_32 rfl hl (by decide) rfl (fun ls hl => ?_)
  obtain ⟨v4, e_v4, hok⟩ := gOk_let hok
  refine lv_iinc (v := v4) (lv' := [(3, .int v4), (2, .int v3), (0, .ref x0), (1, .int x1)]) fx.1 fx.2.1 dX11_longOf_33 hl (k := 3) rfl (by rw [e_v4]; rfl) (by decide) rfl (fun ls hl => ?_)
  refine lv_goto (tgt := 4) fx.1 fx.2.1 dX11_longOf_36 (by decide) ?_
  exact hc v3 v4  _ _ _  hw (lv_sub hl [2, 3, 1, 0] rfl) (gOk_some hok)
set_option maxHeartbeats 4000000 in
set_option maxRecDepth 100000 in
theorem w_b_X11_longOf_4 {X : gX} {τ : gτ} {p : Program} {l : Launch} {e : Env} {s : State} {m : MethodId} {args : Array Value} {below : List Frame} {meth : Method} {c : Code} (fx : gFx X p s m args meth c cX11_longOf 4 RX11) (n : Nat) (x0 : Nat) (x1 : Int32) (x2 : Int32) (x3 : Int32) (h0 : gK τ x0 11) {Q : State → Prop} {K : ((Int32 × Int32) ⊕ ((Int32))) → Prop} {G : gG} {H : Heap} {locs : List Loc} {ls : Array Slot} (hw : gHw X τ G H locs) (hl : lv_has ls 4 [(0, .ref x0), (1, .int x1), (2, .int x2), (3, .int x3)]) (hok : gOk (b_X11_longOf_4 τ n x0 x1 x2 x3 G) K) (hc : ∀ (y2 : Int32) (y3 : Int32) (H : Heap) (locs : List Loc) (ls : Array Slot), gHw X τ G H locs → lv_has ls 4 [(0, .ref x0), (1, .int x1), (2, .int y2), (3, .int y3)] → K (.inl (y2, y3)) → W p l e rm_X11_longOf s m args below meth c H locs 0 0 Q (F0 m 4 ls [])) (hx0 : ∀ (y2 : Int32) (H : Heap) (locs : List Loc) (ls : Array Slot), gHw X τ G H locs → lv_has ls 4 [(2, .int y2)] → K (.inr y2) → W p l e rm_X11_longOf s m args below meth c H locs 0 0 Q (F0 m 39 ls [])) : W p l e rm_X11_longOf s m args below meth c H locs 0 0 Q (F0 m 4 ls []) := by
  unfold b_X11_longOf_4 at hok
  refine lv_iload_n fx.1 fx.2.1 dX11_longOf_4 rfl (lv_at hl 3 rfl) ?_
  refine lv_aload_n fx.1 fx.2.1 dX11_longOf_5 rfl (lv_at hl 0 rfl) ?_
  obtain ⟨v1, hf, hok⟩ := gOk_bind hok
  refine g_callV0 (κ := 11) fx hw (c_X11_orders l X τ x0 G h0 hf) lv_RX11_76 ⟨rfl, rfl⟩ rfl rfl h0 rfl hl.1 rfl ⟨Nat.le_of_ble_eq_true rfl, Nat.le_of_ble_eq_true rfl⟩ (Nat.le_of_ble_eq_true rfl) ⟨Nat.le_of_ble_eq_true rfl, Nat.le_of_ble_eq_true rfl⟩ dX11_longOf_6 (fun H locs hw => ?_)
  refine g_icmp_ge (tgt := 39) fx dX11_longOf_9 (by decide) hok (fun hok => ?_) (fun hok => ?_)
  · exact hx0 x2  _ _ _  hw (lv_sub hl [2] rfl) (gOk_some hok)
  · refine lv_iload_n fx.1 fx.2.1 dX11_longOf_12 rfl (lv_at hl 2 rfl) ?_
    refine lv_iload_n fx.1 fx.2.1 dX11_longOf_13 rfl (lv_at hl 1 rfl) ?_
    refine lv_iload_n fx.1 fx.2.1 dX11_longOf_14 rfl (lv_at hl 3 rfl) ?_
    obtain ⟨v2, hf, hok⟩ := gOk_bind hok
    refine g_callS0 fx hw (c_X11_has l X τ x1 x3 G  hf) ls_RX11_312 ⟨rfl, rfl⟩ rfl hl.1 rfl ⟨Nat.le_of_ble_eq_true rfl, Nat.le_of_ble_eq_true rfl⟩ (Nat.le_of_ble_eq_true rfl) ⟨Nat.le_of_ble_eq_true rfl, Nat.le_of_ble_eq_true rfl⟩ dX11_longOf_15 (fun H locs hw => ?_)
    refine g_if_eq (tgt := 30) fx dX11_longOf_18 (by decide) hok (fun hok => ?_) (fun hok => ?_)
    · refine lv_iconst (v := 0) fx.1 fx.2.1 dX11_longOf_30 (by decide) ?_
      exact w_X11_longOf_31 fx n x0 x1 x3 x2 (0 : Int32) h0  hw (lv_sub hl [0, 1, 3] rfl) hok hc hx0
    · refine lv_aload_n fx.1 fx.2.1 dX11_longOf_21 rfl (lv_at hl 0 rfl) ?_
      refine lv_iload_n fx.1 fx.2.1 dX11_longOf_22 rfl (lv_at hl 3 rfl) ?_
      refine lv_iconst (v := 1) fx.1 fx.2.1 dX11_longOf_23 (by decide) ?_
      obtain ⟨v5, hf, hok⟩ := gOk_bind hok
      refine g_callV0 (κ := 11) fx hw (c_X11_ofOrder l X τ x0 x3 (1 : Int32) G h0 hf) lv_RX11_336 ⟨rfl, rfl⟩ rfl rfl h0 rfl hl.1 rfl ⟨Nat.le_of_ble_eq_true rfl, Nat.le_of_ble_eq_true rfl⟩ (Nat.le_of_ble_eq_true rfl) ⟨Nat.le_of_ble_eq_true rfl, Nat.le_of_ble_eq_true rfl⟩ dX11_longOf_24 (fun H locs hw => ?_)
      refine lv_goto (tgt := 31) fx.1 fx.2.1 dX11_longOf_27 (by decide) ?_
      exact w_X11_longOf_31 fx n x0 x1 x3 x2 v5 h0  hw (lv_sub hl [0, 1, 3] rfl) hok hc hx0
theorem w_l_X11_longOf_4 {X : gX} {τ : gτ} {p : Program} {l : Launch} {e : Env} {s : State} {m : MethodId} {args : Array Value} {below : List Frame} {meth : Method} {c : Code} (fx : gFx X p s m args meth c cX11_longOf 4 RX11) (n : Nat) (x0 : Nat) (x1 : Int32) (h0 : gK τ x0 11) (G : gG) {Q : State → Prop} {K : ((Int32)) → Prop} (hx0 : ∀ (y2 : Int32) (H : Heap) (locs : List Loc) (ls : Array Slot), gHw X τ G H locs → lv_has ls 4 [(2, .int y2)] → K y2 → W p l e rm_X11_longOf s m args below meth c H locs 0 0 Q (F0 m 39 ls [])) : ∀ (k : Nat) (x2 : Int32) (x3 : Int32) (H : Heap) (locs : List Loc) (ls : Array Slot), gHw X τ G H locs → lv_has ls 4 [(0, .ref x0), (1, .int x1), (2, .int x2), (3, .int x3)] → gOk (gIter (fun (q : Int32 × Int32) => b_X11_longOf_4 τ n x0 x1 q.1 q.2 G) k (x2, x3)) K → W p l e rm_X11_longOf s m args below meth c H locs 0 0 Q (F0 m 4 ls []) := by
  intro k
  induction k with
  | zero =>
    intro x2 x3  H locs ls hw hl hok
    exact gOk_iter0 hok
  | succ k hc =>
    intro x2 x3  H locs ls hw hl hok
    exact w_b_X11_longOf_4 fx n x0 x1 x2 x3 h0 hw hl (gOk_iter hok) hc hx0
set_option maxHeartbeats 4000000 in
set_option maxRecDepth 100000 in
theorem c_X11_longOf (l : Launch) (X : gX) (τ : gτ) (n : Nat) (x0 : Nat) (x1 : Int32) (G : gG) (h0 : gK τ x0 11) {r : Int32}  (h : f_X11_longOf τ n x0 x1 G = some r) : gM l X τ yX11_longOf cX11_longOf 4 (some .int) rm_X11_longOf [.ref x0, .int x1] G (some (.int r)) G := by
  refine g_body (by decide +kernel) (Nat.le_of_ble_eq_true rfl) ?_
  intro p e s m args below meth c ls fx hr hw hl
  have fx : gFx X p s m args meth c cX11_longOf 4 RX11 := fx
  have hl : lv_has ls 4 [(0, .ref x0), (1, .int x1)] := hl
  have hok : gOk (f_X11_longOf τ n x0 x1 G) (fun q => q = r) := ⟨_, h, rfl⟩
  unfold f_X11_longOf at hok
  show W p l e rm_X11_longOf s m args below meth c s.heap [] 0 0 (MQ below (gQ X τ (some (.int r)) G) args s 0 0 (gFree X)) _
  refine lv_iconst (v := 0) fx.1 fx.2.1 dX11_longOf_0 (by decide) ?_
  refine lv_istore_n (lv' := [(2, .int (0 : Int32)), (0, .ref x0), (1, .int x1)]) fx.1 fx.2.1 dX11_longOf_1 rfl hl (by decide) rfl (fun ls hl => ?_)
  refine lv_iconst (v := 0) fx.1 fx.2.1 dX11_longOf_2 (by decide) ?_
  refine lv_istore_n (lv' := [(3, .int (0 : Int32)), (2, .int (0 : Int32)), (0, .ref x0), (1, .int x1)]) fx.1 fx.2.1 dX11_longOf_3 rfl hl (by decide) rfl (fun ls hl => ?_)
  refine w_l_X11_longOf_4 fx n x0 x1 h0 G ?_ n (0 : Int32) (0 : Int32)  _ _ _  hw (lv_sub hl [2, 3, 1, 0] rfl) (gOk_bindK hok)
  intro z6  H locs ls hw hl hok
  have hok : gOk (ρ := Int32) (some (z6)) _ := hok
  refine lv_iload_n fx.1 fx.2.1 dX11_longOf_39 rfl (lv_at hl 0 rfl) ?_
  cases gOk_some hok
  exact g_iret fx hw hr dX11_longOf_40
theorem dX11_cuts_0 : decode cX11_cuts 0 = .ok (.aload_n 0, 1) := by decide +kernel
theorem dX11_cuts_1 : decode cX11_cuts 1 = .ok (.iconst 0, 1) := by decide +kernel
theorem dX11_cuts_2 : decode cX11_cuts 2 = .ok (.putfield 3, 3) := by decide +kernel
theorem dX11_cuts_5 : decode cX11_cuts 5 = .ok (.aload_n 0, 1) := by decide +kernel
theorem dX11_cuts_6 : decode cX11_cuts 6 = .ok (.aload_n 0, 1) := by decide +kernel
theorem dX11_cuts_7 : decode cX11_cuts 7 = .ok (.iload_n 1, 1) := by decide +kernel
theorem dX11_cuts_8 : decode cX11_cuts 8 = .ok (.invokevirtual 321, 3) := by decide +kernel
theorem dX11_cuts_11 : decode cX11_cuts 11 = .ok (.iconst 1, 1) := by decide +kernel
theorem dX11_cuts_12 : decode cX11_cuts 12 = .ok (.invokevirtual 263, 3) := by decide +kernel
theorem dX11_cuts_15 : decode cX11_cuts 15 = .ok (.ifCond .eq 5, 3) := by decide +kernel
theorem dX11_cuts_18 : decode cX11_cuts 18 = .ok (.iconst 0, 1) := by decide +kernel
theorem dX11_cuts_19 : decode cX11_cuts 19 = .ok (.ireturn, 1) := by decide +kernel
theorem dX11_cuts_20 : decode cX11_cuts 20 = .ok (.iconst 0, 1) := by decide +kernel
theorem dX11_cuts_21 : decode cX11_cuts 21 = .ok (.istore_n 3, 1) := by decide +kernel
theorem dX11_cuts_22 : decode cX11_cuts 22 = .ok (.iconst 0, 1) := by decide +kernel
theorem dX11_cuts_23 : decode cX11_cuts 23 = .ok (.istore 4, 2) := by decide +kernel
theorem dX11_cuts_25 : decode cX11_cuts 25 = .ok (.iload 4, 2) := by decide +kernel
theorem dX11_cuts_27 : decode cX11_cuts 27 = .ok (.aload_n 0, 1) := by decide +kernel
theorem dX11_cuts_28 : decode cX11_cuts 28 = .ok (.invokevirtual 76, 3) := by decide +kernel
theorem dX11_cuts_31 : decode cX11_cuts 31 = .ok (.if_icmp .ge 43, 3) := by decide +kernel
theorem dX11_cuts_34 : decode cX11_cuts 34 = .ok (.aload_n 0, 1) := by decide +kernel
theorem dX11_cuts_35 : decode cX11_cuts 35 = .ok (.iload_n 1, 1) := by decide +kernel
theorem dX11_cuts_36 : decode cX11_cuts 36 = .ok (.invokevirtual 146, 3) := by decide +kernel
theorem dX11_cuts_39 : decode cX11_cuts 39 = .ok (.ifCond .eq 35, 3) := by decide +kernel
theorem dX11_cuts_42 : decode cX11_cuts 42 = .ok (.iload_n 3, 1) := by decide +kernel
theorem dX11_cuts_43 : decode cX11_cuts 43 = .ok (.aload_n 0, 1) := by decide +kernel
theorem dX11_cuts_44 : decode cX11_cuts 44 = .ok (.iload 4, 2) := by decide +kernel
theorem dX11_cuts_46 : decode cX11_cuts 46 = .ok (.iconst 0, 1) := by decide +kernel
theorem dX11_cuts_47 : decode cX11_cuts 47 = .ok (.invokevirtual 336, 3) := by decide +kernel
theorem dX11_cuts_50 : decode cX11_cuts 50 = .ok (.aload_n 0, 1) := by decide +kernel
theorem dX11_cuts_51 : decode cX11_cuts 51 = .ok (.iload_n 1, 1) := by decide +kernel
theorem dX11_cuts_52 : decode cX11_cuts 52 = .ok (.invokevirtual 303, 3) := by decide +kernel
theorem dX11_cuts_55 : decode cX11_cuts 55 = .ok (.if_icmp .gt 10, 3) := by decide +kernel
theorem dX11_cuts_58 : decode cX11_cuts 58 = .ok (.iconst 1, 1) := by decide +kernel
theorem dX11_cuts_59 : decode cX11_cuts 59 = .ok (.iload 4, 2) := by decide +kernel
theorem dX11_cuts_61 : decode cX11_cuts 61 = .ok (.ishl, 1) := by decide +kernel
theorem dX11_cuts_62 : decode cX11_cuts 62 = .ok (.goto 4, 3) := by decide +kernel
theorem dX11_cuts_65 : decode cX11_cuts 65 = .ok (.iconst 0, 1) := by decide +kernel
theorem dX11_cuts_66 : decode cX11_cuts 66 = .ok (.ior, 1) := by decide +kernel
theorem dX11_cuts_67 : decode cX11_cuts 67 = .ok (.istore_n 3, 1) := by decide +kernel
theorem dX11_cuts_68 : decode cX11_cuts 68 = .ok (.iinc 4 1, 3) := by decide +kernel
theorem dX11_cuts_71 : decode cX11_cuts 71 = .ok (.goto (-46), 3) := by decide +kernel
theorem dX11_cuts_74 : decode cX11_cuts 74 = .ok (.iconst 0, 1) := by decide +kernel
theorem dX11_cuts_75 : decode cX11_cuts 75 = .ok (.istore 4, 2) := by decide +kernel
theorem dX11_cuts_77 : decode cX11_cuts 77 = .ok (.aload_n 0, 1) := by decide +kernel
theorem dX11_cuts_78 : decode cX11_cuts 78 = .ok (.invokevirtual 386, 3) := by decide +kernel
theorem dX11_cuts_81 : decode cX11_cuts 81 = .ok (.istore 5, 2) := by decide +kernel
theorem dX11_cuts_83 : decode cX11_cuts 83 = .ok (.iload 5, 2) := by decide +kernel
theorem dX11_cuts_85 : decode cX11_cuts 85 = .ok (.ifCond .le 78, 3) := by decide +kernel
theorem dX11_cuts_88 : decode cX11_cuts 88 = .ok (.iload 5, 2) := by decide +kernel
theorem dX11_cuts_90 : decode cX11_cuts 90 = .ok (.iload_n 3, 1) := by decide +kernel
theorem dX11_cuts_91 : decode cX11_cuts 91 = .ok (.iconst (-1), 1) := by decide +kernel
theorem dX11_cuts_92 : decode cX11_cuts 92 = .ok (.ixor, 1) := by decide +kernel
theorem dX11_cuts_93 : decode cX11_cuts 93 = .ok (.iand, 1) := by decide +kernel
theorem dX11_cuts_94 : decode cX11_cuts 94 = .ok (.ifCond .ne 46, 3) := by decide +kernel
theorem dX11_cuts_97 : decode cX11_cuts 97 = .ok (.aload_n 0, 1) := by decide +kernel
theorem dX11_cuts_98 : decode cX11_cuts 98 = .ok (.iload 5, 2) := by decide +kernel
theorem dX11_cuts_100 : decode cX11_cuts 100 = .ok (.invokevirtual 395, 3) := by decide +kernel
theorem dX11_cuts_103 : decode cX11_cuts 103 = .ok (.aload_n 0, 1) := by decide +kernel
theorem dX11_cuts_104 : decode cX11_cuts 104 = .ok (.iload_n 1, 1) := by decide +kernel
theorem dX11_cuts_105 : decode cX11_cuts 105 = .ok (.iconst 3, 1) := by decide +kernel
theorem dX11_cuts_106 : decode cX11_cuts 106 = .ok (.invokevirtual 62, 3) := by decide +kernel
theorem dX11_cuts_109 : decode cX11_cuts 109 = .ok (.if_icmp .gt 31, 3) := by decide +kernel
theorem dX11_cuts_112 : decode cX11_cuts 112 = .ok (.aload_n 0, 1) := by decide +kernel
theorem dX11_cuts_113 : decode cX11_cuts 113 = .ok (.iload 5, 2) := by decide +kernel
theorem dX11_cuts_115 : decode cX11_cuts 115 = .ok (.invokevirtual 392, 3) := by decide +kernel
theorem dX11_cuts_118 : decode cX11_cuts 118 = .ok (.aload_n 0, 1) := by decide +kernel
theorem dX11_cuts_119 : decode cX11_cuts 119 = .ok (.iload 4, 2) := by decide +kernel
theorem dX11_cuts_121 : decode cX11_cuts 121 = .ok (.invokevirtual 392, 3) := by decide +kernel
theorem dX11_cuts_124 : decode cX11_cuts 124 = .ok (.if_icmp .lt 16, 3) := by decide +kernel
theorem dX11_cuts_127 : decode cX11_cuts 127 = .ok (.aload_n 0, 1) := by decide +kernel
theorem dX11_cuts_128 : decode cX11_cuts 128 = .ok (.iload 5, 2) := by decide +kernel
theorem dX11_cuts_130 : decode cX11_cuts 130 = .ok (.invokevirtual 392, 3) := by decide +kernel
theorem dX11_cuts_133 : decode cX11_cuts 133 = .ok (.ifCond .le 7, 3) := by decide +kernel
theorem dX11_cuts_136 : decode cX11_cuts 136 = .ok (.iconst 1, 1) := by decide +kernel
theorem dX11_cuts_137 : decode cX11_cuts 137 = .ok (.goto 4, 3) := by decide +kernel
theorem dX11_cuts_140 : decode cX11_cuts 140 = .ok (.iconst 0, 1) := by decide +kernel
theorem dX11_cuts_141 : decode cX11_cuts 141 = .ok (.istore 6, 2) := by decide +kernel
theorem dX11_cuts_143 : decode cX11_cuts 143 = .ok (.iload 6, 2) := by decide +kernel
theorem dX11_cuts_145 : decode cX11_cuts 145 = .ok (.ifCond .eq 8, 3) := by decide +kernel
theorem dX11_cuts_148 : decode cX11_cuts 148 = .ok (.iload 5, 2) := by decide +kernel
theorem dX11_cuts_150 : decode cX11_cuts 150 = .ok (.goto 5, 3) := by decide +kernel
theorem dX11_cuts_153 : decode cX11_cuts 153 = .ok (.iload 4, 2) := by decide +kernel
theorem dX11_cuts_155 : decode cX11_cuts 155 = .ok (.istore 4, 2) := by decide +kernel
theorem dX11_cuts_157 : decode cX11_cuts 157 = .ok (.iinc 5 (-1), 3) := by decide +kernel
theorem dX11_cuts_160 : decode cX11_cuts 160 = .ok (.goto (-77), 3) := by decide +kernel
theorem dX11_cuts_163 : decode cX11_cuts 163 = .ok (.iload_n 2, 1) := by decide +kernel
theorem dX11_cuts_164 : decode cX11_cuts 164 = .ok (.ifCond .eq 12, 3) := by decide +kernel
theorem dX11_cuts_167 : decode cX11_cuts 167 = .ok (.aload_n 0, 1) := by decide +kernel
theorem dX11_cuts_168 : decode cX11_cuts 168 = .ok (.iload 4, 2) := by decide +kernel
theorem dX11_cuts_170 : decode cX11_cuts 170 = .ok (.invokevirtual 392, 3) := by decide +kernel
theorem dX11_cuts_173 : decode cX11_cuts 173 = .ok (.goto 5, 3) := by decide +kernel
theorem dX11_cuts_176 : decode cX11_cuts 176 = .ok (.iload 4, 2) := by decide +kernel
theorem dX11_cuts_178 : decode cX11_cuts 178 = .ok (.ireturn, 1) := by decide +kernel
theorem lv_RX11_395 : gLv RX11 395 RX11 yX11_longOf cX11_longOf 4 (some .int) 1 := gLv_of (wA_t (wt8 (List.mem_of_getElem? (i := 227) (by decide +kernel))) (by decide +kernel)) (wA_t (wt8 (List.mem_of_getElem? (i := 229) (by decide +kernel))) (by decide +kernel)) (wA_of (List.mem_append_left _ (List.mem_map.mpr ⟨(⟨"YearRopeModel", "longOf", "(I)I"⟩, 20), wp8 (List.mem_of_getElem? (i := 0) (by decide +kernel)), rfl⟩)) (by decide +kernel)) (wA_t (wt1 (List.mem_of_getElem? (i := 12) (by decide +kernel))) (by decide +kernel)) (wA_t (wt8 (List.mem_of_getElem? (i := 230) (by decide +kernel))) (by decide +kernel)) ⟨rfl, by decide +kernel, by decide +kernel, by decide +kernel⟩
def rm_X11_cuts : Room := { frames := 8, cells := 0, slots := 0, locals := 185 }
def k_X11_cuts_66 (τ : gτ) (n : Nat) (x0 : Nat) (x1 : Int32) (x2 : Int32) (x4 : Int32) (s0 : Int32) (s1 : Int32) (G : gG) : Option ((Int32 × Int32 × gG) ⊕ ((Int32 × gG))) :=
  gLet (s0 ||| s1) fun v10 =>
  gLet (x4 + 1) fun v11 =>
  some (.inl (v10, v11, G))
def b_X11_cuts_25 (τ : gτ) (n : Nat) (x0 : Nat) (x1 : Int32) (x2 : Int32) (x3 : Int32) (x4 : Int32) (G : gG) : Option ((Int32 × Int32 × gG) ⊕ ((Int32 × gG))) :=
  (f_X11_orders τ x0 G).bind fun v5 =>
  if v5 ≤ x4 then (some (.inr (x3, G)))
  else ((f_X11_isWhole τ x0 x1 G).bind fun v6 =>
  if v6 = 0 then (some (.inr (x3, G)))
  else ((f_X11_ofOrder τ x0 x4 (0 : Int32) G).bind fun v7 =>
  gBind2 (f_X11_bearsOf τ n x0 x1 G) fun v8 G9 =>
  if v8 < v7 then (k_X11_cuts_66 τ n x0 x1 x2 x4 x3 (0 : Int32) G9)
  else (k_X11_cuts_66 τ n x0 x1 x2 x4 x3 ((1 : Int32) <<< (x4 &&& 31)) G9)))
def l_X11_cuts_25 (τ : gτ) (n : Nat) (x0 : Nat) (x1 : Int32) (x2 : Int32) (x3 : Int32) (x4 : Int32) (G : gG) : Option ((Int32 × gG)) :=
  gIter (fun (q : Int32 × Int32 × gG) => b_X11_cuts_25 τ n x0 x1 x2 q.1 q.2.1 q.2.2) n (x3, x4, G)
def k_X11_cuts_141 (τ : gτ) (n : Nat) (x0 : Nat) (x1 : Int32) (x2 : Int32) (x3 : Int32) (x4 : Int32) (x5 : Int32) (s0 : Int32) (G : gG) : Option ((Int32 × Int32) ⊕ ((Int32))) :=
  if s0 = 0 then (gLet (x5 + (-1)) fun v17 =>
  some (.inl (x4, v17)))
  else (gLet (x5 + (-1)) fun v18 =>
  some (.inl (x5, v18)))
def k_X11_cuts_140 (τ : gτ) (n : Nat) (x0 : Nat) (x1 : Int32) (x2 : Int32) (x3 : Int32) (x4 : Int32) (x5 : Int32)  (G : gG) : Option ((Int32 × Int32) ⊕ ((Int32))) :=
  k_X11_cuts_141 τ n x0 x1 x2 x3 x4 x5 (0 : Int32) G
def b_X11_cuts_83 (τ : gτ) (n : Nat) (x0 : Nat) (x1 : Int32) (x2 : Int32) (x3 : Int32) (x4 : Int32) (x5 : Int32) (G : gG) : Option ((Int32 × Int32) ⊕ ((Int32))) :=
  if x5 ≤ 0 then (some (.inr x4))
  else (if (x5 &&& (x3 ^^^ (-1 : Int32))) = 0 then ((f_X11_longOf τ n x0 x5 G).bind fun v15 =>
  (f_X11_of τ x0 x1 (3 : Int32) G).bind fun v16 =>
  if v16 < v15 then (k_X11_cuts_140 τ n x0 x1 x2 x3 x4 x5  G)
  else ((f_X11_payOf τ n x0 x5 G).bind fun v19 =>
  (f_X11_payOf τ n x0 x4 G).bind fun v20 =>
  if v19 < v20 then (k_X11_cuts_140 τ n x0 x1 x2 x3 x4 x5  G)
  else ((f_X11_payOf τ n x0 x5 G).bind fun v21 =>
  if v21 ≤ 0 then (k_X11_cuts_140 τ n x0 x1 x2 x3 x4 x5  G)
  else (k_X11_cuts_141 τ n x0 x1 x2 x3 x4 x5 (1 : Int32) G))))
  else (k_X11_cuts_140 τ n x0 x1 x2 x3 x4 x5  G))
def l_X11_cuts_83 (τ : gτ) (n : Nat) (x0 : Nat) (x1 : Int32) (x2 : Int32) (x3 : Int32) (x4 : Int32) (x5 : Int32) (G : gG) : Option ((Int32)) :=
  gIter (fun (q : Int32 × Int32) => b_X11_cuts_83 τ n x0 x1 x2 x3 q.1 q.2 G) n (x4, x5)
def k_X11_cuts_163 (τ : gτ) (n : Nat) (x0 : Nat) (x2 : Int32) (x4 : Int32)  (G : gG) : Option (Int32 × gG) :=
  if x2 = 0 then (some (x4, G))
  else ((f_X11_payOf τ n x0 x4 G).bind fun v23 =>
  some (v23, G))
def k_X11_cuts_74 (τ : gτ) (n : Nat) (x0 : Nat) (x1 : Int32) (x2 : Int32) (x3 : Int32)  (G : gG) : Option (Int32 × gG) :=
  (f_X11_allOrders τ x0 G).bind fun v14 =>
  (l_X11_cuts_83 τ n x0 x1 x2 x3 (0 : Int32) v14 G).bind fun q => gLet q fun z22 => 
  k_X11_cuts_163 τ n x0 x2 z22  G
def f_X11_cuts (τ : gτ) (n : Nat) (x0 : Nat) (x1 : Int32) (x2 : Int32) (G : gG) : Option (Int32 × gG) :=
  gLet (gsi G 11 0 x0 (0 : Int32)) fun G1 =>
  (f_X11_noRope τ x0 x1 G1).bind fun v2 =>
  gBind2 (f_X11_throwsIf x0 v2 (1 : Int32) G1) fun v3 G4 =>
  if v3 = 0 then ((l_X11_cuts_25 τ n x0 x1 x2 (0 : Int32) (0 : Int32) G4).bind fun q => gLet q.1 fun z12 => gLet q.2 fun G13 => 
  k_X11_cuts_74 τ n x0 x1 x2 z12  G13)
  else (some (0, G4))
set_option maxHeartbeats 4000000 in
set_option maxRecDepth 100000 in
theorem w_X11_cuts_66 {X : gX} {τ : gτ} {p : Program} {l : Launch} {e : Env} {s : State} {m : MethodId} {args : Array Value} {below : List Frame} {meth : Method} {c : Code} (fx : gFx X p s m args meth c cX11_cuts 7 RX11) (n : Nat) (x0 : Nat) (x1 : Int32) (x2 : Int32) (x4 : Int32) (s0 : Int32) (s1 : Int32) (h0 : gK τ x0 11)  {Q : State → Prop} {K : ((Int32 × Int32 × gG) ⊕ ((Int32 × gG))) → Prop} {G : gG} {H : Heap} {locs : List Loc} {ls : Array Slot} (hw : gHw X τ G H locs) (hl : lv_has ls 7 [(0, .ref x0), (1, .int x1), (2, .int x2), (4, .int x4)]) (hok : gOk (k_X11_cuts_66 τ n x0 x1 x2 x4 s0 s1 G) K) (hc : ∀ (y3 : Int32) (y4 : Int32) (G : gG) (H : Heap) (locs : List Loc) (ls : Array Slot), gHw X τ G H locs → lv_has ls 7 [(0, .ref x0), (1, .int x1), (2, .int x2), (3, .int y3), (4, .int y4)] → K (.inl (y3, y4, G)) → W p l e rm_X11_cuts s m args below meth c H locs 0 0 Q (F0 m 25 ls [])) (hx0 : ∀ (y3 : Int32) (G : gG) (H : Heap) (locs : List Loc) (ls : Array Slot), gHw X τ G H locs → lv_has ls 7 [(0, .ref x0), (1, .int x1), (2, .int x2), (3, .int y3)] → K (.inr (y3, G)) → W p l e rm_X11_cuts s m args below meth c H locs 0 0 Q (F0 m 74 ls [])) : W p l e rm_X11_cuts s m args below meth c H locs 0 0 Q (F0 m 66 ls [.int s1, .int s0]) := by
  unfold k_X11_cuts_66 at hok
  refine lv_ior fx.1 fx.2.1 dX11_cuts_66 ?_
  refine g_leti hok (fun v10 hok => ?_)
  refine lv_istore_n (lv' := [(3, .int v10), (0, .ref x0), (1, .int x1), (2, .int x2), (4, .int x4)]) fx.1 fx.2.1 dX11_cuts_67 rfl hl (by decide) rfl (fun ls hl => ?_)
  obtain ⟨v11, e_v11, hok⟩ := gOk_let hok
  refine lv_iinc (v := v11) (lv' := [(4, .int v11), (3, .int v10), (0, .ref x0), (1, .int x1), (2, .int x2)]) fx.1 fx.2.1 dX11_cuts_68 hl (k := 4) rfl (by rw [e_v11]; rfl) (by decide) rfl (fun ls hl => ?_)
  refine lv_goto (tgt := 25) fx.1 fx.2.1 dX11_cuts_71 (by decide) ?_
  exact hc v10 v11 G _ _ _  hw (lv_sub hl [2, 3, 4, 1, 0] rfl) (gOk_some hok)
set_option maxHeartbeats 4000000 in
set_option maxRecDepth 100000 in
theorem w_b_X11_cuts_25 {X : gX} {τ : gτ} {p : Program} {l : Launch} {e : Env} {s : State} {m : MethodId} {args : Array Value} {below : List Frame} {meth : Method} {c : Code} (fx : gFx X p s m args meth c cX11_cuts 7 RX11) (n : Nat) (x0 : Nat) (x1 : Int32) (x2 : Int32) (x3 : Int32) (x4 : Int32) (h0 : gK τ x0 11) {Q : State → Prop} {K : ((Int32 × Int32 × gG) ⊕ ((Int32 × gG))) → Prop} {G : gG} {H : Heap} {locs : List Loc} {ls : Array Slot} (hw : gHw X τ G H locs) (hl : lv_has ls 7 [(0, .ref x0), (1, .int x1), (2, .int x2), (3, .int x3), (4, .int x4)]) (hok : gOk (b_X11_cuts_25 τ n x0 x1 x2 x3 x4 G) K) (hc : ∀ (y3 : Int32) (y4 : Int32) (G : gG) (H : Heap) (locs : List Loc) (ls : Array Slot), gHw X τ G H locs → lv_has ls 7 [(0, .ref x0), (1, .int x1), (2, .int x2), (3, .int y3), (4, .int y4)] → K (.inl (y3, y4, G)) → W p l e rm_X11_cuts s m args below meth c H locs 0 0 Q (F0 m 25 ls [])) (hx0 : ∀ (y3 : Int32) (G : gG) (H : Heap) (locs : List Loc) (ls : Array Slot), gHw X τ G H locs → lv_has ls 7 [(0, .ref x0), (1, .int x1), (2, .int x2), (3, .int y3)] → K (.inr (y3, G)) → W p l e rm_X11_cuts s m args below meth c H locs 0 0 Q (F0 m 74 ls [])) : W p l e rm_X11_cuts s m args below meth c H locs 0 0 Q (F0 m 25 ls []) := by
  unfold b_X11_cuts_25 at hok
  refine lv_iload fx.1 fx.2.1 dX11_cuts_25 (lv_at hl 4 rfl) ?_
  refine lv_aload_n fx.1 fx.2.1 dX11_cuts_27 rfl (lv_at hl 0 rfl) ?_
  obtain ⟨v5, hf, hok⟩ := gOk_bind hok
  refine g_callV0 (κ := 11) fx hw (c_X11_orders l X τ x0 G h0 hf) lv_RX11_76 ⟨rfl, rfl⟩ rfl rfl h0 rfl hl.1 rfl ⟨Nat.le_of_ble_eq_true rfl, Nat.le_of_ble_eq_true rfl⟩ (Nat.le_of_ble_eq_true rfl) ⟨Nat.le_of_ble_eq_true rfl, Nat.le_of_ble_eq_true rfl⟩ dX11_cuts_28 (fun H locs hw => ?_)
  refine g_icmp_ge (tgt := 74) fx dX11_cuts_31 (by decide) hok (fun hok => ?_) (fun hok => ?_)
  · exact hx0 x3 G _ _ _  hw (lv_sub hl [0, 1, 2, 3] rfl) (gOk_some hok)
  · refine lv_aload_n fx.1 fx.2.1 dX11_cuts_34 rfl (lv_at hl 0 rfl) ?_
    refine lv_iload_n fx.1 fx.2.1 dX11_cuts_35 rfl (lv_at hl 1 rfl) ?_
    obtain ⟨v6, hf, hok⟩ := gOk_bind hok
    refine g_callV0 (κ := 11) fx hw (c_X11_isWhole l X τ x0 x1 G h0 hf) lv_RX11_146 ⟨rfl, rfl⟩ rfl rfl h0 rfl hl.1 rfl ⟨Nat.le_of_ble_eq_true rfl, Nat.le_of_ble_eq_true rfl⟩ (Nat.le_of_ble_eq_true rfl) ⟨Nat.le_of_ble_eq_true rfl, Nat.le_of_ble_eq_true rfl⟩ dX11_cuts_36 (fun H locs hw => ?_)
    refine g_if_eq (tgt := 74) fx dX11_cuts_39 (by decide) hok (fun hok => ?_) (fun hok => ?_)
    · exact hx0 x3 G _ _ _  hw (lv_sub hl [0, 1, 2, 3] rfl) (gOk_some hok)
    · refine lv_iload_n fx.1 fx.2.1 dX11_cuts_42 rfl (lv_at hl 3 rfl) ?_
      refine lv_aload_n fx.1 fx.2.1 dX11_cuts_43 rfl (lv_at hl 0 rfl) ?_
      refine lv_iload fx.1 fx.2.1 dX11_cuts_44 (lv_at hl 4 rfl) ?_
      refine lv_iconst (v := 0) fx.1 fx.2.1 dX11_cuts_46 (by decide) ?_
      obtain ⟨v7, hf, hok⟩ := gOk_bind hok
      refine g_callV0 (κ := 11) fx hw (c_X11_ofOrder l X τ x0 x4 (0 : Int32) G h0 hf) lv_RX11_336 ⟨rfl, rfl⟩ rfl rfl h0 rfl hl.1 rfl ⟨Nat.le_of_ble_eq_true rfl, Nat.le_of_ble_eq_true rfl⟩ (Nat.le_of_ble_eq_true rfl) ⟨Nat.le_of_ble_eq_true rfl, Nat.le_of_ble_eq_true rfl⟩ dX11_cuts_47 (fun H locs hw => ?_)
      refine lv_aload_n fx.1 fx.2.1 dX11_cuts_50 rfl (lv_at hl 0 rfl) ?_
      refine lv_iload_n fx.1 fx.2.1 dX11_cuts_51 rfl (lv_at hl 1 rfl) ?_
      obtain ⟨v8, G9, hf, hok⟩ := gOk_bind2 hok
      refine g_callV0 (κ := 11) fx hw (c_X11_bearsOf l X τ n x0 x1 G h0 hf) lv_RX11_303 ⟨rfl, rfl⟩ rfl rfl h0 rfl hl.1 rfl ⟨Nat.le_of_ble_eq_true rfl, Nat.le_of_ble_eq_true rfl⟩ (Nat.le_of_ble_eq_true rfl) ⟨Nat.le_of_ble_eq_true rfl, Nat.le_of_ble_eq_true rfl⟩ dX11_cuts_52 (fun H locs hw => ?_)
      refine g_icmp_gt (tgt := 65) fx dX11_cuts_55 (by decide) hok (fun hok => ?_) (fun hok => ?_)
      · refine lv_iconst (v := 0) fx.1 fx.2.1 dX11_cuts_65 (by decide) ?_
        exact w_X11_cuts_66 fx n x0 x1 x2 x4 x3 (0 : Int32) h0  hw (lv_sub hl [0, 1, 2, 4] rfl) hok hc hx0
      · refine lv_iconst (v := 1) fx.1 fx.2.1 dX11_cuts_58 (by decide) ?_
        refine lv_iload fx.1 fx.2.1 dX11_cuts_59 (lv_at hl 4 rfl) ?_
        refine lv_ishl fx.1 fx.2.1 dX11_cuts_61 ?_
        refine lv_goto (tgt := 66) fx.1 fx.2.1 dX11_cuts_62 (by decide) ?_
        exact w_X11_cuts_66 fx n x0 x1 x2 x4 x3 ((1 : Int32) <<< (x4 &&& 31)) h0  hw (lv_sub hl [0, 1, 2, 4] rfl) hok hc hx0
theorem w_l_X11_cuts_25 {X : gX} {τ : gτ} {p : Program} {l : Launch} {e : Env} {s : State} {m : MethodId} {args : Array Value} {below : List Frame} {meth : Method} {c : Code} (fx : gFx X p s m args meth c cX11_cuts 7 RX11) (n : Nat) (x0 : Nat) (x1 : Int32) (x2 : Int32) (h0 : gK τ x0 11) {Q : State → Prop} {K : ((Int32 × gG)) → Prop} (hx0 : ∀ (y3 : Int32) (G : gG) (H : Heap) (locs : List Loc) (ls : Array Slot), gHw X τ G H locs → lv_has ls 7 [(0, .ref x0), (1, .int x1), (2, .int x2), (3, .int y3)] → K (y3, G) → W p l e rm_X11_cuts s m args below meth c H locs 0 0 Q (F0 m 74 ls [])) : ∀ (k : Nat) (x3 : Int32) (x4 : Int32) (G : gG) (H : Heap) (locs : List Loc) (ls : Array Slot), gHw X τ G H locs → lv_has ls 7 [(0, .ref x0), (1, .int x1), (2, .int x2), (3, .int x3), (4, .int x4)] → gOk (gIter (fun (q : Int32 × Int32 × gG) => b_X11_cuts_25 τ n x0 x1 x2 q.1 q.2.1 q.2.2) k (x3, x4, G)) K → W p l e rm_X11_cuts s m args below meth c H locs 0 0 Q (F0 m 25 ls []) := by
  intro k
  induction k with
  | zero =>
    intro x3 x4 G H locs ls hw hl hok
    exact gOk_iter0 hok
  | succ k hc =>
    intro x3 x4 G H locs ls hw hl hok
    exact w_b_X11_cuts_25 fx n x0 x1 x2 x3 x4 h0 hw hl (gOk_iter hok) hc hx0
set_option maxHeartbeats 4000000 in
set_option maxRecDepth 100000 in
theorem w_X11_cuts_141 {X : gX} {τ : gτ} {p : Program} {l : Launch} {e : Env} {s : State} {m : MethodId} {args : Array Value} {below : List Frame} {meth : Method} {c : Code} (fx : gFx X p s m args meth c cX11_cuts 7 RX11) (n : Nat) (x0 : Nat) (x1 : Int32) (x2 : Int32) (x3 : Int32) (x4 : Int32) (x5 : Int32) (s0 : Int32) (h0 : gK τ x0 11)  {Q : State → Prop} {K : ((Int32 × Int32) ⊕ ((Int32))) → Prop} {G : gG} {H : Heap} {locs : List Loc} {ls : Array Slot} (hw : gHw X τ G H locs) (hl : lv_has ls 7 [(0, .ref x0), (1, .int x1), (2, .int x2), (3, .int x3), (4, .int x4), (5, .int x5)]) (hok : gOk (k_X11_cuts_141 τ n x0 x1 x2 x3 x4 x5 s0 G) K) (hc : ∀ (y4 : Int32) (y5 : Int32) (H : Heap) (locs : List Loc) (ls : Array Slot), gHw X τ G H locs → lv_has ls 7 [(0, .ref x0), (1, .int x1), (2, .int x2), (3, .int x3), (4, .int y4), (5, .int y5)] → K (.inl (y4, y5)) → W p l e rm_X11_cuts s m args below meth c H locs 0 0 Q (F0 m 83 ls [])) (hx0 : ∀ (y4 : Int32) (H : Heap) (locs : List Loc) (ls : Array Slot), gHw X τ G H locs → lv_has ls 7 [(0, .ref x0), (2, .int x2), (4, .int y4)] → K (.inr y4) → W p l e rm_X11_cuts s m args below meth c H locs 0 0 Q (F0 m 163 ls [])) : W p l e rm_X11_cuts s m args below meth c H locs 0 0 Q (F0 m 141 ls [.int s0]) := by
  unfold k_X11_cuts_141 at hok
  refine lv_istore (lv' := [(6, .int s0), (0, .ref x0), (1, .int x1), (2, .int x2), (3, .int x3), (4, .int x4), (5, .int x5)]) fx.1 fx.2.1 dX11_cuts_141 hl (by decide) rfl (fun ls hl => ?_)
  refine lv_iload fx.1 fx.2.1 dX11_cuts_143 (lv_at hl 0 rfl) ?_
  refine g_if_eq (tgt := 153) fx dX11_cuts_145 (by decide) hok (fun hok => ?_) (fun hok => ?_)
  · refine lv_iload fx.1 fx.2.1 dX11_cuts_153 (lv_at hl 5 rfl) ?_
    refine lv_istore (lv' := [(4, .int x4), (6, .int s0), (0, .ref x0), (1, .int x1), (2, .int x2), (3, .int x3), (5, .int x5)]) fx.1 fx.2.1 dX11_cuts_155 hl (by decide) rfl (fun ls hl => ?_)
    obtain ⟨v17, e_v17, hok⟩ := gOk_let hok
    refine lv_iinc (v := v17) (lv' := [(5, .int v17), (4, .int x4), (6, .int s0), (0, .ref x0), (1, .int x1), (2, .int x2), (3, .int x3)]) fx.1 fx.2.1 dX11_cuts_157 hl (k := 6) rfl (by rw [e_v17]; rfl) (by decide) rfl (fun ls hl => ?_)
    refine lv_goto (tgt := 83) fx.1 fx.2.1 dX11_cuts_160 (by decide) ?_
    exact hc x4 v17  _ _ _  hw (lv_sub hl [3, 4, 5, 6, 1, 0] rfl) (gOk_some hok)
  · refine lv_iload fx.1 fx.2.1 dX11_cuts_148 (lv_at hl 6 rfl) ?_
    refine lv_goto (tgt := 155) fx.1 fx.2.1 dX11_cuts_150 (by decide) ?_
    refine lv_istore (lv' := [(4, .int x5), (6, .int s0), (0, .ref x0), (1, .int x1), (2, .int x2), (3, .int x3), (5, .int x5)]) fx.1 fx.2.1 dX11_cuts_155 hl (by decide) rfl (fun ls hl => ?_)
    obtain ⟨v18, e_v18, hok⟩ := gOk_let hok
    refine lv_iinc (v := v18) (lv' := [(5, .int v18), (4, .int x5), (6, .int s0), (0, .ref x0), (1, .int x1), (2, .int x2), (3, .int x3)]) fx.1 fx.2.1 dX11_cuts_157 hl (k := 6) rfl (by rw [e_v18]; rfl) (by decide) rfl (fun ls hl => ?_)
    refine lv_goto (tgt := 83) fx.1 fx.2.1 dX11_cuts_160 (by decide) ?_
    exact hc x5 v18  _ _ _  hw (lv_sub hl [3, 4, 5, 6, 1, 0] rfl) (gOk_some hok)
set_option maxHeartbeats 4000000 in
set_option maxRecDepth 100000 in
theorem w_X11_cuts_140 {X : gX} {τ : gτ} {p : Program} {l : Launch} {e : Env} {s : State} {m : MethodId} {args : Array Value} {below : List Frame} {meth : Method} {c : Code} (fx : gFx X p s m args meth c cX11_cuts 7 RX11) (n : Nat) (x0 : Nat) (x1 : Int32) (x2 : Int32) (x3 : Int32) (x4 : Int32) (x5 : Int32)  (h0 : gK τ x0 11)  {Q : State → Prop} {K : ((Int32 × Int32) ⊕ ((Int32))) → Prop} {G : gG} {H : Heap} {locs : List Loc} {ls : Array Slot} (hw : gHw X τ G H locs) (hl : lv_has ls 7 [(0, .ref x0), (1, .int x1), (2, .int x2), (3, .int x3), (4, .int x4), (5, .int x5)]) (hok : gOk (k_X11_cuts_140 τ n x0 x1 x2 x3 x4 x5  G) K) (hc : ∀ (y4 : Int32) (y5 : Int32) (H : Heap) (locs : List Loc) (ls : Array Slot), gHw X τ G H locs → lv_has ls 7 [(0, .ref x0), (1, .int x1), (2, .int x2), (3, .int x3), (4, .int y4), (5, .int y5)] → K (.inl (y4, y5)) → W p l e rm_X11_cuts s m args below meth c H locs 0 0 Q (F0 m 83 ls [])) (hx0 : ∀ (y4 : Int32) (H : Heap) (locs : List Loc) (ls : Array Slot), gHw X τ G H locs → lv_has ls 7 [(0, .ref x0), (2, .int x2), (4, .int y4)] → K (.inr y4) → W p l e rm_X11_cuts s m args below meth c H locs 0 0 Q (F0 m 163 ls [])) : W p l e rm_X11_cuts s m args below meth c H locs 0 0 Q (F0 m 140 ls []) := by
  unfold k_X11_cuts_140 at hok
  refine lv_iconst (v := 0) fx.1 fx.2.1 dX11_cuts_140 (by decide) ?_
  exact w_X11_cuts_141 fx n x0 x1 x2 x3 x4 x5 (0 : Int32) h0  hw (lv_sub hl [0, 1, 2, 3, 4, 5] rfl) hok hc hx0
set_option maxHeartbeats 4000000 in
set_option maxRecDepth 100000 in
theorem w_b_X11_cuts_83 {X : gX} {τ : gτ} {p : Program} {l : Launch} {e : Env} {s : State} {m : MethodId} {args : Array Value} {below : List Frame} {meth : Method} {c : Code} (fx : gFx X p s m args meth c cX11_cuts 7 RX11) (n : Nat) (x0 : Nat) (x1 : Int32) (x2 : Int32) (x3 : Int32) (x4 : Int32) (x5 : Int32) (h0 : gK τ x0 11) {Q : State → Prop} {K : ((Int32 × Int32) ⊕ ((Int32))) → Prop} {G : gG} {H : Heap} {locs : List Loc} {ls : Array Slot} (hw : gHw X τ G H locs) (hl : lv_has ls 7 [(0, .ref x0), (1, .int x1), (2, .int x2), (3, .int x3), (4, .int x4), (5, .int x5)]) (hok : gOk (b_X11_cuts_83 τ n x0 x1 x2 x3 x4 x5 G) K) (hc : ∀ (y4 : Int32) (y5 : Int32) (H : Heap) (locs : List Loc) (ls : Array Slot), gHw X τ G H locs → lv_has ls 7 [(0, .ref x0), (1, .int x1), (2, .int x2), (3, .int x3), (4, .int y4), (5, .int y5)] → K (.inl (y4, y5)) → W p l e rm_X11_cuts s m args below meth c H locs 0 0 Q (F0 m 83 ls [])) (hx0 : ∀ (y4 : Int32) (H : Heap) (locs : List Loc) (ls : Array Slot), gHw X τ G H locs → lv_has ls 7 [(0, .ref x0), (2, .int x2), (4, .int y4)] → K (.inr y4) → W p l e rm_X11_cuts s m args below meth c H locs 0 0 Q (F0 m 163 ls [])) : W p l e rm_X11_cuts s m args below meth c H locs 0 0 Q (F0 m 83 ls []) := by
  unfold b_X11_cuts_83 at hok
  refine lv_iload fx.1 fx.2.1 dX11_cuts_83 (lv_at hl 5 rfl) ?_
  refine g_if_le (tgt := 163) fx dX11_cuts_85 (by decide) hok (fun hok => ?_) (fun hok => ?_)
  · exact hx0 x4  _ _ _  hw (lv_sub hl [0, 2, 4] rfl) (gOk_some hok)
  · refine lv_iload fx.1 fx.2.1 dX11_cuts_88 (lv_at hl 5 rfl) ?_
    refine lv_iload_n fx.1 fx.2.1 dX11_cuts_90 rfl (lv_at hl 3 rfl) ?_
    refine lv_iconst (v := (-1)) fx.1 fx.2.1 dX11_cuts_91 (by decide) ?_
    refine lv_ixor fx.1 fx.2.1 dX11_cuts_92 ?_
    refine lv_iand fx.1 fx.2.1 dX11_cuts_93 ?_
    refine g_if_ne (tgt := 140) fx dX11_cuts_94 (by decide) hok (fun hok => ?_) (fun hok => ?_)
    · refine lv_aload_n fx.1 fx.2.1 dX11_cuts_97 rfl (lv_at hl 0 rfl) ?_
      refine lv_iload fx.1 fx.2.1 dX11_cuts_98 (lv_at hl 5 rfl) ?_
      obtain ⟨v15, hf, hok⟩ := gOk_bind hok
      refine g_callV0 (κ := 11) fx hw (c_X11_longOf l X τ n x0 x5 G h0 hf) lv_RX11_395 ⟨rfl, rfl⟩ rfl rfl h0 rfl hl.1 rfl ⟨Nat.le_of_ble_eq_true rfl, Nat.le_of_ble_eq_true rfl⟩ (Nat.le_of_ble_eq_true rfl) ⟨Nat.le_of_ble_eq_true rfl, Nat.le_of_ble_eq_true rfl⟩ dX11_cuts_100 (fun H locs hw => ?_)
      refine lv_aload_n fx.1 fx.2.1 dX11_cuts_103 rfl (lv_at hl 0 rfl) ?_
      refine lv_iload_n fx.1 fx.2.1 dX11_cuts_104 rfl (lv_at hl 1 rfl) ?_
      refine lv_iconst (v := 3) fx.1 fx.2.1 dX11_cuts_105 (by decide) ?_
      obtain ⟨v16, hf, hok⟩ := gOk_bind hok
      refine g_callV0 (κ := 11) fx hw (c_X11_of l X τ x0 x1 (3 : Int32) G h0 hf) lv_RX11_62 ⟨rfl, rfl⟩ rfl rfl h0 rfl hl.1 rfl ⟨Nat.le_of_ble_eq_true rfl, Nat.le_of_ble_eq_true rfl⟩ (Nat.le_of_ble_eq_true rfl) ⟨Nat.le_of_ble_eq_true rfl, Nat.le_of_ble_eq_true rfl⟩ dX11_cuts_106 (fun H locs hw => ?_)
      refine g_icmp_gt (tgt := 140) fx dX11_cuts_109 (by decide) hok (fun hok => ?_) (fun hok => ?_)
      · exact w_X11_cuts_140 fx n x0 x1 x2 x3 x4 x5  h0  hw (lv_sub hl [0, 1, 2, 3, 4, 5] rfl) hok hc hx0
      · refine lv_aload_n fx.1 fx.2.1 dX11_cuts_112 rfl (lv_at hl 0 rfl) ?_
        refine lv_iload fx.1 fx.2.1 dX11_cuts_113 (lv_at hl 5 rfl) ?_
        obtain ⟨v19, hf, hok⟩ := gOk_bind hok
        refine g_callV0 (κ := 11) fx hw (c_X11_payOf l X τ n x0 x5 G h0 hf) lv_RX11_392 ⟨rfl, rfl⟩ rfl rfl h0 rfl hl.1 rfl ⟨Nat.le_of_ble_eq_true rfl, Nat.le_of_ble_eq_true rfl⟩ (Nat.le_of_ble_eq_true rfl) ⟨Nat.le_of_ble_eq_true rfl, Nat.le_of_ble_eq_true rfl⟩ dX11_cuts_115 (fun H locs hw => ?_)
        refine lv_aload_n fx.1 fx.2.1 dX11_cuts_118 rfl (lv_at hl 0 rfl) ?_
        refine lv_iload fx.1 fx.2.1 dX11_cuts_119 (lv_at hl 4 rfl) ?_
        obtain ⟨v20, hf, hok⟩ := gOk_bind hok
        refine g_callV0 (κ := 11) fx hw (c_X11_payOf l X τ n x0 x4 G h0 hf) lv_RX11_392 ⟨rfl, rfl⟩ rfl rfl h0 rfl hl.1 rfl ⟨Nat.le_of_ble_eq_true rfl, Nat.le_of_ble_eq_true rfl⟩ (Nat.le_of_ble_eq_true rfl) ⟨Nat.le_of_ble_eq_true rfl, Nat.le_of_ble_eq_true rfl⟩ dX11_cuts_121 (fun H locs hw => ?_)
        refine g_icmp_lt (tgt := 140) fx dX11_cuts_124 (by decide) hok (fun hok => ?_) (fun hok => ?_)
        · exact w_X11_cuts_140 fx n x0 x1 x2 x3 x4 x5  h0  hw (lv_sub hl [0, 1, 2, 3, 4, 5] rfl) hok hc hx0
        · refine lv_aload_n fx.1 fx.2.1 dX11_cuts_127 rfl (lv_at hl 0 rfl) ?_
          refine lv_iload fx.1 fx.2.1 dX11_cuts_128 (lv_at hl 5 rfl) ?_
          obtain ⟨v21, hf, hok⟩ := gOk_bind hok
          refine g_callV0 (κ := 11) fx hw (c_X11_payOf l X τ n x0 x5 G h0 hf) lv_RX11_392 ⟨rfl, rfl⟩ rfl rfl h0 rfl hl.1 rfl ⟨Nat.le_of_ble_eq_true rfl, Nat.le_of_ble_eq_true rfl⟩ (Nat.le_of_ble_eq_true rfl) ⟨Nat.le_of_ble_eq_true rfl, Nat.le_of_ble_eq_true rfl⟩ dX11_cuts_130 (fun H locs hw => ?_)
          refine g_if_le (tgt := 140) fx dX11_cuts_133 (by decide) hok (fun hok => ?_) (fun hok => ?_)
          · exact w_X11_cuts_140 fx n x0 x1 x2 x3 x4 x5  h0  hw (lv_sub hl [0, 1, 2, 3, 4, 5] rfl) hok hc hx0
          · refine lv_iconst (v := 1) fx.1 fx.2.1 dX11_cuts_136 (by decide) ?_
            refine lv_goto (tgt := 141) fx.1 fx.2.1 dX11_cuts_137 (by decide) ?_
            exact w_X11_cuts_141 fx n x0 x1 x2 x3 x4 x5 (1 : Int32) h0  hw (lv_sub hl [0, 1, 2, 3, 4, 5] rfl) hok hc hx0
    · exact w_X11_cuts_140 fx n x0 x1 x2 x3 x4 x5  h0  hw (lv_sub hl [0, 1, 2, 3, 4, 5] rfl) hok hc hx0
theorem w_l_X11_cuts_83 {X : gX} {τ : gτ} {p : Program} {l : Launch} {e : Env} {s : State} {m : MethodId} {args : Array Value} {below : List Frame} {meth : Method} {c : Code} (fx : gFx X p s m args meth c cX11_cuts 7 RX11) (n : Nat) (x0 : Nat) (x1 : Int32) (x2 : Int32) (x3 : Int32) (h0 : gK τ x0 11) (G : gG) {Q : State → Prop} {K : ((Int32)) → Prop} (hx0 : ∀ (y4 : Int32) (H : Heap) (locs : List Loc) (ls : Array Slot), gHw X τ G H locs → lv_has ls 7 [(0, .ref x0), (2, .int x2), (4, .int y4)] → K y4 → W p l e rm_X11_cuts s m args below meth c H locs 0 0 Q (F0 m 163 ls [])) : ∀ (k : Nat) (x4 : Int32) (x5 : Int32) (H : Heap) (locs : List Loc) (ls : Array Slot), gHw X τ G H locs → lv_has ls 7 [(0, .ref x0), (1, .int x1), (2, .int x2), (3, .int x3), (4, .int x4), (5, .int x5)] → gOk (gIter (fun (q : Int32 × Int32) => b_X11_cuts_83 τ n x0 x1 x2 x3 q.1 q.2 G) k (x4, x5)) K → W p l e rm_X11_cuts s m args below meth c H locs 0 0 Q (F0 m 83 ls []) := by
  intro k
  induction k with
  | zero =>
    intro x4 x5  H locs ls hw hl hok
    exact gOk_iter0 hok
  | succ k hc =>
    intro x4 x5  H locs ls hw hl hok
    exact w_b_X11_cuts_83 fx n x0 x1 x2 x3 x4 x5 h0 hw hl (gOk_iter hok) hc hx0
set_option maxHeartbeats 4000000 in
set_option maxRecDepth 100000 in
theorem w_X11_cuts_163 {X : gX} {τ : gτ} {p : Program} {l : Launch} {e : Env} {s : State} {m : MethodId} {args : Array Value} {below : List Frame} {meth : Method} {c : Code} (fx : gFx X p s m args meth c cX11_cuts 7 RX11) (n : Nat) (x0 : Nat) (x2 : Int32) (x4 : Int32)  (h0 : gK τ x0 11)  (hr : meth.sig.returnType = (some .int)) {r : Int32} {G' : gG} {G : gG} {H : Heap} {locs : List Loc} {ls : Array Slot} (hw : gHw X τ G H locs) (hl : lv_has ls 7 [(0, .ref x0), (2, .int x2), (4, .int x4)]) (hok : gOk (k_X11_cuts_163 τ n x0 x2 x4  G) (fun q => q = (r, G')))  : W p l e rm_X11_cuts s m args below meth c H locs 0 0 (MQ below (gQ X τ (some (.int r)) G') args s 0 0 (gFree X)) (F0 m 163 ls []) := by
  unfold k_X11_cuts_163 at hok
  refine lv_iload_n fx.1 fx.2.1 dX11_cuts_163 rfl (lv_at hl 1 rfl) ?_
  refine g_if_eq (tgt := 176) fx dX11_cuts_164 (by decide) hok (fun hok => ?_) (fun hok => ?_)
  · refine lv_iload fx.1 fx.2.1 dX11_cuts_176 (lv_at hl 2 rfl) ?_
    cases gOk_some hok
    exact g_iret fx hw hr dX11_cuts_178
  · refine lv_aload_n fx.1 fx.2.1 dX11_cuts_167 rfl (lv_at hl 0 rfl) ?_
    refine lv_iload fx.1 fx.2.1 dX11_cuts_168 (lv_at hl 2 rfl) ?_
    obtain ⟨v23, hf, hok⟩ := gOk_bind hok
    refine g_callV0 (κ := 11) fx hw (c_X11_payOf l X τ n x0 x4 G h0 hf) lv_RX11_392 ⟨rfl, rfl⟩ rfl rfl h0 rfl hl.1 rfl ⟨Nat.le_of_ble_eq_true rfl, Nat.le_of_ble_eq_true rfl⟩ (Nat.le_of_ble_eq_true rfl) ⟨Nat.le_of_ble_eq_true rfl, Nat.le_of_ble_eq_true rfl⟩ dX11_cuts_170 (fun H locs hw => ?_)
    refine lv_goto (tgt := 178) fx.1 fx.2.1 dX11_cuts_173 (by decide) ?_
    cases gOk_some hok
    exact g_iret fx hw hr dX11_cuts_178
set_option maxHeartbeats 4000000 in
set_option maxRecDepth 100000 in
theorem w_X11_cuts_74 {X : gX} {τ : gτ} {p : Program} {l : Launch} {e : Env} {s : State} {m : MethodId} {args : Array Value} {below : List Frame} {meth : Method} {c : Code} (fx : gFx X p s m args meth c cX11_cuts 7 RX11) (n : Nat) (x0 : Nat) (x1 : Int32) (x2 : Int32) (x3 : Int32)  (h0 : gK τ x0 11)  (hr : meth.sig.returnType = (some .int)) {r : Int32} {G' : gG} {G : gG} {H : Heap} {locs : List Loc} {ls : Array Slot} (hw : gHw X τ G H locs) (hl : lv_has ls 7 [(0, .ref x0), (1, .int x1), (2, .int x2), (3, .int x3)]) (hok : gOk (k_X11_cuts_74 τ n x0 x1 x2 x3  G) (fun q => q = (r, G')))  : W p l e rm_X11_cuts s m args below meth c H locs 0 0 (MQ below (gQ X τ (some (.int r)) G') args s 0 0 (gFree X)) (F0 m 74 ls []) := by
  unfold k_X11_cuts_74 at hok
  refine lv_iconst (v := 0) fx.1 fx.2.1 dX11_cuts_74 (by decide) ?_
  refine lv_istore (lv' := [(4, .int (0 : Int32)), (0, .ref x0), (1, .int x1), (2, .int x2), (3, .int x3)]) fx.1 fx.2.1 dX11_cuts_75 hl (by decide) rfl (fun ls hl => ?_)
  refine lv_aload_n fx.1 fx.2.1 dX11_cuts_77 rfl (lv_at hl 1 rfl) ?_
  obtain ⟨v14, hf, hok⟩ := gOk_bind hok
  refine g_callV0 (κ := 11) fx hw (c_X11_allOrders l X τ x0 G h0 hf) lv_RX11_386 ⟨rfl, rfl⟩ rfl rfl h0 rfl hl.1 rfl ⟨Nat.le_of_ble_eq_true rfl, Nat.le_of_ble_eq_true rfl⟩ (Nat.le_of_ble_eq_true rfl) ⟨Nat.le_of_ble_eq_true rfl, Nat.le_of_ble_eq_true rfl⟩ dX11_cuts_78 (fun H locs hw => ?_)
  refine lv_istore (lv' := [(5, .int v14), (4, .int (0 : Int32)), (0, .ref x0), (1, .int x1), (2, .int x2), (3, .int x3)]) fx.1 fx.2.1 dX11_cuts_81 hl (by decide) rfl (fun ls hl => ?_)
  refine w_l_X11_cuts_83 fx n x0 x1 x2 x3 h0 G ?_ n (0 : Int32) v14  _ _ _  hw (lv_sub hl [2, 3, 4, 5, 1, 0] rfl) (gOk_bindK hok)
  intro z22  H locs ls hw hl hok
  have hok : gOk (ρ := Int32 × gG) (k_X11_cuts_163 τ n x0 x2 z22  G) _ := hok
  exact w_X11_cuts_163 fx n x0 x2 z22  h0  hr hw (lv_sub hl [0, 1, 2] rfl) hok
set_option maxHeartbeats 4000000 in
set_option maxRecDepth 100000 in
theorem c_X11_cuts (l : Launch) (X : gX) (τ : gτ) (n : Nat) (x0 : Nat) (x1 : Int32) (x2 : Int32) (G : gG) (h0 : gK τ x0 11) {r : Int32} {G' : gG} (h : f_X11_cuts τ n x0 x1 x2 G = some (r, G')) : gM l X τ yX11_cuts cX11_cuts 7 (some .int) rm_X11_cuts [.ref x0, .int x1, .int x2] G (some (.int r)) G' := by
  refine g_body (by decide +kernel) (Nat.le_of_ble_eq_true rfl) ?_
  intro p e s m args below meth c ls fx hr hw hl
  have fx : gFx X p s m args meth c cX11_cuts 7 RX11 := fx
  have hl : lv_has ls 7 [(0, .ref x0), (1, .int x1), (2, .int x2)] := hl
  have hok : gOk (f_X11_cuts τ n x0 x1 x2 G) (fun q => q = (r, G')) := ⟨_, h, rfl⟩
  unfold f_X11_cuts at hok
  show W p l e rm_X11_cuts s m args below meth c s.heap [] 0 0 (MQ below (gQ X τ (some (.int r)) G') args s 0 0 (gFree X)) _
  refine lv_aload_n fx.1 fx.2.1 dX11_cuts_0 rfl (lv_at hl 0 rfl) ?_
  refine lv_iconst (v := 0) fx.1 fx.2.1 dX11_cuts_1 (by decide) ?_
  refine g_puti fx hw h0 lp_RX11_3 rfl rfl dX11_cuts_2 hok (fun G1 H locs hw hok => ?_)
  refine lv_aload_n fx.1 fx.2.1 dX11_cuts_5 rfl (lv_at hl 0 rfl) ?_
  refine lv_aload_n fx.1 fx.2.1 dX11_cuts_6 rfl (lv_at hl 0 rfl) ?_
  refine lv_iload_n fx.1 fx.2.1 dX11_cuts_7 rfl (lv_at hl 1 rfl) ?_
  obtain ⟨v2, hf, hok⟩ := gOk_bind hok
  refine g_callV0 (κ := 11) fx hw (c_X11_noRope l X τ x0 x1 G1 h0 hf) lv_RX11_321 ⟨rfl, rfl⟩ rfl rfl h0 rfl hl.1 rfl ⟨Nat.le_of_ble_eq_true rfl, Nat.le_of_ble_eq_true rfl⟩ (Nat.le_of_ble_eq_true rfl) ⟨Nat.le_of_ble_eq_true rfl, Nat.le_of_ble_eq_true rfl⟩ dX11_cuts_8 (fun H locs hw => ?_)
  refine lv_iconst (v := 1) fx.1 fx.2.1 dX11_cuts_11 (by decide) ?_
  obtain ⟨v3, G4, hf, hok⟩ := gOk_bind2 hok
  refine g_callV0 (κ := 11) fx hw (c_X11_throwsIf l X τ x0 v2 (1 : Int32) G1 h0 hf) lv_RX11_263 ⟨rfl, rfl⟩ rfl rfl h0 rfl hl.1 rfl ⟨Nat.le_of_ble_eq_true rfl, Nat.le_of_ble_eq_true rfl⟩ (Nat.le_of_ble_eq_true rfl) ⟨Nat.le_of_ble_eq_true rfl, Nat.le_of_ble_eq_true rfl⟩ dX11_cuts_12 (fun H locs hw => ?_)
  refine g_if_eq (tgt := 20) fx dX11_cuts_15 (by decide) hok (fun hok => ?_) (fun hok => ?_)
  · refine lv_iconst (v := 0) fx.1 fx.2.1 dX11_cuts_20 (by decide) ?_
    refine lv_istore_n (lv' := [(3, .int (0 : Int32)), (0, .ref x0), (1, .int x1), (2, .int x2)]) fx.1 fx.2.1 dX11_cuts_21 rfl hl (by decide) rfl (fun ls hl => ?_)
    refine lv_iconst (v := 0) fx.1 fx.2.1 dX11_cuts_22 (by decide) ?_
    refine lv_istore (lv' := [(4, .int (0 : Int32)), (3, .int (0 : Int32)), (0, .ref x0), (1, .int x1), (2, .int x2)]) fx.1 fx.2.1 dX11_cuts_23 hl (by decide) rfl (fun ls hl => ?_)
    refine w_l_X11_cuts_25 fx n x0 x1 x2 h0 ?_ n (0 : Int32) (0 : Int32) G4 _ _ _  hw (lv_sub hl [2, 3, 4, 1, 0] rfl) (gOk_bindK hok)
    intro z12 G13 H locs ls hw hl hok
    have hok : gOk (ρ := Int32 × gG) (k_X11_cuts_74 τ n x0 x1 x2 z12  G13) _ := hok
    exact w_X11_cuts_74 fx n x0 x1 x2 z12  h0  hr hw (lv_sub hl [0, 1, 2, 3] rfl) hok
  · refine lv_iconst (v := 0) fx.1 fx.2.1 dX11_cuts_18 (by decide) ?_
    cases gOk_some hok
    exact g_iret fx hw hr dX11_cuts_19
theorem dX11_walks_0 : decode cX11_walks 0 = .ok (.aload_n 0, 1) := by decide +kernel
theorem dX11_walks_1 : decode cX11_walks 1 = .ok (.iconst 0, 1) := by decide +kernel
theorem dX11_walks_2 : decode cX11_walks 2 = .ok (.putfield 3, 3) := by decide +kernel
theorem dX11_walks_5 : decode cX11_walks 5 = .ok (.aload_n 0, 1) := by decide +kernel
theorem dX11_walks_6 : decode cX11_walks 6 = .ok (.iload_n 1, 1) := by decide +kernel
theorem dX11_walks_7 : decode cX11_walks 7 = .ok (.iconst 1, 1) := by decide +kernel
theorem dX11_walks_8 : decode cX11_walks 8 = .ok (.iconst 5, 1) := by decide +kernel
theorem dX11_walks_9 : decode cX11_walks 9 = .ok (.invokestatic 69, 3) := by decide +kernel
theorem dX11_walks_12 : decode cX11_walks 12 = .ok (.ifCond .ne 7, 3) := by decide +kernel
theorem dX11_walks_15 : decode cX11_walks 15 = .ok (.iconst 1, 1) := by decide +kernel
theorem dX11_walks_16 : decode cX11_walks 16 = .ok (.goto 4, 3) := by decide +kernel
theorem dX11_walks_19 : decode cX11_walks 19 = .ok (.iconst 0, 1) := by decide +kernel
theorem dX11_walks_20 : decode cX11_walks 20 = .ok (.iconst 1, 1) := by decide +kernel
theorem dX11_walks_21 : decode cX11_walks 21 = .ok (.invokevirtual 263, 3) := by decide +kernel
theorem dX11_walks_24 : decode cX11_walks 24 = .ok (.ifCond .eq 5, 3) := by decide +kernel
theorem dX11_walks_27 : decode cX11_walks 27 = .ok (.iconst 0, 1) := by decide +kernel
theorem dX11_walks_28 : decode cX11_walks 28 = .ok (.ireturn, 1) := by decide +kernel
theorem dX11_walks_29 : decode cX11_walks 29 = .ok (.iconst 0, 1) := by decide +kernel
theorem dX11_walks_30 : decode cX11_walks 30 = .ok (.istore_n 2, 1) := by decide +kernel
theorem dX11_walks_31 : decode cX11_walks 31 = .ok (.iload_n 2, 1) := by decide +kernel
theorem dX11_walks_32 : decode cX11_walks 32 = .ok (.aload_n 0, 1) := by decide +kernel
theorem dX11_walks_33 : decode cX11_walks 33 = .ok (.invokevirtual 386, 3) := by decide +kernel
theorem dX11_walks_36 : decode cX11_walks 36 = .ok (.if_icmp .gt 20, 3) := by decide +kernel
theorem dX11_walks_39 : decode cX11_walks 39 = .ok (.aload_n 0, 1) := by decide +kernel
theorem dX11_walks_40 : decode cX11_walks 40 = .ok (.getfield 42, 3) := by decide +kernel
theorem dX11_walks_43 : decode cX11_walks 43 = .ok (.iload_n 2, 1) := by decide +kernel
theorem dX11_walks_44 : decode cX11_walks 44 = .ok (.aload_n 0, 1) := by decide +kernel
theorem dX11_walks_45 : decode cX11_walks 45 = .ok (.iload_n 2, 1) := by decide +kernel
theorem dX11_walks_46 : decode cX11_walks 46 = .ok (.invokevirtual 395, 3) := by decide +kernel
theorem dX11_walks_49 : decode cX11_walks 49 = .ok (.iastore, 1) := by decide +kernel
theorem dX11_walks_50 : decode cX11_walks 50 = .ok (.iinc 2 1, 3) := by decide +kernel
theorem dX11_walks_53 : decode cX11_walks 53 = .ok (.goto (-22), 3) := by decide +kernel
theorem dX11_walks_56 : decode cX11_walks 56 = .ok (.iconst 1, 1) := by decide +kernel
theorem dX11_walks_57 : decode cX11_walks 57 = .ok (.istore_n 2, 1) := by decide +kernel
theorem dX11_walks_58 : decode cX11_walks 58 = .ok (.iload_n 2, 1) := by decide +kernel
theorem dX11_walks_59 : decode cX11_walks 59 = .ok (.iload_n 1, 1) := by decide +kernel
theorem dX11_walks_60 : decode cX11_walks 60 = .ok (.if_icmp .ge 86, 3) := by decide +kernel
theorem dX11_walks_63 : decode cX11_walks 63 = .ok (.aload_n 0, 1) := by decide +kernel
theorem dX11_walks_64 : decode cX11_walks 64 = .ok (.invokevirtual 386, 3) := by decide +kernel
theorem dX11_walks_67 : decode cX11_walks 67 = .ok (.istore_n 3, 1) := by decide +kernel
theorem dX11_walks_68 : decode cX11_walks 68 = .ok (.iload_n 3, 1) := by decide +kernel
theorem dX11_walks_69 : decode cX11_walks 69 = .ok (.ifCond .le 71, 3) := by decide +kernel
theorem dX11_walks_72 : decode cX11_walks 72 = .ok (.aload_n 0, 1) := by decide +kernel
theorem dX11_walks_73 : decode cX11_walks 73 = .ok (.getfield 42, 3) := by decide +kernel
theorem dX11_walks_76 : decode cX11_walks 76 = .ok (.iload_n 3, 1) := by decide +kernel
theorem dX11_walks_77 : decode cX11_walks 77 = .ok (.iaload, 1) := by decide +kernel
theorem dX11_walks_78 : decode cX11_walks 78 = .ok (.istore 4, 2) := by decide +kernel
theorem dX11_walks_80 : decode cX11_walks 80 = .ok (.iload_n 3, 1) := by decide +kernel
theorem dX11_walks_81 : decode cX11_walks 81 = .ok (.istore 5, 2) := by decide +kernel
theorem dX11_walks_83 : decode cX11_walks 83 = .ok (.iload 5, 2) := by decide +kernel
theorem dX11_walks_85 : decode cX11_walks 85 = .ok (.ifCond .le 41, 3) := by decide +kernel
theorem dX11_walks_88 : decode cX11_walks 88 = .ok (.iload 4, 2) := by decide +kernel
theorem dX11_walks_90 : decode cX11_walks 90 = .ok (.aload_n 0, 1) := by decide +kernel
theorem dX11_walks_91 : decode cX11_walks 91 = .ok (.iload 5, 2) := by decide +kernel
theorem dX11_walks_93 : decode cX11_walks 93 = .ok (.invokevirtual 395, 3) := by decide +kernel
theorem dX11_walks_96 : decode cX11_walks 96 = .ok (.aload_n 0, 1) := by decide +kernel
theorem dX11_walks_97 : decode cX11_walks 97 = .ok (.getfield 42, 3) := by decide +kernel
theorem dX11_walks_100 : decode cX11_walks 100 = .ok (.iload_n 3, 1) := by decide +kernel
theorem dX11_walks_101 : decode cX11_walks 101 = .ok (.iload 5, 2) := by decide +kernel
theorem dX11_walks_103 : decode cX11_walks 103 = .ok (.iconst (-1), 1) := by decide +kernel
theorem dX11_walks_104 : decode cX11_walks 104 = .ok (.ixor, 1) := by decide +kernel
theorem dX11_walks_105 : decode cX11_walks 105 = .ok (.iand, 1) := by decide +kernel
theorem dX11_walks_106 : decode cX11_walks 106 = .ok (.iaload, 1) := by decide +kernel
theorem dX11_walks_107 : decode cX11_walks 107 = .ok (.invokestatic 270, 3) := by decide +kernel
theorem dX11_walks_110 : decode cX11_walks 110 = .ok (.invokestatic 135, 3) := by decide +kernel
theorem dX11_walks_113 : decode cX11_walks 113 = .ok (.istore 4, 2) := by decide +kernel
theorem dX11_walks_115 : decode cX11_walks 115 = .ok (.iload 5, 2) := by decide +kernel
theorem dX11_walks_117 : decode cX11_walks 117 = .ok (.iconst 1, 1) := by decide +kernel
theorem dX11_walks_118 : decode cX11_walks 118 = .ok (.isub, 1) := by decide +kernel
theorem dX11_walks_119 : decode cX11_walks 119 = .ok (.iload_n 3, 1) := by decide +kernel
theorem dX11_walks_120 : decode cX11_walks 120 = .ok (.iand, 1) := by decide +kernel
theorem dX11_walks_121 : decode cX11_walks 121 = .ok (.istore 5, 2) := by decide +kernel
theorem dX11_walks_123 : decode cX11_walks 123 = .ok (.goto (-40), 3) := by decide +kernel
theorem dX11_walks_126 : decode cX11_walks 126 = .ok (.aload_n 0, 1) := by decide +kernel
theorem dX11_walks_127 : decode cX11_walks 127 = .ok (.getfield 42, 3) := by decide +kernel
theorem dX11_walks_130 : decode cX11_walks 130 = .ok (.iload_n 3, 1) := by decide +kernel
theorem dX11_walks_131 : decode cX11_walks 131 = .ok (.iload 4, 2) := by decide +kernel
theorem dX11_walks_133 : decode cX11_walks 133 = .ok (.iastore, 1) := by decide +kernel
theorem dX11_walks_134 : decode cX11_walks 134 = .ok (.iinc 3 (-1), 3) := by decide +kernel
theorem dX11_walks_137 : decode cX11_walks 137 = .ok (.goto (-69), 3) := by decide +kernel
theorem dX11_walks_140 : decode cX11_walks 140 = .ok (.iinc 2 1, 3) := by decide +kernel
theorem dX11_walks_143 : decode cX11_walks 143 = .ok (.goto (-85), 3) := by decide +kernel
theorem dX11_walks_146 : decode cX11_walks 146 = .ok (.aload_n 0, 1) := by decide +kernel
theorem dX11_walks_147 : decode cX11_walks 147 = .ok (.getfield 42, 3) := by decide +kernel
theorem dX11_walks_150 : decode cX11_walks 150 = .ok (.aload_n 0, 1) := by decide +kernel
theorem dX11_walks_151 : decode cX11_walks 151 = .ok (.invokevirtual 386, 3) := by decide +kernel
theorem dX11_walks_154 : decode cX11_walks 154 = .ok (.iaload, 1) := by decide +kernel
theorem dX11_walks_155 : decode cX11_walks 155 = .ok (.ireturn, 1) := by decide +kernel
def rm_X11_walks : Room := { frames := 2, cells := 0, slots := 0, locals := 45 }
def b_X11_walks_31 (τ : gτ) (n : Nat) (x0 : Nat) (x1 : Int32) (x2 : Int32) (G : gG) : Option ((Int32 × gG) ⊕ ((gG))) :=
  (f_X11_allOrders τ x0 G).bind fun v5 =>
  if v5 < x2 then (some (.inr G))
  else ((gr G 11 18 x0).bind fun a6 =>
  (f_X11_longOf τ n x0 x2 G).bind fun v7 =>
  gchk (gIn x2 (gn τ a6)) <| gLet (gse G a6 (Int32.toNatClampNeg x2) v7) fun G8 =>
  gLet (x2 + 1) fun v9 =>
  some (.inl (v9, G8)))
def l_X11_walks_31 (τ : gτ) (n : Nat) (x0 : Nat) (x1 : Int32) (x2 : Int32) (G : gG) : Option ((gG)) :=
  gIter (fun (q : Int32 × gG) => b_X11_walks_31 τ n x0 x1 q.1 q.2) n (x2, G)
def b_X11_walks_83 (τ : gτ) (n : Nat) (x0 : Nat) (x1 : Int32) (x2 : Int32) (x3 : Int32) (x4 : Int32) (x5 : Int32) (G : gG) : Option ((Int32 × Int32) ⊕ ((Int32))) :=
  if x5 ≤ 0 then (some (.inr x4))
  else ((f_X11_longOf τ n x0 x5 G).bind fun v14 =>
  (gr G 11 18 x0).bind fun a15 =>
  gchk (gIn (x3 &&& (x5 ^^^ (-1 : Int32))) (gn τ a15)) <|
  gLet (gmin x4 (gmax v14 (ge G a15 (Int32.toNatClampNeg (x3 &&& (x5 ^^^ (-1 : Int32))))))) fun v16 =>
  gLet ((x5 - (1 : Int32)) &&& x3) fun v17 =>
  some (.inl (v16, v17)))
def l_X11_walks_83 (τ : gτ) (n : Nat) (x0 : Nat) (x1 : Int32) (x2 : Int32) (x3 : Int32) (x4 : Int32) (x5 : Int32) (G : gG) : Option ((Int32)) :=
  gIter (fun (q : Int32 × Int32) => b_X11_walks_83 τ n x0 x1 x2 x3 q.1 q.2 G) n (x4, x5)
def k_X11_walks_126 (τ : gτ) (n : Nat) (x0 : Nat) (x1 : Int32) (x2 : Int32) (x3 : Int32) (x4 : Int32)  (G : gG) : Option ((Int32 × gG) ⊕ ((gG))) :=
  (gr G 11 18 x0).bind fun a19 =>
  gchk (gIn x3 (gn τ a19)) <| gLet (gse G a19 (Int32.toNatClampNeg x3) x4) fun G20 =>
  gLet (x3 + (-1)) fun v21 =>
  some (.inl (v21, G20))
def b_X11_walks_68 (τ : gτ) (n : Nat) (x0 : Nat) (x1 : Int32) (x2 : Int32) (x3 : Int32) (G : gG) : Option ((Int32 × gG) ⊕ ((gG))) :=
  if x3 ≤ 0 then (some (.inr G))
  else ((gr G 11 18 x0).bind fun a12 =>
  gchk (gIn x3 (gn τ a12)) <|
  gLet (ge G a12 (Int32.toNatClampNeg x3)) fun v13 =>
  (l_X11_walks_83 τ n x0 x1 x2 x3 v13 x3 G).bind fun q => gLet q fun z18 => 
  k_X11_walks_126 τ n x0 x1 x2 x3 z18  G)
def l_X11_walks_68 (τ : gτ) (n : Nat) (x0 : Nat) (x1 : Int32) (x2 : Int32) (x3 : Int32) (G : gG) : Option ((gG)) :=
  gIter (fun (q : Int32 × gG) => b_X11_walks_68 τ n x0 x1 x2 q.1 q.2) n (x3, G)
def b_X11_walks_58 (τ : gτ) (n : Nat) (x0 : Nat) (x1 : Int32) (x2 : Int32) (G : gG) : Option ((Int32 × gG) ⊕ ((gG))) :=
  if x1 ≤ x2 then (some (.inr G))
  else ((f_X11_allOrders τ x0 G).bind fun v11 =>
  (l_X11_walks_68 τ n x0 x1 x2 v11 G).bind fun q => gLet q fun G22 => 
  gLet (x2 + 1) fun v23 =>
  some (.inl (v23, G22)))
def l_X11_walks_58 (τ : gτ) (n : Nat) (x0 : Nat) (x1 : Int32) (x2 : Int32) (G : gG) : Option ((gG)) :=
  gIter (fun (q : Int32 × gG) => b_X11_walks_58 τ n x0 x1 q.1 q.2) n (x2, G)
def k_X11_walks_146 (τ : gτ) (n : Nat) (x0 : Nat)  (G : gG) : Option (Int32 × gG) :=
  (gr G 11 18 x0).bind fun a25 =>
  (f_X11_allOrders τ x0 G).bind fun v26 =>
  gchk (gIn v26 (gn τ a25)) <|
  some (ge G a25 (Int32.toNatClampNeg v26), G)
def k_X11_walks_56 (τ : gτ) (n : Nat) (x0 : Nat) (x1 : Int32)  (G : gG) : Option (Int32 × gG) :=
  (l_X11_walks_58 τ n x0 x1 (1 : Int32) G).bind fun q => gLet q fun G24 => 
  k_X11_walks_146 τ n x0  G24
def k_X11_walks_20 (τ : gτ) (n : Nat) (x0 : Nat) (x1 : Int32) (s0 : Nat) (s1 : Int32) (G : gG) : Option (Int32 × gG) :=
  gBind2 (f_X11_throwsIf s0 s1 (1 : Int32) G) fun v3 G4 =>
  if v3 = 0 then ((l_X11_walks_31 τ n x0 x1 (0 : Int32) G4).bind fun q => gLet q fun G10 => 
  k_X11_walks_56 τ n x0 x1  G10)
  else (some (0, G4))
def f_X11_walks (τ : gτ) (n : Nat) (x0 : Nat) (x1 : Int32) (G : gG) : Option (Int32 × gG) :=
  gLet (gsi G 11 0 x0 (0 : Int32)) fun G1 =>
  (f_X11_in x1 (1 : Int32) (5 : Int32)).bind fun v2 =>
  if v2 = 0 then (k_X11_walks_20 τ n x0 x1 x0 (1 : Int32) G1)
  else (k_X11_walks_20 τ n x0 x1 x0 (0 : Int32) G1)
set_option maxHeartbeats 4000000 in
set_option maxRecDepth 100000 in
theorem w_b_X11_walks_31 {X : gX} {τ : gτ} {p : Program} {l : Launch} {e : Env} {s : State} {m : MethodId} {args : Array Value} {below : List Frame} {meth : Method} {c : Code} (fx : gFx X p s m args meth c cX11_walks 6 RX11) (n : Nat) (x0 : Nat) (x1 : Int32) (x2 : Int32) (h0 : gK τ x0 11) {Q : State → Prop} {K : ((Int32 × gG) ⊕ ((gG))) → Prop} {G : gG} {H : Heap} {locs : List Loc} {ls : Array Slot} (hw : gHw X τ G H locs) (hl : lv_has ls 6 [(0, .ref x0), (1, .int x1), (2, .int x2)]) (hok : gOk (b_X11_walks_31 τ n x0 x1 x2 G) K) (hc : ∀ (y2 : Int32) (G : gG) (H : Heap) (locs : List Loc) (ls : Array Slot), gHw X τ G H locs → lv_has ls 6 [(0, .ref x0), (1, .int x1), (2, .int y2)] → K (.inl (y2, G)) → W p l e rm_X11_walks s m args below meth c H locs 0 0 Q (F0 m 31 ls [])) (hx0 : ∀ (G : gG) (H : Heap) (locs : List Loc) (ls : Array Slot), gHw X τ G H locs → lv_has ls 6 [(0, .ref x0), (1, .int x1)] → K (.inr G) → W p l e rm_X11_walks s m args below meth c H locs 0 0 Q (F0 m 56 ls [])) : W p l e rm_X11_walks s m args below meth c H locs 0 0 Q (F0 m 31 ls []) := by
  unfold b_X11_walks_31 at hok
  refine lv_iload_n fx.1 fx.2.1 dX11_walks_31 rfl (lv_at hl 2 rfl) ?_
  refine lv_aload_n fx.1 fx.2.1 dX11_walks_32 rfl (lv_at hl 0 rfl) ?_
  obtain ⟨v5, hf, hok⟩ := gOk_bind hok
  refine g_callV0 (κ := 11) fx hw (c_X11_allOrders l X τ x0 G h0 hf) lv_RX11_386 ⟨rfl, rfl⟩ rfl rfl h0 rfl hl.1 rfl ⟨Nat.le_of_ble_eq_true rfl, Nat.le_of_ble_eq_true rfl⟩ (Nat.le_of_ble_eq_true rfl) ⟨Nat.le_of_ble_eq_true rfl, Nat.le_of_ble_eq_true rfl⟩ dX11_walks_33 (fun H locs hw => ?_)
  refine g_icmp_gt (tgt := 56) fx dX11_walks_36 (by decide) hok (fun hok => ?_) (fun hok => ?_)
  · exact hx0  G _ _ _  hw (lv_sub hl [0, 1] rfl) (gOk_some hok)
  · refine lv_aload_n fx.1 fx.2.1 dX11_walks_39 rfl (lv_at hl 0 rfl) ?_
    refine g_getr fx hw h0 lf_RX11_42 rfl dX11_walks_40 hok (fun a6 h_a6 hok => ?_)
    refine lv_iload_n fx.1 fx.2.1 dX11_walks_43 rfl (lv_at hl 2 rfl) ?_
    refine lv_aload_n fx.1 fx.2.1 dX11_walks_44 rfl (lv_at hl 0 rfl) ?_
    refine lv_iload_n fx.1 fx.2.1 dX11_walks_45 rfl (lv_at hl 2 rfl) ?_
    obtain ⟨v7, hf, hok⟩ := gOk_bind hok
    refine g_callV0 (κ := 11) fx hw (c_X11_longOf l X τ n x0 x2 G h0 hf) lv_RX11_395 ⟨rfl, rfl⟩ rfl rfl h0 rfl hl.1 rfl ⟨Nat.le_of_ble_eq_true rfl, Nat.le_of_ble_eq_true rfl⟩ (Nat.le_of_ble_eq_true rfl) ⟨Nat.le_of_ble_eq_true rfl, Nat.le_of_ble_eq_true rfl⟩ dX11_walks_46 (fun H locs hw => ?_)
    refine g_iast fx hw h_a6 dX11_walks_49 hok (fun G8 H locs hw hok => ?_)
    obtain ⟨v9, e_v9, hok⟩ := gOk_let hok
    refine lv_iinc (v := v9) (lv' := [(2, .int v9), (0, .ref x0), (1, .int x1)]) fx.1 fx.2.1 dX11_walks_50 hl (k := 2) rfl (by rw [e_v9]; rfl) (by decide) rfl (fun ls hl => ?_)
    refine lv_goto (tgt := 31) fx.1 fx.2.1 dX11_walks_53 (by decide) ?_
    exact hc v9 G8 _ _ _  hw (lv_sub hl [1, 2, 0] rfl) (gOk_some hok)
theorem w_l_X11_walks_31 {X : gX} {τ : gτ} {p : Program} {l : Launch} {e : Env} {s : State} {m : MethodId} {args : Array Value} {below : List Frame} {meth : Method} {c : Code} (fx : gFx X p s m args meth c cX11_walks 6 RX11) (n : Nat) (x0 : Nat) (x1 : Int32) (h0 : gK τ x0 11) {Q : State → Prop} {K : ((gG)) → Prop} (hx0 : ∀ (G : gG) (H : Heap) (locs : List Loc) (ls : Array Slot), gHw X τ G H locs → lv_has ls 6 [(0, .ref x0), (1, .int x1)] → K G → W p l e rm_X11_walks s m args below meth c H locs 0 0 Q (F0 m 56 ls [])) : ∀ (k : Nat) (x2 : Int32) (G : gG) (H : Heap) (locs : List Loc) (ls : Array Slot), gHw X τ G H locs → lv_has ls 6 [(0, .ref x0), (1, .int x1), (2, .int x2)] → gOk (gIter (fun (q : Int32 × gG) => b_X11_walks_31 τ n x0 x1 q.1 q.2) k (x2, G)) K → W p l e rm_X11_walks s m args below meth c H locs 0 0 Q (F0 m 31 ls []) := by
  intro k
  induction k with
  | zero =>
    intro x2 G H locs ls hw hl hok
    exact gOk_iter0 hok
  | succ k hc =>
    intro x2 G H locs ls hw hl hok
    exact w_b_X11_walks_31 fx n x0 x1 x2 h0 hw hl (gOk_iter hok) hc hx0
set_option maxHeartbeats 4000000 in
set_option maxRecDepth 100000 in
theorem w_b_X11_walks_83 {X : gX} {τ : gτ} {p : Program} {l : Launch} {e : Env} {s : State} {m : MethodId} {args : Array Value} {below : List Frame} {meth : Method} {c : Code} (fx : gFx X p s m args meth c cX11_walks 6 RX11) (n : Nat) (x0 : Nat) (x1 : Int32) (x2 : Int32) (x3 : Int32) (x4 : Int32) (x5 : Int32) (h0 : gK τ x0 11) {Q : State → Prop} {K : ((Int32 × Int32) ⊕ ((Int32))) → Prop} {G : gG} {H : Heap} {locs : List Loc} {ls : Array Slot} (hw : gHw X τ G H locs) (hl : lv_has ls 6 [(0, .ref x0), (1, .int x1), (2, .int x2), (3, .int x3), (4, .int x4), (5, .int x5)]) (hok : gOk (b_X11_walks_83 τ n x0 x1 x2 x3 x4 x5 G) K) (hc : ∀ (y4 : Int32) (y5 : Int32) (H : Heap) (locs : List Loc) (ls : Array Slot), gHw X τ G H locs → lv_has ls 6 [(0, .ref x0), (1, .int x1), (2, .int x2), (3, .int x3), (4, .int y4), (5, .int y5)] → K (.inl (y4, y5)) → W p l e rm_X11_walks s m args below meth c H locs 0 0 Q (F0 m 83 ls [])) (hx0 : ∀ (y4 : Int32) (H : Heap) (locs : List Loc) (ls : Array Slot), gHw X τ G H locs → lv_has ls 6 [(0, .ref x0), (1, .int x1), (2, .int x2), (3, .int x3), (4, .int y4)] → K (.inr y4) → W p l e rm_X11_walks s m args below meth c H locs 0 0 Q (F0 m 126 ls [])) : W p l e rm_X11_walks s m args below meth c H locs 0 0 Q (F0 m 83 ls []) := by
  unfold b_X11_walks_83 at hok
  refine lv_iload fx.1 fx.2.1 dX11_walks_83 (lv_at hl 5 rfl) ?_
  refine g_if_le (tgt := 126) fx dX11_walks_85 (by decide) hok (fun hok => ?_) (fun hok => ?_)
  · exact hx0 x4  _ _ _  hw (lv_sub hl [0, 1, 2, 3, 4] rfl) (gOk_some hok)
  · refine lv_iload fx.1 fx.2.1 dX11_walks_88 (lv_at hl 4 rfl) ?_
    refine lv_aload_n fx.1 fx.2.1 dX11_walks_90 rfl (lv_at hl 0 rfl) ?_
    refine lv_iload fx.1 fx.2.1 dX11_walks_91 (lv_at hl 5 rfl) ?_
    obtain ⟨v14, hf, hok⟩ := gOk_bind hok
    refine g_callV0 (κ := 11) fx hw (c_X11_longOf l X τ n x0 x5 G h0 hf) lv_RX11_395 ⟨rfl, rfl⟩ rfl rfl h0 rfl hl.1 rfl ⟨Nat.le_of_ble_eq_true rfl, Nat.le_of_ble_eq_true rfl⟩ (Nat.le_of_ble_eq_true rfl) ⟨Nat.le_of_ble_eq_true rfl, Nat.le_of_ble_eq_true rfl⟩ dX11_walks_93 (fun H locs hw => ?_)
    refine lv_aload_n fx.1 fx.2.1 dX11_walks_96 rfl (lv_at hl 0 rfl) ?_
    refine g_getr fx hw h0 lf_RX11_42 rfl dX11_walks_97 hok (fun a15 h_a15 hok => ?_)
    refine lv_iload_n fx.1 fx.2.1 dX11_walks_100 rfl (lv_at hl 3 rfl) ?_
    refine lv_iload fx.1 fx.2.1 dX11_walks_101 (lv_at hl 5 rfl) ?_
    refine lv_iconst (v := (-1)) fx.1 fx.2.1 dX11_walks_103 (by decide) ?_
    refine lv_ixor fx.1 fx.2.1 dX11_walks_104 ?_
    refine lv_iand fx.1 fx.2.1 dX11_walks_105 ?_
    refine g_iald fx hw h_a15 dX11_walks_106 hok (fun hok => ?_)
    refine g_mmax fx hl.1 lm_RX11_270 lmst_max lm_init lmco_max ⟨Nat.le_of_ble_eq_true rfl, Nat.le_of_ble_eq_true rfl, Nat.le_of_ble_eq_true rfl, Nat.le_of_ble_eq_true rfl⟩ dX11_walks_107 ?_
    refine g_mmin fx hl.1 lm_RX11_135 lmst_min lm_init lmco_min ⟨Nat.le_of_ble_eq_true rfl, Nat.le_of_ble_eq_true rfl, Nat.le_of_ble_eq_true rfl, Nat.le_of_ble_eq_true rfl⟩ dX11_walks_110 ?_
    refine g_leti hok (fun v16 hok => ?_)
    refine lv_istore (lv' := [(4, .int v16), (0, .ref x0), (1, .int x1), (2, .int x2), (3, .int x3), (5, .int x5)]) fx.1 fx.2.1 dX11_walks_113 hl (by decide) rfl (fun ls hl => ?_)
    refine lv_iload fx.1 fx.2.1 dX11_walks_115 (lv_at hl 5 rfl) ?_
    refine lv_iconst (v := 1) fx.1 fx.2.1 dX11_walks_117 (by decide) ?_
    refine lv_isub fx.1 fx.2.1 dX11_walks_118 ?_
    refine lv_iload_n fx.1 fx.2.1 dX11_walks_119 rfl (lv_at hl 4 rfl) ?_
    refine lv_iand fx.1 fx.2.1 dX11_walks_120 ?_
    refine g_leti hok (fun v17 hok => ?_)
    refine lv_istore (lv' := [(5, .int v17), (4, .int v16), (0, .ref x0), (1, .int x1), (2, .int x2), (3, .int x3)]) fx.1 fx.2.1 dX11_walks_121 hl (by decide) rfl (fun ls hl => ?_)
    refine lv_goto (tgt := 83) fx.1 fx.2.1 dX11_walks_123 (by decide) ?_
    exact hc v16 v17  _ _ _  hw (lv_sub hl [2, 3, 4, 5, 1, 0] rfl) (gOk_some hok)
theorem w_l_X11_walks_83 {X : gX} {τ : gτ} {p : Program} {l : Launch} {e : Env} {s : State} {m : MethodId} {args : Array Value} {below : List Frame} {meth : Method} {c : Code} (fx : gFx X p s m args meth c cX11_walks 6 RX11) (n : Nat) (x0 : Nat) (x1 : Int32) (x2 : Int32) (x3 : Int32) (h0 : gK τ x0 11) (G : gG) {Q : State → Prop} {K : ((Int32)) → Prop} (hx0 : ∀ (y4 : Int32) (H : Heap) (locs : List Loc) (ls : Array Slot), gHw X τ G H locs → lv_has ls 6 [(0, .ref x0), (1, .int x1), (2, .int x2), (3, .int x3), (4, .int y4)] → K y4 → W p l e rm_X11_walks s m args below meth c H locs 0 0 Q (F0 m 126 ls [])) : ∀ (k : Nat) (x4 : Int32) (x5 : Int32) (H : Heap) (locs : List Loc) (ls : Array Slot), gHw X τ G H locs → lv_has ls 6 [(0, .ref x0), (1, .int x1), (2, .int x2), (3, .int x3), (4, .int x4), (5, .int x5)] → gOk (gIter (fun (q : Int32 × Int32) => b_X11_walks_83 τ n x0 x1 x2 x3 q.1 q.2 G) k (x4, x5)) K → W p l e rm_X11_walks s m args below meth c H locs 0 0 Q (F0 m 83 ls []) := by
  intro k
  induction k with
  | zero =>
    intro x4 x5  H locs ls hw hl hok
    exact gOk_iter0 hok
  | succ k hc =>
    intro x4 x5  H locs ls hw hl hok
    exact w_b_X11_walks_83 fx n x0 x1 x2 x3 x4 x5 h0 hw hl (gOk_iter hok) hc hx0
set_option maxHeartbeats 4000000 in
set_option maxRecDepth 100000 in
theorem w_X11_walks_126 {X : gX} {τ : gτ} {p : Program} {l : Launch} {e : Env} {s : State} {m : MethodId} {args : Array Value} {below : List Frame} {meth : Method} {c : Code} (fx : gFx X p s m args meth c cX11_walks 6 RX11) (n : Nat) (x0 : Nat) (x1 : Int32) (x2 : Int32) (x3 : Int32) (x4 : Int32)  (h0 : gK τ x0 11)  {Q : State → Prop} {K : ((Int32 × gG) ⊕ ((gG))) → Prop} {G : gG} {H : Heap} {locs : List Loc} {ls : Array Slot} (hw : gHw X τ G H locs) (hl : lv_has ls 6 [(0, .ref x0), (1, .int x1), (2, .int x2), (3, .int x3), (4, .int x4)]) (hok : gOk (k_X11_walks_126 τ n x0 x1 x2 x3 x4  G) K) (hc : ∀ (y3 : Int32) (G : gG) (H : Heap) (locs : List Loc) (ls : Array Slot), gHw X τ G H locs → lv_has ls 6 [(0, .ref x0), (1, .int x1), (2, .int x2), (3, .int y3)] → K (.inl (y3, G)) → W p l e rm_X11_walks s m args below meth c H locs 0 0 Q (F0 m 68 ls [])) (hx0 : ∀ (G : gG) (H : Heap) (locs : List Loc) (ls : Array Slot), gHw X τ G H locs → lv_has ls 6 [(0, .ref x0), (1, .int x1), (2, .int x2)] → K (.inr G) → W p l e rm_X11_walks s m args below meth c H locs 0 0 Q (F0 m 140 ls [])) : W p l e rm_X11_walks s m args below meth c H locs 0 0 Q (F0 m 126 ls []) := by
  unfold k_X11_walks_126 at hok
  refine lv_aload_n fx.1 fx.2.1 dX11_walks_126 rfl (lv_at hl 0 rfl) ?_
  refine g_getr fx hw h0 lf_RX11_42 rfl dX11_walks_127 hok (fun a19 h_a19 hok => ?_)
  refine lv_iload_n fx.1 fx.2.1 dX11_walks_130 rfl (lv_at hl 3 rfl) ?_
  refine lv_iload fx.1 fx.2.1 dX11_walks_131 (lv_at hl 4 rfl) ?_
  refine g_iast fx hw h_a19 dX11_walks_133 hok (fun G20 H locs hw hok => ?_)
  obtain ⟨v21, e_v21, hok⟩ := gOk_let hok
  refine lv_iinc (v := v21) (lv' := [(3, .int v21), (0, .ref x0), (1, .int x1), (2, .int x2), (4, .int x4)]) fx.1 fx.2.1 dX11_walks_134 hl (k := 3) rfl (by rw [e_v21]; rfl) (by decide) rfl (fun ls hl => ?_)
  refine lv_goto (tgt := 68) fx.1 fx.2.1 dX11_walks_137 (by decide) ?_
  exact hc v21 G20 _ _ _  hw (lv_sub hl [1, 2, 3, 0] rfl) (gOk_some hok)
set_option maxHeartbeats 4000000 in
set_option maxRecDepth 100000 in
theorem w_b_X11_walks_68 {X : gX} {τ : gτ} {p : Program} {l : Launch} {e : Env} {s : State} {m : MethodId} {args : Array Value} {below : List Frame} {meth : Method} {c : Code} (fx : gFx X p s m args meth c cX11_walks 6 RX11) (n : Nat) (x0 : Nat) (x1 : Int32) (x2 : Int32) (x3 : Int32) (h0 : gK τ x0 11) {Q : State → Prop} {K : ((Int32 × gG) ⊕ ((gG))) → Prop} {G : gG} {H : Heap} {locs : List Loc} {ls : Array Slot} (hw : gHw X τ G H locs) (hl : lv_has ls 6 [(0, .ref x0), (1, .int x1), (2, .int x2), (3, .int x3)]) (hok : gOk (b_X11_walks_68 τ n x0 x1 x2 x3 G) K) (hc : ∀ (y3 : Int32) (G : gG) (H : Heap) (locs : List Loc) (ls : Array Slot), gHw X τ G H locs → lv_has ls 6 [(0, .ref x0), (1, .int x1), (2, .int x2), (3, .int y3)] → K (.inl (y3, G)) → W p l e rm_X11_walks s m args below meth c H locs 0 0 Q (F0 m 68 ls [])) (hx0 : ∀ (G : gG) (H : Heap) (locs : List Loc) (ls : Array Slot), gHw X τ G H locs → lv_has ls 6 [(0, .ref x0), (1, .int x1), (2, .int x2)] → K (.inr G) → W p l e rm_X11_walks s m args below meth c H locs 0 0 Q (F0 m 140 ls [])) : W p l e rm_X11_walks s m args below meth c H locs 0 0 Q (F0 m 68 ls []) := by
  unfold b_X11_walks_68 at hok
  refine lv_iload_n fx.1 fx.2.1 dX11_walks_68 rfl (lv_at hl 3 rfl) ?_
  refine g_if_le (tgt := 140) fx dX11_walks_69 (by decide) hok (fun hok => ?_) (fun hok => ?_)
  · exact hx0  G _ _ _  hw (lv_sub hl [0, 1, 2] rfl) (gOk_some hok)
  · refine lv_aload_n fx.1 fx.2.1 dX11_walks_72 rfl (lv_at hl 0 rfl) ?_
    refine g_getr fx hw h0 lf_RX11_42 rfl dX11_walks_73 hok (fun a12 h_a12 hok => ?_)
    refine lv_iload_n fx.1 fx.2.1 dX11_walks_76 rfl (lv_at hl 3 rfl) ?_
    refine g_iald fx hw h_a12 dX11_walks_77 hok (fun hok => ?_)
    refine g_leti hok (fun v13 hok => ?_)
    refine lv_istore (lv' := [(4, .int v13), (0, .ref x0), (1, .int x1), (2, .int x2), (3, .int x3)]) fx.1 fx.2.1 dX11_walks_78 hl (by decide) rfl (fun ls hl => ?_)
    refine lv_iload_n fx.1 fx.2.1 dX11_walks_80 rfl (lv_at hl 4 rfl) ?_
    refine lv_istore (lv' := [(5, .int x3), (4, .int v13), (0, .ref x0), (1, .int x1), (2, .int x2), (3, .int x3)]) fx.1 fx.2.1 dX11_walks_81 hl (by decide) rfl (fun ls hl => ?_)
    refine w_l_X11_walks_83 fx n x0 x1 x2 x3 h0 G ?_ n v13 x3  _ _ _  hw (lv_sub hl [2, 3, 4, 5, 1, 0] rfl) (gOk_bindK hok)
    intro z18  H locs ls hw hl hok
    have hok : gOk (ρ := (Int32 × gG) ⊕ ((gG))) (k_X11_walks_126 τ n x0 x1 x2 x3 z18  G) _ := hok
    exact w_X11_walks_126 fx n x0 x1 x2 x3 z18  h0  hw (lv_sub hl [0, 1, 2, 3, 4] rfl) hok hc hx0
theorem w_l_X11_walks_68 {X : gX} {τ : gτ} {p : Program} {l : Launch} {e : Env} {s : State} {m : MethodId} {args : Array Value} {below : List Frame} {meth : Method} {c : Code} (fx : gFx X p s m args meth c cX11_walks 6 RX11) (n : Nat) (x0 : Nat) (x1 : Int32) (x2 : Int32) (h0 : gK τ x0 11) {Q : State → Prop} {K : ((gG)) → Prop} (hx0 : ∀ (G : gG) (H : Heap) (locs : List Loc) (ls : Array Slot), gHw X τ G H locs → lv_has ls 6 [(0, .ref x0), (1, .int x1), (2, .int x2)] → K G → W p l e rm_X11_walks s m args below meth c H locs 0 0 Q (F0 m 140 ls [])) : ∀ (k : Nat) (x3 : Int32) (G : gG) (H : Heap) (locs : List Loc) (ls : Array Slot), gHw X τ G H locs → lv_has ls 6 [(0, .ref x0), (1, .int x1), (2, .int x2), (3, .int x3)] → gOk (gIter (fun (q : Int32 × gG) => b_X11_walks_68 τ n x0 x1 x2 q.1 q.2) k (x3, G)) K → W p l e rm_X11_walks s m args below meth c H locs 0 0 Q (F0 m 68 ls []) := by
  intro k
  induction k with
  | zero =>
    intro x3 G H locs ls hw hl hok
    exact gOk_iter0 hok
  | succ k hc =>
    intro x3 G H locs ls hw hl hok
    exact w_b_X11_walks_68 fx n x0 x1 x2 x3 h0 hw hl (gOk_iter hok) hc hx0
set_option maxHeartbeats 4000000 in
set_option maxRecDepth 100000 in
theorem w_b_X11_walks_58 {X : gX} {τ : gτ} {p : Program} {l : Launch} {e : Env} {s : State} {m : MethodId} {args : Array Value} {below : List Frame} {meth : Method} {c : Code} (fx : gFx X p s m args meth c cX11_walks 6 RX11) (n : Nat) (x0 : Nat) (x1 : Int32) (x2 : Int32) (h0 : gK τ x0 11) {Q : State → Prop} {K : ((Int32 × gG) ⊕ ((gG))) → Prop} {G : gG} {H : Heap} {locs : List Loc} {ls : Array Slot} (hw : gHw X τ G H locs) (hl : lv_has ls 6 [(0, .ref x0), (1, .int x1), (2, .int x2)]) (hok : gOk (b_X11_walks_58 τ n x0 x1 x2 G) K) (hc : ∀ (y2 : Int32) (G : gG) (H : Heap) (locs : List Loc) (ls : Array Slot), gHw X τ G H locs → lv_has ls 6 [(0, .ref x0), (1, .int x1), (2, .int y2)] → K (.inl (y2, G)) → W p l e rm_X11_walks s m args below meth c H locs 0 0 Q (F0 m 58 ls [])) (hx0 : ∀ (G : gG) (H : Heap) (locs : List Loc) (ls : Array Slot), gHw X τ G H locs → lv_has ls 6 [(0, .ref x0)] → K (.inr G) → W p l e rm_X11_walks s m args below meth c H locs 0 0 Q (F0 m 146 ls [])) : W p l e rm_X11_walks s m args below meth c H locs 0 0 Q (F0 m 58 ls []) := by
  unfold b_X11_walks_58 at hok
  refine lv_iload_n fx.1 fx.2.1 dX11_walks_58 rfl (lv_at hl 2 rfl) ?_
  refine lv_iload_n fx.1 fx.2.1 dX11_walks_59 rfl (lv_at hl 1 rfl) ?_
  refine g_icmp_ge (tgt := 146) fx dX11_walks_60 (by decide) hok (fun hok => ?_) (fun hok => ?_)
  · exact hx0  G _ _ _  hw (lv_sub hl [0] rfl) (gOk_some hok)
  · refine lv_aload_n fx.1 fx.2.1 dX11_walks_63 rfl (lv_at hl 0 rfl) ?_
    obtain ⟨v11, hf, hok⟩ := gOk_bind hok
    refine g_callV0 (κ := 11) fx hw (c_X11_allOrders l X τ x0 G h0 hf) lv_RX11_386 ⟨rfl, rfl⟩ rfl rfl h0 rfl hl.1 rfl ⟨Nat.le_of_ble_eq_true rfl, Nat.le_of_ble_eq_true rfl⟩ (Nat.le_of_ble_eq_true rfl) ⟨Nat.le_of_ble_eq_true rfl, Nat.le_of_ble_eq_true rfl⟩ dX11_walks_64 (fun H locs hw => ?_)
    refine lv_istore_n (lv' := [(3, .int v11), (0, .ref x0), (1, .int x1), (2, .int x2)]) fx.1 fx.2.1 dX11_walks_67 rfl hl (by decide) rfl (fun ls hl => ?_)
    refine w_l_X11_walks_68 fx n x0 x1 x2 h0 ?_ n v11 G _ _ _  hw (lv_sub hl [1, 2, 3, 0] rfl) (gOk_bindK hok)
    intro G22 H locs ls hw hl hok
    have hok : gOk (ρ := (Int32 × gG) ⊕ ((gG))) (gLet (x2 + 1) fun v23 =>   some (.inl (v23, G22))) _ := hok
    obtain ⟨v23, e_v23, hok⟩ := gOk_let hok
    refine lv_iinc (v := v23) (lv' := [(2, .int v23), (0, .ref x0), (1, .int x1)]) fx.1 fx.2.1 dX11_walks_140 hl (k := 2) rfl (by rw [e_v23]; rfl) (by decide) rfl (fun ls hl => ?_)
    refine lv_goto (tgt := 58) fx.1 fx.2.1 dX11_walks_143 (by decide) ?_
    exact hc v23 G22 _ _ _  hw (lv_sub hl [1, 2, 0] rfl) (gOk_some hok)
theorem w_l_X11_walks_58 {X : gX} {τ : gτ} {p : Program} {l : Launch} {e : Env} {s : State} {m : MethodId} {args : Array Value} {below : List Frame} {meth : Method} {c : Code} (fx : gFx X p s m args meth c cX11_walks 6 RX11) (n : Nat) (x0 : Nat) (x1 : Int32) (h0 : gK τ x0 11) {Q : State → Prop} {K : ((gG)) → Prop} (hx0 : ∀ (G : gG) (H : Heap) (locs : List Loc) (ls : Array Slot), gHw X τ G H locs → lv_has ls 6 [(0, .ref x0)] → K G → W p l e rm_X11_walks s m args below meth c H locs 0 0 Q (F0 m 146 ls [])) : ∀ (k : Nat) (x2 : Int32) (G : gG) (H : Heap) (locs : List Loc) (ls : Array Slot), gHw X τ G H locs → lv_has ls 6 [(0, .ref x0), (1, .int x1), (2, .int x2)] → gOk (gIter (fun (q : Int32 × gG) => b_X11_walks_58 τ n x0 x1 q.1 q.2) k (x2, G)) K → W p l e rm_X11_walks s m args below meth c H locs 0 0 Q (F0 m 58 ls []) := by
  intro k
  induction k with
  | zero =>
    intro x2 G H locs ls hw hl hok
    exact gOk_iter0 hok
  | succ k hc =>
    intro x2 G H locs ls hw hl hok
    exact w_b_X11_walks_58 fx n x0 x1 x2 h0 hw hl (gOk_iter hok) hc hx0
set_option maxHeartbeats 4000000 in
set_option maxRecDepth 100000 in
theorem w_X11_walks_146 {X : gX} {τ : gτ} {p : Program} {l : Launch} {e : Env} {s : State} {m : MethodId} {args : Array Value} {below : List Frame} {meth : Method} {c : Code} (fx : gFx X p s m args meth c cX11_walks 6 RX11) (n : Nat) (x0 : Nat)  (h0 : gK τ x0 11)  (hr : meth.sig.returnType = (some .int)) {r : Int32} {G' : gG} {G : gG} {H : Heap} {locs : List Loc} {ls : Array Slot} (hw : gHw X τ G H locs) (hl : lv_has ls 6 [(0, .ref x0)]) (hok : gOk (k_X11_walks_146 τ n x0  G) (fun q => q = (r, G')))  : W p l e rm_X11_walks s m args below meth c H locs 0 0 (MQ below (gQ X τ (some (.int r)) G') args s 0 0 (gFree X)) (F0 m 146 ls []) := by
  unfold k_X11_walks_146 at hok
  refine lv_aload_n fx.1 fx.2.1 dX11_walks_146 rfl (lv_at hl 0 rfl) ?_
  refine g_getr fx hw h0 lf_RX11_42 rfl dX11_walks_147 hok (fun a25 h_a25 hok => ?_)
  refine lv_aload_n fx.1 fx.2.1 dX11_walks_150 rfl (lv_at hl 0 rfl) ?_
  obtain ⟨v26, hf, hok⟩ := gOk_bind hok
  refine g_callV0 (κ := 11) fx hw (c_X11_allOrders l X τ x0 G h0 hf) lv_RX11_386 ⟨rfl, rfl⟩ rfl rfl h0 rfl hl.1 rfl ⟨Nat.le_of_ble_eq_true rfl, Nat.le_of_ble_eq_true rfl⟩ (Nat.le_of_ble_eq_true rfl) ⟨Nat.le_of_ble_eq_true rfl, Nat.le_of_ble_eq_true rfl⟩ dX11_walks_151 (fun H locs hw => ?_)
  refine g_iald fx hw h_a25 dX11_walks_154 hok (fun hok => ?_)
  cases gOk_some hok
  exact g_iret fx hw hr dX11_walks_155
set_option maxHeartbeats 4000000 in
set_option maxRecDepth 100000 in
theorem w_X11_walks_56 {X : gX} {τ : gτ} {p : Program} {l : Launch} {e : Env} {s : State} {m : MethodId} {args : Array Value} {below : List Frame} {meth : Method} {c : Code} (fx : gFx X p s m args meth c cX11_walks 6 RX11) (n : Nat) (x0 : Nat) (x1 : Int32)  (h0 : gK τ x0 11)  (hr : meth.sig.returnType = (some .int)) {r : Int32} {G' : gG} {G : gG} {H : Heap} {locs : List Loc} {ls : Array Slot} (hw : gHw X τ G H locs) (hl : lv_has ls 6 [(0, .ref x0), (1, .int x1)]) (hok : gOk (k_X11_walks_56 τ n x0 x1  G) (fun q => q = (r, G')))  : W p l e rm_X11_walks s m args below meth c H locs 0 0 (MQ below (gQ X τ (some (.int r)) G') args s 0 0 (gFree X)) (F0 m 56 ls []) := by
  unfold k_X11_walks_56 at hok
  refine lv_iconst (v := 1) fx.1 fx.2.1 dX11_walks_56 (by decide) ?_
  refine lv_istore_n (lv' := [(2, .int (1 : Int32)), (0, .ref x0), (1, .int x1)]) fx.1 fx.2.1 dX11_walks_57 rfl hl (by decide) rfl (fun ls hl => ?_)
  refine w_l_X11_walks_58 fx n x0 x1 h0 ?_ n (1 : Int32) G _ _ _  hw (lv_sub hl [1, 2, 0] rfl) (gOk_bindK hok)
  intro G24 H locs ls hw hl hok
  have hok : gOk (ρ := Int32 × gG) (k_X11_walks_146 τ n x0  G24) _ := hok
  exact w_X11_walks_146 fx n x0  h0  hr hw (lv_sub hl [0] rfl) hok
set_option maxHeartbeats 4000000 in
set_option maxRecDepth 100000 in
theorem w_X11_walks_20 {X : gX} {τ : gτ} {p : Program} {l : Launch} {e : Env} {s : State} {m : MethodId} {args : Array Value} {below : List Frame} {meth : Method} {c : Code} (fx : gFx X p s m args meth c cX11_walks 6 RX11) (n : Nat) (x0 : Nat) (x1 : Int32) (s0 : Nat) (s1 : Int32) (h0 : gK τ x0 11) (hs0 : gK τ s0 11) (hr : meth.sig.returnType = (some .int)) {r : Int32} {G' : gG} {G : gG} {H : Heap} {locs : List Loc} {ls : Array Slot} (hw : gHw X τ G H locs) (hl : lv_has ls 6 [(0, .ref x0), (1, .int x1)]) (hok : gOk (k_X11_walks_20 τ n x0 x1 s0 s1 G) (fun q => q = (r, G')))  : W p l e rm_X11_walks s m args below meth c H locs 0 0 (MQ below (gQ X τ (some (.int r)) G') args s 0 0 (gFree X)) (F0 m 20 ls [.int s1, .ref s0]) := by
  unfold k_X11_walks_20 at hok
  refine lv_iconst (v := 1) fx.1 fx.2.1 dX11_walks_20 (by decide) ?_
  obtain ⟨v3, G4, hf, hok⟩ := gOk_bind2 hok
  refine g_callV0 (κ := 11) fx hw (c_X11_throwsIf l X τ s0 s1 (1 : Int32) G hs0 hf) lv_RX11_263 ⟨rfl, rfl⟩ rfl rfl hs0 rfl hl.1 rfl ⟨Nat.le_of_ble_eq_true rfl, Nat.le_of_ble_eq_true rfl⟩ (Nat.le_of_ble_eq_true rfl) ⟨Nat.le_of_ble_eq_true rfl, Nat.le_of_ble_eq_true rfl⟩ dX11_walks_21 (fun H locs hw => ?_)
  refine g_if_eq (tgt := 29) fx dX11_walks_24 (by decide) hok (fun hok => ?_) (fun hok => ?_)
  · refine lv_iconst (v := 0) fx.1 fx.2.1 dX11_walks_29 (by decide) ?_
    refine lv_istore_n (lv' := [(2, .int (0 : Int32)), (0, .ref x0), (1, .int x1)]) fx.1 fx.2.1 dX11_walks_30 rfl hl (by decide) rfl (fun ls hl => ?_)
    refine w_l_X11_walks_31 fx n x0 x1 h0 ?_ n (0 : Int32) G4 _ _ _  hw (lv_sub hl [1, 2, 0] rfl) (gOk_bindK hok)
    intro G10 H locs ls hw hl hok
    have hok : gOk (ρ := Int32 × gG) (k_X11_walks_56 τ n x0 x1  G10) _ := hok
    exact w_X11_walks_56 fx n x0 x1  h0  hr hw (lv_sub hl [0, 1] rfl) hok
  · refine lv_iconst (v := 0) fx.1 fx.2.1 dX11_walks_27 (by decide) ?_
    cases gOk_some hok
    exact g_iret fx hw hr dX11_walks_28
set_option maxHeartbeats 4000000 in
set_option maxRecDepth 100000 in
theorem c_X11_walks (l : Launch) (X : gX) (τ : gτ) (n : Nat) (x0 : Nat) (x1 : Int32) (G : gG) (h0 : gK τ x0 11) {r : Int32} {G' : gG} (h : f_X11_walks τ n x0 x1 G = some (r, G')) : gM l X τ yX11_walks cX11_walks 6 (some .int) rm_X11_walks [.ref x0, .int x1] G (some (.int r)) G' := by
  refine g_body (by decide +kernel) (Nat.le_of_ble_eq_true rfl) ?_
  intro p e s m args below meth c ls fx hr hw hl
  have fx : gFx X p s m args meth c cX11_walks 6 RX11 := fx
  have hl : lv_has ls 6 [(0, .ref x0), (1, .int x1)] := hl
  have hok : gOk (f_X11_walks τ n x0 x1 G) (fun q => q = (r, G')) := ⟨_, h, rfl⟩
  unfold f_X11_walks at hok
  show W p l e rm_X11_walks s m args below meth c s.heap [] 0 0 (MQ below (gQ X τ (some (.int r)) G') args s 0 0 (gFree X)) _
  refine lv_aload_n fx.1 fx.2.1 dX11_walks_0 rfl (lv_at hl 0 rfl) ?_
  refine lv_iconst (v := 0) fx.1 fx.2.1 dX11_walks_1 (by decide) ?_
  refine g_puti fx hw h0 lp_RX11_3 rfl rfl dX11_walks_2 hok (fun G1 H locs hw hok => ?_)
  refine lv_aload_n fx.1 fx.2.1 dX11_walks_5 rfl (lv_at hl 0 rfl) ?_
  refine lv_iload_n fx.1 fx.2.1 dX11_walks_6 rfl (lv_at hl 1 rfl) ?_
  refine lv_iconst (v := 1) fx.1 fx.2.1 dX11_walks_7 (by decide) ?_
  refine lv_iconst (v := 5) fx.1 fx.2.1 dX11_walks_8 (by decide) ?_
  obtain ⟨v2, hf, hok⟩ := gOk_bind hok
  refine g_callS0 fx hw (c_X11_in l X τ x1 (1 : Int32) (5 : Int32) G1  hf) ls_RX11_69 ⟨rfl, rfl⟩ rfl hl.1 rfl ⟨Nat.le_of_ble_eq_true rfl, Nat.le_of_ble_eq_true rfl⟩ (Nat.le_of_ble_eq_true rfl) ⟨Nat.le_of_ble_eq_true rfl, Nat.le_of_ble_eq_true rfl⟩ dX11_walks_9 (fun H locs hw => ?_)
  refine g_if_ne (tgt := 19) fx dX11_walks_12 (by decide) hok (fun hok => ?_) (fun hok => ?_)
  · refine lv_iconst (v := 1) fx.1 fx.2.1 dX11_walks_15 (by decide) ?_
    refine lv_goto (tgt := 20) fx.1 fx.2.1 dX11_walks_16 (by decide) ?_
    exact w_X11_walks_20 fx n x0 x1 x0 (1 : Int32) h0 h0 hr hw (lv_sub hl [0, 1] rfl) hok
  · refine lv_iconst (v := 0) fx.1 fx.2.1 dX11_walks_19 (by decide) ?_
    exact w_X11_walks_20 fx n x0 x1 x0 (0 : Int32) h0 h0 hr hw (lv_sub hl [0, 1] rfl) hok
theorem dX11_shareOf_0 : decode cX11_shareOf 0 = .ok (.aload_n 0, 1) := by decide +kernel
theorem dX11_shareOf_1 : decode cX11_shareOf 1 = .ok (.iload_n 1, 1) := by decide +kernel
theorem dX11_shareOf_2 : decode cX11_shareOf 2 = .ok (.invokevirtual 303, 3) := by decide +kernel
theorem dX11_shareOf_5 : decode cX11_shareOf 5 = .ok (.i2l, 1) := by decide +kernel
theorem dX11_shareOf_6 : decode cX11_shareOf 6 = .ok (.lstore 4, 2) := by decide +kernel
theorem dX11_shareOf_8 : decode cX11_shareOf 8 = .ok (.lload 4, 2) := by decide +kernel
theorem dX11_shareOf_10 : decode cX11_shareOf 10 = .ok (.aload_n 0, 1) := by decide +kernel
theorem dX11_shareOf_11 : decode cX11_shareOf 11 = .ok (.iload_n 2, 1) := by decide +kernel
theorem dX11_shareOf_12 : decode cX11_shareOf 12 = .ok (.invokevirtual 303, 3) := by decide +kernel
theorem dX11_shareOf_15 : decode cX11_shareOf 15 = .ok (.i2l, 1) := by decide +kernel
theorem dX11_shareOf_16 : decode cX11_shareOf 16 = .ok (.ladd, 1) := by decide +kernel
theorem dX11_shareOf_17 : decode cX11_shareOf 17 = .ok (.lstore 6, 2) := by decide +kernel
theorem dX11_shareOf_19 : decode cX11_shareOf 19 = .ok (.lload 6, 2) := by decide +kernel
theorem dX11_shareOf_21 : decode cX11_shareOf 21 = .ok (.lconst 0, 1) := by decide +kernel
theorem dX11_shareOf_22 : decode cX11_shareOf 22 = .ok (.lcmp, 1) := by decide +kernel
theorem dX11_shareOf_23 : decode cX11_shareOf 23 = .ok (.ifCond .ne 7, 3) := by decide +kernel
theorem dX11_shareOf_26 : decode cX11_shareOf 26 = .ok (.iconst 0, 1) := by decide +kernel
theorem dX11_shareOf_27 : decode cX11_shareOf 27 = .ok (.goto 12, 3) := by decide +kernel
theorem dX11_shareOf_30 : decode cX11_shareOf 30 = .ok (.iload_n 3, 1) := by decide +kernel
theorem dX11_shareOf_31 : decode cX11_shareOf 31 = .ok (.i2l, 1) := by decide +kernel
theorem dX11_shareOf_32 : decode cX11_shareOf 32 = .ok (.lload 4, 2) := by decide +kernel
theorem dX11_shareOf_34 : decode cX11_shareOf 34 = .ok (.lmul, 1) := by decide +kernel
theorem dX11_shareOf_35 : decode cX11_shareOf 35 = .ok (.lload 6, 2) := by decide +kernel
theorem dX11_shareOf_37 : decode cX11_shareOf 37 = .ok (.ldiv, 1) := by decide +kernel
theorem dX11_shareOf_38 : decode cX11_shareOf 38 = .ok (.l2i, 1) := by decide +kernel
theorem dX11_shareOf_39 : decode cX11_shareOf 39 = .ok (.ireturn, 1) := by decide +kernel
def rm_X11_shareOf : Room := { frames := 8, cells := 0, slots := 0, locals := 185 }
def f_X11_shareOf (τ : gτ) (n : Nat) (x0 : Nat) (x1 : Int32) (x2 : Int32) (x3 : Int32) (G : gG) : Option (Int32 × gG) :=
  gBind2 (f_X11_bearsOf τ n x0 x1 G) fun v1 G2 =>
  gLet (v1.toInt64) fun v3 =>
  gBind2 (f_X11_bearsOf τ n x0 x2 G2) fun v4 G5 =>
  gLet (v3 + v4.toInt64) fun v6 =>
  if (lg_cmp v6 (0 : Int64)) = 0 then (some (0, G5))
  else (gchk (¬ v6 = 0) <|
  some (((x3.toInt64 * v3) / v6).toInt32, G5))
set_option maxHeartbeats 4000000 in
set_option maxRecDepth 100000 in
theorem c_X11_shareOf (l : Launch) (X : gX) (τ : gτ) (n : Nat) (x0 : Nat) (x1 : Int32) (x2 : Int32) (x3 : Int32) (G : gG) (h0 : gK τ x0 11) {r : Int32} {G' : gG} (h : f_X11_shareOf τ n x0 x1 x2 x3 G = some (r, G')) : gM l X τ yX11_shareOf cX11_shareOf 8 (some .int) rm_X11_shareOf [.ref x0, .int x1, .int x2, .int x3] G (some (.int r)) G' := by
  refine g_body (by decide +kernel) (Nat.le_of_ble_eq_true rfl) ?_
  intro p e s m args below meth c ls fx hr hw hl
  have fx : gFx X p s m args meth c cX11_shareOf 8 RX11 := fx
  have hl : lv_has ls 8 [(0, .ref x0), (1, .int x1), (2, .int x2), (3, .int x3)] := hl
  have hok : gOk (f_X11_shareOf τ n x0 x1 x2 x3 G) (fun q => q = (r, G')) := ⟨_, h, rfl⟩
  unfold f_X11_shareOf at hok
  show W p l e rm_X11_shareOf s m args below meth c s.heap [] 0 0 (MQ below (gQ X τ (some (.int r)) G') args s 0 0 (gFree X)) _
  refine lv_aload_n fx.1 fx.2.1 dX11_shareOf_0 rfl (lv_at hl 0 rfl) ?_
  refine lv_iload_n fx.1 fx.2.1 dX11_shareOf_1 rfl (lv_at hl 1 rfl) ?_
  obtain ⟨v1, G2, hf, hok⟩ := gOk_bind2 hok
  refine g_callV0 (κ := 11) fx hw (c_X11_bearsOf l X τ n x0 x1 G h0 hf) lv_RX11_303 ⟨rfl, rfl⟩ rfl rfl h0 rfl hl.1 rfl ⟨Nat.le_of_ble_eq_true rfl, Nat.le_of_ble_eq_true rfl⟩ (Nat.le_of_ble_eq_true rfl) ⟨Nat.le_of_ble_eq_true rfl, Nat.le_of_ble_eq_true rfl⟩ dX11_shareOf_2 (fun H locs hw => ?_)
  refine lv_i2l fx.1 fx.2.1 dX11_shareOf_5 rfl ?_
  refine g_letl hok (fun v3 hok => ?_)
  refine lv_lstore (lv' := [(4, .long v3), (0, .ref x0), (1, .int x1), (2, .int x2), (3, .int x3)]) fx.1 fx.2.1 dX11_shareOf_6 hl (by decide) rfl (fun ls hl => ?_)
  refine lv_lload fx.1 fx.2.1 dX11_shareOf_8 (lv_at hl 0 rfl) ?_
  refine lv_aload_n fx.1 fx.2.1 dX11_shareOf_10 rfl (lv_at hl 1 rfl) ?_
  refine lv_iload_n fx.1 fx.2.1 dX11_shareOf_11 rfl (lv_at hl 3 rfl) ?_
  obtain ⟨v4, G5, hf, hok⟩ := gOk_bind2 hok
  refine g_callV0 (κ := 11) fx hw (c_X11_bearsOf l X τ n x0 x2 G2 h0 hf) lv_RX11_303 ⟨rfl, rfl⟩ rfl rfl h0 rfl hl.1 rfl ⟨Nat.le_of_ble_eq_true rfl, Nat.le_of_ble_eq_true rfl⟩ (Nat.le_of_ble_eq_true rfl) ⟨Nat.le_of_ble_eq_true rfl, Nat.le_of_ble_eq_true rfl⟩ dX11_shareOf_12 (fun H locs hw => ?_)
  refine lv_i2l fx.1 fx.2.1 dX11_shareOf_15 rfl ?_
  refine lv_ladd fx.1 fx.2.1 dX11_shareOf_16 ?_
  refine g_letl hok (fun v6 hok => ?_)
  refine lv_lstore (lv' := [(6, .long v6), (4, .long v3), (0, .ref x0), (1, .int x1), (2, .int x2), (3, .int x3)]) fx.1 fx.2.1 dX11_shareOf_17 hl (by decide) rfl (fun ls hl => ?_)
  refine lv_lload fx.1 fx.2.1 dX11_shareOf_19 (lv_at hl 0 rfl) ?_
  refine lv_lconst (v := 0) fx.1 fx.2.1 dX11_shareOf_21 (by decide) ?_
  refine W.lcmp fx.1 fx.2.1 dX11_shareOf_22 ?_
  refine g_if_ne (tgt := 30) fx dX11_shareOf_23 (by decide) hok (fun hok => ?_) (fun hok => ?_)
  · refine lv_iconst (v := 0) fx.1 fx.2.1 dX11_shareOf_26 (by decide) ?_
    refine lv_goto (tgt := 39) fx.1 fx.2.1 dX11_shareOf_27 (by decide) ?_
    cases gOk_some hok
    exact g_iret fx hw hr dX11_shareOf_39
  · refine lv_iload_n fx.1 fx.2.1 dX11_shareOf_30 rfl (lv_at hl 5 rfl) ?_
    refine lv_i2l fx.1 fx.2.1 dX11_shareOf_31 rfl ?_
    refine lv_lload fx.1 fx.2.1 dX11_shareOf_32 (lv_at hl 1 rfl) ?_
    refine lv_lmul fx.1 fx.2.1 dX11_shareOf_34 ?_
    refine lv_lload fx.1 fx.2.1 dX11_shareOf_35 (lv_at hl 0 rfl) ?_
    obtain ⟨hz, hok⟩ := gOk_chk hok
    refine lv_ldiv fx.1 fx.2.1 dX11_shareOf_37 hz ?_
    refine lv_l2i fx.1 fx.2.1 dX11_shareOf_38 rfl ?_
    cases gOk_some hok
    exact g_iret fx hw hr dX11_shareOf_39
theorem dX11_noShare_0 : decode cX11_noShare 0 = .ok (.iload_n 1, 1) := by decide +kernel
theorem dX11_noShare_1 : decode cX11_noShare 1 = .ok (.iload_n 2, 1) := by decide +kernel
theorem dX11_noShare_2 : decode cX11_noShare 2 = .ok (.if_icmp .eq 14, 3) := by decide +kernel
theorem dX11_noShare_5 : decode cX11_noShare 5 = .ok (.iload_n 3, 1) := by decide +kernel
theorem dX11_noShare_6 : decode cX11_noShare 6 = .ok (.iconst 0, 1) := by decide +kernel
theorem dX11_noShare_7 : decode cX11_noShare 7 = .ok (.sipush 9999, 3) := by decide +kernel
theorem dX11_noShare_10 : decode cX11_noShare 10 = .ok (.invokestatic 69, 3) := by decide +kernel
theorem dX11_noShare_13 : decode cX11_noShare 13 = .ok (.ifCond .ne 7, 3) := by decide +kernel
theorem dX11_noShare_16 : decode cX11_noShare 16 = .ok (.iconst 1, 1) := by decide +kernel
theorem dX11_noShare_17 : decode cX11_noShare 17 = .ok (.goto 4, 3) := by decide +kernel
theorem dX11_noShare_20 : decode cX11_noShare 20 = .ok (.iconst 0, 1) := by decide +kernel
theorem dX11_noShare_21 : decode cX11_noShare 21 = .ok (.ireturn, 1) := by decide +kernel
def rm_X11_noShare : Room := { frames := 1, cells := 0, slots := 0, locals := 22 }
def f_X11_noShare (x0 : Nat) (x1 : Int32) (x2 : Int32) (x3 : Int32) : Option (Int32) :=
  if x1 = x2 then (some (1))
  else ((f_X11_in x3 (0 : Int32) (9999 : Int32)).bind fun v1 =>
  if v1 = 0 then (some (1))
  else (some (0)))
set_option maxHeartbeats 4000000 in
set_option maxRecDepth 100000 in
theorem c_X11_noShare (l : Launch) (X : gX) (τ : gτ) (x0 : Nat) (x1 : Int32) (x2 : Int32) (x3 : Int32) (G : gG) (h0 : gK τ x0 11) {r : Int32}  (h : f_X11_noShare x0 x1 x2 x3 = some r) : gM l X τ yX11_noShare cX11_noShare 4 (some .boolean) rm_X11_noShare [.ref x0, .int x1, .int x2, .int x3] G (some (.int r)) G := by
  refine g_body (by decide +kernel) (Nat.le_of_ble_eq_true rfl) ?_
  intro p e s m args below meth c ls fx hr hw hl
  have fx : gFx X p s m args meth c cX11_noShare 4 RX11 := fx
  have hl : lv_has ls 4 [(0, .ref x0), (1, .int x1), (2, .int x2), (3, .int x3)] := hl
  have hok : gOk (f_X11_noShare x0 x1 x2 x3) (fun q => q = r) := ⟨_, h, rfl⟩
  unfold f_X11_noShare at hok
  show W p l e rm_X11_noShare s m args below meth c s.heap [] 0 0 (MQ below (gQ X τ (some (.int r)) G) args s 0 0 (gFree X)) _
  refine lv_iload_n fx.1 fx.2.1 dX11_noShare_0 rfl (lv_at hl 1 rfl) ?_
  refine lv_iload_n fx.1 fx.2.1 dX11_noShare_1 rfl (lv_at hl 2 rfl) ?_
  refine g_icmp_eq (tgt := 16) fx dX11_noShare_2 (by decide) hok (fun hok => ?_) (fun hok => ?_)
  · refine lv_iconst (v := 1) fx.1 fx.2.1 dX11_noShare_16 (by decide) ?_
    refine lv_goto (tgt := 21) fx.1 fx.2.1 dX11_noShare_17 (by decide) ?_
    cases gOk_some hok
    exact g_zret fx hw hr (by decide) dX11_noShare_21
  · refine lv_iload_n fx.1 fx.2.1 dX11_noShare_5 rfl (lv_at hl 3 rfl) ?_
    refine lv_iconst (v := 0) fx.1 fx.2.1 dX11_noShare_6 (by decide) ?_
    refine lv_sipush (v := 9999) fx.1 fx.2.1 dX11_noShare_7 (by decide) ?_
    obtain ⟨v1, hf, hok⟩ := gOk_bind hok
    refine g_callS0 fx hw (c_X11_in l X τ x3 (0 : Int32) (9999 : Int32) G  hf) ls_RX11_69 ⟨rfl, rfl⟩ rfl hl.1 rfl ⟨Nat.le_of_ble_eq_true rfl, Nat.le_of_ble_eq_true rfl⟩ (Nat.le_of_ble_eq_true rfl) ⟨Nat.le_of_ble_eq_true rfl, Nat.le_of_ble_eq_true rfl⟩ dX11_noShare_10 (fun H locs hw => ?_)
    refine g_if_ne (tgt := 20) fx dX11_noShare_13 (by decide) hok (fun hok => ?_) (fun hok => ?_)
    · refine lv_iconst (v := 1) fx.1 fx.2.1 dX11_noShare_16 (by decide) ?_
      refine lv_goto (tgt := 21) fx.1 fx.2.1 dX11_noShare_17 (by decide) ?_
      cases gOk_some hok
      exact g_zret fx hw hr (by decide) dX11_noShare_21
    · refine lv_iconst (v := 0) fx.1 fx.2.1 dX11_noShare_20 (by decide) ?_
      cases gOk_some hok
      exact g_zret fx hw hr (by decide) dX11_noShare_21
theorem dX11_share_0 : decode cX11_share 0 = .ok (.aload_n 0, 1) := by decide +kernel
theorem dX11_share_1 : decode cX11_share 1 = .ok (.iconst 0, 1) := by decide +kernel
theorem dX11_share_2 : decode cX11_share 2 = .ok (.putfield 3, 3) := by decide +kernel
theorem dX11_share_5 : decode cX11_share 5 = .ok (.aload_n 0, 1) := by decide +kernel
theorem dX11_share_6 : decode cX11_share 6 = .ok (.aload_n 0, 1) := by decide +kernel
theorem dX11_share_7 : decode cX11_share 7 = .ok (.iload_n 1, 1) := by decide +kernel
theorem dX11_share_8 : decode cX11_share 8 = .ok (.invokevirtual 321, 3) := by decide +kernel
theorem dX11_share_11 : decode cX11_share 11 = .ok (.ifCond .ne 11, 3) := by decide +kernel
theorem dX11_share_14 : decode cX11_share 14 = .ok (.aload_n 0, 1) := by decide +kernel
theorem dX11_share_15 : decode cX11_share 15 = .ok (.iload_n 2, 1) := by decide +kernel
theorem dX11_share_16 : decode cX11_share 16 = .ok (.invokevirtual 321, 3) := by decide +kernel
theorem dX11_share_19 : decode cX11_share 19 = .ok (.ifCond .eq 7, 3) := by decide +kernel
theorem dX11_share_22 : decode cX11_share 22 = .ok (.iconst 1, 1) := by decide +kernel
theorem dX11_share_23 : decode cX11_share 23 = .ok (.goto 4, 3) := by decide +kernel
theorem dX11_share_26 : decode cX11_share 26 = .ok (.iconst 0, 1) := by decide +kernel
theorem dX11_share_27 : decode cX11_share 27 = .ok (.iconst 1, 1) := by decide +kernel
theorem dX11_share_28 : decode cX11_share 28 = .ok (.invokevirtual 263, 3) := by decide +kernel
theorem dX11_share_31 : decode cX11_share 31 = .ok (.ifCond .ne 18, 3) := by decide +kernel
theorem dX11_share_34 : decode cX11_share 34 = .ok (.aload_n 0, 1) := by decide +kernel
theorem dX11_share_35 : decode cX11_share 35 = .ok (.aload_n 0, 1) := by decide +kernel
theorem dX11_share_36 : decode cX11_share 36 = .ok (.iload_n 1, 1) := by decide +kernel
theorem dX11_share_37 : decode cX11_share 37 = .ok (.iload_n 2, 1) := by decide +kernel
theorem dX11_share_38 : decode cX11_share 38 = .ok (.iload_n 3, 1) := by decide +kernel
theorem dX11_share_39 : decode cX11_share 39 = .ok (.invokevirtual 398, 3) := by decide +kernel
theorem dX11_share_42 : decode cX11_share 42 = .ok (.iconst 2, 1) := by decide +kernel
theorem dX11_share_43 : decode cX11_share 43 = .ok (.invokevirtual 263, 3) := by decide +kernel
theorem dX11_share_46 : decode cX11_share 46 = .ok (.ifCond .eq 7, 3) := by decide +kernel
theorem dX11_share_49 : decode cX11_share 49 = .ok (.iconst 0, 1) := by decide +kernel
theorem dX11_share_50 : decode cX11_share 50 = .ok (.goto 10, 3) := by decide +kernel
theorem dX11_share_53 : decode cX11_share 53 = .ok (.aload_n 0, 1) := by decide +kernel
theorem dX11_share_54 : decode cX11_share 54 = .ok (.iload_n 1, 1) := by decide +kernel
theorem dX11_share_55 : decode cX11_share 55 = .ok (.iload_n 2, 1) := by decide +kernel
theorem dX11_share_56 : decode cX11_share 56 = .ok (.iload_n 3, 1) := by decide +kernel
theorem dX11_share_57 : decode cX11_share 57 = .ok (.invokevirtual 401, 3) := by decide +kernel
theorem dX11_share_60 : decode cX11_share 60 = .ok (.ireturn, 1) := by decide +kernel
theorem lv_RX11_398 : gLv RX11 398 RX11 yX11_noShare cX11_noShare 4 (some .boolean) 3 := gLv_of (wA_t (wt8 (List.mem_of_getElem? (i := 239) (by decide +kernel))) (by decide +kernel)) (wA_t (wt9 (List.mem_of_getElem? (i := 1) (by decide +kernel))) (by decide +kernel)) (wA_of (List.mem_append_left _ (List.mem_map.mpr ⟨(⟨"YearRopeModel", "noShare", "(III)Z"⟩, 20), wp8 (List.mem_of_getElem? (i := 1) (by decide +kernel)), rfl⟩)) (by decide +kernel)) (wA_t (wt1 (List.mem_of_getElem? (i := 12) (by decide +kernel))) (by decide +kernel)) (wA_t (wt9 (List.mem_of_getElem? (i := 2) (by decide +kernel))) (by decide +kernel)) ⟨rfl, by decide +kernel, by decide +kernel, by decide +kernel⟩
theorem lv_RX11_401 : gLv RX11 401 RX11 yX11_shareOf cX11_shareOf 8 (some .int) 3 := gLv_of (wA_t (wt9 (List.mem_of_getElem? (i := 3) (by decide +kernel))) (by decide +kernel)) (wA_t (wt9 (List.mem_of_getElem? (i := 5) (by decide +kernel))) (by decide +kernel)) (wA_of (List.mem_append_left _ (List.mem_map.mpr ⟨(⟨"YearRopeModel", "shareOf", "(III)I"⟩, 20), wp8 (List.mem_of_getElem? (i := 2) (by decide +kernel)), rfl⟩)) (by decide +kernel)) (wA_t (wt1 (List.mem_of_getElem? (i := 12) (by decide +kernel))) (by decide +kernel)) (wA_t (wt9 (List.mem_of_getElem? (i := 6) (by decide +kernel))) (by decide +kernel)) ⟨rfl, by decide +kernel, by decide +kernel, by decide +kernel⟩
def rm_X11_share : Room := { frames := 9, cells := 0, slots := 0, locals := 212 }
def k_X11_share_27 (τ : gτ) (n : Nat) (x0 : Nat) (x1 : Int32) (x2 : Int32) (x3 : Int32) (s0 : Nat) (s1 : Int32) (G : gG) : Option (Int32 × gG) :=
  gBind2 (f_X11_throwsIf s0 s1 (1 : Int32) G) fun v4 G5 =>
  if v4 = 0 then ((f_X11_noShare x0 x1 x2 x3).bind fun v6 =>
  gBind2 (f_X11_throwsIf x0 v6 (2 : Int32) G5) fun v7 G8 =>
  if v7 = 0 then (gBind2 (f_X11_shareOf τ n x0 x1 x2 x3 G8) fun v9 G10 =>
  some (v9, G10))
  else (some (0, G8)))
  else (some (0, G5))
def k_X11_share_22 (τ : gτ) (n : Nat) (x0 : Nat) (x1 : Int32) (x2 : Int32) (x3 : Int32) (s0 : Nat) (G : gG) : Option (Int32 × gG) :=
  k_X11_share_27 τ n x0 x1 x2 x3 s0 (1 : Int32) G
def f_X11_share (τ : gτ) (n : Nat) (x0 : Nat) (x1 : Int32) (x2 : Int32) (x3 : Int32) (G : gG) : Option (Int32 × gG) :=
  gLet (gsi G 11 0 x0 (0 : Int32)) fun G1 =>
  (f_X11_noRope τ x0 x1 G1).bind fun v2 =>
  if v2 = 0 then ((f_X11_noRope τ x0 x2 G1).bind fun v3 =>
  if v3 = 0 then (k_X11_share_27 τ n x0 x1 x2 x3 x0 (0 : Int32) G1)
  else (k_X11_share_22 τ n x0 x1 x2 x3 x0 G1))
  else (k_X11_share_22 τ n x0 x1 x2 x3 x0 G1)
set_option maxHeartbeats 4000000 in
set_option maxRecDepth 100000 in
theorem w_X11_share_27 {X : gX} {τ : gτ} {p : Program} {l : Launch} {e : Env} {s : State} {m : MethodId} {args : Array Value} {below : List Frame} {meth : Method} {c : Code} (fx : gFx X p s m args meth c cX11_share 4 RX11) (n : Nat) (x0 : Nat) (x1 : Int32) (x2 : Int32) (x3 : Int32) (s0 : Nat) (s1 : Int32) (h0 : gK τ x0 11) (hs0 : gK τ s0 11) (hr : meth.sig.returnType = (some .int)) {r : Int32} {G' : gG} {G : gG} {H : Heap} {locs : List Loc} {ls : Array Slot} (hw : gHw X τ G H locs) (hl : lv_has ls 4 [(0, .ref x0), (1, .int x1), (2, .int x2), (3, .int x3)]) (hok : gOk (k_X11_share_27 τ n x0 x1 x2 x3 s0 s1 G) (fun q => q = (r, G')))  : W p l e rm_X11_share s m args below meth c H locs 0 0 (MQ below (gQ X τ (some (.int r)) G') args s 0 0 (gFree X)) (F0 m 27 ls [.int s1, .ref s0]) := by
  unfold k_X11_share_27 at hok
  refine lv_iconst (v := 1) fx.1 fx.2.1 dX11_share_27 (by decide) ?_
  obtain ⟨v4, G5, hf, hok⟩ := gOk_bind2 hok
  refine g_callV0 (κ := 11) fx hw (c_X11_throwsIf l X τ s0 s1 (1 : Int32) G hs0 hf) lv_RX11_263 ⟨rfl, rfl⟩ rfl rfl hs0 rfl hl.1 rfl ⟨Nat.le_of_ble_eq_true rfl, Nat.le_of_ble_eq_true rfl⟩ (Nat.le_of_ble_eq_true rfl) ⟨Nat.le_of_ble_eq_true rfl, Nat.le_of_ble_eq_true rfl⟩ dX11_share_28 (fun H locs hw => ?_)
  refine g_if_ne (tgt := 49) fx dX11_share_31 (by decide) hok (fun hok => ?_) (fun hok => ?_)
  · refine lv_aload_n fx.1 fx.2.1 dX11_share_34 rfl (lv_at hl 0 rfl) ?_
    refine lv_aload_n fx.1 fx.2.1 dX11_share_35 rfl (lv_at hl 0 rfl) ?_
    refine lv_iload_n fx.1 fx.2.1 dX11_share_36 rfl (lv_at hl 1 rfl) ?_
    refine lv_iload_n fx.1 fx.2.1 dX11_share_37 rfl (lv_at hl 2 rfl) ?_
    refine lv_iload_n fx.1 fx.2.1 dX11_share_38 rfl (lv_at hl 3 rfl) ?_
    obtain ⟨v6, hf, hok⟩ := gOk_bind hok
    refine g_callV0 (κ := 11) fx hw (c_X11_noShare l X τ x0 x1 x2 x3 G5 h0 hf) lv_RX11_398 ⟨rfl, rfl⟩ rfl rfl h0 rfl hl.1 rfl ⟨Nat.le_of_ble_eq_true rfl, Nat.le_of_ble_eq_true rfl⟩ (Nat.le_of_ble_eq_true rfl) ⟨Nat.le_of_ble_eq_true rfl, Nat.le_of_ble_eq_true rfl⟩ dX11_share_39 (fun H locs hw => ?_)
    refine lv_iconst (v := 2) fx.1 fx.2.1 dX11_share_42 (by decide) ?_
    obtain ⟨v7, G8, hf, hok⟩ := gOk_bind2 hok
    refine g_callV0 (κ := 11) fx hw (c_X11_throwsIf l X τ x0 v6 (2 : Int32) G5 h0 hf) lv_RX11_263 ⟨rfl, rfl⟩ rfl rfl h0 rfl hl.1 rfl ⟨Nat.le_of_ble_eq_true rfl, Nat.le_of_ble_eq_true rfl⟩ (Nat.le_of_ble_eq_true rfl) ⟨Nat.le_of_ble_eq_true rfl, Nat.le_of_ble_eq_true rfl⟩ dX11_share_43 (fun H locs hw => ?_)
    refine g_if_eq (tgt := 53) fx dX11_share_46 (by decide) hok (fun hok => ?_) (fun hok => ?_)
    · refine lv_aload_n fx.1 fx.2.1 dX11_share_53 rfl (lv_at hl 0 rfl) ?_
      refine lv_iload_n fx.1 fx.2.1 dX11_share_54 rfl (lv_at hl 1 rfl) ?_
      refine lv_iload_n fx.1 fx.2.1 dX11_share_55 rfl (lv_at hl 2 rfl) ?_
      refine lv_iload_n fx.1 fx.2.1 dX11_share_56 rfl (lv_at hl 3 rfl) ?_
      obtain ⟨v9, G10, hf, hok⟩ := gOk_bind2 hok
      refine g_callV0 (κ := 11) fx hw (c_X11_shareOf l X τ n x0 x1 x2 x3 G8 h0 hf) lv_RX11_401 ⟨rfl, rfl⟩ rfl rfl h0 rfl hl.1 rfl ⟨Nat.le_of_ble_eq_true rfl, Nat.le_of_ble_eq_true rfl⟩ (Nat.le_of_ble_eq_true rfl) ⟨Nat.le_of_ble_eq_true rfl, Nat.le_of_ble_eq_true rfl⟩ dX11_share_57 (fun H locs hw => ?_)
      cases gOk_some hok
      exact g_iret fx hw hr dX11_share_60
    · refine lv_iconst (v := 0) fx.1 fx.2.1 dX11_share_49 (by decide) ?_
      refine lv_goto (tgt := 60) fx.1 fx.2.1 dX11_share_50 (by decide) ?_
      cases gOk_some hok
      exact g_iret fx hw hr dX11_share_60
  · refine lv_iconst (v := 0) fx.1 fx.2.1 dX11_share_49 (by decide) ?_
    refine lv_goto (tgt := 60) fx.1 fx.2.1 dX11_share_50 (by decide) ?_
    cases gOk_some hok
    exact g_iret fx hw hr dX11_share_60
set_option maxHeartbeats 4000000 in
set_option maxRecDepth 100000 in
theorem w_X11_share_22 {X : gX} {τ : gτ} {p : Program} {l : Launch} {e : Env} {s : State} {m : MethodId} {args : Array Value} {below : List Frame} {meth : Method} {c : Code} (fx : gFx X p s m args meth c cX11_share 4 RX11) (n : Nat) (x0 : Nat) (x1 : Int32) (x2 : Int32) (x3 : Int32) (s0 : Nat) (h0 : gK τ x0 11) (hs0 : gK τ s0 11) (hr : meth.sig.returnType = (some .int)) {r : Int32} {G' : gG} {G : gG} {H : Heap} {locs : List Loc} {ls : Array Slot} (hw : gHw X τ G H locs) (hl : lv_has ls 4 [(0, .ref x0), (1, .int x1), (2, .int x2), (3, .int x3)]) (hok : gOk (k_X11_share_22 τ n x0 x1 x2 x3 s0 G) (fun q => q = (r, G')))  : W p l e rm_X11_share s m args below meth c H locs 0 0 (MQ below (gQ X τ (some (.int r)) G') args s 0 0 (gFree X)) (F0 m 22 ls [.ref s0]) := by
  unfold k_X11_share_22 at hok
  refine lv_iconst (v := 1) fx.1 fx.2.1 dX11_share_22 (by decide) ?_
  refine lv_goto (tgt := 27) fx.1 fx.2.1 dX11_share_23 (by decide) ?_
  exact w_X11_share_27 fx n x0 x1 x2 x3 s0 (1 : Int32) h0 hs0 hr hw (lv_sub hl [0, 1, 2, 3] rfl) hok
set_option maxHeartbeats 4000000 in
set_option maxRecDepth 100000 in
theorem c_X11_share (l : Launch) (X : gX) (τ : gτ) (n : Nat) (x0 : Nat) (x1 : Int32) (x2 : Int32) (x3 : Int32) (G : gG) (h0 : gK τ x0 11) {r : Int32} {G' : gG} (h : f_X11_share τ n x0 x1 x2 x3 G = some (r, G')) : gM l X τ yX11_share cX11_share 4 (some .int) rm_X11_share [.ref x0, .int x1, .int x2, .int x3] G (some (.int r)) G' := by
  refine g_body (by decide +kernel) (Nat.le_of_ble_eq_true rfl) ?_
  intro p e s m args below meth c ls fx hr hw hl
  have fx : gFx X p s m args meth c cX11_share 4 RX11 := fx
  have hl : lv_has ls 4 [(0, .ref x0), (1, .int x1), (2, .int x2), (3, .int x3)] := hl
  have hok : gOk (f_X11_share τ n x0 x1 x2 x3 G) (fun q => q = (r, G')) := ⟨_, h, rfl⟩
  unfold f_X11_share at hok
  show W p l e rm_X11_share s m args below meth c s.heap [] 0 0 (MQ below (gQ X τ (some (.int r)) G') args s 0 0 (gFree X)) _
  refine lv_aload_n fx.1 fx.2.1 dX11_share_0 rfl (lv_at hl 0 rfl) ?_
  refine lv_iconst (v := 0) fx.1 fx.2.1 dX11_share_1 (by decide) ?_
  refine g_puti fx hw h0 lp_RX11_3 rfl rfl dX11_share_2 hok (fun G1 H locs hw hok => ?_)
  refine lv_aload_n fx.1 fx.2.1 dX11_share_5 rfl (lv_at hl 0 rfl) ?_
  refine lv_aload_n fx.1 fx.2.1 dX11_share_6 rfl (lv_at hl 0 rfl) ?_
  refine lv_iload_n fx.1 fx.2.1 dX11_share_7 rfl (lv_at hl 1 rfl) ?_
  obtain ⟨v2, hf, hok⟩ := gOk_bind hok
  refine g_callV0 (κ := 11) fx hw (c_X11_noRope l X τ x0 x1 G1 h0 hf) lv_RX11_321 ⟨rfl, rfl⟩ rfl rfl h0 rfl hl.1 rfl ⟨Nat.le_of_ble_eq_true rfl, Nat.le_of_ble_eq_true rfl⟩ (Nat.le_of_ble_eq_true rfl) ⟨Nat.le_of_ble_eq_true rfl, Nat.le_of_ble_eq_true rfl⟩ dX11_share_8 (fun H locs hw => ?_)
  refine g_if_ne (tgt := 22) fx dX11_share_11 (by decide) hok (fun hok => ?_) (fun hok => ?_)
  · refine lv_aload_n fx.1 fx.2.1 dX11_share_14 rfl (lv_at hl 0 rfl) ?_
    refine lv_iload_n fx.1 fx.2.1 dX11_share_15 rfl (lv_at hl 2 rfl) ?_
    obtain ⟨v3, hf, hok⟩ := gOk_bind hok
    refine g_callV0 (κ := 11) fx hw (c_X11_noRope l X τ x0 x2 G1 h0 hf) lv_RX11_321 ⟨rfl, rfl⟩ rfl rfl h0 rfl hl.1 rfl ⟨Nat.le_of_ble_eq_true rfl, Nat.le_of_ble_eq_true rfl⟩ (Nat.le_of_ble_eq_true rfl) ⟨Nat.le_of_ble_eq_true rfl, Nat.le_of_ble_eq_true rfl⟩ dX11_share_16 (fun H locs hw => ?_)
    refine g_if_eq (tgt := 26) fx dX11_share_19 (by decide) hok (fun hok => ?_) (fun hok => ?_)
    · refine lv_iconst (v := 0) fx.1 fx.2.1 dX11_share_26 (by decide) ?_
      exact w_X11_share_27 fx n x0 x1 x2 x3 x0 (0 : Int32) h0 h0 hr hw (lv_sub hl [0, 1, 2, 3] rfl) hok
    · exact w_X11_share_22 fx n x0 x1 x2 x3 x0 h0 h0 hr hw (lv_sub hl [0, 1, 2, 3] rfl) hok
  · exact w_X11_share_22 fx n x0 x1 x2 x3 x0 h0 h0 hr hw (lv_sub hl [0, 1, 2, 3] rfl) hok
theorem dX11_shared_0 : decode cX11_shared 0 = .ok (.aload_n 0, 1) := by decide +kernel
theorem dX11_shared_1 : decode cX11_shared 1 = .ok (.iconst 0, 1) := by decide +kernel
theorem dX11_shared_2 : decode cX11_shared 2 = .ok (.putfield 3, 3) := by decide +kernel
theorem dX11_shared_5 : decode cX11_shared 5 = .ok (.aload_n 0, 1) := by decide +kernel
theorem dX11_shared_6 : decode cX11_shared 6 = .ok (.aload_n 0, 1) := by decide +kernel
theorem dX11_shared_7 : decode cX11_shared 7 = .ok (.iload_n 1, 1) := by decide +kernel
theorem dX11_shared_8 : decode cX11_shared 8 = .ok (.invokevirtual 321, 3) := by decide +kernel
theorem dX11_shared_11 : decode cX11_shared 11 = .ok (.ifCond .ne 11, 3) := by decide +kernel
theorem dX11_shared_14 : decode cX11_shared 14 = .ok (.aload_n 0, 1) := by decide +kernel
theorem dX11_shared_15 : decode cX11_shared 15 = .ok (.iload_n 2, 1) := by decide +kernel
theorem dX11_shared_16 : decode cX11_shared 16 = .ok (.invokevirtual 321, 3) := by decide +kernel
theorem dX11_shared_19 : decode cX11_shared 19 = .ok (.ifCond .eq 7, 3) := by decide +kernel
theorem dX11_shared_22 : decode cX11_shared 22 = .ok (.iconst 1, 1) := by decide +kernel
theorem dX11_shared_23 : decode cX11_shared 23 = .ok (.goto 4, 3) := by decide +kernel
theorem dX11_shared_26 : decode cX11_shared 26 = .ok (.iconst 0, 1) := by decide +kernel
theorem dX11_shared_27 : decode cX11_shared 27 = .ok (.iconst 1, 1) := by decide +kernel
theorem dX11_shared_28 : decode cX11_shared 28 = .ok (.invokevirtual 263, 3) := by decide +kernel
theorem dX11_shared_31 : decode cX11_shared 31 = .ok (.ifCond .ne 18, 3) := by decide +kernel
theorem dX11_shared_34 : decode cX11_shared 34 = .ok (.aload_n 0, 1) := by decide +kernel
theorem dX11_shared_35 : decode cX11_shared 35 = .ok (.aload_n 0, 1) := by decide +kernel
theorem dX11_shared_36 : decode cX11_shared 36 = .ok (.iload_n 1, 1) := by decide +kernel
theorem dX11_shared_37 : decode cX11_shared 37 = .ok (.iload_n 2, 1) := by decide +kernel
theorem dX11_shared_38 : decode cX11_shared 38 = .ok (.iload_n 3, 1) := by decide +kernel
theorem dX11_shared_39 : decode cX11_shared 39 = .ok (.invokevirtual 398, 3) := by decide +kernel
theorem dX11_shared_42 : decode cX11_shared 42 = .ok (.iconst 2, 1) := by decide +kernel
theorem dX11_shared_43 : decode cX11_shared 43 = .ok (.invokevirtual 263, 3) := by decide +kernel
theorem dX11_shared_46 : decode cX11_shared 46 = .ok (.ifCond .eq 5, 3) := by decide +kernel
theorem dX11_shared_49 : decode cX11_shared 49 = .ok (.iconst 0, 1) := by decide +kernel
theorem dX11_shared_50 : decode cX11_shared 50 = .ok (.ireturn, 1) := by decide +kernel
theorem dX11_shared_51 : decode cX11_shared 51 = .ok (.aload_n 0, 1) := by decide +kernel
theorem dX11_shared_52 : decode cX11_shared 52 = .ok (.iload_n 1, 1) := by decide +kernel
theorem dX11_shared_53 : decode cX11_shared 53 = .ok (.iload_n 2, 1) := by decide +kernel
theorem dX11_shared_54 : decode cX11_shared 54 = .ok (.iload_n 3, 1) := by decide +kernel
theorem dX11_shared_55 : decode cX11_shared 55 = .ok (.invokevirtual 401, 3) := by decide +kernel
theorem dX11_shared_58 : decode cX11_shared 58 = .ok (.istore 4, 2) := by decide +kernel
theorem dX11_shared_60 : decode cX11_shared 60 = .ok (.iload 4, 2) := by decide +kernel
theorem dX11_shared_62 : decode cX11_shared 62 = .ok (.aload_n 0, 1) := by decide +kernel
theorem dX11_shared_63 : decode cX11_shared 63 = .ok (.iload_n 1, 1) := by decide +kernel
theorem dX11_shared_64 : decode cX11_shared 64 = .ok (.invokevirtual 303, 3) := by decide +kernel
theorem dX11_shared_67 : decode cX11_shared 67 = .ok (.if_icmp .gt 19, 3) := by decide +kernel
theorem dX11_shared_70 : decode cX11_shared 70 = .ok (.iload_n 3, 1) := by decide +kernel
theorem dX11_shared_71 : decode cX11_shared 71 = .ok (.iload 4, 2) := by decide +kernel
theorem dX11_shared_73 : decode cX11_shared 73 = .ok (.isub, 1) := by decide +kernel
theorem dX11_shared_74 : decode cX11_shared 74 = .ok (.aload_n 0, 1) := by decide +kernel
theorem dX11_shared_75 : decode cX11_shared 75 = .ok (.iload_n 2, 1) := by decide +kernel
theorem dX11_shared_76 : decode cX11_shared 76 = .ok (.invokevirtual 303, 3) := by decide +kernel
theorem dX11_shared_79 : decode cX11_shared 79 = .ok (.if_icmp .gt 7, 3) := by decide +kernel
theorem dX11_shared_82 : decode cX11_shared 82 = .ok (.iconst 1, 1) := by decide +kernel
theorem dX11_shared_83 : decode cX11_shared 83 = .ok (.goto 4, 3) := by decide +kernel
theorem dX11_shared_86 : decode cX11_shared 86 = .ok (.iconst 0, 1) := by decide +kernel
theorem dX11_shared_87 : decode cX11_shared 87 = .ok (.ireturn, 1) := by decide +kernel
def rm_X11_shared : Room := { frames := 9, cells := 0, slots := 0, locals := 212 }
def k_X11_shared_27 (τ : gτ) (n : Nat) (x0 : Nat) (x1 : Int32) (x2 : Int32) (x3 : Int32) (s0 : Nat) (s1 : Int32) (G : gG) : Option (Int32 × gG) :=
  gBind2 (f_X11_throwsIf s0 s1 (1 : Int32) G) fun v4 G5 =>
  if v4 = 0 then ((f_X11_noShare x0 x1 x2 x3).bind fun v6 =>
  gBind2 (f_X11_throwsIf x0 v6 (2 : Int32) G5) fun v7 G8 =>
  if v7 = 0 then (gBind2 (f_X11_shareOf τ n x0 x1 x2 x3 G8) fun v9 G10 =>
  gBind2 (f_X11_bearsOf τ n x0 x1 G10) fun v11 G12 =>
  if v11 < v9 then (some (0, G12))
  else (gBind2 (f_X11_bearsOf τ n x0 x2 G12) fun v13 G14 =>
  if v13 < (x3 - v9) then (some (0, G14))
  else (some (1, G14))))
  else (some (0, G8)))
  else (some (0, G5))
def k_X11_shared_22 (τ : gτ) (n : Nat) (x0 : Nat) (x1 : Int32) (x2 : Int32) (x3 : Int32) (s0 : Nat) (G : gG) : Option (Int32 × gG) :=
  k_X11_shared_27 τ n x0 x1 x2 x3 s0 (1 : Int32) G
def f_X11_shared (τ : gτ) (n : Nat) (x0 : Nat) (x1 : Int32) (x2 : Int32) (x3 : Int32) (G : gG) : Option (Int32 × gG) :=
  gLet (gsi G 11 0 x0 (0 : Int32)) fun G1 =>
  (f_X11_noRope τ x0 x1 G1).bind fun v2 =>
  if v2 = 0 then ((f_X11_noRope τ x0 x2 G1).bind fun v3 =>
  if v3 = 0 then (k_X11_shared_27 τ n x0 x1 x2 x3 x0 (0 : Int32) G1)
  else (k_X11_shared_22 τ n x0 x1 x2 x3 x0 G1))
  else (k_X11_shared_22 τ n x0 x1 x2 x3 x0 G1)
set_option maxHeartbeats 4000000 in
set_option maxRecDepth 100000 in
theorem w_X11_shared_27 {X : gX} {τ : gτ} {p : Program} {l : Launch} {e : Env} {s : State} {m : MethodId} {args : Array Value} {below : List Frame} {meth : Method} {c : Code} (fx : gFx X p s m args meth c cX11_shared 5 RX11) (n : Nat) (x0 : Nat) (x1 : Int32) (x2 : Int32) (x3 : Int32) (s0 : Nat) (s1 : Int32) (h0 : gK τ x0 11) (hs0 : gK τ s0 11) (hr : meth.sig.returnType = (some .boolean)) {r : Int32} {G' : gG} {G : gG} {H : Heap} {locs : List Loc} {ls : Array Slot} (hw : gHw X τ G H locs) (hl : lv_has ls 5 [(0, .ref x0), (1, .int x1), (2, .int x2), (3, .int x3)]) (hok : gOk (k_X11_shared_27 τ n x0 x1 x2 x3 s0 s1 G) (fun q => q = (r, G')))  : W p l e rm_X11_shared s m args below meth c H locs 0 0 (MQ below (gQ X τ (some (.int r)) G') args s 0 0 (gFree X)) (F0 m 27 ls [.int s1, .ref s0]) := by
  unfold k_X11_shared_27 at hok
  refine lv_iconst (v := 1) fx.1 fx.2.1 dX11_shared_27 (by decide) ?_
  obtain ⟨v4, G5, hf, hok⟩ := gOk_bind2 hok
  refine g_callV0 (κ := 11) fx hw (c_X11_throwsIf l X τ s0 s1 (1 : Int32) G hs0 hf) lv_RX11_263 ⟨rfl, rfl⟩ rfl rfl hs0 rfl hl.1 rfl ⟨Nat.le_of_ble_eq_true rfl, Nat.le_of_ble_eq_true rfl⟩ (Nat.le_of_ble_eq_true rfl) ⟨Nat.le_of_ble_eq_true rfl, Nat.le_of_ble_eq_true rfl⟩ dX11_shared_28 (fun H locs hw => ?_)
  refine g_if_ne (tgt := 49) fx dX11_shared_31 (by decide) hok (fun hok => ?_) (fun hok => ?_)
  · refine lv_aload_n fx.1 fx.2.1 dX11_shared_34 rfl (lv_at hl 0 rfl) ?_
    refine lv_aload_n fx.1 fx.2.1 dX11_shared_35 rfl (lv_at hl 0 rfl) ?_
    refine lv_iload_n fx.1 fx.2.1 dX11_shared_36 rfl (lv_at hl 1 rfl) ?_
    refine lv_iload_n fx.1 fx.2.1 dX11_shared_37 rfl (lv_at hl 2 rfl) ?_
    refine lv_iload_n fx.1 fx.2.1 dX11_shared_38 rfl (lv_at hl 3 rfl) ?_
    obtain ⟨v6, hf, hok⟩ := gOk_bind hok
    refine g_callV0 (κ := 11) fx hw (c_X11_noShare l X τ x0 x1 x2 x3 G5 h0 hf) lv_RX11_398 ⟨rfl, rfl⟩ rfl rfl h0 rfl hl.1 rfl ⟨Nat.le_of_ble_eq_true rfl, Nat.le_of_ble_eq_true rfl⟩ (Nat.le_of_ble_eq_true rfl) ⟨Nat.le_of_ble_eq_true rfl, Nat.le_of_ble_eq_true rfl⟩ dX11_shared_39 (fun H locs hw => ?_)
    refine lv_iconst (v := 2) fx.1 fx.2.1 dX11_shared_42 (by decide) ?_
    obtain ⟨v7, G8, hf, hok⟩ := gOk_bind2 hok
    refine g_callV0 (κ := 11) fx hw (c_X11_throwsIf l X τ x0 v6 (2 : Int32) G5 h0 hf) lv_RX11_263 ⟨rfl, rfl⟩ rfl rfl h0 rfl hl.1 rfl ⟨Nat.le_of_ble_eq_true rfl, Nat.le_of_ble_eq_true rfl⟩ (Nat.le_of_ble_eq_true rfl) ⟨Nat.le_of_ble_eq_true rfl, Nat.le_of_ble_eq_true rfl⟩ dX11_shared_43 (fun H locs hw => ?_)
    refine g_if_eq (tgt := 51) fx dX11_shared_46 (by decide) hok (fun hok => ?_) (fun hok => ?_)
    · refine lv_aload_n fx.1 fx.2.1 dX11_shared_51 rfl (lv_at hl 0 rfl) ?_
      refine lv_iload_n fx.1 fx.2.1 dX11_shared_52 rfl (lv_at hl 1 rfl) ?_
      refine lv_iload_n fx.1 fx.2.1 dX11_shared_53 rfl (lv_at hl 2 rfl) ?_
      refine lv_iload_n fx.1 fx.2.1 dX11_shared_54 rfl (lv_at hl 3 rfl) ?_
      obtain ⟨v9, G10, hf, hok⟩ := gOk_bind2 hok
      refine g_callV0 (κ := 11) fx hw (c_X11_shareOf l X τ n x0 x1 x2 x3 G8 h0 hf) lv_RX11_401 ⟨rfl, rfl⟩ rfl rfl h0 rfl hl.1 rfl ⟨Nat.le_of_ble_eq_true rfl, Nat.le_of_ble_eq_true rfl⟩ (Nat.le_of_ble_eq_true rfl) ⟨Nat.le_of_ble_eq_true rfl, Nat.le_of_ble_eq_true rfl⟩ dX11_shared_55 (fun H locs hw => ?_)
      refine lv_istore (lv' := [(4, .int v9), (0, .ref x0), (1, .int x1), (2, .int x2), (3, .int x3)]) fx.1 fx.2.1 dX11_shared_58 hl (by decide) rfl (fun ls hl => ?_)
      refine lv_iload fx.1 fx.2.1 dX11_shared_60 (lv_at hl 0 rfl) ?_
      refine lv_aload_n fx.1 fx.2.1 dX11_shared_62 rfl (lv_at hl 1 rfl) ?_
      refine lv_iload_n fx.1 fx.2.1 dX11_shared_63 rfl (lv_at hl 2 rfl) ?_
      obtain ⟨v11, G12, hf, hok⟩ := gOk_bind2 hok
      refine g_callV0 (κ := 11) fx hw (c_X11_bearsOf l X τ n x0 x1 G10 h0 hf) lv_RX11_303 ⟨rfl, rfl⟩ rfl rfl h0 rfl hl.1 rfl ⟨Nat.le_of_ble_eq_true rfl, Nat.le_of_ble_eq_true rfl⟩ (Nat.le_of_ble_eq_true rfl) ⟨Nat.le_of_ble_eq_true rfl, Nat.le_of_ble_eq_true rfl⟩ dX11_shared_64 (fun H locs hw => ?_)
      refine g_icmp_gt (tgt := 86) fx dX11_shared_67 (by decide) hok (fun hok => ?_) (fun hok => ?_)
      · refine lv_iconst (v := 0) fx.1 fx.2.1 dX11_shared_86 (by decide) ?_
        cases gOk_some hok
        exact g_zret fx hw hr (by decide) dX11_shared_87
      · refine lv_iload_n fx.1 fx.2.1 dX11_shared_70 rfl (lv_at hl 4 rfl) ?_
        refine lv_iload fx.1 fx.2.1 dX11_shared_71 (lv_at hl 0 rfl) ?_
        refine lv_isub fx.1 fx.2.1 dX11_shared_73 ?_
        refine lv_aload_n fx.1 fx.2.1 dX11_shared_74 rfl (lv_at hl 1 rfl) ?_
        refine lv_iload_n fx.1 fx.2.1 dX11_shared_75 rfl (lv_at hl 3 rfl) ?_
        obtain ⟨v13, G14, hf, hok⟩ := gOk_bind2 hok
        refine g_callV0 (κ := 11) fx hw (c_X11_bearsOf l X τ n x0 x2 G12 h0 hf) lv_RX11_303 ⟨rfl, rfl⟩ rfl rfl h0 rfl hl.1 rfl ⟨Nat.le_of_ble_eq_true rfl, Nat.le_of_ble_eq_true rfl⟩ (Nat.le_of_ble_eq_true rfl) ⟨Nat.le_of_ble_eq_true rfl, Nat.le_of_ble_eq_true rfl⟩ dX11_shared_76 (fun H locs hw => ?_)
        refine g_icmp_gt (tgt := 86) fx dX11_shared_79 (by decide) hok (fun hok => ?_) (fun hok => ?_)
        · refine lv_iconst (v := 0) fx.1 fx.2.1 dX11_shared_86 (by decide) ?_
          cases gOk_some hok
          exact g_zret fx hw hr (by decide) dX11_shared_87
        · refine lv_iconst (v := 1) fx.1 fx.2.1 dX11_shared_82 (by decide) ?_
          refine lv_goto (tgt := 87) fx.1 fx.2.1 dX11_shared_83 (by decide) ?_
          cases gOk_some hok
          exact g_zret fx hw hr (by decide) dX11_shared_87
    · refine lv_iconst (v := 0) fx.1 fx.2.1 dX11_shared_49 (by decide) ?_
      cases gOk_some hok
      exact g_zret fx hw hr (by decide) dX11_shared_50
  · refine lv_iconst (v := 0) fx.1 fx.2.1 dX11_shared_49 (by decide) ?_
    cases gOk_some hok
    exact g_zret fx hw hr (by decide) dX11_shared_50
set_option maxHeartbeats 4000000 in
set_option maxRecDepth 100000 in
theorem w_X11_shared_22 {X : gX} {τ : gτ} {p : Program} {l : Launch} {e : Env} {s : State} {m : MethodId} {args : Array Value} {below : List Frame} {meth : Method} {c : Code} (fx : gFx X p s m args meth c cX11_shared 5 RX11) (n : Nat) (x0 : Nat) (x1 : Int32) (x2 : Int32) (x3 : Int32) (s0 : Nat) (h0 : gK τ x0 11) (hs0 : gK τ s0 11) (hr : meth.sig.returnType = (some .boolean)) {r : Int32} {G' : gG} {G : gG} {H : Heap} {locs : List Loc} {ls : Array Slot} (hw : gHw X τ G H locs) (hl : lv_has ls 5 [(0, .ref x0), (1, .int x1), (2, .int x2), (3, .int x3)]) (hok : gOk (k_X11_shared_22 τ n x0 x1 x2 x3 s0 G) (fun q => q = (r, G')))  : W p l e rm_X11_shared s m args below meth c H locs 0 0 (MQ below (gQ X τ (some (.int r)) G') args s 0 0 (gFree X)) (F0 m 22 ls [.ref s0]) := by
  unfold k_X11_shared_22 at hok
  refine lv_iconst (v := 1) fx.1 fx.2.1 dX11_shared_22 (by decide) ?_
  refine lv_goto (tgt := 27) fx.1 fx.2.1 dX11_shared_23 (by decide) ?_
  exact w_X11_shared_27 fx n x0 x1 x2 x3 s0 (1 : Int32) h0 hs0 hr hw (lv_sub hl [0, 1, 2, 3] rfl) hok
set_option maxHeartbeats 4000000 in
set_option maxRecDepth 100000 in
theorem c_X11_shared (l : Launch) (X : gX) (τ : gτ) (n : Nat) (x0 : Nat) (x1 : Int32) (x2 : Int32) (x3 : Int32) (G : gG) (h0 : gK τ x0 11) {r : Int32} {G' : gG} (h : f_X11_shared τ n x0 x1 x2 x3 G = some (r, G')) : gM l X τ yX11_shared cX11_shared 5 (some .boolean) rm_X11_shared [.ref x0, .int x1, .int x2, .int x3] G (some (.int r)) G' := by
  refine g_body (by decide +kernel) (Nat.le_of_ble_eq_true rfl) ?_
  intro p e s m args below meth c ls fx hr hw hl
  have fx : gFx X p s m args meth c cX11_shared 5 RX11 := fx
  have hl : lv_has ls 5 [(0, .ref x0), (1, .int x1), (2, .int x2), (3, .int x3)] := hl
  have hok : gOk (f_X11_shared τ n x0 x1 x2 x3 G) (fun q => q = (r, G')) := ⟨_, h, rfl⟩
  unfold f_X11_shared at hok
  show W p l e rm_X11_shared s m args below meth c s.heap [] 0 0 (MQ below (gQ X τ (some (.int r)) G') args s 0 0 (gFree X)) _
  refine lv_aload_n fx.1 fx.2.1 dX11_shared_0 rfl (lv_at hl 0 rfl) ?_
  refine lv_iconst (v := 0) fx.1 fx.2.1 dX11_shared_1 (by decide) ?_
  refine g_puti fx hw h0 lp_RX11_3 rfl rfl dX11_shared_2 hok (fun G1 H locs hw hok => ?_)
  refine lv_aload_n fx.1 fx.2.1 dX11_shared_5 rfl (lv_at hl 0 rfl) ?_
  refine lv_aload_n fx.1 fx.2.1 dX11_shared_6 rfl (lv_at hl 0 rfl) ?_
  refine lv_iload_n fx.1 fx.2.1 dX11_shared_7 rfl (lv_at hl 1 rfl) ?_
  obtain ⟨v2, hf, hok⟩ := gOk_bind hok
  refine g_callV0 (κ := 11) fx hw (c_X11_noRope l X τ x0 x1 G1 h0 hf) lv_RX11_321 ⟨rfl, rfl⟩ rfl rfl h0 rfl hl.1 rfl ⟨Nat.le_of_ble_eq_true rfl, Nat.le_of_ble_eq_true rfl⟩ (Nat.le_of_ble_eq_true rfl) ⟨Nat.le_of_ble_eq_true rfl, Nat.le_of_ble_eq_true rfl⟩ dX11_shared_8 (fun H locs hw => ?_)
  refine g_if_ne (tgt := 22) fx dX11_shared_11 (by decide) hok (fun hok => ?_) (fun hok => ?_)
  · refine lv_aload_n fx.1 fx.2.1 dX11_shared_14 rfl (lv_at hl 0 rfl) ?_
    refine lv_iload_n fx.1 fx.2.1 dX11_shared_15 rfl (lv_at hl 2 rfl) ?_
    obtain ⟨v3, hf, hok⟩ := gOk_bind hok
    refine g_callV0 (κ := 11) fx hw (c_X11_noRope l X τ x0 x2 G1 h0 hf) lv_RX11_321 ⟨rfl, rfl⟩ rfl rfl h0 rfl hl.1 rfl ⟨Nat.le_of_ble_eq_true rfl, Nat.le_of_ble_eq_true rfl⟩ (Nat.le_of_ble_eq_true rfl) ⟨Nat.le_of_ble_eq_true rfl, Nat.le_of_ble_eq_true rfl⟩ dX11_shared_16 (fun H locs hw => ?_)
    refine g_if_eq (tgt := 26) fx dX11_shared_19 (by decide) hok (fun hok => ?_) (fun hok => ?_)
    · refine lv_iconst (v := 0) fx.1 fx.2.1 dX11_shared_26 (by decide) ?_
      exact w_X11_shared_27 fx n x0 x1 x2 x3 x0 (0 : Int32) h0 h0 hr hw (lv_sub hl [0, 1, 2, 3] rfl) hok
    · exact w_X11_shared_22 fx n x0 x1 x2 x3 x0 h0 h0 hr hw (lv_sub hl [0, 1, 2, 3] rfl) hok
  · exact w_X11_shared_22 fx n x0 x1 x2 x3 x0 h0 h0 hr hw (lv_sub hl [0, 1, 2, 3] rfl) hok
theorem dX11_fits_0 : decode cX11_fits 0 = .ok (.aload_n 0, 1) := by decide +kernel
theorem dX11_fits_1 : decode cX11_fits 1 = .ok (.iload_n 1, 1) := by decide +kernel
theorem dX11_fits_2 : decode cX11_fits 2 = .ok (.iconst 0, 1) := by decide +kernel
theorem dX11_fits_3 : decode cX11_fits 3 = .ok (.invokevirtual 132, 3) := by decide +kernel
theorem dX11_fits_6 : decode cX11_fits 6 = .ok (.aload_n 0, 1) := by decide +kernel
theorem dX11_fits_7 : decode cX11_fits 7 = .ok (.iload_n 2, 1) := by decide +kernel
theorem dX11_fits_8 : decode cX11_fits 8 = .ok (.iconst 0, 1) := by decide +kernel
theorem dX11_fits_9 : decode cX11_fits 9 = .ok (.invokevirtual 132, 3) := by decide +kernel
theorem dX11_fits_12 : decode cX11_fits 12 = .ok (.iadd, 1) := by decide +kernel
theorem dX11_fits_13 : decode cX11_fits 13 = .ok (.aload_n 0, 1) := by decide +kernel
theorem dX11_fits_14 : decode cX11_fits 14 = .ok (.iload_n 3, 1) := by decide +kernel
theorem dX11_fits_15 : decode cX11_fits 15 = .ok (.iconst 0, 1) := by decide +kernel
theorem dX11_fits_16 : decode cX11_fits 16 = .ok (.invokevirtual 132, 3) := by decide +kernel
theorem dX11_fits_19 : decode cX11_fits 19 = .ok (.iadd, 1) := by decide +kernel
theorem dX11_fits_20 : decode cX11_fits 20 = .ok (.iload 4, 2) := by decide +kernel
theorem dX11_fits_22 : decode cX11_fits 22 = .ok (.if_icmp .ne 32, 3) := by decide +kernel
theorem dX11_fits_25 : decode cX11_fits 25 = .ok (.aload_n 0, 1) := by decide +kernel
theorem dX11_fits_26 : decode cX11_fits 26 = .ok (.iload_n 1, 1) := by decide +kernel
theorem dX11_fits_27 : decode cX11_fits 27 = .ok (.iconst 2, 1) := by decide +kernel
theorem dX11_fits_28 : decode cX11_fits 28 = .ok (.invokevirtual 132, 3) := by decide +kernel
theorem dX11_fits_31 : decode cX11_fits 31 = .ok (.aload_n 0, 1) := by decide +kernel
theorem dX11_fits_32 : decode cX11_fits 32 = .ok (.iload_n 2, 1) := by decide +kernel
theorem dX11_fits_33 : decode cX11_fits 33 = .ok (.iconst 2, 1) := by decide +kernel
theorem dX11_fits_34 : decode cX11_fits 34 = .ok (.invokevirtual 132, 3) := by decide +kernel
theorem dX11_fits_37 : decode cX11_fits 37 = .ok (.iadd, 1) := by decide +kernel
theorem dX11_fits_38 : decode cX11_fits 38 = .ok (.aload_n 0, 1) := by decide +kernel
theorem dX11_fits_39 : decode cX11_fits 39 = .ok (.iload_n 3, 1) := by decide +kernel
theorem dX11_fits_40 : decode cX11_fits 40 = .ok (.iconst 2, 1) := by decide +kernel
theorem dX11_fits_41 : decode cX11_fits 41 = .ok (.invokevirtual 132, 3) := by decide +kernel
theorem dX11_fits_44 : decode cX11_fits 44 = .ok (.iadd, 1) := by decide +kernel
theorem dX11_fits_45 : decode cX11_fits 45 = .ok (.iload 5, 2) := by decide +kernel
theorem dX11_fits_47 : decode cX11_fits 47 = .ok (.if_icmp .ne 7, 3) := by decide +kernel
theorem dX11_fits_50 : decode cX11_fits 50 = .ok (.iconst 1, 1) := by decide +kernel
theorem dX11_fits_51 : decode cX11_fits 51 = .ok (.goto 4, 3) := by decide +kernel
theorem dX11_fits_54 : decode cX11_fits 54 = .ok (.iconst 0, 1) := by decide +kernel
theorem dX11_fits_55 : decode cX11_fits 55 = .ok (.ireturn, 1) := by decide +kernel
def rm_X11_fits : Room := { frames := 2, cells := 0, slots := 0, locals := 43 }
def f_X11_fits (τ : gτ) (x0 : Nat) (x1 : Int32) (x2 : Int32) (x3 : Int32) (x4 : Int32) (x5 : Int32) (G : gG) : Option (Int32) :=
  (f_X11_ofYarn τ x0 x1 (0 : Int32) G).bind fun v1 =>
  (f_X11_ofYarn τ x0 x2 (0 : Int32) G).bind fun v2 =>
  (f_X11_ofYarn τ x0 x3 (0 : Int32) G).bind fun v3 =>
  if ((v1 + v2) + v3) = x4 then ((f_X11_ofYarn τ x0 x1 (2 : Int32) G).bind fun v4 =>
  (f_X11_ofYarn τ x0 x2 (2 : Int32) G).bind fun v5 =>
  (f_X11_ofYarn τ x0 x3 (2 : Int32) G).bind fun v6 =>
  if ((v4 + v5) + v6) = x5 then (some (1))
  else (some (0)))
  else (some (0))
set_option maxHeartbeats 4000000 in
set_option maxRecDepth 100000 in
theorem c_X11_fits (l : Launch) (X : gX) (τ : gτ) (x0 : Nat) (x1 : Int32) (x2 : Int32) (x3 : Int32) (x4 : Int32) (x5 : Int32) (G : gG) (h0 : gK τ x0 11) {r : Int32}  (h : f_X11_fits τ x0 x1 x2 x3 x4 x5 G = some r) : gM l X τ yX11_fits cX11_fits 6 (some .boolean) rm_X11_fits [.ref x0, .int x1, .int x2, .int x3, .int x4, .int x5] G (some (.int r)) G := by
  refine g_body (by decide +kernel) (Nat.le_of_ble_eq_true rfl) ?_
  intro p e s m args below meth c ls fx hr hw hl
  have fx : gFx X p s m args meth c cX11_fits 6 RX11 := fx
  have hl : lv_has ls 6 [(0, .ref x0), (1, .int x1), (2, .int x2), (3, .int x3), (4, .int x4), (5, .int x5)] := hl
  have hok : gOk (f_X11_fits τ x0 x1 x2 x3 x4 x5 G) (fun q => q = r) := ⟨_, h, rfl⟩
  unfold f_X11_fits at hok
  show W p l e rm_X11_fits s m args below meth c s.heap [] 0 0 (MQ below (gQ X τ (some (.int r)) G) args s 0 0 (gFree X)) _
  refine lv_aload_n fx.1 fx.2.1 dX11_fits_0 rfl (lv_at hl 0 rfl) ?_
  refine lv_iload_n fx.1 fx.2.1 dX11_fits_1 rfl (lv_at hl 1 rfl) ?_
  refine lv_iconst (v := 0) fx.1 fx.2.1 dX11_fits_2 (by decide) ?_
  obtain ⟨v1, hf, hok⟩ := gOk_bind hok
  refine g_callV0 (κ := 11) fx hw (c_X11_ofYarn l X τ x0 x1 (0 : Int32) G h0 hf) lv_RX11_132 ⟨rfl, rfl⟩ rfl rfl h0 rfl hl.1 rfl ⟨Nat.le_of_ble_eq_true rfl, Nat.le_of_ble_eq_true rfl⟩ (Nat.le_of_ble_eq_true rfl) ⟨Nat.le_of_ble_eq_true rfl, Nat.le_of_ble_eq_true rfl⟩ dX11_fits_3 (fun H locs hw => ?_)
  refine lv_aload_n fx.1 fx.2.1 dX11_fits_6 rfl (lv_at hl 0 rfl) ?_
  refine lv_iload_n fx.1 fx.2.1 dX11_fits_7 rfl (lv_at hl 2 rfl) ?_
  refine lv_iconst (v := 0) fx.1 fx.2.1 dX11_fits_8 (by decide) ?_
  obtain ⟨v2, hf, hok⟩ := gOk_bind hok
  refine g_callV0 (κ := 11) fx hw (c_X11_ofYarn l X τ x0 x2 (0 : Int32) G h0 hf) lv_RX11_132 ⟨rfl, rfl⟩ rfl rfl h0 rfl hl.1 rfl ⟨Nat.le_of_ble_eq_true rfl, Nat.le_of_ble_eq_true rfl⟩ (Nat.le_of_ble_eq_true rfl) ⟨Nat.le_of_ble_eq_true rfl, Nat.le_of_ble_eq_true rfl⟩ dX11_fits_9 (fun H locs hw => ?_)
  refine lv_iadd fx.1 fx.2.1 dX11_fits_12 ?_
  refine lv_aload_n fx.1 fx.2.1 dX11_fits_13 rfl (lv_at hl 0 rfl) ?_
  refine lv_iload_n fx.1 fx.2.1 dX11_fits_14 rfl (lv_at hl 3 rfl) ?_
  refine lv_iconst (v := 0) fx.1 fx.2.1 dX11_fits_15 (by decide) ?_
  obtain ⟨v3, hf, hok⟩ := gOk_bind hok
  refine g_callV0 (κ := 11) fx hw (c_X11_ofYarn l X τ x0 x3 (0 : Int32) G h0 hf) lv_RX11_132 ⟨rfl, rfl⟩ rfl rfl h0 rfl hl.1 rfl ⟨Nat.le_of_ble_eq_true rfl, Nat.le_of_ble_eq_true rfl⟩ (Nat.le_of_ble_eq_true rfl) ⟨Nat.le_of_ble_eq_true rfl, Nat.le_of_ble_eq_true rfl⟩ dX11_fits_16 (fun H locs hw => ?_)
  refine lv_iadd fx.1 fx.2.1 dX11_fits_19 ?_
  refine lv_iload fx.1 fx.2.1 dX11_fits_20 (lv_at hl 4 rfl) ?_
  refine g_icmp_ne (tgt := 54) fx dX11_fits_22 (by decide) hok (fun hok => ?_) (fun hok => ?_)
  · refine lv_aload_n fx.1 fx.2.1 dX11_fits_25 rfl (lv_at hl 0 rfl) ?_
    refine lv_iload_n fx.1 fx.2.1 dX11_fits_26 rfl (lv_at hl 1 rfl) ?_
    refine lv_iconst (v := 2) fx.1 fx.2.1 dX11_fits_27 (by decide) ?_
    obtain ⟨v4, hf, hok⟩ := gOk_bind hok
    refine g_callV0 (κ := 11) fx hw (c_X11_ofYarn l X τ x0 x1 (2 : Int32) G h0 hf) lv_RX11_132 ⟨rfl, rfl⟩ rfl rfl h0 rfl hl.1 rfl ⟨Nat.le_of_ble_eq_true rfl, Nat.le_of_ble_eq_true rfl⟩ (Nat.le_of_ble_eq_true rfl) ⟨Nat.le_of_ble_eq_true rfl, Nat.le_of_ble_eq_true rfl⟩ dX11_fits_28 (fun H locs hw => ?_)
    refine lv_aload_n fx.1 fx.2.1 dX11_fits_31 rfl (lv_at hl 0 rfl) ?_
    refine lv_iload_n fx.1 fx.2.1 dX11_fits_32 rfl (lv_at hl 2 rfl) ?_
    refine lv_iconst (v := 2) fx.1 fx.2.1 dX11_fits_33 (by decide) ?_
    obtain ⟨v5, hf, hok⟩ := gOk_bind hok
    refine g_callV0 (κ := 11) fx hw (c_X11_ofYarn l X τ x0 x2 (2 : Int32) G h0 hf) lv_RX11_132 ⟨rfl, rfl⟩ rfl rfl h0 rfl hl.1 rfl ⟨Nat.le_of_ble_eq_true rfl, Nat.le_of_ble_eq_true rfl⟩ (Nat.le_of_ble_eq_true rfl) ⟨Nat.le_of_ble_eq_true rfl, Nat.le_of_ble_eq_true rfl⟩ dX11_fits_34 (fun H locs hw => ?_)
    refine lv_iadd fx.1 fx.2.1 dX11_fits_37 ?_
    refine lv_aload_n fx.1 fx.2.1 dX11_fits_38 rfl (lv_at hl 0 rfl) ?_
    refine lv_iload_n fx.1 fx.2.1 dX11_fits_39 rfl (lv_at hl 3 rfl) ?_
    refine lv_iconst (v := 2) fx.1 fx.2.1 dX11_fits_40 (by decide) ?_
    obtain ⟨v6, hf, hok⟩ := gOk_bind hok
    refine g_callV0 (κ := 11) fx hw (c_X11_ofYarn l X τ x0 x3 (2 : Int32) G h0 hf) lv_RX11_132 ⟨rfl, rfl⟩ rfl rfl h0 rfl hl.1 rfl ⟨Nat.le_of_ble_eq_true rfl, Nat.le_of_ble_eq_true rfl⟩ (Nat.le_of_ble_eq_true rfl) ⟨Nat.le_of_ble_eq_true rfl, Nat.le_of_ble_eq_true rfl⟩ dX11_fits_41 (fun H locs hw => ?_)
    refine lv_iadd fx.1 fx.2.1 dX11_fits_44 ?_
    refine lv_iload fx.1 fx.2.1 dX11_fits_45 (lv_at hl 5 rfl) ?_
    refine g_icmp_ne (tgt := 54) fx dX11_fits_47 (by decide) hok (fun hok => ?_) (fun hok => ?_)
    · refine lv_iconst (v := 1) fx.1 fx.2.1 dX11_fits_50 (by decide) ?_
      refine lv_goto (tgt := 55) fx.1 fx.2.1 dX11_fits_51 (by decide) ?_
      cases gOk_some hok
      exact g_zret fx hw hr (by decide) dX11_fits_55
    · refine lv_iconst (v := 0) fx.1 fx.2.1 dX11_fits_54 (by decide) ?_
      cases gOk_some hok
      exact g_zret fx hw hr (by decide) dX11_fits_55
  · refine lv_iconst (v := 0) fx.1 fx.2.1 dX11_fits_54 (by decide) ?_
    cases gOk_some hok
    exact g_zret fx hw hr (by decide) dX11_fits_55
theorem dX11_oakum_0 : decode cX11_oakum 0 = .ok (.aload_n 0, 1) := by decide +kernel
theorem dX11_oakum_1 : decode cX11_oakum 1 = .ok (.iconst 0, 1) := by decide +kernel
theorem dX11_oakum_2 : decode cX11_oakum 2 = .ok (.putfield 3, 3) := by decide +kernel
theorem dX11_oakum_5 : decode cX11_oakum 5 = .ok (.aload_n 0, 1) := by decide +kernel
theorem dX11_oakum_6 : decode cX11_oakum 6 = .ok (.iload_n 3, 1) := by decide +kernel
theorem dX11_oakum_7 : decode cX11_oakum 7 = .ok (.iconst 0, 1) := by decide +kernel
theorem dX11_oakum_8 : decode cX11_oakum 8 = .ok (.iconst 2, 1) := by decide +kernel
theorem dX11_oakum_9 : decode cX11_oakum 9 = .ok (.invokestatic 69, 3) := by decide +kernel
theorem dX11_oakum_12 : decode cX11_oakum 12 = .ok (.ifCond .ne 7, 3) := by decide +kernel
theorem dX11_oakum_15 : decode cX11_oakum 15 = .ok (.iconst 1, 1) := by decide +kernel
theorem dX11_oakum_16 : decode cX11_oakum 16 = .ok (.goto 4, 3) := by decide +kernel
theorem dX11_oakum_19 : decode cX11_oakum 19 = .ok (.iconst 0, 1) := by decide +kernel
theorem dX11_oakum_20 : decode cX11_oakum 20 = .ok (.iconst 1, 1) := by decide +kernel
theorem dX11_oakum_21 : decode cX11_oakum 21 = .ok (.invokevirtual 263, 3) := by decide +kernel
theorem dX11_oakum_24 : decode cX11_oakum 24 = .ok (.ifCond .eq 5, 3) := by decide +kernel
theorem dX11_oakum_27 : decode cX11_oakum 27 = .ok (.iconst 0, 1) := by decide +kernel
theorem dX11_oakum_28 : decode cX11_oakum 28 = .ok (.ireturn, 1) := by decide +kernel
theorem dX11_oakum_29 : decode cX11_oakum 29 = .ok (.iconst 0, 1) := by decide +kernel
theorem dX11_oakum_30 : decode cX11_oakum 30 = .ok (.istore 4, 2) := by decide +kernel
theorem dX11_oakum_32 : decode cX11_oakum 32 = .ok (.iconst 1, 1) := by decide +kernel
theorem dX11_oakum_33 : decode cX11_oakum 33 = .ok (.aload_n 0, 1) := by decide +kernel
theorem dX11_oakum_34 : decode cX11_oakum 34 = .ok (.invokevirtual 65, 3) := by decide +kernel
theorem dX11_oakum_37 : decode cX11_oakum 37 = .ok (.ishl, 1) := by decide +kernel
theorem dX11_oakum_38 : decode cX11_oakum 38 = .ok (.iconst 1, 1) := by decide +kernel
theorem dX11_oakum_39 : decode cX11_oakum 39 = .ok (.isub, 1) := by decide +kernel
theorem dX11_oakum_40 : decode cX11_oakum 40 = .ok (.istore 5, 2) := by decide +kernel
theorem dX11_oakum_42 : decode cX11_oakum 42 = .ok (.iconst 0, 1) := by decide +kernel
theorem dX11_oakum_43 : decode cX11_oakum 43 = .ok (.istore 6, 2) := by decide +kernel
theorem dX11_oakum_45 : decode cX11_oakum 45 = .ok (.iload 6, 2) := by decide +kernel
theorem dX11_oakum_47 : decode cX11_oakum 47 = .ok (.bipush 10, 2) := by decide +kernel
theorem dX11_oakum_49 : decode cX11_oakum 49 = .ok (.if_icmp .ge 17, 3) := by decide +kernel
theorem dX11_oakum_52 : decode cX11_oakum 52 = .ok (.aload_n 0, 1) := by decide +kernel
theorem dX11_oakum_53 : decode cX11_oakum 53 = .ok (.getfield 45, 3) := by decide +kernel
theorem dX11_oakum_56 : decode cX11_oakum 56 = .ok (.iload 6, 2) := by decide +kernel
theorem dX11_oakum_58 : decode cX11_oakum 58 = .ok (.iconst 0, 1) := by decide +kernel
theorem dX11_oakum_59 : decode cX11_oakum 59 = .ok (.iastore, 1) := by decide +kernel
theorem dX11_oakum_60 : decode cX11_oakum 60 = .ok (.iinc 6 1, 3) := by decide +kernel
theorem dX11_oakum_63 : decode cX11_oakum 63 = .ok (.goto (-18), 3) := by decide +kernel
theorem dX11_oakum_66 : decode cX11_oakum 66 = .ok (.iconst 0, 1) := by decide +kernel
theorem dX11_oakum_67 : decode cX11_oakum 67 = .ok (.istore 6, 2) := by decide +kernel
theorem dX11_oakum_69 : decode cX11_oakum 69 = .ok (.iload 6, 2) := by decide +kernel
theorem dX11_oakum_71 : decode cX11_oakum 71 = .ok (.aload_n 0, 1) := by decide +kernel
theorem dX11_oakum_72 : decode cX11_oakum 72 = .ok (.invokevirtual 65, 3) := by decide +kernel
theorem dX11_oakum_75 : decode cX11_oakum 75 = .ok (.if_icmp .ge 124, 3) := by decide +kernel
theorem dX11_oakum_78 : decode cX11_oakum 78 = .ok (.iload 6, 2) := by decide +kernel
theorem dX11_oakum_80 : decode cX11_oakum 80 = .ok (.iconst 1, 1) := by decide +kernel
theorem dX11_oakum_81 : decode cX11_oakum 81 = .ok (.iadd, 1) := by decide +kernel
theorem dX11_oakum_82 : decode cX11_oakum 82 = .ok (.istore 7, 2) := by decide +kernel
theorem dX11_oakum_84 : decode cX11_oakum 84 = .ok (.iload 7, 2) := by decide +kernel
theorem dX11_oakum_86 : decode cX11_oakum 86 = .ok (.aload_n 0, 1) := by decide +kernel
theorem dX11_oakum_87 : decode cX11_oakum 87 = .ok (.invokevirtual 65, 3) := by decide +kernel
theorem dX11_oakum_90 : decode cX11_oakum 90 = .ok (.if_icmp .ge 103, 3) := by decide +kernel
theorem dX11_oakum_93 : decode cX11_oakum 93 = .ok (.iload 7, 2) := by decide +kernel
theorem dX11_oakum_95 : decode cX11_oakum 95 = .ok (.iconst 1, 1) := by decide +kernel
theorem dX11_oakum_96 : decode cX11_oakum 96 = .ok (.iadd, 1) := by decide +kernel
theorem dX11_oakum_97 : decode cX11_oakum 97 = .ok (.istore 8, 2) := by decide +kernel
theorem dX11_oakum_99 : decode cX11_oakum 99 = .ok (.iload 8, 2) := by decide +kernel
theorem dX11_oakum_101 : decode cX11_oakum 101 = .ok (.aload_n 0, 1) := by decide +kernel
theorem dX11_oakum_102 : decode cX11_oakum 102 = .ok (.invokevirtual 65, 3) := by decide +kernel
theorem dX11_oakum_105 : decode cX11_oakum 105 = .ok (.if_icmp .ge 82, 3) := by decide +kernel
theorem dX11_oakum_108 : decode cX11_oakum 108 = .ok (.aload_n 0, 1) := by decide +kernel
theorem dX11_oakum_109 : decode cX11_oakum 109 = .ok (.iload 6, 2) := by decide +kernel
theorem dX11_oakum_111 : decode cX11_oakum 111 = .ok (.iload 7, 2) := by decide +kernel
theorem dX11_oakum_113 : decode cX11_oakum 113 = .ok (.iload 8, 2) := by decide +kernel
theorem dX11_oakum_115 : decode cX11_oakum 115 = .ok (.iload_n 1, 1) := by decide +kernel
theorem dX11_oakum_116 : decode cX11_oakum 116 = .ok (.iload_n 2, 1) := by decide +kernel
theorem dX11_oakum_117 : decode cX11_oakum 117 = .ok (.invokevirtual 404, 3) := by decide +kernel
theorem dX11_oakum_120 : decode cX11_oakum 120 = .ok (.ifCond .ne 6, 3) := by decide +kernel
theorem dX11_oakum_123 : decode cX11_oakum 123 = .ok (.goto 58, 3) := by decide +kernel
theorem dX11_oakum_126 : decode cX11_oakum 126 = .ok (.iinc 4 1, 3) := by decide +kernel
theorem dX11_oakum_129 : decode cX11_oakum 129 = .ok (.aload_n 0, 1) := by decide +kernel
theorem dX11_oakum_130 : decode cX11_oakum 130 = .ok (.getfield 45, 3) := by decide +kernel
theorem dX11_oakum_133 : decode cX11_oakum 133 = .ok (.iload 6, 2) := by decide +kernel
theorem dX11_oakum_135 : decode cX11_oakum 135 = .ok (.dup2, 1) := by decide +kernel
theorem dX11_oakum_136 : decode cX11_oakum 136 = .ok (.iaload, 1) := by decide +kernel
theorem dX11_oakum_137 : decode cX11_oakum 137 = .ok (.iconst 1, 1) := by decide +kernel
theorem dX11_oakum_138 : decode cX11_oakum 138 = .ok (.iadd, 1) := by decide +kernel
theorem dX11_oakum_139 : decode cX11_oakum 139 = .ok (.iastore, 1) := by decide +kernel
theorem dX11_oakum_140 : decode cX11_oakum 140 = .ok (.aload_n 0, 1) := by decide +kernel
theorem dX11_oakum_141 : decode cX11_oakum 141 = .ok (.getfield 45, 3) := by decide +kernel
theorem dX11_oakum_144 : decode cX11_oakum 144 = .ok (.iload 7, 2) := by decide +kernel
theorem dX11_oakum_146 : decode cX11_oakum 146 = .ok (.dup2, 1) := by decide +kernel
theorem dX11_oakum_147 : decode cX11_oakum 147 = .ok (.iaload, 1) := by decide +kernel
theorem dX11_oakum_148 : decode cX11_oakum 148 = .ok (.iconst 1, 1) := by decide +kernel
theorem dX11_oakum_149 : decode cX11_oakum 149 = .ok (.iadd, 1) := by decide +kernel
theorem dX11_oakum_150 : decode cX11_oakum 150 = .ok (.iastore, 1) := by decide +kernel
theorem dX11_oakum_151 : decode cX11_oakum 151 = .ok (.aload_n 0, 1) := by decide +kernel
theorem dX11_oakum_152 : decode cX11_oakum 152 = .ok (.getfield 45, 3) := by decide +kernel
theorem dX11_oakum_155 : decode cX11_oakum 155 = .ok (.iload 8, 2) := by decide +kernel
theorem dX11_oakum_157 : decode cX11_oakum 157 = .ok (.dup2, 1) := by decide +kernel
theorem dX11_oakum_158 : decode cX11_oakum 158 = .ok (.iaload, 1) := by decide +kernel
theorem dX11_oakum_159 : decode cX11_oakum 159 = .ok (.iconst 1, 1) := by decide +kernel
theorem dX11_oakum_160 : decode cX11_oakum 160 = .ok (.iadd, 1) := by decide +kernel
theorem dX11_oakum_161 : decode cX11_oakum 161 = .ok (.iastore, 1) := by decide +kernel
theorem dX11_oakum_162 : decode cX11_oakum 162 = .ok (.iload 5, 2) := by decide +kernel
theorem dX11_oakum_164 : decode cX11_oakum 164 = .ok (.iconst 1, 1) := by decide +kernel
theorem dX11_oakum_165 : decode cX11_oakum 165 = .ok (.iload 6, 2) := by decide +kernel
theorem dX11_oakum_167 : decode cX11_oakum 167 = .ok (.ishl, 1) := by decide +kernel
theorem dX11_oakum_168 : decode cX11_oakum 168 = .ok (.iconst 1, 1) := by decide +kernel
theorem dX11_oakum_169 : decode cX11_oakum 169 = .ok (.iload 7, 2) := by decide +kernel
theorem dX11_oakum_171 : decode cX11_oakum 171 = .ok (.ishl, 1) := by decide +kernel
theorem dX11_oakum_172 : decode cX11_oakum 172 = .ok (.ior, 1) := by decide +kernel
theorem dX11_oakum_173 : decode cX11_oakum 173 = .ok (.iconst 1, 1) := by decide +kernel
theorem dX11_oakum_174 : decode cX11_oakum 174 = .ok (.iload 8, 2) := by decide +kernel
theorem dX11_oakum_176 : decode cX11_oakum 176 = .ok (.ishl, 1) := by decide +kernel
theorem dX11_oakum_177 : decode cX11_oakum 177 = .ok (.ior, 1) := by decide +kernel
theorem dX11_oakum_178 : decode cX11_oakum 178 = .ok (.iand, 1) := by decide +kernel
theorem dX11_oakum_179 : decode cX11_oakum 179 = .ok (.istore 5, 2) := by decide +kernel
theorem dX11_oakum_181 : decode cX11_oakum 181 = .ok (.iinc 8 1, 3) := by decide +kernel
theorem dX11_oakum_184 : decode cX11_oakum 184 = .ok (.goto (-85), 3) := by decide +kernel
theorem dX11_oakum_187 : decode cX11_oakum 187 = .ok (.iinc 7 1, 3) := by decide +kernel
theorem dX11_oakum_190 : decode cX11_oakum 190 = .ok (.goto (-106), 3) := by decide +kernel
theorem dX11_oakum_193 : decode cX11_oakum 193 = .ok (.iinc 6 1, 3) := by decide +kernel
theorem dX11_oakum_196 : decode cX11_oakum 196 = .ok (.goto (-127), 3) := by decide +kernel
theorem dX11_oakum_199 : decode cX11_oakum 199 = .ok (.iload_n 3, 1) := by decide +kernel
theorem dX11_oakum_200 : decode cX11_oakum 200 = .ok (.iconst 2, 1) := by decide +kernel
theorem dX11_oakum_201 : decode cX11_oakum 201 = .ok (.if_icmp .ge 24, 3) := by decide +kernel
theorem dX11_oakum_204 : decode cX11_oakum 204 = .ok (.iload_n 3, 1) := by decide +kernel
theorem dX11_oakum_205 : decode cX11_oakum 205 = .ok (.ifCond .ne 8, 3) := by decide +kernel
theorem dX11_oakum_208 : decode cX11_oakum 208 = .ok (.iload 4, 2) := by decide +kernel
theorem dX11_oakum_210 : decode cX11_oakum 210 = .ok (.goto 14, 3) := by decide +kernel
theorem dX11_oakum_213 : decode cX11_oakum 213 = .ok (.iload 4, 2) := by decide +kernel
theorem dX11_oakum_215 : decode cX11_oakum 215 = .ok (.ifCond .ne 7, 3) := by decide +kernel
theorem dX11_oakum_218 : decode cX11_oakum 218 = .ok (.iconst 0, 1) := by decide +kernel
theorem dX11_oakum_219 : decode cX11_oakum 219 = .ok (.goto 5, 3) := by decide +kernel
theorem dX11_oakum_222 : decode cX11_oakum 222 = .ok (.iload 5, 2) := by decide +kernel
theorem dX11_oakum_224 : decode cX11_oakum 224 = .ok (.ireturn, 1) := by decide +kernel
theorem dX11_oakum_225 : decode cX11_oakum 225 = .ok (.iconst (-1), 1) := by decide +kernel
theorem dX11_oakum_226 : decode cX11_oakum 226 = .ok (.istore 6, 2) := by decide +kernel
theorem dX11_oakum_228 : decode cX11_oakum 228 = .ok (.ldc_w 379, 3) := by decide +kernel
theorem dX11_oakum_231 : decode cX11_oakum 231 = .ok (.istore 7, 2) := by decide +kernel
theorem dX11_oakum_233 : decode cX11_oakum 233 = .ok (.iconst 0, 1) := by decide +kernel
theorem dX11_oakum_234 : decode cX11_oakum 234 = .ok (.istore 8, 2) := by decide +kernel
theorem dX11_oakum_236 : decode cX11_oakum 236 = .ok (.iload 8, 2) := by decide +kernel
theorem dX11_oakum_238 : decode cX11_oakum 238 = .ok (.aload_n 0, 1) := by decide +kernel
theorem dX11_oakum_239 : decode cX11_oakum 239 = .ok (.invokevirtual 65, 3) := by decide +kernel
theorem dX11_oakum_242 : decode cX11_oakum 242 = .ok (.if_icmp .ge 55, 3) := by decide +kernel
theorem dX11_oakum_245 : decode cX11_oakum 245 = .ok (.iload 4, 2) := by decide +kernel
theorem dX11_oakum_247 : decode cX11_oakum 247 = .ok (.iconst 1, 1) := by decide +kernel
theorem dX11_oakum_248 : decode cX11_oakum 248 = .ok (.if_icmp .le 49, 3) := by decide +kernel
theorem dX11_oakum_251 : decode cX11_oakum 251 = .ok (.aload_n 0, 1) := by decide +kernel
theorem dX11_oakum_252 : decode cX11_oakum 252 = .ok (.getfield 45, 3) := by decide +kernel
theorem dX11_oakum_255 : decode cX11_oakum 255 = .ok (.iload 8, 2) := by decide +kernel
theorem dX11_oakum_257 : decode cX11_oakum 257 = .ok (.iaload, 1) := by decide +kernel
theorem dX11_oakum_258 : decode cX11_oakum 258 = .ok (.iload 4, 2) := by decide +kernel
theorem dX11_oakum_260 : decode cX11_oakum 260 = .ok (.aload_n 0, 1) := by decide +kernel
theorem dX11_oakum_261 : decode cX11_oakum 261 = .ok (.getfield 45, 3) := by decide +kernel
theorem dX11_oakum_264 : decode cX11_oakum 264 = .ok (.iload 8, 2) := by decide +kernel
theorem dX11_oakum_266 : decode cX11_oakum 266 = .ok (.iaload, 1) := by decide +kernel
theorem dX11_oakum_267 : decode cX11_oakum 267 = .ok (.isub, 1) := by decide +kernel
theorem dX11_oakum_268 : decode cX11_oakum 268 = .ok (.invokestatic 270, 3) := by decide +kernel
theorem dX11_oakum_271 : decode cX11_oakum 271 = .ok (.istore 9, 2) := by decide +kernel
theorem dX11_oakum_273 : decode cX11_oakum 273 = .ok (.iload 9, 2) := by decide +kernel
theorem dX11_oakum_275 : decode cX11_oakum 275 = .ok (.iload 7, 2) := by decide +kernel
theorem dX11_oakum_277 : decode cX11_oakum 277 = .ok (.if_icmp .lt 6, 3) := by decide +kernel
theorem dX11_oakum_280 : decode cX11_oakum 280 = .ok (.goto 11, 3) := by decide +kernel
theorem dX11_oakum_283 : decode cX11_oakum 283 = .ok (.iload 8, 2) := by decide +kernel
theorem dX11_oakum_285 : decode cX11_oakum 285 = .ok (.istore 6, 2) := by decide +kernel
theorem dX11_oakum_287 : decode cX11_oakum 287 = .ok (.iload 9, 2) := by decide +kernel
theorem dX11_oakum_289 : decode cX11_oakum 289 = .ok (.istore 7, 2) := by decide +kernel
theorem dX11_oakum_291 : decode cX11_oakum 291 = .ok (.iinc 8 1, 3) := by decide +kernel
theorem dX11_oakum_294 : decode cX11_oakum 294 = .ok (.goto (-58), 3) := by decide +kernel
theorem dX11_oakum_297 : decode cX11_oakum 297 = .ok (.iload 6, 2) := by decide +kernel
theorem dX11_oakum_299 : decode cX11_oakum 299 = .ok (.ireturn, 1) := by decide +kernel
theorem lf_RX11_45 : gLf RX11 45 11 19 := ⟨(RX11, TX11, 20), rfl, by decide, wA_t (wt6 (List.mem_of_getElem? (i := 232) (by decide +kernel))) (by decide +kernel), rfl⟩
theorem lv_RX11_404 : gLv RX11 404 RX11 yX11_fits cX11_fits 6 (some .boolean) 5 := gLv_of (wA_t (wt9 (List.mem_of_getElem? (i := 15) (by decide +kernel))) (by decide +kernel)) (wA_t (wt9 (List.mem_of_getElem? (i := 17) (by decide +kernel))) (by decide +kernel)) (wA_of (List.mem_append_left _ (List.mem_map.mpr ⟨(⟨"YearRopeModel", "fits", "(IIIII)Z"⟩, 20), wp8 (List.mem_of_getElem? (i := 3) (by decide +kernel)), rfl⟩)) (by decide +kernel)) (wA_t (wt1 (List.mem_of_getElem? (i := 12) (by decide +kernel))) (by decide +kernel)) (wA_t (wt9 (List.mem_of_getElem? (i := 18) (by decide +kernel))) (by decide +kernel)) ⟨rfl, by decide +kernel, by decide +kernel, by decide +kernel⟩
def rm_X11_oakum : Room := { frames := 3, cells := 0, slots := 0, locals := 68 }
def b_X11_oakum_45 (τ : gτ) (n : Nat) (x0 : Nat) (x1 : Int32) (x2 : Int32) (x3 : Int32) (x4 : Int32) (x5 : Int32) (x6 : Int32) (G : gG) : Option ((Int32 × gG) ⊕ ((gG))) :=
  if (10 : Int32) ≤ x6 then (some (.inr G))
  else ((gr G 11 19 x0).bind fun a7 =>
  gchk (gIn x6 (gn τ a7)) <| gLet (gse G a7 (Int32.toNatClampNeg x6) (0 : Int32)) fun G8 =>
  gLet (x6 + 1) fun v9 =>
  some (.inl (v9, G8)))
def l_X11_oakum_45 (τ : gτ) (n : Nat) (x0 : Nat) (x1 : Int32) (x2 : Int32) (x3 : Int32) (x4 : Int32) (x5 : Int32) (x6 : Int32) (G : gG) : Option ((gG)) :=
  gIter (fun (q : Int32 × gG) => b_X11_oakum_45 τ n x0 x1 x2 x3 x4 x5 q.1 q.2) n (x6, G)
def b_X11_oakum_99 (τ : gτ) (n : Nat) (x0 : Nat) (x1 : Int32) (x2 : Int32) (x3 : Int32) (x4 : Int32) (x5 : Int32) (x6 : Int32) (x7 : Int32) (x8 : Int32) (G : gG) : Option ((Int32 × Int32 × Int32 × gG) ⊕ ((Int32 × Int32 × gG))) :=
  (f_X11_yarns τ x0 G).bind fun v15 =>
  if v15 ≤ x8 then (some (.inr (x4, x5, G)))
  else ((f_X11_fits τ x0 x6 x7 x8 x1 x2 G).bind fun v16 =>
  if v16 = 0 then (gLet (x8 + 1) fun v17 =>
  some (.inl (x4, x5, v17, G)))
  else (gLet (x4 + 1) fun v18 =>
  (gr G 11 19 x0).bind fun a19 =>
  gchk (gIn x6 (gn τ a19)) <|
  gchk (gIn x6 (gn τ a19)) <| gLet (gse G a19 (Int32.toNatClampNeg x6) ((ge G a19 (Int32.toNatClampNeg x6)) + (1 : Int32))) fun G20 =>
  (gr G20 11 19 x0).bind fun a21 =>
  gchk (gIn x7 (gn τ a21)) <|
  gchk (gIn x7 (gn τ a21)) <| gLet (gse G20 a21 (Int32.toNatClampNeg x7) ((ge G20 a21 (Int32.toNatClampNeg x7)) + (1 : Int32))) fun G22 =>
  (gr G22 11 19 x0).bind fun a23 =>
  gchk (gIn x8 (gn τ a23)) <|
  gchk (gIn x8 (gn τ a23)) <| gLet (gse G22 a23 (Int32.toNatClampNeg x8) ((ge G22 a23 (Int32.toNatClampNeg x8)) + (1 : Int32))) fun G24 =>
  gLet (x5 &&& ((((1 : Int32) <<< (x6 &&& 31)) ||| ((1 : Int32) <<< (x7 &&& 31))) ||| ((1 : Int32) <<< (x8 &&& 31)))) fun v25 =>
  gLet (x8 + 1) fun v26 =>
  some (.inl (v18, v25, v26, G24))))
def l_X11_oakum_99 (τ : gτ) (n : Nat) (x0 : Nat) (x1 : Int32) (x2 : Int32) (x3 : Int32) (x4 : Int32) (x5 : Int32) (x6 : Int32) (x7 : Int32) (x8 : Int32) (G : gG) : Option ((Int32 × Int32 × gG)) :=
  gIter (fun (q : Int32 × Int32 × Int32 × gG) => b_X11_oakum_99 τ n x0 x1 x2 x3 q.1 q.2.1 x6 x7 q.2.2.1 q.2.2.2) n (x4, x5, x8, G)
def b_X11_oakum_84 (τ : gτ) (n : Nat) (x0 : Nat) (x1 : Int32) (x2 : Int32) (x3 : Int32) (x4 : Int32) (x5 : Int32) (x6 : Int32) (x7 : Int32) (G : gG) : Option ((Int32 × Int32 × Int32 × gG) ⊕ ((Int32 × Int32 × gG))) :=
  (f_X11_yarns τ x0 G).bind fun v13 =>
  if v13 ≤ x7 then (some (.inr (x4, x5, G)))
  else (gLet (x7 + (1 : Int32)) fun v14 =>
  (l_X11_oakum_99 τ n x0 x1 x2 x3 x4 x5 x6 x7 v14 G).bind fun q => gLet q.1 fun z27 => gLet q.2.1 fun z28 => gLet q.2.2 fun G29 => 
  gLet (x7 + 1) fun v30 =>
  some (.inl (z27, z28, v30, G29)))
def l_X11_oakum_84 (τ : gτ) (n : Nat) (x0 : Nat) (x1 : Int32) (x2 : Int32) (x3 : Int32) (x4 : Int32) (x5 : Int32) (x6 : Int32) (x7 : Int32) (G : gG) : Option ((Int32 × Int32 × gG)) :=
  gIter (fun (q : Int32 × Int32 × Int32 × gG) => b_X11_oakum_84 τ n x0 x1 x2 x3 q.1 q.2.1 x6 q.2.2.1 q.2.2.2) n (x4, x5, x7, G)
def b_X11_oakum_69 (τ : gτ) (n : Nat) (x0 : Nat) (x1 : Int32) (x2 : Int32) (x3 : Int32) (x4 : Int32) (x5 : Int32) (x6 : Int32) (G : gG) : Option ((Int32 × Int32 × Int32 × gG) ⊕ ((Int32 × Int32 × gG))) :=
  (f_X11_yarns τ x0 G).bind fun v11 =>
  if v11 ≤ x6 then (some (.inr (x4, x5, G)))
  else (gLet (x6 + (1 : Int32)) fun v12 =>
  (l_X11_oakum_84 τ n x0 x1 x2 x3 x4 x5 x6 v12 G).bind fun q => gLet q.1 fun z31 => gLet q.2.1 fun z32 => gLet q.2.2 fun G33 => 
  gLet (x6 + 1) fun v34 =>
  some (.inl (z31, z32, v34, G33)))
def l_X11_oakum_69 (τ : gτ) (n : Nat) (x0 : Nat) (x1 : Int32) (x2 : Int32) (x3 : Int32) (x4 : Int32) (x5 : Int32) (x6 : Int32) (G : gG) : Option ((Int32 × Int32 × gG)) :=
  gIter (fun (q : Int32 × Int32 × Int32 × gG) => b_X11_oakum_69 τ n x0 x1 x2 x3 q.1 q.2.1 q.2.2.1 q.2.2.2) n (x4, x5, x6, G)
def b_X11_oakum_236 (τ : gτ) (n : Nat) (x0 : Nat) (x4 : Int32) (x6 : Int32) (x7 : Int32) (x8 : Int32) (G : gG) : Option ((Int32 × Int32 × Int32) ⊕ ((Int32))) :=
  (f_X11_yarns τ x0 G).bind fun v38 =>
  if v38 ≤ x8 then (some (.inr x6))
  else (if x4 ≤ (1 : Int32) then (some (.inr x6))
  else ((gr G 11 19 x0).bind fun a39 =>
  gchk (gIn x8 (gn τ a39)) <|
  (gr G 11 19 x0).bind fun a40 =>
  gchk (gIn x8 (gn τ a40)) <|
  gLet (gmax (ge G a39 (Int32.toNatClampNeg x8)) (x4 - (ge G a40 (Int32.toNatClampNeg x8)))) fun v41 =>
  if v41 < x7 then (gLet (x8 + 1) fun v42 =>
  some (.inl (x8, v41, v42)))
  else (gLet (x8 + 1) fun v43 =>
  some (.inl (x6, x7, v43)))))
def l_X11_oakum_236 (τ : gτ) (n : Nat) (x0 : Nat) (x4 : Int32) (x6 : Int32) (x7 : Int32) (x8 : Int32) (G : gG) : Option ((Int32)) :=
  gIter (fun (q : Int32 × Int32 × Int32) => b_X11_oakum_236 τ n x0 x4 q.1 q.2.1 q.2.2 G) n (x6, x7, x8)
def k_X11_oakum_199 (τ : gτ) (n : Nat) (x0 : Nat) (x3 : Int32) (x4 : Int32) (x5 : Int32)  (G : gG) : Option (Int32 × gG) :=
  if (2 : Int32) ≤ x3 then ((l_X11_oakum_236 τ n x0 x4 (-1 : Int32) (1000000 : Int32) (0 : Int32) G).bind fun q => gLet q fun z44 => 
  some (z44, G))
  else (if x3 = 0 then (some (x4, G))
  else (if x4 = 0 then (some (0, G))
  else (some (x5, G))))
def k_X11_oakum_66 (τ : gτ) (n : Nat) (x0 : Nat) (x1 : Int32) (x2 : Int32) (x3 : Int32) (x4 : Int32) (x5 : Int32)  (G : gG) : Option (Int32 × gG) :=
  (l_X11_oakum_69 τ n x0 x1 x2 x3 x4 x5 (0 : Int32) G).bind fun q => gLet q.1 fun z35 => gLet q.2.1 fun z36 => gLet q.2.2 fun G37 => 
  k_X11_oakum_199 τ n x0 x3 z35 z36  G37
def k_X11_oakum_20 (τ : gτ) (n : Nat) (x0 : Nat) (x1 : Int32) (x2 : Int32) (x3 : Int32) (s0 : Nat) (s1 : Int32) (G : gG) : Option (Int32 × gG) :=
  gBind2 (f_X11_throwsIf s0 s1 (1 : Int32) G) fun v3 G4 =>
  if v3 = 0 then ((f_X11_yarns τ x0 G4).bind fun v5 =>
  gLet (((1 : Int32) <<< (v5 &&& 31)) - (1 : Int32)) fun v6 =>
  (l_X11_oakum_45 τ n x0 x1 x2 x3 (0 : Int32) v6 (0 : Int32) G4).bind fun q => gLet q fun G10 => 
  k_X11_oakum_66 τ n x0 x1 x2 x3 (0 : Int32) v6  G10)
  else (some (0, G4))
def f_X11_oakum (τ : gτ) (n : Nat) (x0 : Nat) (x1 : Int32) (x2 : Int32) (x3 : Int32) (G : gG) : Option (Int32 × gG) :=
  gLet (gsi G 11 0 x0 (0 : Int32)) fun G1 =>
  (f_X11_in x3 (0 : Int32) (2 : Int32)).bind fun v2 =>
  if v2 = 0 then (k_X11_oakum_20 τ n x0 x1 x2 x3 x0 (1 : Int32) G1)
  else (k_X11_oakum_20 τ n x0 x1 x2 x3 x0 (0 : Int32) G1)
set_option maxHeartbeats 4000000 in
set_option maxRecDepth 100000 in
theorem w_b_X11_oakum_45 {X : gX} {τ : gτ} {p : Program} {l : Launch} {e : Env} {s : State} {m : MethodId} {args : Array Value} {below : List Frame} {meth : Method} {c : Code} (fx : gFx X p s m args meth c cX11_oakum 10 RX11) (n : Nat) (x0 : Nat) (x1 : Int32) (x2 : Int32) (x3 : Int32) (x4 : Int32) (x5 : Int32) (x6 : Int32) (h0 : gK τ x0 11) {Q : State → Prop} {K : ((Int32 × gG) ⊕ ((gG))) → Prop} {G : gG} {H : Heap} {locs : List Loc} {ls : Array Slot} (hw : gHw X τ G H locs) (hl : lv_has ls 10 [(0, .ref x0), (1, .int x1), (2, .int x2), (3, .int x3), (4, .int x4), (5, .int x5), (6, .int x6)]) (hok : gOk (b_X11_oakum_45 τ n x0 x1 x2 x3 x4 x5 x6 G) K) (hc : ∀ (y6 : Int32) (G : gG) (H : Heap) (locs : List Loc) (ls : Array Slot), gHw X τ G H locs → lv_has ls 10 [(0, .ref x0), (1, .int x1), (2, .int x2), (3, .int x3), (4, .int x4), (5, .int x5), (6, .int y6)] → K (.inl (y6, G)) → W p l e rm_X11_oakum s m args below meth c H locs 0 0 Q (F0 m 45 ls [])) (hx0 : ∀ (G : gG) (H : Heap) (locs : List Loc) (ls : Array Slot), gHw X τ G H locs → lv_has ls 10 [(0, .ref x0), (1, .int x1), (2, .int x2), (3, .int x3), (4, .int x4), (5, .int x5)] → K (.inr G) → W p l e rm_X11_oakum s m args below meth c H locs 0 0 Q (F0 m 66 ls [])) : W p l e rm_X11_oakum s m args below meth c H locs 0 0 Q (F0 m 45 ls []) := by
  unfold b_X11_oakum_45 at hok
  refine lv_iload fx.1 fx.2.1 dX11_oakum_45 (lv_at hl 6 rfl) ?_
  refine lv_bipush (v := 10) fx.1 fx.2.1 dX11_oakum_47 (by decide) ?_
  refine g_icmp_ge (tgt := 66) fx dX11_oakum_49 (by decide) hok (fun hok => ?_) (fun hok => ?_)
  · exact hx0  G _ _ _  hw (lv_sub hl [0, 1, 2, 3, 4, 5] rfl) (gOk_some hok)
  · refine lv_aload_n fx.1 fx.2.1 dX11_oakum_52 rfl (lv_at hl 0 rfl) ?_
    refine g_getr fx hw h0 lf_RX11_45 rfl dX11_oakum_53 hok (fun a7 h_a7 hok => ?_)
    refine lv_iload fx.1 fx.2.1 dX11_oakum_56 (lv_at hl 6 rfl) ?_
    refine lv_iconst (v := 0) fx.1 fx.2.1 dX11_oakum_58 (by decide) ?_
    refine g_iast fx hw h_a7 dX11_oakum_59 hok (fun G8 H locs hw hok => ?_)
    obtain ⟨v9, e_v9, hok⟩ := gOk_let hok
    refine lv_iinc (v := v9) (lv' := [(6, .int v9), (0, .ref x0), (1, .int x1), (2, .int x2), (3, .int x3), (4, .int x4), (5, .int x5)]) fx.1 fx.2.1 dX11_oakum_60 hl (k := 6) rfl (by rw [e_v9]; rfl) (by decide) rfl (fun ls hl => ?_)
    refine lv_goto (tgt := 45) fx.1 fx.2.1 dX11_oakum_63 (by decide) ?_
    exact hc v9 G8 _ _ _  hw (lv_sub hl [1, 2, 3, 4, 5, 6, 0] rfl) (gOk_some hok)
theorem w_l_X11_oakum_45 {X : gX} {τ : gτ} {p : Program} {l : Launch} {e : Env} {s : State} {m : MethodId} {args : Array Value} {below : List Frame} {meth : Method} {c : Code} (fx : gFx X p s m args meth c cX11_oakum 10 RX11) (n : Nat) (x0 : Nat) (x1 : Int32) (x2 : Int32) (x3 : Int32) (x4 : Int32) (x5 : Int32) (h0 : gK τ x0 11) {Q : State → Prop} {K : ((gG)) → Prop} (hx0 : ∀ (G : gG) (H : Heap) (locs : List Loc) (ls : Array Slot), gHw X τ G H locs → lv_has ls 10 [(0, .ref x0), (1, .int x1), (2, .int x2), (3, .int x3), (4, .int x4), (5, .int x5)] → K G → W p l e rm_X11_oakum s m args below meth c H locs 0 0 Q (F0 m 66 ls [])) : ∀ (k : Nat) (x6 : Int32) (G : gG) (H : Heap) (locs : List Loc) (ls : Array Slot), gHw X τ G H locs → lv_has ls 10 [(0, .ref x0), (1, .int x1), (2, .int x2), (3, .int x3), (4, .int x4), (5, .int x5), (6, .int x6)] → gOk (gIter (fun (q : Int32 × gG) => b_X11_oakum_45 τ n x0 x1 x2 x3 x4 x5 q.1 q.2) k (x6, G)) K → W p l e rm_X11_oakum s m args below meth c H locs 0 0 Q (F0 m 45 ls []) := by
  intro k
  induction k with
  | zero =>
    intro x6 G H locs ls hw hl hok
    exact gOk_iter0 hok
  | succ k hc =>
    intro x6 G H locs ls hw hl hok
    exact w_b_X11_oakum_45 fx n x0 x1 x2 x3 x4 x5 x6 h0 hw hl (gOk_iter hok) hc hx0
set_option maxHeartbeats 4000000 in
set_option maxRecDepth 100000 in
theorem w_b_X11_oakum_99 {X : gX} {τ : gτ} {p : Program} {l : Launch} {e : Env} {s : State} {m : MethodId} {args : Array Value} {below : List Frame} {meth : Method} {c : Code} (fx : gFx X p s m args meth c cX11_oakum 10 RX11) (n : Nat) (x0 : Nat) (x1 : Int32) (x2 : Int32) (x3 : Int32) (x4 : Int32) (x5 : Int32) (x6 : Int32) (x7 : Int32) (x8 : Int32) (h0 : gK τ x0 11) {Q : State → Prop} {K : ((Int32 × Int32 × Int32 × gG) ⊕ ((Int32 × Int32 × gG))) → Prop} {G : gG} {H : Heap} {locs : List Loc} {ls : Array Slot} (hw : gHw X τ G H locs) (hl : lv_has ls 10 [(0, .ref x0), (1, .int x1), (2, .int x2), (3, .int x3), (4, .int x4), (5, .int x5), (6, .int x6), (7, .int x7), (8, .int x8)]) (hok : gOk (b_X11_oakum_99 τ n x0 x1 x2 x3 x4 x5 x6 x7 x8 G) K) (hc : ∀ (y4 : Int32) (y5 : Int32) (y8 : Int32) (G : gG) (H : Heap) (locs : List Loc) (ls : Array Slot), gHw X τ G H locs → lv_has ls 10 [(0, .ref x0), (1, .int x1), (2, .int x2), (3, .int x3), (4, .int y4), (5, .int y5), (6, .int x6), (7, .int x7), (8, .int y8)] → K (.inl (y4, y5, y8, G)) → W p l e rm_X11_oakum s m args below meth c H locs 0 0 Q (F0 m 99 ls [])) (hx0 : ∀ (y4 : Int32) (y5 : Int32) (G : gG) (H : Heap) (locs : List Loc) (ls : Array Slot), gHw X τ G H locs → lv_has ls 10 [(0, .ref x0), (1, .int x1), (2, .int x2), (3, .int x3), (4, .int y4), (5, .int y5), (6, .int x6), (7, .int x7)] → K (.inr (y4, y5, G)) → W p l e rm_X11_oakum s m args below meth c H locs 0 0 Q (F0 m 187 ls [])) : W p l e rm_X11_oakum s m args below meth c H locs 0 0 Q (F0 m 99 ls []) := by
  unfold b_X11_oakum_99 at hok
  refine lv_iload fx.1 fx.2.1 dX11_oakum_99 (lv_at hl 8 rfl) ?_
  refine lv_aload_n fx.1 fx.2.1 dX11_oakum_101 rfl (lv_at hl 0 rfl) ?_
  obtain ⟨v15, hf, hok⟩ := gOk_bind hok
  refine g_callV0 (κ := 11) fx hw (c_X11_yarns l X τ x0 G h0 hf) lv_RX11_65 ⟨rfl, rfl⟩ rfl rfl h0 rfl hl.1 rfl ⟨Nat.le_of_ble_eq_true rfl, Nat.le_of_ble_eq_true rfl⟩ (Nat.le_of_ble_eq_true rfl) ⟨Nat.le_of_ble_eq_true rfl, Nat.le_of_ble_eq_true rfl⟩ dX11_oakum_102 (fun H locs hw => ?_)
  refine g_icmp_ge (tgt := 187) fx dX11_oakum_105 (by decide) hok (fun hok => ?_) (fun hok => ?_)
  · exact hx0 x4 x5 G _ _ _  hw (lv_sub hl [0, 1, 2, 3, 4, 5, 6, 7] rfl) (gOk_some hok)
  · refine lv_aload_n fx.1 fx.2.1 dX11_oakum_108 rfl (lv_at hl 0 rfl) ?_
    refine lv_iload fx.1 fx.2.1 dX11_oakum_109 (lv_at hl 6 rfl) ?_
    refine lv_iload fx.1 fx.2.1 dX11_oakum_111 (lv_at hl 7 rfl) ?_
    refine lv_iload fx.1 fx.2.1 dX11_oakum_113 (lv_at hl 8 rfl) ?_
    refine lv_iload_n fx.1 fx.2.1 dX11_oakum_115 rfl (lv_at hl 1 rfl) ?_
    refine lv_iload_n fx.1 fx.2.1 dX11_oakum_116 rfl (lv_at hl 2 rfl) ?_
    obtain ⟨v16, hf, hok⟩ := gOk_bind hok
    refine g_callV0 (κ := 11) fx hw (c_X11_fits l X τ x0 x6 x7 x8 x1 x2 G h0 hf) lv_RX11_404 ⟨rfl, rfl⟩ rfl rfl h0 rfl hl.1 rfl ⟨Nat.le_of_ble_eq_true rfl, Nat.le_of_ble_eq_true rfl⟩ (Nat.le_of_ble_eq_true rfl) ⟨Nat.le_of_ble_eq_true rfl, Nat.le_of_ble_eq_true rfl⟩ dX11_oakum_117 (fun H locs hw => ?_)
    refine g_if_ne (tgt := 126) fx dX11_oakum_120 (by decide) hok (fun hok => ?_) (fun hok => ?_)
    · refine lv_goto (tgt := 181) fx.1 fx.2.1 dX11_oakum_123 (by decide) ?_
      obtain ⟨v17, e_v17, hok⟩ := gOk_let hok
      refine lv_iinc (v := v17) (lv' := [(8, .int v17), (0, .ref x0), (1, .int x1), (2, .int x2), (3, .int x3), (4, .int x4), (5, .int x5), (6, .int x6), (7, .int x7)]) fx.1 fx.2.1 dX11_oakum_181 hl (k := 8) rfl (by rw [e_v17]; rfl) (by decide) rfl (fun ls hl => ?_)
      refine lv_goto (tgt := 99) fx.1 fx.2.1 dX11_oakum_184 (by decide) ?_
      exact hc x4 x5 v17 G _ _ _  hw (lv_sub hl [1, 2, 3, 4, 5, 6, 7, 8, 0] rfl) (gOk_some hok)
    · obtain ⟨v18, e_v18, hok⟩ := gOk_let hok
      refine lv_iinc (v := v18) (lv' := [(4, .int v18), (0, .ref x0), (1, .int x1), (2, .int x2), (3, .int x3), (5, .int x5), (6, .int x6), (7, .int x7), (8, .int x8)]) fx.1 fx.2.1 dX11_oakum_126 hl (k := 4) rfl (by rw [e_v18]; rfl) (by decide) rfl (fun ls hl => ?_)
      refine lv_aload_n fx.1 fx.2.1 dX11_oakum_129 rfl (lv_at hl 1 rfl) ?_
      refine g_getr fx hw h0 lf_RX11_45 rfl dX11_oakum_130 hok (fun a19 h_a19 hok => ?_)
      refine lv_iload fx.1 fx.2.1 dX11_oakum_133 (lv_at hl 6 rfl) ?_
      refine lv_dup2_11 fx.1 fx.2.1 dX11_oakum_135 rfl rfl ?_
      refine g_iald fx hw h_a19 dX11_oakum_136 hok (fun hok => ?_)
      refine lv_iconst (v := 1) fx.1 fx.2.1 dX11_oakum_137 (by decide) ?_
      refine lv_iadd fx.1 fx.2.1 dX11_oakum_138 ?_
      refine g_iast fx hw h_a19 dX11_oakum_139 hok (fun G20 H locs hw hok => ?_)
      refine lv_aload_n fx.1 fx.2.1 dX11_oakum_140 rfl (lv_at hl 1 rfl) ?_
      refine g_getr fx hw h0 lf_RX11_45 rfl dX11_oakum_141 hok (fun a21 h_a21 hok => ?_)
      refine lv_iload fx.1 fx.2.1 dX11_oakum_144 (lv_at hl 7 rfl) ?_
      refine lv_dup2_11 fx.1 fx.2.1 dX11_oakum_146 rfl rfl ?_
      refine g_iald fx hw h_a21 dX11_oakum_147 hok (fun hok => ?_)
      refine lv_iconst (v := 1) fx.1 fx.2.1 dX11_oakum_148 (by decide) ?_
      refine lv_iadd fx.1 fx.2.1 dX11_oakum_149 ?_
      refine g_iast fx hw h_a21 dX11_oakum_150 hok (fun G22 H locs hw hok => ?_)
      refine lv_aload_n fx.1 fx.2.1 dX11_oakum_151 rfl (lv_at hl 1 rfl) ?_
      refine g_getr fx hw h0 lf_RX11_45 rfl dX11_oakum_152 hok (fun a23 h_a23 hok => ?_)
      refine lv_iload fx.1 fx.2.1 dX11_oakum_155 (lv_at hl 8 rfl) ?_
      refine lv_dup2_11 fx.1 fx.2.1 dX11_oakum_157 rfl rfl ?_
      refine g_iald fx hw h_a23 dX11_oakum_158 hok (fun hok => ?_)
      refine lv_iconst (v := 1) fx.1 fx.2.1 dX11_oakum_159 (by decide) ?_
      refine lv_iadd fx.1 fx.2.1 dX11_oakum_160 ?_
      refine g_iast fx hw h_a23 dX11_oakum_161 hok (fun G24 H locs hw hok => ?_)
      refine lv_iload fx.1 fx.2.1 dX11_oakum_162 (lv_at hl 5 rfl) ?_
      refine lv_iconst (v := 1) fx.1 fx.2.1 dX11_oakum_164 (by decide) ?_
      refine lv_iload fx.1 fx.2.1 dX11_oakum_165 (lv_at hl 6 rfl) ?_
      refine lv_ishl fx.1 fx.2.1 dX11_oakum_167 ?_
      refine lv_iconst (v := 1) fx.1 fx.2.1 dX11_oakum_168 (by decide) ?_
      refine lv_iload fx.1 fx.2.1 dX11_oakum_169 (lv_at hl 7 rfl) ?_
      refine lv_ishl fx.1 fx.2.1 dX11_oakum_171 ?_
      refine lv_ior fx.1 fx.2.1 dX11_oakum_172 ?_
      refine lv_iconst (v := 1) fx.1 fx.2.1 dX11_oakum_173 (by decide) ?_
      refine lv_iload fx.1 fx.2.1 dX11_oakum_174 (lv_at hl 8 rfl) ?_
      refine lv_ishl fx.1 fx.2.1 dX11_oakum_176 ?_
      refine lv_ior fx.1 fx.2.1 dX11_oakum_177 ?_
      refine lv_iand fx.1 fx.2.1 dX11_oakum_178 ?_
      refine g_leti hok (fun v25 hok => ?_)
      refine lv_istore (lv' := [(5, .int v25), (4, .int v18), (0, .ref x0), (1, .int x1), (2, .int x2), (3, .int x3), (6, .int x6), (7, .int x7), (8, .int x8)]) fx.1 fx.2.1 dX11_oakum_179 hl (by decide) rfl (fun ls hl => ?_)
      obtain ⟨v26, e_v26, hok⟩ := gOk_let hok
      refine lv_iinc (v := v26) (lv' := [(8, .int v26), (5, .int v25), (4, .int v18), (0, .ref x0), (1, .int x1), (2, .int x2), (3, .int x3), (6, .int x6), (7, .int x7)]) fx.1 fx.2.1 dX11_oakum_181 hl (k := 8) rfl (by rw [e_v26]; rfl) (by decide) rfl (fun ls hl => ?_)
      refine lv_goto (tgt := 99) fx.1 fx.2.1 dX11_oakum_184 (by decide) ?_
      exact hc v18 v25 v26 G24 _ _ _  hw (lv_sub hl [3, 4, 5, 6, 2, 1, 7, 8, 0] rfl) (gOk_some hok)
theorem w_l_X11_oakum_99 {X : gX} {τ : gτ} {p : Program} {l : Launch} {e : Env} {s : State} {m : MethodId} {args : Array Value} {below : List Frame} {meth : Method} {c : Code} (fx : gFx X p s m args meth c cX11_oakum 10 RX11) (n : Nat) (x0 : Nat) (x1 : Int32) (x2 : Int32) (x3 : Int32) (x6 : Int32) (x7 : Int32) (h0 : gK τ x0 11) {Q : State → Prop} {K : ((Int32 × Int32 × gG)) → Prop} (hx0 : ∀ (y4 : Int32) (y5 : Int32) (G : gG) (H : Heap) (locs : List Loc) (ls : Array Slot), gHw X τ G H locs → lv_has ls 10 [(0, .ref x0), (1, .int x1), (2, .int x2), (3, .int x3), (4, .int y4), (5, .int y5), (6, .int x6), (7, .int x7)] → K (y4, y5, G) → W p l e rm_X11_oakum s m args below meth c H locs 0 0 Q (F0 m 187 ls [])) : ∀ (k : Nat) (x4 : Int32) (x5 : Int32) (x8 : Int32) (G : gG) (H : Heap) (locs : List Loc) (ls : Array Slot), gHw X τ G H locs → lv_has ls 10 [(0, .ref x0), (1, .int x1), (2, .int x2), (3, .int x3), (4, .int x4), (5, .int x5), (6, .int x6), (7, .int x7), (8, .int x8)] → gOk (gIter (fun (q : Int32 × Int32 × Int32 × gG) => b_X11_oakum_99 τ n x0 x1 x2 x3 q.1 q.2.1 x6 x7 q.2.2.1 q.2.2.2) k (x4, x5, x8, G)) K → W p l e rm_X11_oakum s m args below meth c H locs 0 0 Q (F0 m 99 ls []) := by
  intro k
  induction k with
  | zero =>
    intro x4 x5 x8 G H locs ls hw hl hok
    exact gOk_iter0 hok
  | succ k hc =>
    intro x4 x5 x8 G H locs ls hw hl hok
    exact w_b_X11_oakum_99 fx n x0 x1 x2 x3 x4 x5 x6 x7 x8 h0 hw hl (gOk_iter hok) hc hx0
set_option maxHeartbeats 4000000 in
set_option maxRecDepth 100000 in
theorem w_b_X11_oakum_84 {X : gX} {τ : gτ} {p : Program} {l : Launch} {e : Env} {s : State} {m : MethodId} {args : Array Value} {below : List Frame} {meth : Method} {c : Code} (fx : gFx X p s m args meth c cX11_oakum 10 RX11) (n : Nat) (x0 : Nat) (x1 : Int32) (x2 : Int32) (x3 : Int32) (x4 : Int32) (x5 : Int32) (x6 : Int32) (x7 : Int32) (h0 : gK τ x0 11) {Q : State → Prop} {K : ((Int32 × Int32 × Int32 × gG) ⊕ ((Int32 × Int32 × gG))) → Prop} {G : gG} {H : Heap} {locs : List Loc} {ls : Array Slot} (hw : gHw X τ G H locs) (hl : lv_has ls 10 [(0, .ref x0), (1, .int x1), (2, .int x2), (3, .int x3), (4, .int x4), (5, .int x5), (6, .int x6), (7, .int x7)]) (hok : gOk (b_X11_oakum_84 τ n x0 x1 x2 x3 x4 x5 x6 x7 G) K) (hc : ∀ (y4 : Int32) (y5 : Int32) (y7 : Int32) (G : gG) (H : Heap) (locs : List Loc) (ls : Array Slot), gHw X τ G H locs → lv_has ls 10 [(0, .ref x0), (1, .int x1), (2, .int x2), (3, .int x3), (4, .int y4), (5, .int y5), (6, .int x6), (7, .int y7)] → K (.inl (y4, y5, y7, G)) → W p l e rm_X11_oakum s m args below meth c H locs 0 0 Q (F0 m 84 ls [])) (hx0 : ∀ (y4 : Int32) (y5 : Int32) (G : gG) (H : Heap) (locs : List Loc) (ls : Array Slot), gHw X τ G H locs → lv_has ls 10 [(0, .ref x0), (1, .int x1), (2, .int x2), (3, .int x3), (4, .int y4), (5, .int y5), (6, .int x6)] → K (.inr (y4, y5, G)) → W p l e rm_X11_oakum s m args below meth c H locs 0 0 Q (F0 m 193 ls [])) : W p l e rm_X11_oakum s m args below meth c H locs 0 0 Q (F0 m 84 ls []) := by
  unfold b_X11_oakum_84 at hok
  refine lv_iload fx.1 fx.2.1 dX11_oakum_84 (lv_at hl 7 rfl) ?_
  refine lv_aload_n fx.1 fx.2.1 dX11_oakum_86 rfl (lv_at hl 0 rfl) ?_
  obtain ⟨v13, hf, hok⟩ := gOk_bind hok
  refine g_callV0 (κ := 11) fx hw (c_X11_yarns l X τ x0 G h0 hf) lv_RX11_65 ⟨rfl, rfl⟩ rfl rfl h0 rfl hl.1 rfl ⟨Nat.le_of_ble_eq_true rfl, Nat.le_of_ble_eq_true rfl⟩ (Nat.le_of_ble_eq_true rfl) ⟨Nat.le_of_ble_eq_true rfl, Nat.le_of_ble_eq_true rfl⟩ dX11_oakum_87 (fun H locs hw => ?_)
  refine g_icmp_ge (tgt := 193) fx dX11_oakum_90 (by decide) hok (fun hok => ?_) (fun hok => ?_)
  · exact hx0 x4 x5 G _ _ _  hw (lv_sub hl [0, 1, 2, 3, 4, 5, 6] rfl) (gOk_some hok)
  · refine lv_iload fx.1 fx.2.1 dX11_oakum_93 (lv_at hl 7 rfl) ?_
    refine lv_iconst (v := 1) fx.1 fx.2.1 dX11_oakum_95 (by decide) ?_
    refine lv_iadd fx.1 fx.2.1 dX11_oakum_96 ?_
    refine g_leti hok (fun v14 hok => ?_)
    refine lv_istore (lv' := [(8, .int v14), (0, .ref x0), (1, .int x1), (2, .int x2), (3, .int x3), (4, .int x4), (5, .int x5), (6, .int x6), (7, .int x7)]) fx.1 fx.2.1 dX11_oakum_97 hl (by decide) rfl (fun ls hl => ?_)
    refine w_l_X11_oakum_99 fx n x0 x1 x2 x3 x6 x7 h0 ?_ n x4 x5 v14 G _ _ _  hw (lv_sub hl [1, 2, 3, 4, 5, 6, 7, 8, 0] rfl) (gOk_bindK hok)
    intro z27 z28 G29 H locs ls hw hl hok
    have hok : gOk (ρ := (Int32 × Int32 × Int32 × gG) ⊕ ((Int32 × Int32 × gG))) (gLet (x7 + 1) fun v30 =>   some (.inl (z27, z28, v30, G29))) _ := hok
    obtain ⟨v30, e_v30, hok⟩ := gOk_let hok
    refine lv_iinc (v := v30) (lv' := [(7, .int v30), (0, .ref x0), (1, .int x1), (2, .int x2), (3, .int x3), (4, .int z27), (5, .int z28), (6, .int x6)]) fx.1 fx.2.1 dX11_oakum_187 hl (k := 7) rfl (by rw [e_v30]; rfl) (by decide) rfl (fun ls hl => ?_)
    refine lv_goto (tgt := 84) fx.1 fx.2.1 dX11_oakum_190 (by decide) ?_
    exact hc z27 z28 v30 G29 _ _ _  hw (lv_sub hl [1, 2, 3, 4, 5, 6, 7, 0] rfl) (gOk_some hok)
theorem w_l_X11_oakum_84 {X : gX} {τ : gτ} {p : Program} {l : Launch} {e : Env} {s : State} {m : MethodId} {args : Array Value} {below : List Frame} {meth : Method} {c : Code} (fx : gFx X p s m args meth c cX11_oakum 10 RX11) (n : Nat) (x0 : Nat) (x1 : Int32) (x2 : Int32) (x3 : Int32) (x6 : Int32) (h0 : gK τ x0 11) {Q : State → Prop} {K : ((Int32 × Int32 × gG)) → Prop} (hx0 : ∀ (y4 : Int32) (y5 : Int32) (G : gG) (H : Heap) (locs : List Loc) (ls : Array Slot), gHw X τ G H locs → lv_has ls 10 [(0, .ref x0), (1, .int x1), (2, .int x2), (3, .int x3), (4, .int y4), (5, .int y5), (6, .int x6)] → K (y4, y5, G) → W p l e rm_X11_oakum s m args below meth c H locs 0 0 Q (F0 m 193 ls [])) : ∀ (k : Nat) (x4 : Int32) (x5 : Int32) (x7 : Int32) (G : gG) (H : Heap) (locs : List Loc) (ls : Array Slot), gHw X τ G H locs → lv_has ls 10 [(0, .ref x0), (1, .int x1), (2, .int x2), (3, .int x3), (4, .int x4), (5, .int x5), (6, .int x6), (7, .int x7)] → gOk (gIter (fun (q : Int32 × Int32 × Int32 × gG) => b_X11_oakum_84 τ n x0 x1 x2 x3 q.1 q.2.1 x6 q.2.2.1 q.2.2.2) k (x4, x5, x7, G)) K → W p l e rm_X11_oakum s m args below meth c H locs 0 0 Q (F0 m 84 ls []) := by
  intro k
  induction k with
  | zero =>
    intro x4 x5 x7 G H locs ls hw hl hok
    exact gOk_iter0 hok
  | succ k hc =>
    intro x4 x5 x7 G H locs ls hw hl hok
    exact w_b_X11_oakum_84 fx n x0 x1 x2 x3 x4 x5 x6 x7 h0 hw hl (gOk_iter hok) hc hx0
set_option maxHeartbeats 4000000 in
set_option maxRecDepth 100000 in
theorem w_b_X11_oakum_69 {X : gX} {τ : gτ} {p : Program} {l : Launch} {e : Env} {s : State} {m : MethodId} {args : Array Value} {below : List Frame} {meth : Method} {c : Code} (fx : gFx X p s m args meth c cX11_oakum 10 RX11) (n : Nat) (x0 : Nat) (x1 : Int32) (x2 : Int32) (x3 : Int32) (x4 : Int32) (x5 : Int32) (x6 : Int32) (h0 : gK τ x0 11) {Q : State → Prop} {K : ((Int32 × Int32 × Int32 × gG) ⊕ ((Int32 × Int32 × gG))) → Prop} {G : gG} {H : Heap} {locs : List Loc} {ls : Array Slot} (hw : gHw X τ G H locs) (hl : lv_has ls 10 [(0, .ref x0), (1, .int x1), (2, .int x2), (3, .int x3), (4, .int x4), (5, .int x5), (6, .int x6)]) (hok : gOk (b_X11_oakum_69 τ n x0 x1 x2 x3 x4 x5 x6 G) K) (hc : ∀ (y4 : Int32) (y5 : Int32) (y6 : Int32) (G : gG) (H : Heap) (locs : List Loc) (ls : Array Slot), gHw X τ G H locs → lv_has ls 10 [(0, .ref x0), (1, .int x1), (2, .int x2), (3, .int x3), (4, .int y4), (5, .int y5), (6, .int y6)] → K (.inl (y4, y5, y6, G)) → W p l e rm_X11_oakum s m args below meth c H locs 0 0 Q (F0 m 69 ls [])) (hx0 : ∀ (y4 : Int32) (y5 : Int32) (G : gG) (H : Heap) (locs : List Loc) (ls : Array Slot), gHw X τ G H locs → lv_has ls 10 [(0, .ref x0), (3, .int x3), (4, .int y4), (5, .int y5)] → K (.inr (y4, y5, G)) → W p l e rm_X11_oakum s m args below meth c H locs 0 0 Q (F0 m 199 ls [])) : W p l e rm_X11_oakum s m args below meth c H locs 0 0 Q (F0 m 69 ls []) := by
  unfold b_X11_oakum_69 at hok
  refine lv_iload fx.1 fx.2.1 dX11_oakum_69 (lv_at hl 6 rfl) ?_
  refine lv_aload_n fx.1 fx.2.1 dX11_oakum_71 rfl (lv_at hl 0 rfl) ?_
  obtain ⟨v11, hf, hok⟩ := gOk_bind hok
  refine g_callV0 (κ := 11) fx hw (c_X11_yarns l X τ x0 G h0 hf) lv_RX11_65 ⟨rfl, rfl⟩ rfl rfl h0 rfl hl.1 rfl ⟨Nat.le_of_ble_eq_true rfl, Nat.le_of_ble_eq_true rfl⟩ (Nat.le_of_ble_eq_true rfl) ⟨Nat.le_of_ble_eq_true rfl, Nat.le_of_ble_eq_true rfl⟩ dX11_oakum_72 (fun H locs hw => ?_)
  refine g_icmp_ge (tgt := 199) fx dX11_oakum_75 (by decide) hok (fun hok => ?_) (fun hok => ?_)
  · exact hx0 x4 x5 G _ _ _  hw (lv_sub hl [0, 3, 4, 5] rfl) (gOk_some hok)
  · refine lv_iload fx.1 fx.2.1 dX11_oakum_78 (lv_at hl 6 rfl) ?_
    refine lv_iconst (v := 1) fx.1 fx.2.1 dX11_oakum_80 (by decide) ?_
    refine lv_iadd fx.1 fx.2.1 dX11_oakum_81 ?_
    refine g_leti hok (fun v12 hok => ?_)
    refine lv_istore (lv' := [(7, .int v12), (0, .ref x0), (1, .int x1), (2, .int x2), (3, .int x3), (4, .int x4), (5, .int x5), (6, .int x6)]) fx.1 fx.2.1 dX11_oakum_82 hl (by decide) rfl (fun ls hl => ?_)
    refine w_l_X11_oakum_84 fx n x0 x1 x2 x3 x6 h0 ?_ n x4 x5 v12 G _ _ _  hw (lv_sub hl [1, 2, 3, 4, 5, 6, 7, 0] rfl) (gOk_bindK hok)
    intro z31 z32 G33 H locs ls hw hl hok
    have hok : gOk (ρ := (Int32 × Int32 × Int32 × gG) ⊕ ((Int32 × Int32 × gG))) (gLet (x6 + 1) fun v34 =>   some (.inl (z31, z32, v34, G33))) _ := hok
    obtain ⟨v34, e_v34, hok⟩ := gOk_let hok
    refine lv_iinc (v := v34) (lv' := [(6, .int v34), (0, .ref x0), (1, .int x1), (2, .int x2), (3, .int x3), (4, .int z31), (5, .int z32)]) fx.1 fx.2.1 dX11_oakum_193 hl (k := 6) rfl (by rw [e_v34]; rfl) (by decide) rfl (fun ls hl => ?_)
    refine lv_goto (tgt := 69) fx.1 fx.2.1 dX11_oakum_196 (by decide) ?_
    exact hc z31 z32 v34 G33 _ _ _  hw (lv_sub hl [1, 2, 3, 4, 5, 6, 0] rfl) (gOk_some hok)
theorem w_l_X11_oakum_69 {X : gX} {τ : gτ} {p : Program} {l : Launch} {e : Env} {s : State} {m : MethodId} {args : Array Value} {below : List Frame} {meth : Method} {c : Code} (fx : gFx X p s m args meth c cX11_oakum 10 RX11) (n : Nat) (x0 : Nat) (x1 : Int32) (x2 : Int32) (x3 : Int32) (h0 : gK τ x0 11) {Q : State → Prop} {K : ((Int32 × Int32 × gG)) → Prop} (hx0 : ∀ (y4 : Int32) (y5 : Int32) (G : gG) (H : Heap) (locs : List Loc) (ls : Array Slot), gHw X τ G H locs → lv_has ls 10 [(0, .ref x0), (3, .int x3), (4, .int y4), (5, .int y5)] → K (y4, y5, G) → W p l e rm_X11_oakum s m args below meth c H locs 0 0 Q (F0 m 199 ls [])) : ∀ (k : Nat) (x4 : Int32) (x5 : Int32) (x6 : Int32) (G : gG) (H : Heap) (locs : List Loc) (ls : Array Slot), gHw X τ G H locs → lv_has ls 10 [(0, .ref x0), (1, .int x1), (2, .int x2), (3, .int x3), (4, .int x4), (5, .int x5), (6, .int x6)] → gOk (gIter (fun (q : Int32 × Int32 × Int32 × gG) => b_X11_oakum_69 τ n x0 x1 x2 x3 q.1 q.2.1 q.2.2.1 q.2.2.2) k (x4, x5, x6, G)) K → W p l e rm_X11_oakum s m args below meth c H locs 0 0 Q (F0 m 69 ls []) := by
  intro k
  induction k with
  | zero =>
    intro x4 x5 x6 G H locs ls hw hl hok
    exact gOk_iter0 hok
  | succ k hc =>
    intro x4 x5 x6 G H locs ls hw hl hok
    exact w_b_X11_oakum_69 fx n x0 x1 x2 x3 x4 x5 x6 h0 hw hl (gOk_iter hok) hc hx0
set_option maxHeartbeats 4000000 in
set_option maxRecDepth 100000 in
theorem w_b_X11_oakum_236 {X : gX} {τ : gτ} {p : Program} {l : Launch} {e : Env} {s : State} {m : MethodId} {args : Array Value} {below : List Frame} {meth : Method} {c : Code} (fx : gFx X p s m args meth c cX11_oakum 10 RX11) (n : Nat) (x0 : Nat) (x4 : Int32) (x6 : Int32) (x7 : Int32) (x8 : Int32) (h0 : gK τ x0 11) {Q : State → Prop} {K : ((Int32 × Int32 × Int32) ⊕ ((Int32))) → Prop} {G : gG} {H : Heap} {locs : List Loc} {ls : Array Slot} (hw : gHw X τ G H locs) (hl : lv_has ls 10 [(0, .ref x0), (4, .int x4), (6, .int x6), (7, .int x7), (8, .int x8)]) (hok : gOk (b_X11_oakum_236 τ n x0 x4 x6 x7 x8 G) K) (hc : ∀ (y6 : Int32) (y7 : Int32) (y8 : Int32) (H : Heap) (locs : List Loc) (ls : Array Slot), gHw X τ G H locs → lv_has ls 10 [(0, .ref x0), (4, .int x4), (6, .int y6), (7, .int y7), (8, .int y8)] → K (.inl (y6, y7, y8)) → W p l e rm_X11_oakum s m args below meth c H locs 0 0 Q (F0 m 236 ls [])) (hx0 : ∀ (y6 : Int32) (H : Heap) (locs : List Loc) (ls : Array Slot), gHw X τ G H locs → lv_has ls 10 [(6, .int y6)] → K (.inr y6) → W p l e rm_X11_oakum s m args below meth c H locs 0 0 Q (F0 m 297 ls [])) : W p l e rm_X11_oakum s m args below meth c H locs 0 0 Q (F0 m 236 ls []) := by
  unfold b_X11_oakum_236 at hok
  refine lv_iload fx.1 fx.2.1 dX11_oakum_236 (lv_at hl 4 rfl) ?_
  refine lv_aload_n fx.1 fx.2.1 dX11_oakum_238 rfl (lv_at hl 0 rfl) ?_
  obtain ⟨v38, hf, hok⟩ := gOk_bind hok
  refine g_callV0 (κ := 11) fx hw (c_X11_yarns l X τ x0 G h0 hf) lv_RX11_65 ⟨rfl, rfl⟩ rfl rfl h0 rfl hl.1 rfl ⟨Nat.le_of_ble_eq_true rfl, Nat.le_of_ble_eq_true rfl⟩ (Nat.le_of_ble_eq_true rfl) ⟨Nat.le_of_ble_eq_true rfl, Nat.le_of_ble_eq_true rfl⟩ dX11_oakum_239 (fun H locs hw => ?_)
  refine g_icmp_ge (tgt := 297) fx dX11_oakum_242 (by decide) hok (fun hok => ?_) (fun hok => ?_)
  · exact hx0 x6  _ _ _  hw (lv_sub hl [2] rfl) (gOk_some hok)
  · refine lv_iload fx.1 fx.2.1 dX11_oakum_245 (lv_at hl 1 rfl) ?_
    refine lv_iconst (v := 1) fx.1 fx.2.1 dX11_oakum_247 (by decide) ?_
    refine g_icmp_le (tgt := 297) fx dX11_oakum_248 (by decide) hok (fun hok => ?_) (fun hok => ?_)
    · exact hx0 x6  _ _ _  hw (lv_sub hl [2] rfl) (gOk_some hok)
    · refine lv_aload_n fx.1 fx.2.1 dX11_oakum_251 rfl (lv_at hl 0 rfl) ?_
      refine g_getr fx hw h0 lf_RX11_45 rfl dX11_oakum_252 hok (fun a39 h_a39 hok => ?_)
      refine lv_iload fx.1 fx.2.1 dX11_oakum_255 (lv_at hl 4 rfl) ?_
      refine g_iald fx hw h_a39 dX11_oakum_257 hok (fun hok => ?_)
      refine lv_iload fx.1 fx.2.1 dX11_oakum_258 (lv_at hl 1 rfl) ?_
      refine lv_aload_n fx.1 fx.2.1 dX11_oakum_260 rfl (lv_at hl 0 rfl) ?_
      refine g_getr fx hw h0 lf_RX11_45 rfl dX11_oakum_261 hok (fun a40 h_a40 hok => ?_)
      refine lv_iload fx.1 fx.2.1 dX11_oakum_264 (lv_at hl 4 rfl) ?_
      refine g_iald fx hw h_a40 dX11_oakum_266 hok (fun hok => ?_)
      refine lv_isub fx.1 fx.2.1 dX11_oakum_267 ?_
      refine g_mmax fx hl.1 lm_RX11_270 lmst_max lm_init lmco_max ⟨Nat.le_of_ble_eq_true rfl, Nat.le_of_ble_eq_true rfl, Nat.le_of_ble_eq_true rfl, Nat.le_of_ble_eq_true rfl⟩ dX11_oakum_268 ?_
      refine g_leti hok (fun v41 hok => ?_)
      refine lv_istore (lv' := [(9, .int v41), (0, .ref x0), (4, .int x4), (6, .int x6), (7, .int x7), (8, .int x8)]) fx.1 fx.2.1 dX11_oakum_271 hl (by decide) rfl (fun ls hl => ?_)
      refine lv_iload fx.1 fx.2.1 dX11_oakum_273 (lv_at hl 0 rfl) ?_
      refine lv_iload fx.1 fx.2.1 dX11_oakum_275 (lv_at hl 4 rfl) ?_
      refine g_icmp_lt (tgt := 283) fx dX11_oakum_277 (by decide) hok (fun hok => ?_) (fun hok => ?_)
      · refine lv_iload fx.1 fx.2.1 dX11_oakum_283 (lv_at hl 5 rfl) ?_
        refine lv_istore (lv' := [(6, .int x8), (9, .int v41), (0, .ref x0), (4, .int x4), (7, .int x7), (8, .int x8)]) fx.1 fx.2.1 dX11_oakum_285 hl (by decide) rfl (fun ls hl => ?_)
        refine lv_iload fx.1 fx.2.1 dX11_oakum_287 (lv_at hl 1 rfl) ?_
        refine lv_istore (lv' := [(7, .int v41), (6, .int x8), (9, .int v41), (0, .ref x0), (4, .int x4), (8, .int x8)]) fx.1 fx.2.1 dX11_oakum_289 hl (by decide) rfl (fun ls hl => ?_)
        obtain ⟨v42, e_v42, hok⟩ := gOk_let hok
        refine lv_iinc (v := v42) (lv' := [(8, .int v42), (7, .int v41), (6, .int x8), (9, .int v41), (0, .ref x0), (4, .int x4)]) fx.1 fx.2.1 dX11_oakum_291 hl (k := 5) rfl (by rw [e_v42]; rfl) (by decide) rfl (fun ls hl => ?_)
        refine lv_goto (tgt := 236) fx.1 fx.2.1 dX11_oakum_294 (by decide) ?_
        exact hc x8 v41 v42  _ _ _  hw (lv_sub hl [4, 5, 2, 1, 0] rfl) (gOk_some hok)
      · refine lv_goto (tgt := 291) fx.1 fx.2.1 dX11_oakum_280 (by decide) ?_
        obtain ⟨v43, e_v43, hok⟩ := gOk_let hok
        refine lv_iinc (v := v43) (lv' := [(8, .int v43), (9, .int v41), (0, .ref x0), (4, .int x4), (6, .int x6), (7, .int x7)]) fx.1 fx.2.1 dX11_oakum_291 hl (k := 5) rfl (by rw [e_v43]; rfl) (by decide) rfl (fun ls hl => ?_)
        refine lv_goto (tgt := 236) fx.1 fx.2.1 dX11_oakum_294 (by decide) ?_
        exact hc x6 x7 v43  _ _ _  hw (lv_sub hl [2, 3, 4, 5, 0] rfl) (gOk_some hok)
theorem w_l_X11_oakum_236 {X : gX} {τ : gτ} {p : Program} {l : Launch} {e : Env} {s : State} {m : MethodId} {args : Array Value} {below : List Frame} {meth : Method} {c : Code} (fx : gFx X p s m args meth c cX11_oakum 10 RX11) (n : Nat) (x0 : Nat) (x4 : Int32) (h0 : gK τ x0 11) (G : gG) {Q : State → Prop} {K : ((Int32)) → Prop} (hx0 : ∀ (y6 : Int32) (H : Heap) (locs : List Loc) (ls : Array Slot), gHw X τ G H locs → lv_has ls 10 [(6, .int y6)] → K y6 → W p l e rm_X11_oakum s m args below meth c H locs 0 0 Q (F0 m 297 ls [])) : ∀ (k : Nat) (x6 : Int32) (x7 : Int32) (x8 : Int32) (H : Heap) (locs : List Loc) (ls : Array Slot), gHw X τ G H locs → lv_has ls 10 [(0, .ref x0), (4, .int x4), (6, .int x6), (7, .int x7), (8, .int x8)] → gOk (gIter (fun (q : Int32 × Int32 × Int32) => b_X11_oakum_236 τ n x0 x4 q.1 q.2.1 q.2.2 G) k (x6, x7, x8)) K → W p l e rm_X11_oakum s m args below meth c H locs 0 0 Q (F0 m 236 ls []) := by
  intro k
  induction k with
  | zero =>
    intro x6 x7 x8  H locs ls hw hl hok
    exact gOk_iter0 hok
  | succ k hc =>
    intro x6 x7 x8  H locs ls hw hl hok
    exact w_b_X11_oakum_236 fx n x0 x4 x6 x7 x8 h0 hw hl (gOk_iter hok) hc hx0
set_option maxHeartbeats 4000000 in
set_option maxRecDepth 100000 in
theorem w_X11_oakum_199 {X : gX} {τ : gτ} {p : Program} {l : Launch} {e : Env} {s : State} {m : MethodId} {args : Array Value} {below : List Frame} {meth : Method} {c : Code} (fx : gFx X p s m args meth c cX11_oakum 10 RX11) (n : Nat) (x0 : Nat) (x3 : Int32) (x4 : Int32) (x5 : Int32)  (h0 : gK τ x0 11)  (hr : meth.sig.returnType = (some .int)) {r : Int32} {G' : gG} {G : gG} {H : Heap} {locs : List Loc} {ls : Array Slot} (hw : gHw X τ G H locs) (hl : lv_has ls 10 [(0, .ref x0), (3, .int x3), (4, .int x4), (5, .int x5)]) (hok : gOk (k_X11_oakum_199 τ n x0 x3 x4 x5  G) (fun q => q = (r, G')))  : W p l e rm_X11_oakum s m args below meth c H locs 0 0 (MQ below (gQ X τ (some (.int r)) G') args s 0 0 (gFree X)) (F0 m 199 ls []) := by
  unfold k_X11_oakum_199 at hok
  refine lv_iload_n fx.1 fx.2.1 dX11_oakum_199 rfl (lv_at hl 1 rfl) ?_
  refine lv_iconst (v := 2) fx.1 fx.2.1 dX11_oakum_200 (by decide) ?_
  refine g_icmp_ge (tgt := 225) fx dX11_oakum_201 (by decide) hok (fun hok => ?_) (fun hok => ?_)
  · refine lv_iconst (v := (-1)) fx.1 fx.2.1 dX11_oakum_225 (by decide) ?_
    refine lv_istore (lv' := [(6, .int (-1 : Int32)), (0, .ref x0), (3, .int x3), (4, .int x4), (5, .int x5)]) fx.1 fx.2.1 dX11_oakum_226 hl (by decide) rfl (fun ls hl => ?_)
    refine lv_ldcw fx.1 fx.2.1 fx.2.2.2.1 (fx.2.2.2.2.1 _ lc_RX11_379) dX11_oakum_228 ?_
    refine lv_istore (lv' := [(7, .int (1000000 : Int32)), (6, .int (-1 : Int32)), (0, .ref x0), (3, .int x3), (4, .int x4), (5, .int x5)]) fx.1 fx.2.1 dX11_oakum_231 hl (by decide) rfl (fun ls hl => ?_)
    refine lv_iconst (v := 0) fx.1 fx.2.1 dX11_oakum_233 (by decide) ?_
    refine lv_istore (lv' := [(8, .int (0 : Int32)), (7, .int (1000000 : Int32)), (6, .int (-1 : Int32)), (0, .ref x0), (3, .int x3), (4, .int x4), (5, .int x5)]) fx.1 fx.2.1 dX11_oakum_234 hl (by decide) rfl (fun ls hl => ?_)
    refine w_l_X11_oakum_236 fx n x0 x4 h0 G ?_ n (-1 : Int32) (1000000 : Int32) (0 : Int32)  _ _ _  hw (lv_sub hl [3, 5, 2, 1, 0] rfl) (gOk_bindK hok)
    intro z44  H locs ls hw hl hok
    have hok : gOk (ρ := Int32 × gG) (some (z44, G)) _ := hok
    refine lv_iload fx.1 fx.2.1 dX11_oakum_297 (lv_at hl 0 rfl) ?_
    cases gOk_some hok
    exact g_iret fx hw hr dX11_oakum_299
  · refine lv_iload_n fx.1 fx.2.1 dX11_oakum_204 rfl (lv_at hl 1 rfl) ?_
    refine g_if_ne (tgt := 213) fx dX11_oakum_205 (by decide) hok (fun hok => ?_) (fun hok => ?_)
    · refine lv_iload fx.1 fx.2.1 dX11_oakum_208 (lv_at hl 2 rfl) ?_
      refine lv_goto (tgt := 224) fx.1 fx.2.1 dX11_oakum_210 (by decide) ?_
      cases gOk_some hok
      exact g_iret fx hw hr dX11_oakum_224
    · refine lv_iload fx.1 fx.2.1 dX11_oakum_213 (lv_at hl 2 rfl) ?_
      refine g_if_ne (tgt := 222) fx dX11_oakum_215 (by decide) hok (fun hok => ?_) (fun hok => ?_)
      · refine lv_iconst (v := 0) fx.1 fx.2.1 dX11_oakum_218 (by decide) ?_
        refine lv_goto (tgt := 224) fx.1 fx.2.1 dX11_oakum_219 (by decide) ?_
        cases gOk_some hok
        exact g_iret fx hw hr dX11_oakum_224
      · refine lv_iload fx.1 fx.2.1 dX11_oakum_222 (lv_at hl 3 rfl) ?_
        cases gOk_some hok
        exact g_iret fx hw hr dX11_oakum_224
set_option maxHeartbeats 4000000 in
set_option maxRecDepth 100000 in
theorem w_X11_oakum_66 {X : gX} {τ : gτ} {p : Program} {l : Launch} {e : Env} {s : State} {m : MethodId} {args : Array Value} {below : List Frame} {meth : Method} {c : Code} (fx : gFx X p s m args meth c cX11_oakum 10 RX11) (n : Nat) (x0 : Nat) (x1 : Int32) (x2 : Int32) (x3 : Int32) (x4 : Int32) (x5 : Int32)  (h0 : gK τ x0 11)  (hr : meth.sig.returnType = (some .int)) {r : Int32} {G' : gG} {G : gG} {H : Heap} {locs : List Loc} {ls : Array Slot} (hw : gHw X τ G H locs) (hl : lv_has ls 10 [(0, .ref x0), (1, .int x1), (2, .int x2), (3, .int x3), (4, .int x4), (5, .int x5)]) (hok : gOk (k_X11_oakum_66 τ n x0 x1 x2 x3 x4 x5  G) (fun q => q = (r, G')))  : W p l e rm_X11_oakum s m args below meth c H locs 0 0 (MQ below (gQ X τ (some (.int r)) G') args s 0 0 (gFree X)) (F0 m 66 ls []) := by
  unfold k_X11_oakum_66 at hok
  refine lv_iconst (v := 0) fx.1 fx.2.1 dX11_oakum_66 (by decide) ?_
  refine lv_istore (lv' := [(6, .int (0 : Int32)), (0, .ref x0), (1, .int x1), (2, .int x2), (3, .int x3), (4, .int x4), (5, .int x5)]) fx.1 fx.2.1 dX11_oakum_67 hl (by decide) rfl (fun ls hl => ?_)
  refine w_l_X11_oakum_69 fx n x0 x1 x2 x3 h0 ?_ n x4 x5 (0 : Int32) G _ _ _  hw (lv_sub hl [1, 2, 3, 4, 5, 6, 0] rfl) (gOk_bindK hok)
  intro z35 z36 G37 H locs ls hw hl hok
  have hok : gOk (ρ := Int32 × gG) (k_X11_oakum_199 τ n x0 x3 z35 z36  G37) _ := hok
  exact w_X11_oakum_199 fx n x0 x3 z35 z36  h0  hr hw (lv_sub hl [0, 1, 2, 3] rfl) hok
set_option maxHeartbeats 4000000 in
set_option maxRecDepth 100000 in
theorem w_X11_oakum_20 {X : gX} {τ : gτ} {p : Program} {l : Launch} {e : Env} {s : State} {m : MethodId} {args : Array Value} {below : List Frame} {meth : Method} {c : Code} (fx : gFx X p s m args meth c cX11_oakum 10 RX11) (n : Nat) (x0 : Nat) (x1 : Int32) (x2 : Int32) (x3 : Int32) (s0 : Nat) (s1 : Int32) (h0 : gK τ x0 11) (hs0 : gK τ s0 11) (hr : meth.sig.returnType = (some .int)) {r : Int32} {G' : gG} {G : gG} {H : Heap} {locs : List Loc} {ls : Array Slot} (hw : gHw X τ G H locs) (hl : lv_has ls 10 [(0, .ref x0), (1, .int x1), (2, .int x2), (3, .int x3)]) (hok : gOk (k_X11_oakum_20 τ n x0 x1 x2 x3 s0 s1 G) (fun q => q = (r, G')))  : W p l e rm_X11_oakum s m args below meth c H locs 0 0 (MQ below (gQ X τ (some (.int r)) G') args s 0 0 (gFree X)) (F0 m 20 ls [.int s1, .ref s0]) := by
  unfold k_X11_oakum_20 at hok
  refine lv_iconst (v := 1) fx.1 fx.2.1 dX11_oakum_20 (by decide) ?_
  obtain ⟨v3, G4, hf, hok⟩ := gOk_bind2 hok
  refine g_callV0 (κ := 11) fx hw (c_X11_throwsIf l X τ s0 s1 (1 : Int32) G hs0 hf) lv_RX11_263 ⟨rfl, rfl⟩ rfl rfl hs0 rfl hl.1 rfl ⟨Nat.le_of_ble_eq_true rfl, Nat.le_of_ble_eq_true rfl⟩ (Nat.le_of_ble_eq_true rfl) ⟨Nat.le_of_ble_eq_true rfl, Nat.le_of_ble_eq_true rfl⟩ dX11_oakum_21 (fun H locs hw => ?_)
  refine g_if_eq (tgt := 29) fx dX11_oakum_24 (by decide) hok (fun hok => ?_) (fun hok => ?_)
  · refine lv_iconst (v := 0) fx.1 fx.2.1 dX11_oakum_29 (by decide) ?_
    refine lv_istore (lv' := [(4, .int (0 : Int32)), (0, .ref x0), (1, .int x1), (2, .int x2), (3, .int x3)]) fx.1 fx.2.1 dX11_oakum_30 hl (by decide) rfl (fun ls hl => ?_)
    refine lv_iconst (v := 1) fx.1 fx.2.1 dX11_oakum_32 (by decide) ?_
    refine lv_aload_n fx.1 fx.2.1 dX11_oakum_33 rfl (lv_at hl 1 rfl) ?_
    obtain ⟨v5, hf, hok⟩ := gOk_bind hok
    refine g_callV0 (κ := 11) fx hw (c_X11_yarns l X τ x0 G4 h0 hf) lv_RX11_65 ⟨rfl, rfl⟩ rfl rfl h0 rfl hl.1 rfl ⟨Nat.le_of_ble_eq_true rfl, Nat.le_of_ble_eq_true rfl⟩ (Nat.le_of_ble_eq_true rfl) ⟨Nat.le_of_ble_eq_true rfl, Nat.le_of_ble_eq_true rfl⟩ dX11_oakum_34 (fun H locs hw => ?_)
    refine lv_ishl fx.1 fx.2.1 dX11_oakum_37 ?_
    refine lv_iconst (v := 1) fx.1 fx.2.1 dX11_oakum_38 (by decide) ?_
    refine lv_isub fx.1 fx.2.1 dX11_oakum_39 ?_
    refine g_leti hok (fun v6 hok => ?_)
    refine lv_istore (lv' := [(5, .int v6), (4, .int (0 : Int32)), (0, .ref x0), (1, .int x1), (2, .int x2), (3, .int x3)]) fx.1 fx.2.1 dX11_oakum_40 hl (by decide) rfl (fun ls hl => ?_)
    refine lv_iconst (v := 0) fx.1 fx.2.1 dX11_oakum_42 (by decide) ?_
    refine lv_istore (lv' := [(6, .int (0 : Int32)), (5, .int v6), (4, .int (0 : Int32)), (0, .ref x0), (1, .int x1), (2, .int x2), (3, .int x3)]) fx.1 fx.2.1 dX11_oakum_43 hl (by decide) rfl (fun ls hl => ?_)
    refine w_l_X11_oakum_45 fx n x0 x1 x2 x3 (0 : Int32) v6 h0 ?_ n (0 : Int32) G4 _ _ _  hw (lv_sub hl [3, 4, 5, 6, 2, 1, 0] rfl) (gOk_bindK hok)
    intro G10 H locs ls hw hl hok
    have hok : gOk (ρ := Int32 × gG) (k_X11_oakum_66 τ n x0 x1 x2 x3 (0 : Int32) v6  G10) _ := hok
    exact w_X11_oakum_66 fx n x0 x1 x2 x3 (0 : Int32) v6  h0  hr hw (lv_sub hl [0, 1, 2, 3, 4, 5] rfl) hok
  · refine lv_iconst (v := 0) fx.1 fx.2.1 dX11_oakum_27 (by decide) ?_
    cases gOk_some hok
    exact g_iret fx hw hr dX11_oakum_28
set_option maxHeartbeats 4000000 in
set_option maxRecDepth 100000 in
theorem c_X11_oakum (l : Launch) (X : gX) (τ : gτ) (n : Nat) (x0 : Nat) (x1 : Int32) (x2 : Int32) (x3 : Int32) (G : gG) (h0 : gK τ x0 11) {r : Int32} {G' : gG} (h : f_X11_oakum τ n x0 x1 x2 x3 G = some (r, G')) : gM l X τ yX11_oakum cX11_oakum 10 (some .int) rm_X11_oakum [.ref x0, .int x1, .int x2, .int x3] G (some (.int r)) G' := by
  refine g_body (by decide +kernel) (Nat.le_of_ble_eq_true rfl) ?_
  intro p e s m args below meth c ls fx hr hw hl
  have fx : gFx X p s m args meth c cX11_oakum 10 RX11 := fx
  have hl : lv_has ls 10 [(0, .ref x0), (1, .int x1), (2, .int x2), (3, .int x3)] := hl
  have hok : gOk (f_X11_oakum τ n x0 x1 x2 x3 G) (fun q => q = (r, G')) := ⟨_, h, rfl⟩
  unfold f_X11_oakum at hok
  show W p l e rm_X11_oakum s m args below meth c s.heap [] 0 0 (MQ below (gQ X τ (some (.int r)) G') args s 0 0 (gFree X)) _
  refine lv_aload_n fx.1 fx.2.1 dX11_oakum_0 rfl (lv_at hl 0 rfl) ?_
  refine lv_iconst (v := 0) fx.1 fx.2.1 dX11_oakum_1 (by decide) ?_
  refine g_puti fx hw h0 lp_RX11_3 rfl rfl dX11_oakum_2 hok (fun G1 H locs hw hok => ?_)
  refine lv_aload_n fx.1 fx.2.1 dX11_oakum_5 rfl (lv_at hl 0 rfl) ?_
  refine lv_iload_n fx.1 fx.2.1 dX11_oakum_6 rfl (lv_at hl 3 rfl) ?_
  refine lv_iconst (v := 0) fx.1 fx.2.1 dX11_oakum_7 (by decide) ?_
  refine lv_iconst (v := 2) fx.1 fx.2.1 dX11_oakum_8 (by decide) ?_
  obtain ⟨v2, hf, hok⟩ := gOk_bind hok
  refine g_callS0 fx hw (c_X11_in l X τ x3 (0 : Int32) (2 : Int32) G1  hf) ls_RX11_69 ⟨rfl, rfl⟩ rfl hl.1 rfl ⟨Nat.le_of_ble_eq_true rfl, Nat.le_of_ble_eq_true rfl⟩ (Nat.le_of_ble_eq_true rfl) ⟨Nat.le_of_ble_eq_true rfl, Nat.le_of_ble_eq_true rfl⟩ dX11_oakum_9 (fun H locs hw => ?_)
  refine g_if_ne (tgt := 19) fx dX11_oakum_12 (by decide) hok (fun hok => ?_) (fun hok => ?_)
  · refine lv_iconst (v := 1) fx.1 fx.2.1 dX11_oakum_15 (by decide) ?_
    refine lv_goto (tgt := 20) fx.1 fx.2.1 dX11_oakum_16 (by decide) ?_
    exact w_X11_oakum_20 fx n x0 x1 x2 x3 x0 (1 : Int32) h0 h0 hr hw (lv_sub hl [0, 1, 2, 3] rfl) hok
  · refine lv_iconst (v := 0) fx.1 fx.2.1 dX11_oakum_19 (by decide) ?_
    exact w_X11_oakum_20 fx n x0 x1 x2 x3 x0 (0 : Int32) h0 h0 hr hw (lv_sub hl [0, 1, 2, 3] rfl) hok
